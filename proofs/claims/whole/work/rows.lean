section
-- ===== PART A: goes FIRST, ahead of the names: the tables' words, and 'selects' of the private methods out of them =====
/-- a private method of a class that the tables say can be made, by its rows of tables_1 -/
def lw_okq (q : MethodName × Nat) : Prop := (q.1.cls ≠ "java/lang/invoke/MethodHandle" ∧ q.1.cls ≠ "java/lang/invoke/VarHandle") ∧ Cond.instantiable q.1.cls q.2 ∈ tables_1 ∧ Cond.privateMethod q.1 ∈ tables_1 ∧ Cond.instanceMethod q.1 ∈ tables_1
theorem lw_p0 : lw_okq (⟨"WireMoney$Net", "noteStraight", "(ILWireMoney$Wire;)V"⟩, 7) := ⟨⟨by decide +kernel, by decide +kernel⟩, List.mem_of_getElem? (i := 21) (by decide +kernel), List.mem_of_getElem? (i := 217) (by decide +kernel), List.mem_of_getElem? (i := 218) (by decide +kernel)⟩
theorem lw_p1 : lw_okq (⟨"WireMoney$Net", "shortenBy", "(III)V"⟩, 7) := ⟨⟨by decide +kernel, by decide +kernel⟩, List.mem_of_getElem? (i := 21) (by decide +kernel), List.mem_of_getElem? (i := 224) (by decide +kernel), List.mem_of_getElem? (i := 225) (by decide +kernel)⟩
theorem lw_p2 : lw_okq (⟨"WireMoney$Net", "leastOf", "(II)I"⟩, 7) := ⟨⟨by decide +kernel, by decide +kernel⟩, List.mem_of_getElem? (i := 21) (by decide +kernel), List.mem_of_getElem? (i := 228) (by decide +kernel), List.mem_of_getElem? (i := 229) (by decide +kernel)⟩
theorem lw_p3 : lw_okq (⟨"WireMoney$Net", "layWays", "()V"⟩, 7) := ⟨⟨by decide +kernel, by decide +kernel⟩, List.mem_of_getElem? (i := 21) (by decide +kernel), List.mem_of_getElem? (i := 235) (by decide +kernel), List.mem_of_getElem? (i := 236) (by decide +kernel)⟩
theorem lw_p4 : lw_okq (⟨"WireMoney$Net", "findFirstWire", "(II)LWireMoney$Wire;"⟩, 7) := ⟨⟨by decide +kernel, by decide +kernel⟩, List.mem_of_getElem? (i := 21) (by decide +kernel), List.mem_of_getElem? (i := 239) (by decide +kernel), List.mem_of_getElem? (i := 240) (by decide +kernel)⟩
theorem lw_p5 : lw_okq (⟨"WireMoney$Bands", "highestBound", "()I"⟩, 3) := ⟨⟨by decide +kernel, by decide +kernel⟩, List.mem_of_getElem? (i := 57) (by decide +kernel), List.mem_of_getElem? (i := 273) (by decide +kernel), List.mem_of_getElem? (i := 274) (by decide +kernel)⟩
theorem lw_p6 : lw_okq (⟨"WireMoney", "canWrite", "()Z"⟩, 11) := ⟨⟨by decide +kernel, by decide +kernel⟩, List.mem_of_getElem? (i := 13) (by decide +kernel), List.mem_of_getElem? (i := 296) (by decide +kernel), List.mem_of_getElem? (i := 297) (by decide +kernel)⟩
theorem lw_p7 : lw_okq (⟨"WireMoney", "write", "(ILWireMoney$Order;)V"⟩, 11) := ⟨⟨by decide +kernel, by decide +kernel⟩, List.mem_of_getElem? (i := 13) (by decide +kernel), List.mem_of_getElem? (i := 359) (by decide +kernel), List.mem_of_getElem? (i := 360) (by decide +kernel)⟩
theorem lw_p8 : lw_okq (⟨"WireMoney", "enqueue", "(LWireMoney$Message;)V"⟩, 11) := ⟨⟨by decide +kernel, by decide +kernel⟩, List.mem_of_getElem? (i := 13) (by decide +kernel), List.mem_of_getElem? (i := 437) (by decide +kernel), List.mem_of_getElem? (i := 438) (by decide +kernel)⟩
theorem lw_p9 : lw_okq (⟨"WireMoney", "findOrder", "(I)LWireMoney$Order;"⟩, 11) := ⟨⟨by decide +kernel, by decide +kernel⟩, List.mem_of_getElem? (i := 13) (by decide +kernel), List.mem_of_getElem? (i := 457) (by decide +kernel), List.mem_of_getElem? (i := 458) (by decide +kernel)⟩
theorem lw_p10 : lw_okq (⟨"WireMoney", "payOut", "(LWireMoney$Order;)V"⟩, 11) := ⟨⟨by decide +kernel, by decide +kernel⟩, List.mem_of_getElem? (i := 13) (by decide +kernel), List.mem_of_getElem? (i := 465) (by decide +kernel), List.mem_of_getElem? (i := 466) (by decide +kernel)⟩
theorem lw_p11 : lw_okq (⟨"WireMoney", "findMessage", "(I)LWireMoney$Message;"⟩, 11) := ⟨⟨by decide +kernel, by decide +kernel⟩, List.mem_of_getElem? (i := 13) (by decide +kernel), List.mem_of_getElem? (i := 480) (by decide +kernel), List.mem_of_getElem? (i := 481) (by decide +kernel)⟩
theorem lw_p12 : lw_okq (⟨"WireMoney", "takeIn", "()V"⟩, 11) := ⟨⟨by decide +kernel, by decide +kernel⟩, List.mem_of_getElem? (i := 13) (by decide +kernel), List.mem_of_getElem? (i := 497) (by decide +kernel), List.mem_of_getElem? (i := 498) (by decide +kernel)⟩
theorem lw_p13 : lw_okq (⟨"WireMoney", "read", "(LWireMoney$Message;)V"⟩, 11) := ⟨⟨by decide +kernel, by decide +kernel⟩, List.mem_of_getElem? (i := 13) (by decide +kernel), List.mem_of_getElem? (i := 505) (by decide +kernel), List.mem_of_getElem? (i := 506) (by decide +kernel)⟩
theorem lw_p14 : lw_okq (⟨"WireMoney", "readPayment", "(LWireMoney$Message;)V"⟩, 11) := ⟨⟨by decide +kernel, by decide +kernel⟩, List.mem_of_getElem? (i := 13) (by decide +kernel), List.mem_of_getElem? (i := 509) (by decide +kernel), List.mem_of_getElem? (i := 510) (by decide +kernel)⟩
theorem lw_p15 : lw_okq (⟨"WireMoney", "readStop", "(LWireMoney$Order;)V"⟩, 11) := ⟨⟨by decide +kernel, by decide +kernel⟩, List.mem_of_getElem? (i := 13) (by decide +kernel), List.mem_of_getElem? (i := 517) (by decide +kernel), List.mem_of_getElem? (i := 518) (by decide +kernel)⟩
def lw_privs_1 : List (MethodName × Nat) := [(⟨"WireMoney$Net", "noteStraight", "(ILWireMoney$Wire;)V"⟩, 7), (⟨"WireMoney$Net", "shortenBy", "(III)V"⟩, 7), (⟨"WireMoney$Net", "leastOf", "(II)I"⟩, 7), (⟨"WireMoney$Net", "layWays", "()V"⟩, 7), (⟨"WireMoney$Net", "findFirstWire", "(II)LWireMoney$Wire;"⟩, 7), (⟨"WireMoney$Bands", "highestBound", "()I"⟩, 3), (⟨"WireMoney", "canWrite", "()Z"⟩, 11), (⟨"WireMoney", "write", "(ILWireMoney$Order;)V"⟩, 11), (⟨"WireMoney", "enqueue", "(LWireMoney$Message;)V"⟩, 11), (⟨"WireMoney", "findOrder", "(I)LWireMoney$Order;"⟩, 11), (⟨"WireMoney", "payOut", "(LWireMoney$Order;)V"⟩, 11), (⟨"WireMoney", "findMessage", "(I)LWireMoney$Message;"⟩, 11), (⟨"WireMoney", "takeIn", "()V"⟩, 11), (⟨"WireMoney", "read", "(LWireMoney$Message;)V"⟩, 11), (⟨"WireMoney", "readPayment", "(LWireMoney$Message;)V"⟩, 11), (⟨"WireMoney", "readStop", "(LWireMoney$Order;)V"⟩, 11)]
theorem lw_r1 : ∀ q ∈ lw_privs_1, lw_okq q := List.forall_mem_cons.mpr ⟨lw_p0, List.forall_mem_cons.mpr ⟨lw_p1, List.forall_mem_cons.mpr ⟨lw_p2, List.forall_mem_cons.mpr ⟨lw_p3, List.forall_mem_cons.mpr ⟨lw_p4, List.forall_mem_cons.mpr ⟨lw_p5, List.forall_mem_cons.mpr ⟨lw_p6, List.forall_mem_cons.mpr ⟨lw_p7, List.forall_mem_cons.mpr ⟨lw_p8, List.forall_mem_cons.mpr ⟨lw_p9, List.forall_mem_cons.mpr ⟨lw_p10, List.forall_mem_cons.mpr ⟨lw_p11, List.forall_mem_cons.mpr ⟨lw_p12, List.forall_mem_cons.mpr ⟨lw_p13, List.forall_mem_cons.mpr ⟨lw_p14, List.forall_mem_cons.mpr ⟨lw_p15, fun _ h => absurd h List.not_mem_nil⟩⟩⟩⟩⟩⟩⟩⟩⟩⟩⟩⟩⟩⟩⟩⟩
theorem lw_p16 : lw_okq (⟨"WireMoney", "payBack", "(LWireMoney$Order;)V"⟩, 11) := ⟨⟨by decide +kernel, by decide +kernel⟩, List.mem_of_getElem? (i := 13) (by decide +kernel), List.mem_of_getElem? (i := 521) (by decide +kernel), List.mem_of_getElem? (i := 522) (by decide +kernel)⟩
theorem lw_p17 : lw_okq (⟨"WireMoney", "readRepeat", "(LWireMoney$Order;)V"⟩, 11) := ⟨⟨by decide +kernel, by decide +kernel⟩, List.mem_of_getElem? (i := 13) (by decide +kernel), List.mem_of_getElem? (i := 525) (by decide +kernel), List.mem_of_getElem? (i := 526) (by decide +kernel)⟩
theorem lw_p18 : lw_okq (⟨"WireMoney", "sendOut", "()V"⟩, 11) := ⟨⟨by decide +kernel, by decide +kernel⟩, List.mem_of_getElem? (i := 13) (by decide +kernel), List.mem_of_getElem? (i := 529) (by decide +kernel), List.mem_of_getElem? (i := 530) (by decide +kernel)⟩
theorem lw_p19 : lw_okq (⟨"WireMoney", "sendFirst", "(LWireMoney$Queue;I)V"⟩, 11) := ⟨⟨by decide +kernel, by decide +kernel⟩, List.mem_of_getElem? (i := 13) (by decide +kernel), List.mem_of_getElem? (i := 537) (by decide +kernel), List.mem_of_getElem? (i := 538) (by decide +kernel)⟩
theorem lw_p20 : lw_okq (⟨"WireMoney", "awaitedAt", "(LWireMoney$Counter;)I"⟩, 11) := ⟨⟨by decide +kernel, by decide +kernel⟩, List.mem_of_getElem? (i := 13) (by decide +kernel), List.mem_of_getElem? (i := 573) (by decide +kernel), List.mem_of_getElem? (i := 574) (by decide +kernel)⟩
theorem lw_p21 : lw_okq (⟨"WireMoneyModel", "reckons", "()V"⟩, 50) := ⟨⟨by decide +kernel, by decide +kernel⟩, List.mem_of_getElem? (i := 596) (by decide +kernel), List.mem_of_getElem? (i := 602) (by decide +kernel), List.mem_of_getElem? (i := 603) (by decide +kernel)⟩
theorem lw_p22 : lw_okq (⟨"WireMoneyModel", "isCounter", "(I)Z"⟩, 50) := ⟨⟨by decide +kernel, by decide +kernel⟩, List.mem_of_getElem? (i := 596) (by decide +kernel), List.mem_of_getElem? (i := 770) (by decide +kernel), List.mem_of_getElem? (i := 771) (by decide +kernel)⟩
theorem lw_p23 : lw_okq (⟨"WireMoneyModel", "isOpen", "(I)Z"⟩, 50) := ⟨⟨by decide +kernel, by decide +kernel⟩, List.mem_of_getElem? (i := 596) (by decide +kernel), List.mem_of_getElem? (i := 796) (by decide +kernel), List.mem_of_getElem? (i := 797) (by decide +kernel)⟩
theorem lw_p24 : lw_okq (⟨"WireMoneyModel", "writes", "(IIII)I"⟩, 50) := ⟨⟨by decide +kernel, by decide +kernel⟩, List.mem_of_getElem? (i := 596) (by decide +kernel), List.mem_of_getElem? (i := 801) (by decide +kernel), List.mem_of_getElem? (i := 802) (by decide +kernel)⟩
theorem lw_p25 : lw_okq (⟨"WireMoneyModel", "testOf", "(I)I"⟩, 50) := ⟨⟨by decide +kernel, by decide +kernel⟩, List.mem_of_getElem? (i := 596) (by decide +kernel), List.mem_of_getElem? (i := 808) (by decide +kernel), List.mem_of_getElem? (i := 809) (by decide +kernel)⟩
theorem lw_p26 : lw_okq (⟨"WireMoneyModel", "queues", "(II)V"⟩, 50) := ⟨⟨by decide +kernel, by decide +kernel⟩, List.mem_of_getElem? (i := 596) (by decide +kernel), List.mem_of_getElem? (i := 815) (by decide +kernel), List.mem_of_getElem? (i := 816) (by decide +kernel)⟩
theorem lw_p27 : lw_okq (⟨"WireMoneyModel", "nextWire", "(II)I"⟩, 50) := ⟨⟨by decide +kernel, by decide +kernel⟩, List.mem_of_getElem? (i := 596) (by decide +kernel), List.mem_of_getElem? (i := 819) (by decide +kernel), List.mem_of_getElem? (i := 820) (by decide +kernel)⟩
theorem lw_p28 : lw_okq (⟨"WireMoneyModel", "otherEnd", "(II)I"⟩, 50) := ⟨⟨by decide +kernel, by decide +kernel⟩, List.mem_of_getElem? (i := 596) (by decide +kernel), List.mem_of_getElem? (i := 823) (by decide +kernel), List.mem_of_getElem? (i := 824) (by decide +kernel)⟩
theorem lw_p29 : lw_okq (⟨"WireMoneyModel", "isOrder", "(I)Z"⟩, 50) := ⟨⟨by decide +kernel, by decide +kernel⟩, List.mem_of_getElem? (i := 596) (by decide +kernel), List.mem_of_getElem? (i := 831) (by decide +kernel), List.mem_of_getElem? (i := 832) (by decide +kernel)⟩
theorem lw_p30 : lw_okq (⟨"WireMoneyModel", "isPayment", "(I)Z"⟩, 50) := ⟨⟨by decide +kernel, by decide +kernel⟩, List.mem_of_getElem? (i := 596) (by decide +kernel), List.mem_of_getElem? (i := 847) (by decide +kernel), List.mem_of_getElem? (i := 848) (by decide +kernel)⟩
theorem lw_p31 : lw_okq (⟨"WireMoneyModel", "minute", "()V"⟩, 50) := ⟨⟨by decide +kernel, by decide +kernel⟩, List.mem_of_getElem? (i := 596) (by decide +kernel), List.mem_of_getElem? (i := 855) (by decide +kernel), List.mem_of_getElem? (i := 856) (by decide +kernel)⟩
def lw_privs_2 : List (MethodName × Nat) := [(⟨"WireMoney", "payBack", "(LWireMoney$Order;)V"⟩, 11), (⟨"WireMoney", "readRepeat", "(LWireMoney$Order;)V"⟩, 11), (⟨"WireMoney", "sendOut", "()V"⟩, 11), (⟨"WireMoney", "sendFirst", "(LWireMoney$Queue;I)V"⟩, 11), (⟨"WireMoney", "awaitedAt", "(LWireMoney$Counter;)I"⟩, 11), (⟨"WireMoneyModel", "reckons", "()V"⟩, 50), (⟨"WireMoneyModel", "isCounter", "(I)Z"⟩, 50), (⟨"WireMoneyModel", "isOpen", "(I)Z"⟩, 50), (⟨"WireMoneyModel", "writes", "(IIII)I"⟩, 50), (⟨"WireMoneyModel", "testOf", "(I)I"⟩, 50), (⟨"WireMoneyModel", "queues", "(II)V"⟩, 50), (⟨"WireMoneyModel", "nextWire", "(II)I"⟩, 50), (⟨"WireMoneyModel", "otherEnd", "(II)I"⟩, 50), (⟨"WireMoneyModel", "isOrder", "(I)Z"⟩, 50), (⟨"WireMoneyModel", "isPayment", "(I)Z"⟩, 50), (⟨"WireMoneyModel", "minute", "()V"⟩, 50)]
theorem lw_r2 : ∀ q ∈ lw_privs_2, lw_okq q := List.forall_mem_cons.mpr ⟨lw_p16, List.forall_mem_cons.mpr ⟨lw_p17, List.forall_mem_cons.mpr ⟨lw_p18, List.forall_mem_cons.mpr ⟨lw_p19, List.forall_mem_cons.mpr ⟨lw_p20, List.forall_mem_cons.mpr ⟨lw_p21, List.forall_mem_cons.mpr ⟨lw_p22, List.forall_mem_cons.mpr ⟨lw_p23, List.forall_mem_cons.mpr ⟨lw_p24, List.forall_mem_cons.mpr ⟨lw_p25, List.forall_mem_cons.mpr ⟨lw_p26, List.forall_mem_cons.mpr ⟨lw_p27, List.forall_mem_cons.mpr ⟨lw_p28, List.forall_mem_cons.mpr ⟨lw_p29, List.forall_mem_cons.mpr ⟨lw_p30, List.forall_mem_cons.mpr ⟨lw_p31, fun _ h => absurd h List.not_mem_nil⟩⟩⟩⟩⟩⟩⟩⟩⟩⟩⟩⟩⟩⟩⟩⟩
theorem lw_p32 : lw_okq (⟨"WireMoneyModel", "reads", "(I)V"⟩, 50) := ⟨⟨by decide +kernel, by decide +kernel⟩, List.mem_of_getElem? (i := 596) (by decide +kernel), List.mem_of_getElem? (i := 859) (by decide +kernel), List.mem_of_getElem? (i := 860) (by decide +kernel)⟩
theorem lw_p33 : lw_okq (⟨"WireMoneyModel", "setsOut", "(II)V"⟩, 50) := ⟨⟨by decide +kernel, by decide +kernel⟩, List.mem_of_getElem? (i := 596) (by decide +kernel), List.mem_of_getElem? (i := 863) (by decide +kernel), List.mem_of_getElem? (i := 864) (by decide +kernel)⟩
theorem lw_p34 : lw_okq (⟨"WireMoneyModel", "firstOf", "(II)I"⟩, 50) := ⟨⟨by decide +kernel, by decide +kernel⟩, List.mem_of_getElem? (i := 596) (by decide +kernel), List.mem_of_getElem? (i := 867) (by decide +kernel), List.mem_of_getElem? (i := 868) (by decide +kernel)⟩
theorem lw_p35 : lw_okq (⟨"WireMoneyModel", "lack", "(I)I"⟩, 50) := ⟨⟨by decide +kernel, by decide +kernel⟩, List.mem_of_getElem? (i := 596) (by decide +kernel), List.mem_of_getElem? (i := 888) (by decide +kernel), List.mem_of_getElem? (i := 889) (by decide +kernel)⟩
def lw_privs_3 : List (MethodName × Nat) := [(⟨"WireMoneyModel", "reads", "(I)V"⟩, 50), (⟨"WireMoneyModel", "setsOut", "(II)V"⟩, 50), (⟨"WireMoneyModel", "firstOf", "(II)I"⟩, 50), (⟨"WireMoneyModel", "lack", "(I)I"⟩, 50)]
theorem lw_r3 : ∀ q ∈ lw_privs_3, lw_okq q := List.forall_mem_cons.mpr ⟨lw_p32, List.forall_mem_cons.mpr ⟨lw_p33, List.forall_mem_cons.mpr ⟨lw_p34, List.forall_mem_cons.mpr ⟨lw_p35, fun _ h => absurd h List.not_mem_nil⟩⟩⟩⟩
def lw_privs : List (MethodName × Nat) := lw_privs_1 ++ (lw_privs_2 ++ (lw_privs_3))
def lw_tbl : List Cond := k2_sels lw_privs ++ tables_1
theorem lw_privs_ok : ∀ q ∈ lw_privs, lw_okq q := by
  show ∀ q ∈ lw_privs_1 ++ (lw_privs_2 ++ (lw_privs_3)), lw_okq q
  exact List.forall_mem_append.mpr ⟨lw_r1, List.forall_mem_append.mpr ⟨lw_r2, lw_r3⟩⟩
def RX0 : String := "WireMoney$Bands"
def TX0 : u_T := fun k => match k with
  | 0 => ("WireMoney$Bands", "bounds", "[I", true)
  | 1 => ("WireMoney$Bands", "fees", "[I", true)
  | _ => ("WireMoney$Bands", "size", "I", false)
def tyX0 : Nat → FieldType := fun k => match k with
  | 0 => .array .int
  | 1 => .array .int
  | _ => .int
theorem nmX0 : ∀ a, a < 3 → ∀ b, b < 3 → a ≠ b → (TX0 a).2.1 ≠ (TX0 b).2.1 := by decide +kernel
theorem tyX0_ok : ∀ k, k < 3 → parseFieldDescriptor (TX0 k).2.2.1 = some (tyX0 k) := by decide +kernel
abbrev cX0_init : ByteArray := prog_2_method_1_code
def yX0_init : MethodName := ⟨RX0, "<init>", "()V"⟩
abbrev cX0_add : ByteArray := prog_2_method_2_code
def yX0_add : MethodName := ⟨RX0, "add", "(II)Z"⟩
abbrev cX0_feeOf : ByteArray := prog_2_method_3_code
def yX0_feeOf : MethodName := ⟨RX0, "feeOf", "(I)I"⟩
abbrev cX0_highestBound : ByteArray := prog_2_method_4_code
def yX0_highestBound : MethodName := ⟨RX0, "highestBound", "()I"⟩
def RX1 : String := "WireMoney$Counter"
def TX1 : u_T := fun k => match k with
  | 0 => ("WireMoney$Counter", "number", "I", true)
  | 1 => ("WireMoney$Counter", "opens", "I", true)
  | 2 => ("WireMoney$Counter", "shuts", "I", true)
  | 3 => ("WireMoney$Counter", "coins", "I", false)
  | 4 => ("WireMoney$Counter", "owed", "I", false)
  | _ => ("WireMoney$Counter", "fees", "I", false)
def tyX1 : Nat → FieldType := fun k => match k with
  | 0 => .int
  | 1 => .int
  | 2 => .int
  | 3 => .int
  | 4 => .int
  | _ => .int
theorem nmX1 : ∀ a, a < 6 → ∀ b, b < 6 → a ≠ b → (TX1 a).2.1 ≠ (TX1 b).2.1 := by decide +kernel
theorem tyX1_ok : ∀ k, k < 6 → parseFieldDescriptor (TX1 k).2.2.1 = some (tyX1 k) := by decide +kernel
abbrev cX1_init : ByteArray := prog_3_method_1_code
def yX1_init : MethodName := ⟨RX1, "<init>", "(IIII)V"⟩
abbrev cX1_isOpen : ByteArray := prog_3_method_2_code
def yX1_isOpen : MethodName := ⟨RX1, "isOpen", "(I)Z"⟩
def RX2 : String := "WireMoney$Message"
def TX2 : u_T := fun k => match k with
  | 0 => ("WireMoney$Message", "kind", "I", true)
  | 1 => ("WireMoney$Message", "order", "LWireMoney$Order;", true)
  | 2 => ("WireMoney$Message", "from", "LWireMoney$Counter;", true)
  | 3 => ("WireMoney$Message", "to", "LWireMoney$Counter;", true)
  | 4 => ("WireMoney$Message", "signs", "LWireMoney$Signs;", true)
  | 5 => ("WireMoney$Message", "place", "LWireMoney$Counter;", false)
  | 6 => ("WireMoney$Message", "heading", "LWireMoney$Counter;", false)
  | 7 => ("WireMoney$Message", "arrival", "I", false)
  | 8 => ("WireMoney$Message", "readAt", "I", false)
  | 9 => ("WireMoney$Message", "garbled", "Z", false)
  | _ => ("WireMoney$Message", "behind", "LWireMoney$Message;", false)
def tyX2 : Nat → FieldType := fun k => match k with
  | 0 => .int
  | 1 => .object "WireMoney$Order"
  | 2 => .object "WireMoney$Counter"
  | 3 => .object "WireMoney$Counter"
  | 4 => .object "WireMoney$Signs"
  | 5 => .object "WireMoney$Counter"
  | 6 => .object "WireMoney$Counter"
  | 7 => .int
  | 8 => .int
  | 9 => .boolean
  | _ => .object "WireMoney$Message"
theorem nmX2 : ∀ a, a < 11 → ∀ b, b < 11 → a ≠ b → (TX2 a).2.1 ≠ (TX2 b).2.1 := by decide +kernel
theorem tyX2_ok : ∀ k, k < 11 → parseFieldDescriptor (TX2 k).2.2.1 = some (tyX2 k) := by decide +kernel
abbrev cX2_init : ByteArray := prog_4_method_1_code
def yX2_init : MethodName := ⟨RX2, "<init>", "(ILWireMoney$Order;ZLWireMoney$Signs;)V"⟩
abbrev cX2_isRead : ByteArray := prog_4_method_2_code
def yX2_isRead : MethodName := ⟨RX2, "isRead", "()Z"⟩
abbrev cX2_enterWire : ByteArray := prog_4_method_3_code
def yX2_enterWire : MethodName := ⟨RX2, "enterWire", "(LWireMoney$Counter;I)V"⟩
abbrev cX2_leaveWire : ByteArray := prog_4_method_4_code
def yX2_leaveWire : MethodName := ⟨RX2, "leaveWire", "()V"⟩
def RX3 : String := "WireMoney$Net"
def TX3 : u_T := fun k => match k with
  | 0 => ("WireMoney$Net", "counterCount", "I", false)
  | 1 => ("WireMoney$Net", "wireCount", "I", false)
  | 2 => ("WireMoney$Net", "counters", "[LWireMoney$Counter;", true)
  | 3 => ("WireMoney$Net", "wires", "[LWireMoney$Wire;", true)
  | 4 => ("WireMoney$Net", "leastMinutes", "[I", true)
  | 5 => ("WireMoney$Net", "straightWires", "[LWireMoney$Wire;", true)
  | _ => ("WireMoney$Net", "firstWires", "[LWireMoney$Wire;", true)
def tyX3 : Nat → FieldType := fun k => match k with
  | 0 => .int
  | 1 => .int
  | 2 => .array (.object "WireMoney$Counter")
  | 3 => .array (.object "WireMoney$Wire")
  | 4 => .array .int
  | 5 => .array (.object "WireMoney$Wire")
  | _ => .array (.object "WireMoney$Wire")
theorem nmX3 : ∀ a, a < 7 → ∀ b, b < 7 → a ≠ b → (TX3 a).2.1 ≠ (TX3 b).2.1 := by decide +kernel
theorem tyX3_ok : ∀ k, k < 7 → parseFieldDescriptor (TX3 k).2.2.1 = some (tyX3 k) := by decide +kernel
abbrev cX3_init : ByteArray := prog_5_method_1_code
def yX3_init : MethodName := ⟨RX3, "<init>", "()V"⟩
abbrev cX3_findCounter : ByteArray := prog_5_method_2_code
def yX3_findCounter : MethodName := ⟨RX3, "findCounter", "(I)LWireMoney$Counter;"⟩
abbrev cX3_findWire : ByteArray := prog_5_method_3_code
def yX3_findWire : MethodName := ⟨RX3, "findWire", "(I)LWireMoney$Wire;"⟩
abbrev cX3_addCounter : ByteArray := prog_5_method_4_code
def yX3_addCounter : MethodName := ⟨RX3, "addCounter", "(III)I"⟩
abbrev cX3_addWire : ByteArray := prog_5_method_5_code
def yX3_addWire : MethodName := ⟨RX3, "addWire", "(LWireMoney$Counter;LWireMoney$Counter;I)I"⟩
abbrev cX3_hasWay : ByteArray := prog_5_method_6_code
def yX3_hasWay : MethodName := ⟨RX3, "hasWay", "(LWireMoney$Counter;LWireMoney$Counter;)Z"⟩
abbrev cX3_minutesBetween : ByteArray := prog_5_method_7_code
def yX3_minutesBetween : MethodName := ⟨RX3, "minutesBetween", "(LWireMoney$Counter;LWireMoney$Counter;)I"⟩
abbrev cX3_nextWire : ByteArray := prog_5_method_8_code
def yX3_nextWire : MethodName := ⟨RX3, "nextWire", "(LWireMoney$Counter;LWireMoney$Counter;)LWireMoney$Wire;"⟩
abbrev cX3_queuedAt : ByteArray := prog_5_method_9_code
def yX3_queuedAt : MethodName := ⟨RX3, "queuedAt", "(LWireMoney$Counter;)I"⟩
abbrev cX3_cell : ByteArray := prog_5_method_10_code
def yX3_cell : MethodName := ⟨RX3, "cell", "(II)I"⟩
abbrev cX3_isCell : ByteArray := prog_5_method_11_code
def yX3_isCell : MethodName := ⟨RX3, "isCell", "(I)Z"⟩
abbrev cX3_leastOf : ByteArray := prog_5_method_12_code
def yX3_leastOf : MethodName := ⟨RX3, "leastOf", "(II)I"⟩
abbrev cX3_noteStraight : ByteArray := prog_5_method_13_code
def yX3_noteStraight : MethodName := ⟨RX3, "noteStraight", "(ILWireMoney$Wire;)V"⟩
abbrev cX3_shortenBy : ByteArray := prog_5_method_14_code
def yX3_shortenBy : MethodName := ⟨RX3, "shortenBy", "(III)V"⟩
abbrev cX3_layWays : ByteArray := prog_5_method_15_code
def yX3_layWays : MethodName := ⟨RX3, "layWays", "()V"⟩
abbrev cX3_findFirstWire : ByteArray := prog_5_method_16_code
def yX3_findFirstWire : MethodName := ⟨RX3, "findFirstWire", "(II)LWireMoney$Wire;"⟩
def RX4 : String := "WireMoney$Order"
def TX4 : u_T := fun k => match k with
  | 0 => ("WireMoney$Order", "number", "I", true)
  | 1 => ("WireMoney$Order", "from", "LWireMoney$Counter;", true)
  | 2 => ("WireMoney$Order", "to", "LWireMoney$Counter;", true)
  | 3 => ("WireMoney$Order", "sum", "I", true)
  | 4 => ("WireMoney$Order", "word", "I", true)
  | 5 => ("WireMoney$Order", "fee", "I", false)
  | 6 => ("WireMoney$Order", "known", "Z", false)
  | 7 => ("WireMoney$Order", "paid", "Z", false)
  | 8 => ("WireMoney$Order", "stopped", "Z", false)
  | 9 => ("WireMoney$Order", "paidBack", "Z", false)
  | 10 => ("WireMoney$Order", "stopWritten", "Z", false)
  | 11 => ("WireMoney$Order", "paidAt", "I", false)
  | _ => ("WireMoney$Order", "paymentCount", "I", false)
def tyX4 : Nat → FieldType := fun k => match k with
  | 0 => .int
  | 1 => .object "WireMoney$Counter"
  | 2 => .object "WireMoney$Counter"
  | 3 => .int
  | 4 => .int
  | 5 => .int
  | 6 => .boolean
  | 7 => .boolean
  | 8 => .boolean
  | 9 => .boolean
  | 10 => .boolean
  | 11 => .int
  | _ => .int
theorem nmX4 : ∀ a, a < 13 → ∀ b, b < 13 → a ≠ b → (TX4 a).2.1 ≠ (TX4 b).2.1 := by decide +kernel
theorem tyX4_ok : ∀ k, k < 13 → parseFieldDescriptor (TX4 k).2.2.1 = some (tyX4 k) := by decide +kernel
abbrev cX4_init : ByteArray := prog_6_method_1_code
def yX4_init : MethodName := ⟨RX4, "<init>", "(ILWireMoney$Counter;LWireMoney$Counter;II)V"⟩
abbrev cX4_isAwaited : ByteArray := prog_6_method_2_code
def yX4_isAwaited : MethodName := ⟨RX4, "isAwaited", "()Z"⟩
def RX5 : String := "WireMoney$Queue"
def TX5 : u_T := fun k => match k with
  | 0 => ("WireMoney$Queue", "start", "LWireMoney$Counter;", true)
  | 1 => ("WireMoney$Queue", "end", "LWireMoney$Counter;", true)
  | 2 => ("WireMoney$Queue", "length", "I", false)
  | 3 => ("WireMoney$Queue", "first", "LWireMoney$Message;", false)
  | _ => ("WireMoney$Queue", "last", "LWireMoney$Message;", false)
def tyX5 : Nat → FieldType := fun k => match k with
  | 0 => .object "WireMoney$Counter"
  | 1 => .object "WireMoney$Counter"
  | 2 => .int
  | 3 => .object "WireMoney$Message"
  | _ => .object "WireMoney$Message"
theorem nmX5 : ∀ a, a < 5 → ∀ b, b < 5 → a ≠ b → (TX5 a).2.1 ≠ (TX5 b).2.1 := by decide +kernel
theorem tyX5_ok : ∀ k, k < 5 → parseFieldDescriptor (TX5 k).2.2.1 = some (tyX5 k) := by decide +kernel
abbrev cX5_init : ByteArray := prog_7_method_1_code
def yX5_init : MethodName := ⟨RX5, "<init>", "(LWireMoney$Counter;LWireMoney$Counter;)V"⟩
abbrev cX5_add : ByteArray := prog_7_method_2_code
def yX5_add : MethodName := ⟨RX5, "add", "(LWireMoney$Message;)V"⟩
abbrev cX5_take : ByteArray := prog_7_method_3_code
def yX5_take : MethodName := ⟨RX5, "take", "()LWireMoney$Message;"⟩
def RX6 : String := "WireMoney$Signs"
def TX6 : u_T := fun k => match k with
  | 0 => ("WireMoney$Signs", "test", "I", true)
  | 1 => ("WireMoney$Signs", "digits", "[I", true)
  | 2 => ("WireMoney$Signs", "day", "I", true)
  | _ => ("WireMoney$Signs", "changed", "Z", false)
def tyX6 : Nat → FieldType := fun k => match k with
  | 0 => .int
  | 1 => .array .int
  | 2 => .int
  | _ => .boolean
theorem nmX6 : ∀ a, a < 4 → ∀ b, b < 4 → a ≠ b → (TX6 a).2.1 ≠ (TX6 b).2.1 := by decide +kernel
theorem tyX6_ok : ∀ k, k < 4 → parseFieldDescriptor (TX6 k).2.2.1 = some (tyX6 k) := by decide +kernel
abbrev cX6_init : ByteArray := prog_8_method_1_code
def yX6_init : MethodName := ⟨RX6, "<init>", "(LWireMoney$Order;I)V"⟩
abbrev cX6_digitOf : ByteArray := prog_8_method_2_code
def yX6_digitOf : MethodName := ⟨RX6, "digitOf", "(I)I"⟩
abbrev cX6_fitTest : ByteArray := prog_8_method_3_code
def yX6_fitTest : MethodName := ⟨RX6, "fitTest", "()Z"⟩
abbrev cX6_change : ByteArray := prog_8_method_4_code
def yX6_change : MethodName := ⟨RX6, "change", "(II)Z"⟩
abbrev cX6_testOf : ByteArray := prog_8_method_5_code
def yX6_testOf : MethodName := ⟨RX6, "testOf", "([II)I"⟩
def RX7 : String := "WireMoney$Wire"
def TX7 : u_T := fun k => match k with
  | 0 => ("WireMoney$Wire", "there", "LWireMoney$Queue;", true)
  | 1 => ("WireMoney$Wire", "back", "LWireMoney$Queue;", true)
  | 2 => ("WireMoney$Wire", "minutes", "I", true)
  | 3 => ("WireMoney$Wire", "downFrom", "I", false)
  | _ => ("WireMoney$Wire", "downTo", "I", false)
def tyX7 : Nat → FieldType := fun k => match k with
  | 0 => .object "WireMoney$Queue"
  | 1 => .object "WireMoney$Queue"
  | 2 => .int
  | 3 => .int
  | _ => .int
theorem nmX7 : ∀ a, a < 5 → ∀ b, b < 5 → a ≠ b → (TX7 a).2.1 ≠ (TX7 b).2.1 := by decide +kernel
theorem tyX7_ok : ∀ k, k < 5 → parseFieldDescriptor (TX7 k).2.2.1 = some (tyX7 k) := by decide +kernel
abbrev cX7_init : ByteArray := prog_9_method_1_code
def yX7_init : MethodName := ⟨RX7, "<init>", "(LWireMoney$Counter;LWireMoney$Counter;I)V"⟩
abbrev cX7_isDown : ByteArray := prog_9_method_2_code
def yX7_isDown : MethodName := ⟨RX7, "isDown", "(I)Z"⟩
abbrev cX7_touches : ByteArray := prog_9_method_3_code
def yX7_touches : MethodName := ⟨RX7, "touches", "(LWireMoney$Counter;)Z"⟩
abbrev cX7_queueFrom : ByteArray := prog_9_method_4_code
def yX7_queueFrom : MethodName := ⟨RX7, "queueFrom", "(LWireMoney$Counter;)LWireMoney$Queue;"⟩
def RX8 : String := "WireMoney"
def TX8 : u_T := fun k => match k with
  | 0 => ("WireMoney", "net", "LWireMoney$Net;", true)
  | 1 => ("WireMoney", "bands", "LWireMoney$Bands;", true)
  | 2 => ("WireMoney", "orders", "[LWireMoney$Order;", true)
  | 3 => ("WireMoney", "messages", "[LWireMoney$Message;", true)
  | 4 => ("WireMoney", "orderCount", "I", false)
  | 5 => ("WireMoney", "messageCount", "I", false)
  | 6 => ("WireMoney", "now", "I", false)
  | 7 => ("WireMoney", "nextArrival", "I", false)
  | 8 => ("WireMoney", "garbledCount", "I", false)
  | 9 => ("WireMoney", "paidCount", "I", false)
  | _ => ("WireMoney", "lateStopCount", "I", false)
def tyX8 : Nat → FieldType := fun k => match k with
  | 0 => .object "WireMoney$Net"
  | 1 => .object "WireMoney$Bands"
  | 2 => .array (.object "WireMoney$Order")
  | 3 => .array (.object "WireMoney$Message")
  | 4 => .int
  | 5 => .int
  | 6 => .int
  | 7 => .int
  | 8 => .int
  | 9 => .int
  | _ => .int
theorem nmX8 : ∀ a, a < 11 → ∀ b, b < 11 → a ≠ b → (TX8 a).2.1 ≠ (TX8 b).2.1 := by decide +kernel
theorem tyX8_ok : ∀ k, k < 11 → parseFieldDescriptor (TX8 k).2.2.1 = some (tyX8 k) := by decide +kernel
abbrev cX8_init : ByteArray := prog_1_method_1_code
def yX8_init : MethodName := ⟨RX8, "<init>", "()V"⟩
abbrev cX8_counter : ByteArray := prog_1_method_2_code
def yX8_counter : MethodName := ⟨RX8, "counter", "(III)I"⟩
abbrev cX8_wire : ByteArray := prog_1_method_3_code
def yX8_wire : MethodName := ⟨RX8, "wire", "(III)I"⟩
abbrev cX8_down : ByteArray := prog_1_method_4_code
def yX8_down : MethodName := ⟨RX8, "down", "(III)Z"⟩
abbrev cX8_least : ByteArray := prog_1_method_5_code
def yX8_least : MethodName := ⟨RX8, "least", "(II)I"⟩
abbrev cX8_band : ByteArray := prog_1_method_6_code
def yX8_band : MethodName := ⟨RX8, "band", "(II)Z"⟩
abbrev cX8_fee : ByteArray := prog_1_method_7_code
def yX8_fee : MethodName := ⟨RX8, "fee", "(I)I"⟩
abbrev cX8_order : ByteArray := prog_1_method_8_code
def yX8_order : MethodName := ⟨RX8, "order", "(IIII)I"⟩
abbrev cX8_stop : ByteArray := prog_1_method_9_code
def yX8_stop : MethodName := ⟨RX8, "stop", "(I)I"⟩
abbrev cX8_pay : ByteArray := prog_1_method_10_code
def yX8_pay : MethodName := ⟨RX8, "pay", "(II)I"⟩
abbrev cX8_cart : ByteArray := prog_1_method_11_code
def yX8_cart : MethodName := ⟨RX8, "cart", "(III)Z"⟩
abbrev cX8_garble : ByteArray := prog_1_method_12_code
def yX8_garble : MethodName := ⟨RX8, "garble", "(III)Z"⟩
abbrev cX8_go : ByteArray := prog_1_method_13_code
def yX8_go : MethodName := ⟨RX8, "go", "(I)I"⟩
abbrev cX8_sign : ByteArray := prog_1_method_14_code
def yX8_sign : MethodName := ⟨RX8, "sign", "(II)I"⟩
abbrev cX8_message : ByteArray := prog_1_method_15_code
def yX8_message : MethodName := ⟨RX8, "message", "(II)I"⟩
abbrev cX8_told : ByteArray := prog_1_method_16_code
def yX8_told : MethodName := ⟨RX8, "told", "(II)I"⟩
abbrev cX8_at : ByteArray := prog_1_method_17_code
def yX8_at : MethodName := ⟨RX8, "at", "(II)I"⟩
abbrev cX8_count : ByteArray := prog_1_method_18_code
def yX8_count : MethodName := ⟨RX8, "count", "(I)I"⟩
abbrev cX8_isWithin : ByteArray := prog_1_method_19_code
def yX8_isWithin : MethodName := ⟨RX8, "isWithin", "(III)Z"⟩
abbrev cX8_oneIf : ByteArray := prog_1_method_20_code
def yX8_oneIf : MethodName := ⟨RX8, "oneIf", "(Z)I"⟩
abbrev cX8_findOrder : ByteArray := prog_1_method_21_code
def yX8_findOrder : MethodName := ⟨RX8, "findOrder", "(I)LWireMoney$Order;"⟩
abbrev cX8_findMessage : ByteArray := prog_1_method_22_code
def yX8_findMessage : MethodName := ⟨RX8, "findMessage", "(I)LWireMoney$Message;"⟩
abbrev cX8_canWrite : ByteArray := prog_1_method_23_code
def yX8_canWrite : MethodName := ⟨RX8, "canWrite", "()Z"⟩
abbrev cX8_owe : ByteArray := prog_1_method_24_code
def yX8_owe : MethodName := ⟨RX8, "owe", "(LWireMoney$Counter;LWireMoney$Counter;I)V"⟩
abbrev cX8_payOut : ByteArray := prog_1_method_25_code
def yX8_payOut : MethodName := ⟨RX8, "payOut", "(LWireMoney$Order;)V"⟩
abbrev cX8_awaitedAt : ByteArray := prog_1_method_26_code
def yX8_awaitedAt : MethodName := ⟨RX8, "awaitedAt", "(LWireMoney$Counter;)I"⟩
abbrev cX8_write : ByteArray := prog_1_method_27_code
def yX8_write : MethodName := ⟨RX8, "write", "(ILWireMoney$Order;)V"⟩
abbrev cX8_enqueue : ByteArray := prog_1_method_28_code
def yX8_enqueue : MethodName := ⟨RX8, "enqueue", "(LWireMoney$Message;)V"⟩
abbrev cX8_takeIn : ByteArray := prog_1_method_29_code
def yX8_takeIn : MethodName := ⟨RX8, "takeIn", "()V"⟩
abbrev cX8_sendOut : ByteArray := prog_1_method_30_code
def yX8_sendOut : MethodName := ⟨RX8, "sendOut", "()V"⟩
abbrev cX8_sendFirst : ByteArray := prog_1_method_31_code
def yX8_sendFirst : MethodName := ⟨RX8, "sendFirst", "(LWireMoney$Queue;I)V"⟩
abbrev cX8_read : ByteArray := prog_1_method_32_code
def yX8_read : MethodName := ⟨RX8, "read", "(LWireMoney$Message;)V"⟩
abbrev cX8_readPayment : ByteArray := prog_1_method_33_code
def yX8_readPayment : MethodName := ⟨RX8, "readPayment", "(LWireMoney$Message;)V"⟩
abbrev cX8_readStop : ByteArray := prog_1_method_34_code
def yX8_readStop : MethodName := ⟨RX8, "readStop", "(LWireMoney$Order;)V"⟩
abbrev cX8_payBack : ByteArray := prog_1_method_35_code
def yX8_payBack : MethodName := ⟨RX8, "payBack", "(LWireMoney$Order;)V"⟩
abbrev cX8_readRepeat : ByteArray := prog_1_method_36_code
def yX8_readRepeat : MethodName := ⟨RX8, "readRepeat", "(LWireMoney$Order;)V"⟩
def RX9 : String := "WireMoneyModel"
def TX9 : u_T := fun k => match k with
  | 0 => ("WireMoneyModel", "now", "I", false)
  | 1 => ("WireMoneyModel", "counters", "I", false)
  | 2 => ("WireMoneyModel", "coins", "[I", true)
  | 3 => ("WireMoneyModel", "opens", "[I", true)
  | 4 => ("WireMoneyModel", "shuts", "[I", true)
  | 5 => ("WireMoneyModel", "fees", "[I", true)
  | 6 => ("WireMoneyModel", "owed", "[I", true)
  | 7 => ("WireMoneyModel", "wires", "I", false)
  | 8 => ("WireMoneyModel", "endA", "[I", true)
  | 9 => ("WireMoneyModel", "endB", "[I", true)
  | 10 => ("WireMoneyModel", "takes", "[I", true)
  | 11 => ("WireMoneyModel", "downFrom", "[I", true)
  | 12 => ("WireMoneyModel", "downTo", "[I", true)
  | 13 => ("WireMoneyModel", "least", "[I", true)
  | 14 => ("WireMoneyModel", "bands", "I", false)
  | 15 => ("WireMoneyModel", "bound", "[I", true)
  | 16 => ("WireMoneyModel", "bandFee", "[I", true)
  | 17 => ("WireMoneyModel", "orders", "I", false)
  | 18 => ("WireMoneyModel", "from", "[I", true)
  | 19 => ("WireMoneyModel", "to", "[I", true)
  | 20 => ("WireMoneyModel", "sum", "[I", true)
  | 21 => ("WireMoneyModel", "word", "[I", true)
  | 22 => ("WireMoneyModel", "feeOf", "[I", true)
  | 23 => ("WireMoneyModel", "isKnown", "[Z", true)
  | 24 => ("WireMoneyModel", "isPaid", "[Z", true)
  | 25 => ("WireMoneyModel", "isStopped", "[Z", true)
  | 26 => ("WireMoneyModel", "isBack", "[Z", true)
  | 27 => ("WireMoneyModel", "hasStop", "[Z", true)
  | 28 => ("WireMoneyModel", "paidAt", "[I", true)
  | 29 => ("WireMoneyModel", "written", "[I", true)
  | 30 => ("WireMoneyModel", "messages", "I", false)
  | 31 => ("WireMoneyModel", "kind", "[I", true)
  | 32 => ("WireMoneyModel", "orderOf", "[I", true)
  | 33 => ("WireMoneyModel", "messageFrom", "[I", true)
  | 34 => ("WireMoneyModel", "messageTo", "[I", true)
  | 35 => ("WireMoneyModel", "state", "[I", true)
  | 36 => ("WireMoneyModel", "place", "[I", true)
  | 37 => ("WireMoneyModel", "wireOf", "[I", true)
  | 38 => ("WireMoneyModel", "put", "[I", true)
  | 39 => ("WireMoneyModel", "comes", "[I", true)
  | 40 => ("WireMoneyModel", "readAt", "[I", true)
  | 41 => ("WireMoneyModel", "wasGarbled", "[Z", true)
  | 42 => ("WireMoneyModel", "isChanged", "[Z", true)
  | 43 => ("WireMoneyModel", "test", "[I", true)
  | 44 => ("WireMoneyModel", "day", "[I", true)
  | 45 => ("WireMoneyModel", "signs", "[I", true)
  | 46 => ("WireMoneyModel", "puts", "I", false)
  | 47 => ("WireMoneyModel", "garbled", "I", false)
  | 48 => ("WireMoneyModel", "paid", "I", false)
  | _ => ("WireMoneyModel", "late", "I", false)
def tyX9 : Nat → FieldType := fun k => match k with
  | 0 => .int
  | 1 => .int
  | 2 => .array .int
  | 3 => .array .int
  | 4 => .array .int
  | 5 => .array .int
  | 6 => .array .int
  | 7 => .int
  | 8 => .array .int
  | 9 => .array .int
  | 10 => .array .int
  | 11 => .array .int
  | 12 => .array .int
  | 13 => .array .int
  | 14 => .int
  | 15 => .array .int
  | 16 => .array .int
  | 17 => .int
  | 18 => .array .int
  | 19 => .array .int
  | 20 => .array .int
  | 21 => .array .int
  | 22 => .array .int
  | 23 => .array .boolean
  | 24 => .array .boolean
  | 25 => .array .boolean
  | 26 => .array .boolean
  | 27 => .array .boolean
  | 28 => .array .int
  | 29 => .array .int
  | 30 => .int
  | 31 => .array .int
  | 32 => .array .int
  | 33 => .array .int
  | 34 => .array .int
  | 35 => .array .int
  | 36 => .array .int
  | 37 => .array .int
  | 38 => .array .int
  | 39 => .array .int
  | 40 => .array .int
  | 41 => .array .boolean
  | 42 => .array .boolean
  | 43 => .array .int
  | 44 => .array .int
  | 45 => .array .int
  | 46 => .int
  | 47 => .int
  | 48 => .int
  | _ => .int
theorem nmX9 : ∀ a, a < 50 → ∀ b, b < 50 → a ≠ b → (TX9 a).2.1 ≠ (TX9 b).2.1 := by decide +kernel
theorem tyX9_ok : ∀ k, k < 50 → parseFieldDescriptor (TX9 k).2.2.1 = some (tyX9 k) := by decide +kernel
abbrev cX9_init : ByteArray := prog_11_method_1_code
def yX9_init : MethodName := ⟨RX9, "<init>", "()V"⟩
abbrev cX9_in : ByteArray := prog_11_method_2_code
def yX9_in : MethodName := ⟨RX9, "in", "(III)Z"⟩
abbrev cX9_isCounter : ByteArray := prog_11_method_3_code
def yX9_isCounter : MethodName := ⟨RX9, "isCounter", "(I)Z"⟩
abbrev cX9_isOrder : ByteArray := prog_11_method_4_code
def yX9_isOrder : MethodName := ⟨RX9, "isOrder", "(I)Z"⟩
abbrev cX9_counter : ByteArray := prog_11_method_5_code
def yX9_counter : MethodName := ⟨RX9, "counter", "(III)I"⟩
abbrev cX9_isOpen : ByteArray := prog_11_method_6_code
def yX9_isOpen : MethodName := ⟨RX9, "isOpen", "(I)Z"⟩
abbrev cX9_reckons : ByteArray := prog_11_method_7_code
def yX9_reckons : MethodName := ⟨RX9, "reckons", "()V"⟩
abbrev cX9_wire : ByteArray := prog_11_method_8_code
def yX9_wire : MethodName := ⟨RX9, "wire", "(III)I"⟩
abbrev cX9_down : ByteArray := prog_11_method_9_code
def yX9_down : MethodName := ⟨RX9, "down", "(III)Z"⟩
abbrev cX9_least : ByteArray := prog_11_method_10_code
def yX9_least : MethodName := ⟨RX9, "least", "(II)I"⟩
abbrev cX9_otherEnd : ByteArray := prog_11_method_11_code
def yX9_otherEnd : MethodName := ⟨RX9, "otherEnd", "(II)I"⟩
abbrev cX9_nextWire : ByteArray := prog_11_method_12_code
def yX9_nextWire : MethodName := ⟨RX9, "nextWire", "(II)I"⟩
abbrev cX9_band : ByteArray := prog_11_method_13_code
def yX9_band : MethodName := ⟨RX9, "band", "(II)Z"⟩
abbrev cX9_fee : ByteArray := prog_11_method_14_code
def yX9_fee : MethodName := ⟨RX9, "fee", "(I)I"⟩
abbrev cX9_weight : ByteArray := prog_11_method_15_code
def yX9_weight : MethodName := ⟨RX9, "weight", "(II)I"⟩
abbrev cX9_testOf : ByteArray := prog_11_method_16_code
def yX9_testOf : MethodName := ⟨RX9, "testOf", "(I)I"⟩
abbrev cX9_digit : ByteArray := prog_11_method_17_code
def yX9_digit : MethodName := ⟨RX9, "digit", "(II)I"⟩
abbrev cX9_queues : ByteArray := prog_11_method_18_code
def yX9_queues : MethodName := ⟨RX9, "queues", "(II)V"⟩
abbrev cX9_writes : ByteArray := prog_11_method_19_code
def yX9_writes : MethodName := ⟨RX9, "writes", "(IIII)I"⟩
abbrev cX9_order : ByteArray := prog_11_method_20_code
def yX9_order : MethodName := ⟨RX9, "order", "(IIII)I"⟩
abbrev cX9_stop : ByteArray := prog_11_method_21_code
def yX9_stop : MethodName := ⟨RX9, "stop", "(I)I"⟩
abbrev cX9_pay : ByteArray := prog_11_method_22_code
def yX9_pay : MethodName := ⟨RX9, "pay", "(II)I"⟩
abbrev cX9_cart : ByteArray := prog_11_method_23_code
def yX9_cart : MethodName := ⟨RX9, "cart", "(III)Z"⟩
abbrev cX9_isPayment : ByteArray := prog_11_method_24_code
def yX9_isPayment : MethodName := ⟨RX9, "isPayment", "(I)Z"⟩
abbrev cX9_garble : ByteArray := prog_11_method_25_code
def yX9_garble : MethodName := ⟨RX9, "garble", "(III)Z"⟩
abbrev cX9_reads : ByteArray := prog_11_method_26_code
def yX9_reads : MethodName := ⟨RX9, "reads", "(I)V"⟩
abbrev cX9_firstOf : ByteArray := prog_11_method_27_code
def yX9_firstOf : MethodName := ⟨RX9, "firstOf", "(II)I"⟩
abbrev cX9_minute : ByteArray := prog_11_method_28_code
def yX9_minute : MethodName := ⟨RX9, "minute", "()V"⟩
abbrev cX9_setsOut : ByteArray := prog_11_method_29_code
def yX9_setsOut : MethodName := ⟨RX9, "setsOut", "(II)V"⟩
abbrev cX9_go : ByteArray := prog_11_method_30_code
def yX9_go : MethodName := ⟨RX9, "go", "(I)I"⟩
abbrev cX9_sign : ByteArray := prog_11_method_31_code
def yX9_sign : MethodName := ⟨RX9, "sign", "(II)I"⟩
abbrev cX9_message : ByteArray := prog_11_method_32_code
def yX9_message : MethodName := ⟨RX9, "message", "(II)I"⟩
abbrev cX9_told : ByteArray := prog_11_method_33_code
def yX9_told : MethodName := ⟨RX9, "told", "(II)I"⟩
abbrev cX9_lack : ByteArray := prog_11_method_34_code
def yX9_lack : MethodName := ⟨RX9, "lack", "(I)I"⟩
abbrev cX9_at : ByteArray := prog_11_method_35_code
def yX9_at : MethodName := ⟨RX9, "at", "(II)I"⟩
abbrev cX9_count : ByteArray := prog_11_method_36_code
def yX9_count : MethodName := ⟨RX9, "count", "(I)I"⟩
def RL : String := "WireMoneyLaw"
abbrev cL_law : ByteArray := code
def yL_law : MethodName := ⟨RL, "law", "([I)Z"⟩
abbrev vwCl : List vw_C := [(RX0, TX0, 3), (RX1, TX1, 6), (RX2, TX2, 11), (RX3, TX3, 7), (RX4, TX4, 13), (RX5, TX5, 5), (RX6, TX6, 4), (RX7, TX7, 5), (RX8, TX8, 11), (RX9, TX9, 50)]
/-- the words that every method may lean on: all of the tables' that calls keep -/
def x_all : List Cond := lw_tbl.filter goodWord
theorem x_ina {w : Cond} (h : w ∈ lw_tbl) (g : goodWord w = true) : w ∈ x_all := List.mem_filter.mpr ⟨h, g⟩
theorem x_in1 {w : Cond} (h : w ∈ tables_1_1) (g : goodWord w = true) : w ∈ x_all := x_ina (List.mem_append_right _ (List.mem_append_left _ h)) g
theorem x_in2 {w : Cond} (h : w ∈ tables_1_2) (g : goodWord w = true) : w ∈ x_all := x_ina (List.mem_append_right _ (List.mem_append_right _ (List.mem_append_left _ h))) g
theorem x_in3 {w : Cond} (h : w ∈ tables_1_3) (g : goodWord w = true) : w ∈ x_all := x_ina (List.mem_append_right _ (List.mem_append_right _ (List.mem_append_right _ (List.mem_append_left _ h)))) g
theorem x_in4 {w : Cond} (h : w ∈ tables_1_4) (g : goodWord w = true) : w ∈ x_all := x_ina (List.mem_append_right _ (List.mem_append_right _ (List.mem_append_right _ (List.mem_append_right _ h)))) g
theorem wd_0 : (Jvm.Cond.initialized "WireMoneyLaw") ∈ x_all := x_in1 (List.mem_of_getElem? (i := 0) rfl) rfl
theorem wd_1 : (Jvm.Cond.initialized "WireMoney") ∈ x_all := x_in1 (List.mem_of_getElem? (i := 1) rfl) rfl
theorem wd_2 : (Jvm.Cond.initialized "WireMoney$Net") ∈ x_all := x_in1 (List.mem_of_getElem? (i := 2) rfl) rfl
theorem wd_3 : (Jvm.Cond.initialized "WireMoney$Bands") ∈ x_all := x_in1 (List.mem_of_getElem? (i := 3) rfl) rfl
theorem wd_4 : (Jvm.Cond.initialized "WireMoneyModel") ∈ x_all := x_in1 (List.mem_of_getElem? (i := 4) rfl) rfl
theorem wd_5 : (Jvm.Cond.initialized "WireMoney$Counter") ∈ x_all := x_in1 (List.mem_of_getElem? (i := 5) rfl) rfl
theorem wd_6 : (Jvm.Cond.initialized "WireMoney$Wire") ∈ x_all := x_in1 (List.mem_of_getElem? (i := 6) rfl) rfl
theorem wd_7 : (Jvm.Cond.initialized "WireMoney$Queue") ∈ x_all := x_in1 (List.mem_of_getElem? (i := 7) rfl) rfl
theorem wd_8 : (Jvm.Cond.initialized "java/lang/Math") ∈ x_all := x_in1 (List.mem_of_getElem? (i := 8) rfl) rfl
theorem wd_9 : (Jvm.Cond.initialized "WireMoney$Order") ∈ x_all := x_in1 (List.mem_of_getElem? (i := 9) rfl) rfl
theorem wd_10 : (Jvm.Cond.initialized "WireMoney$Signs") ∈ x_all := x_in1 (List.mem_of_getElem? (i := 10) rfl) rfl
theorem wd_11 : (Jvm.Cond.initialized "WireMoney$Message") ∈ x_all := x_in1 (List.mem_of_getElem? (i := 11) rfl) rfl
theorem wd_12 : (Jvm.Cond.classLink "WireMoneyLaw" (7 : Nat) "WireMoney") ∈ x_all := x_in1 (List.mem_of_getElem? (i := 12) rfl) rfl
theorem wd_13 : (Jvm.Cond.instantiable "WireMoney" (11 : Nat)) ∈ x_all := x_in1 (List.mem_of_getElem? (i := 13) rfl) rfl
theorem wd_14 : (Jvm.Cond.methodLink "WireMoneyLaw" (9 : Nat) ({ cls := "WireMoney", name := "<init>", desc := "()V" } : Jvm.MethodName)) ∈ x_all := x_in1 (List.mem_of_getElem? (i := 14) rfl) rfl
theorem wd_15 : (Jvm.Cond.instanceMethod ({ cls := "WireMoney", name := "<init>", desc := "()V" } : Jvm.MethodName)) ∈ x_all := x_in1 (List.mem_of_getElem? (i := 15) rfl) rfl
theorem wd_16 : (Jvm.Cond.code ({ cls := "WireMoney", name := "<init>", desc := "()V" } : Jvm.MethodName) prog_1_method_1_code (1 : Nat) (Option.none : Option Jvm.ClassFile.FieldType)) ∈ x_all := x_in1 (List.mem_of_getElem? (i := 16) rfl) rfl
theorem wd_17 : (Jvm.Cond.methodLink "WireMoney" (3 : Nat) ({ cls := "java/lang/Object", name := "<init>", desc := "()V" } : Jvm.MethodName)) ∈ x_all := x_in1 (List.mem_of_getElem? (i := 17) rfl) rfl
theorem wd_18 : (Jvm.Cond.instanceMethod ({ cls := "java/lang/Object", name := "<init>", desc := "()V" } : Jvm.MethodName)) ∈ x_all := x_in1 (List.mem_of_getElem? (i := 18) rfl) rfl
theorem wd_19 : (Jvm.Cond.code ({ cls := "java/lang/Object", name := "<init>", desc := "()V" } : Jvm.MethodName) object_method_1_code (1 : Nat) (Option.none : Option Jvm.ClassFile.FieldType)) ∈ x_all := x_in1 (List.mem_of_getElem? (i := 19) rfl) rfl
theorem wd_20 : (Jvm.Cond.classLink "WireMoney" (9 : Nat) "WireMoney$Net") ∈ x_all := x_in1 (List.mem_of_getElem? (i := 20) rfl) rfl
theorem wd_21 : (Jvm.Cond.instantiable "WireMoney$Net" (7 : Nat)) ∈ x_all := x_in1 (List.mem_of_getElem? (i := 21) rfl) rfl
theorem wd_22 : (Jvm.Cond.methodLink "WireMoney" (11 : Nat) ({ cls := "WireMoney$Net", name := "<init>", desc := "()V" } : Jvm.MethodName)) ∈ x_all := x_in1 (List.mem_of_getElem? (i := 22) rfl) rfl
theorem wd_23 : (Jvm.Cond.instanceMethod ({ cls := "WireMoney$Net", name := "<init>", desc := "()V" } : Jvm.MethodName)) ∈ x_all := x_in1 (List.mem_of_getElem? (i := 23) rfl) rfl
theorem wd_24 : (Jvm.Cond.code ({ cls := "WireMoney$Net", name := "<init>", desc := "()V" } : Jvm.MethodName) prog_5_method_1_code (3 : Nat) (Option.none : Option Jvm.ClassFile.FieldType)) ∈ x_all := x_in1 (List.mem_of_getElem? (i := 24) rfl) rfl
theorem wd_25 : (Jvm.Cond.methodLink "WireMoney$Net" (3 : Nat) ({ cls := "java/lang/Object", name := "<init>", desc := "()V" } : Jvm.MethodName)) ∈ x_all := x_in1 (List.mem_of_getElem? (i := 25) rfl) rfl
theorem wd_26 : (Jvm.Cond.classLink "WireMoney$Net" (9 : Nat) "WireMoney$Counter") ∈ x_all := x_in1 (List.mem_of_getElem? (i := 26) rfl) rfl
theorem wd_28 : (Jvm.Cond.classLink "WireMoney$Net" (17 : Nat) "WireMoney$Wire") ∈ x_all := x_in1 (List.mem_of_getElem? (i := 28) rfl) rfl
theorem wd_30 : (Jvm.Cond.constant "WireMoney$Net" (33 : Nat) (1000000 : Int32)) ∈ x_all := x_in1 (List.mem_of_getElem? (i := 30) rfl) rfl
theorem wd_31 : (Jvm.Cond.fieldLink "WireMoney$Net" (34 : Nat) "WireMoney$Net" "counterCount" "I") ∈ x_all := x_in1 (List.mem_of_getElem? (i := 31) rfl) rfl
theorem wd_32 : (Jvm.Cond.fieldLink "WireMoney" (241 : Nat) "WireMoney$Net" "counterCount" "I") ∈ x_all := x_in1 (List.mem_of_getElem? (i := 32) rfl) rfl
theorem wd_33 : (Jvm.Cond.fieldLink "WireMoney$Net" (38 : Nat) "WireMoney$Net" "wireCount" "I") ∈ x_all := x_in1 (List.mem_of_getElem? (i := 33) rfl) rfl
theorem wd_34 : (Jvm.Cond.fieldLink "WireMoney" (244 : Nat) "WireMoney$Net" "wireCount" "I") ∈ x_all := x_in1 (List.mem_of_getElem? (i := 34) rfl) rfl
theorem wd_35 : (Jvm.Cond.fieldLink "WireMoney$Net" (11 : Nat) "WireMoney$Net" "counters" "[LWireMoney$Counter;") ∈ x_all := x_in1 (List.mem_of_getElem? (i := 35) rfl) rfl
theorem wd_36 : (Jvm.Cond.fieldLink "WireMoney$Net" (19 : Nat) "WireMoney$Net" "wires" "[LWireMoney$Wire;") ∈ x_all := x_in1 (List.mem_of_getElem? (i := 36) rfl) rfl
theorem wd_37 : (Jvm.Cond.fieldLink "WireMoney$Net" (23 : Nat) "WireMoney$Net" "leastMinutes" "[I") ∈ x_all := x_in1 (List.mem_of_getElem? (i := 37) rfl) rfl
theorem wd_38 : (Jvm.Cond.fieldLink "WireMoney$Net" (27 : Nat) "WireMoney$Net" "straightWires" "[LWireMoney$Wire;") ∈ x_all := x_in1 (List.mem_of_getElem? (i := 38) rfl) rfl
theorem wd_39 : (Jvm.Cond.fieldLink "WireMoney$Net" (30 : Nat) "WireMoney$Net" "firstWires" "[LWireMoney$Wire;") ∈ x_all := x_in1 (List.mem_of_getElem? (i := 39) rfl) rfl
theorem wd_55 : (Jvm.Cond.arrayClass Jvm.ClassFile.FieldType.int) ∈ x_all := x_in1 (List.mem_of_getElem? (i := 55) rfl) rfl
theorem wd_56 : (Jvm.Cond.classLink "WireMoney" (16 : Nat) "WireMoney$Bands") ∈ x_all := x_in1 (List.mem_of_getElem? (i := 56) rfl) rfl
theorem wd_57 : (Jvm.Cond.instantiable "WireMoney$Bands" (3 : Nat)) ∈ x_all := x_in1 (List.mem_of_getElem? (i := 57) rfl) rfl
theorem wd_58 : (Jvm.Cond.methodLink "WireMoney" (18 : Nat) ({ cls := "WireMoney$Bands", name := "<init>", desc := "()V" } : Jvm.MethodName)) ∈ x_all := x_in1 (List.mem_of_getElem? (i := 58) rfl) rfl
theorem wd_59 : (Jvm.Cond.instanceMethod ({ cls := "WireMoney$Bands", name := "<init>", desc := "()V" } : Jvm.MethodName)) ∈ x_all := x_in1 (List.mem_of_getElem? (i := 59) rfl) rfl
theorem wd_60 : (Jvm.Cond.code ({ cls := "WireMoney$Bands", name := "<init>", desc := "()V" } : Jvm.MethodName) prog_2_method_1_code (1 : Nat) (Option.none : Option Jvm.ClassFile.FieldType)) ∈ x_all := x_in1 (List.mem_of_getElem? (i := 60) rfl) rfl
theorem wd_61 : (Jvm.Cond.methodLink "WireMoney$Bands" (3 : Nat) ({ cls := "java/lang/Object", name := "<init>", desc := "()V" } : Jvm.MethodName)) ∈ x_all := x_in1 (List.mem_of_getElem? (i := 61) rfl) rfl
theorem wd_62 : (Jvm.Cond.fieldLink "WireMoney$Bands" (9 : Nat) "WireMoney$Bands" "bounds" "[I") ∈ x_all := x_in1 (List.mem_of_getElem? (i := 62) rfl) rfl
theorem wd_63 : (Jvm.Cond.fieldLink "WireMoney$Bands" (15 : Nat) "WireMoney$Bands" "fees" "[I") ∈ x_all := x_in1 (List.mem_of_getElem? (i := 63) rfl) rfl
theorem wd_64 : (Jvm.Cond.fieldLink "WireMoney$Bands" (18 : Nat) "WireMoney$Bands" "size" "I") ∈ x_all := x_in1 (List.mem_of_getElem? (i := 64) rfl) rfl
theorem wd_72 : (Jvm.Cond.classLink "WireMoney" (23 : Nat) "WireMoney$Order") ∈ x_all := x_in1 (List.mem_of_getElem? (i := 72) rfl) rfl
theorem wd_74 : (Jvm.Cond.classLink "WireMoney" (29 : Nat) "WireMoney$Message") ∈ x_all := x_in1 (List.mem_of_getElem? (i := 74) rfl) rfl
theorem wd_76 : (Jvm.Cond.constant "WireMoney" (35 : Nat) (1000000 : Int32)) ∈ x_all := x_in1 (List.mem_of_getElem? (i := 76) rfl) rfl
theorem wd_77 : (Jvm.Cond.fieldLink "WireMoney" (12 : Nat) "WireMoney" "net" "LWireMoney$Net;") ∈ x_all := x_in1 (List.mem_of_getElem? (i := 77) rfl) rfl
theorem wd_78 : (Jvm.Cond.fieldLink "WireMoney" (19 : Nat) "WireMoney" "bands" "LWireMoney$Bands;") ∈ x_all := x_in1 (List.mem_of_getElem? (i := 78) rfl) rfl
theorem wd_79 : (Jvm.Cond.fieldLink "WireMoney" (25 : Nat) "WireMoney" "orders" "[LWireMoney$Order;") ∈ x_all := x_in1 (List.mem_of_getElem? (i := 79) rfl) rfl
theorem wd_80 : (Jvm.Cond.fieldLink "WireMoney" (31 : Nat) "WireMoney" "messages" "[LWireMoney$Message;") ∈ x_all := x_in1 (List.mem_of_getElem? (i := 80) rfl) rfl
theorem wd_81 : (Jvm.Cond.fieldLink "WireMoney" (94 : Nat) "WireMoney" "orderCount" "I") ∈ x_all := x_in1 (List.mem_of_getElem? (i := 81) rfl) rfl
theorem wd_82 : (Jvm.Cond.fieldLink "WireMoney" (135 : Nat) "WireMoney" "messageCount" "I") ∈ x_all := x_in1 (List.mem_of_getElem? (i := 82) rfl) rfl
theorem wd_83 : (Jvm.Cond.fieldLink "WireMoney" (60 : Nat) "WireMoney" "now" "I") ∈ x_all := x_in1 (List.mem_of_getElem? (i := 83) rfl) rfl
theorem wd_84 : (Jvm.Cond.fieldLink "WireMoney" (36 : Nat) "WireMoney" "nextArrival" "I") ∈ x_all := x_in1 (List.mem_of_getElem? (i := 84) rfl) rfl
theorem wd_85 : (Jvm.Cond.fieldLink "WireMoney" (247 : Nat) "WireMoney" "garbledCount" "I") ∈ x_all := x_in1 (List.mem_of_getElem? (i := 85) rfl) rfl
theorem wd_86 : (Jvm.Cond.fieldLink "WireMoney" (250 : Nat) "WireMoney" "paidCount" "I") ∈ x_all := x_in1 (List.mem_of_getElem? (i := 86) rfl) rfl
theorem wd_87 : (Jvm.Cond.fieldLink "WireMoney" (253 : Nat) "WireMoney" "lateStopCount" "I") ∈ x_all := x_in1 (List.mem_of_getElem? (i := 87) rfl) rfl
theorem wd_111 : (Jvm.Cond.methodLink "WireMoneyLaw" (13 : Nat) ({ cls := "WireMoney", name := "counter", desc := "(III)I" } : Jvm.MethodName)) ∈ x_all := x_in1 (List.mem_of_getElem? (i := 111) rfl) rfl
theorem wd_112 : (Jvm.Cond.instanceMethod ({ cls := "WireMoney", name := "counter", desc := "(III)I" } : Jvm.MethodName)) ∈ x_all := x_in1 (List.mem_of_getElem? (i := 112) rfl) rfl
theorem wd_113 : (Jvm.Cond.selects "WireMoney" ({ cls := "WireMoney", name := "counter", desc := "(III)I" } : Jvm.MethodName) ({ cls := "WireMoney", name := "counter", desc := "(III)I" } : Jvm.MethodName)) ∈ x_all := x_in1 (List.mem_of_getElem? (i := 113) rfl) rfl
theorem wd_114 : (Jvm.Cond.code ({ cls := "WireMoney", name := "counter", desc := "(III)I" } : Jvm.MethodName) prog_1_method_2_code (5 : Nat) (Option.some Jvm.ClassFile.FieldType.int)) ∈ x_all := x_in1 (List.mem_of_getElem? (i := 114) rfl) rfl
theorem wd_115 : (Jvm.Cond.methodLink "WireMoney" (40 : Nat) ({ cls := "WireMoney", name := "isWithin", desc := "(III)Z" } : Jvm.MethodName)) ∈ x_all := x_in1 (List.mem_of_getElem? (i := 115) rfl) rfl
theorem wd_116 : (Jvm.Cond.static ({ cls := "WireMoney", name := "isWithin", desc := "(III)Z" } : Jvm.MethodName)) ∈ x_all := x_in1 (List.mem_of_getElem? (i := 116) rfl) rfl
theorem wd_117 : (Jvm.Cond.code ({ cls := "WireMoney", name := "isWithin", desc := "(III)Z" } : Jvm.MethodName) prog_1_method_19_code (3 : Nat) (Option.some Jvm.ClassFile.FieldType.boolean)) ∈ x_all := x_in1 (List.mem_of_getElem? (i := 117) rfl) rfl
theorem wd_118 : (Jvm.Cond.methodLink "WireMoney" (44 : Nat) ({ cls := "WireMoney$Net", name := "addCounter", desc := "(III)I" } : Jvm.MethodName)) ∈ x_all := x_in1 (List.mem_of_getElem? (i := 118) rfl) rfl
theorem wd_119 : (Jvm.Cond.instanceMethod ({ cls := "WireMoney$Net", name := "addCounter", desc := "(III)I" } : Jvm.MethodName)) ∈ x_all := x_in1 (List.mem_of_getElem? (i := 119) rfl) rfl
theorem wd_120 : (Jvm.Cond.selects "WireMoney$Net" ({ cls := "WireMoney$Net", name := "addCounter", desc := "(III)I" } : Jvm.MethodName) ({ cls := "WireMoney$Net", name := "addCounter", desc := "(III)I" } : Jvm.MethodName)) ∈ x_all := x_in1 (List.mem_of_getElem? (i := 120) rfl) rfl
theorem wd_121 : (Jvm.Cond.code ({ cls := "WireMoney$Net", name := "addCounter", desc := "(III)I" } : Jvm.MethodName) prog_5_method_4_code (5 : Nat) (Option.some Jvm.ClassFile.FieldType.int)) ∈ x_all := x_in1 (List.mem_of_getElem? (i := 121) rfl) rfl
theorem wd_122 : (Jvm.Cond.instantiable "WireMoney$Counter" (6 : Nat)) ∈ x_all := x_in1 (List.mem_of_getElem? (i := 122) rfl) rfl
theorem wd_123 : (Jvm.Cond.methodLink "WireMoney$Net" (41 : Nat) ({ cls := "WireMoney$Counter", name := "<init>", desc := "(IIII)V" } : Jvm.MethodName)) ∈ x_all := x_in1 (List.mem_of_getElem? (i := 123) rfl) rfl
theorem wd_124 : (Jvm.Cond.instanceMethod ({ cls := "WireMoney$Counter", name := "<init>", desc := "(IIII)V" } : Jvm.MethodName)) ∈ x_all := x_in1 (List.mem_of_getElem? (i := 124) rfl) rfl
theorem wd_125 : (Jvm.Cond.code ({ cls := "WireMoney$Counter", name := "<init>", desc := "(IIII)V" } : Jvm.MethodName) prog_3_method_1_code (5 : Nat) (Option.none : Option Jvm.ClassFile.FieldType)) ∈ x_all := x_in1 (List.mem_of_getElem? (i := 125) rfl) rfl
theorem wd_126 : (Jvm.Cond.methodLink "WireMoney$Counter" (3 : Nat) ({ cls := "java/lang/Object", name := "<init>", desc := "()V" } : Jvm.MethodName)) ∈ x_all := x_in1 (List.mem_of_getElem? (i := 126) rfl) rfl
theorem wd_127 : (Jvm.Cond.fieldLink "WireMoney$Counter" (9 : Nat) "WireMoney$Counter" "number" "I") ∈ x_all := x_in1 (List.mem_of_getElem? (i := 127) rfl) rfl
theorem wd_128 : (Jvm.Cond.fieldLink "WireMoney$Net" (47 : Nat) "WireMoney$Counter" "number" "I") ∈ x_all := x_in1 (List.mem_of_getElem? (i := 128) rfl) rfl
theorem wd_129 : (Jvm.Cond.fieldLink "WireMoney" (203 : Nat) "WireMoney$Counter" "number" "I") ∈ x_all := x_in1 (List.mem_of_getElem? (i := 129) rfl) rfl
theorem wd_130 : (Jvm.Cond.fieldLink "WireMoney$Counter" (18 : Nat) "WireMoney$Counter" "opens" "I") ∈ x_all := x_in1 (List.mem_of_getElem? (i := 130) rfl) rfl
theorem wd_131 : (Jvm.Cond.fieldLink "WireMoney$Counter" (21 : Nat) "WireMoney$Counter" "shuts" "I") ∈ x_all := x_in1 (List.mem_of_getElem? (i := 131) rfl) rfl
theorem wd_132 : (Jvm.Cond.fieldLink "WireMoney$Counter" (15 : Nat) "WireMoney$Counter" "coins" "I") ∈ x_all := x_in1 (List.mem_of_getElem? (i := 132) rfl) rfl
theorem wd_133 : (Jvm.Cond.fieldLink "WireMoney" (107 : Nat) "WireMoney$Counter" "coins" "I") ∈ x_all := x_in1 (List.mem_of_getElem? (i := 133) rfl) rfl
theorem wd_134 : (Jvm.Cond.fieldLink "WireMoney" (235 : Nat) "WireMoney$Counter" "owed" "I") ∈ x_all := x_in1 (List.mem_of_getElem? (i := 134) rfl) rfl
theorem wd_135 : (Jvm.Cond.fieldLink "WireMoney" (110 : Nat) "WireMoney$Counter" "fees" "I") ∈ x_all := x_in1 (List.mem_of_getElem? (i := 135) rfl) rfl
theorem wd_149 : (Jvm.Cond.methodLink "WireMoneyLaw" (18 : Nat) ({ cls := "WireMoney", name := "wire", desc := "(III)I" } : Jvm.MethodName)) ∈ x_all := x_in1 (List.mem_of_getElem? (i := 149) rfl) rfl
theorem wd_150 : (Jvm.Cond.instanceMethod ({ cls := "WireMoney", name := "wire", desc := "(III)I" } : Jvm.MethodName)) ∈ x_all := x_in1 (List.mem_of_getElem? (i := 150) rfl) rfl
theorem wd_151 : (Jvm.Cond.selects "WireMoney" ({ cls := "WireMoney", name := "wire", desc := "(III)I" } : Jvm.MethodName) ({ cls := "WireMoney", name := "wire", desc := "(III)I" } : Jvm.MethodName)) ∈ x_all := x_in1 (List.mem_of_getElem? (i := 151) rfl) rfl
theorem wd_152 : (Jvm.Cond.code ({ cls := "WireMoney", name := "wire", desc := "(III)I" } : Jvm.MethodName) prog_1_method_3_code (6 : Nat) (Option.some Jvm.ClassFile.FieldType.int)) ∈ x_all := x_in1 (List.mem_of_getElem? (i := 152) rfl) rfl
theorem wd_153 : (Jvm.Cond.methodLink "WireMoney" (48 : Nat) ({ cls := "WireMoney$Net", name := "findCounter", desc := "(I)LWireMoney$Counter;" } : Jvm.MethodName)) ∈ x_all := x_in1 (List.mem_of_getElem? (i := 153) rfl) rfl
theorem wd_154 : (Jvm.Cond.instanceMethod ({ cls := "WireMoney$Net", name := "findCounter", desc := "(I)LWireMoney$Counter;" } : Jvm.MethodName)) ∈ x_all := x_in1 (List.mem_of_getElem? (i := 154) rfl) rfl
theorem wd_155 : (Jvm.Cond.selects "WireMoney$Net" ({ cls := "WireMoney$Net", name := "findCounter", desc := "(I)LWireMoney$Counter;" } : Jvm.MethodName) ({ cls := "WireMoney$Net", name := "findCounter", desc := "(I)LWireMoney$Counter;" } : Jvm.MethodName)) ∈ x_all := x_in1 (List.mem_of_getElem? (i := 155) rfl) rfl
theorem wd_156 : (Jvm.Cond.code ({ cls := "WireMoney$Net", name := "findCounter", desc := "(I)LWireMoney$Counter;" } : Jvm.MethodName) prog_5_method_2_code (2 : Nat) (Option.some (Jvm.ClassFile.FieldType.object "WireMoney$Counter"))) ∈ x_all := x_in1 (List.mem_of_getElem? (i := 156) rfl) rfl
theorem wd_157 : (Jvm.Cond.methodLink "WireMoney" (52 : Nat) ({ cls := "WireMoney$Net", name := "addWire", desc := "(LWireMoney$Counter;LWireMoney$Counter;I)I" } : Jvm.MethodName)) ∈ x_all := x_in1 (List.mem_of_getElem? (i := 157) rfl) rfl
theorem wd_158 : (Jvm.Cond.instanceMethod ({ cls := "WireMoney$Net", name := "addWire", desc := "(LWireMoney$Counter;LWireMoney$Counter;I)I" } : Jvm.MethodName)) ∈ x_all := x_in1 (List.mem_of_getElem? (i := 158) rfl) rfl
theorem wd_159 : (Jvm.Cond.selects "WireMoney$Net" ({ cls := "WireMoney$Net", name := "addWire", desc := "(LWireMoney$Counter;LWireMoney$Counter;I)I" } : Jvm.MethodName) ({ cls := "WireMoney$Net", name := "addWire", desc := "(LWireMoney$Counter;LWireMoney$Counter;I)I" } : Jvm.MethodName)) ∈ x_all := x_in1 (List.mem_of_getElem? (i := 159) rfl) rfl
theorem wd_160 : (Jvm.Cond.code ({ cls := "WireMoney$Net", name := "addWire", desc := "(LWireMoney$Counter;LWireMoney$Counter;I)I" } : Jvm.MethodName) prog_5_method_5_code (6 : Nat) (Option.some Jvm.ClassFile.FieldType.int)) ∈ x_all := x_in1 (List.mem_of_getElem? (i := 160) rfl) rfl
theorem wd_161 : (Jvm.Cond.instantiable "WireMoney$Wire" (5 : Nat)) ∈ x_all := x_in1 (List.mem_of_getElem? (i := 161) rfl) rfl
theorem wd_162 : (Jvm.Cond.methodLink "WireMoney$Net" (44 : Nat) ({ cls := "WireMoney$Wire", name := "<init>", desc := "(LWireMoney$Counter;LWireMoney$Counter;I)V" } : Jvm.MethodName)) ∈ x_all := x_in1 (List.mem_of_getElem? (i := 162) rfl) rfl
theorem wd_163 : (Jvm.Cond.instanceMethod ({ cls := "WireMoney$Wire", name := "<init>", desc := "(LWireMoney$Counter;LWireMoney$Counter;I)V" } : Jvm.MethodName)) ∈ x_all := x_in1 (List.mem_of_getElem? (i := 163) rfl) rfl
theorem wd_164 : (Jvm.Cond.code ({ cls := "WireMoney$Wire", name := "<init>", desc := "(LWireMoney$Counter;LWireMoney$Counter;I)V" } : Jvm.MethodName) prog_9_method_1_code (4 : Nat) (Option.none : Option Jvm.ClassFile.FieldType)) ∈ x_all := x_in1 (List.mem_of_getElem? (i := 164) rfl) rfl
theorem wd_165 : (Jvm.Cond.methodLink "WireMoney$Wire" (1 : Nat) ({ cls := "java/lang/Object", name := "<init>", desc := "()V" } : Jvm.MethodName)) ∈ x_all := x_in1 (List.mem_of_getElem? (i := 165) rfl) rfl
theorem wd_166 : (Jvm.Cond.classLink "WireMoney$Wire" (7 : Nat) "WireMoney$Queue") ∈ x_all := x_in1 (List.mem_of_getElem? (i := 166) rfl) rfl
theorem wd_167 : (Jvm.Cond.instantiable "WireMoney$Queue" (5 : Nat)) ∈ x_all := x_in1 (List.mem_of_getElem? (i := 167) rfl) rfl
theorem wd_168 : (Jvm.Cond.methodLink "WireMoney$Wire" (9 : Nat) ({ cls := "WireMoney$Queue", name := "<init>", desc := "(LWireMoney$Counter;LWireMoney$Counter;)V" } : Jvm.MethodName)) ∈ x_all := x_in1 (List.mem_of_getElem? (i := 168) rfl) rfl
theorem wd_169 : (Jvm.Cond.instanceMethod ({ cls := "WireMoney$Queue", name := "<init>", desc := "(LWireMoney$Counter;LWireMoney$Counter;)V" } : Jvm.MethodName)) ∈ x_all := x_in1 (List.mem_of_getElem? (i := 169) rfl) rfl
theorem wd_170 : (Jvm.Cond.code ({ cls := "WireMoney$Queue", name := "<init>", desc := "(LWireMoney$Counter;LWireMoney$Counter;)V" } : Jvm.MethodName) prog_7_method_1_code (3 : Nat) (Option.none : Option Jvm.ClassFile.FieldType)) ∈ x_all := x_in1 (List.mem_of_getElem? (i := 170) rfl) rfl
theorem wd_171 : (Jvm.Cond.methodLink "WireMoney$Queue" (1 : Nat) ({ cls := "java/lang/Object", name := "<init>", desc := "()V" } : Jvm.MethodName)) ∈ x_all := x_in1 (List.mem_of_getElem? (i := 171) rfl) rfl
theorem wd_172 : (Jvm.Cond.fieldLink "WireMoney$Queue" (7 : Nat) "WireMoney$Queue" "start" "LWireMoney$Counter;") ∈ x_all := x_in1 (List.mem_of_getElem? (i := 172) rfl) rfl
theorem wd_173 : (Jvm.Cond.fieldLink "WireMoney$Wire" (31 : Nat) "WireMoney$Queue" "start" "LWireMoney$Counter;") ∈ x_all := x_in1 (List.mem_of_getElem? (i := 173) rfl) rfl
theorem wd_174 : (Jvm.Cond.fieldLink "WireMoney$Queue" (13 : Nat) "WireMoney$Queue" "end" "LWireMoney$Counter;") ∈ x_all := x_in1 (List.mem_of_getElem? (i := 174) rfl) rfl
theorem wd_175 : (Jvm.Cond.fieldLink "WireMoney" (314 : Nat) "WireMoney$Queue" "end" "LWireMoney$Counter;") ∈ x_all := x_in1 (List.mem_of_getElem? (i := 175) rfl) rfl
theorem wd_176 : (Jvm.Cond.fieldLink "WireMoney$Queue" (28 : Nat) "WireMoney$Queue" "length" "I") ∈ x_all := x_in1 (List.mem_of_getElem? (i := 176) rfl) rfl
theorem wd_177 : (Jvm.Cond.fieldLink "WireMoney$Net" (84 : Nat) "WireMoney$Queue" "length" "I") ∈ x_all := x_in1 (List.mem_of_getElem? (i := 177) rfl) rfl
theorem wd_178 : (Jvm.Cond.fieldLink "WireMoney$Queue" (20 : Nat) "WireMoney$Queue" "first" "LWireMoney$Message;") ∈ x_all := x_in1 (List.mem_of_getElem? (i := 178) rfl) rfl
theorem wd_179 : (Jvm.Cond.fieldLink "WireMoney$Queue" (16 : Nat) "WireMoney$Queue" "last" "LWireMoney$Message;") ∈ x_all := x_in1 (List.mem_of_getElem? (i := 179) rfl) rfl
theorem wd_191 : (Jvm.Cond.fieldLink "WireMoney$Wire" (12 : Nat) "WireMoney$Wire" "there" "LWireMoney$Queue;") ∈ x_all := x_in1 (List.mem_of_getElem? (i := 191) rfl) rfl
theorem wd_192 : (Jvm.Cond.fieldLink "WireMoney" (296 : Nat) "WireMoney$Wire" "there" "LWireMoney$Queue;") ∈ x_all := x_in1 (List.mem_of_getElem? (i := 192) rfl) rfl
theorem wd_193 : (Jvm.Cond.fieldLink "WireMoney$Wire" (18 : Nat) "WireMoney$Wire" "back" "LWireMoney$Queue;") ∈ x_all := x_in1 (List.mem_of_getElem? (i := 193) rfl) rfl
theorem wd_194 : (Jvm.Cond.fieldLink "WireMoney" (307 : Nat) "WireMoney$Wire" "back" "LWireMoney$Queue;") ∈ x_all := x_in1 (List.mem_of_getElem? (i := 194) rfl) rfl
theorem wd_195 : (Jvm.Cond.fieldLink "WireMoney$Wire" (21 : Nat) "WireMoney$Wire" "minutes" "I") ∈ x_all := x_in1 (List.mem_of_getElem? (i := 195) rfl) rfl
theorem wd_196 : (Jvm.Cond.fieldLink "WireMoney$Net" (93 : Nat) "WireMoney$Wire" "minutes" "I") ∈ x_all := x_in1 (List.mem_of_getElem? (i := 196) rfl) rfl
theorem wd_197 : (Jvm.Cond.fieldLink "WireMoney" (300 : Nat) "WireMoney$Wire" "minutes" "I") ∈ x_all := x_in1 (List.mem_of_getElem? (i := 197) rfl) rfl
theorem wd_198 : (Jvm.Cond.fieldLink "WireMoney$Wire" (25 : Nat) "WireMoney$Wire" "downFrom" "I") ∈ x_all := x_in1 (List.mem_of_getElem? (i := 198) rfl) rfl
theorem wd_199 : (Jvm.Cond.fieldLink "WireMoney" (63 : Nat) "WireMoney$Wire" "downFrom" "I") ∈ x_all := x_in1 (List.mem_of_getElem? (i := 199) rfl) rfl
theorem wd_200 : (Jvm.Cond.fieldLink "WireMoney$Wire" (28 : Nat) "WireMoney$Wire" "downTo" "I") ∈ x_all := x_in1 (List.mem_of_getElem? (i := 200) rfl) rfl
theorem wd_201 : (Jvm.Cond.fieldLink "WireMoney" (68 : Nat) "WireMoney$Wire" "downTo" "I") ∈ x_all := x_in1 (List.mem_of_getElem? (i := 201) rfl) rfl
theorem wd_213 : (Jvm.Cond.methodLink "WireMoney$Net" (50 : Nat) ({ cls := "WireMoney$Net", name := "cell", desc := "(II)I" } : Jvm.MethodName)) ∈ x_all := x_in1 (List.mem_of_getElem? (i := 213) rfl) rfl
theorem wd_214 : (Jvm.Cond.static ({ cls := "WireMoney$Net", name := "cell", desc := "(II)I" } : Jvm.MethodName)) ∈ x_all := x_in1 (List.mem_of_getElem? (i := 214) rfl) rfl
theorem wd_215 : (Jvm.Cond.code ({ cls := "WireMoney$Net", name := "cell", desc := "(II)I" } : Jvm.MethodName) prog_5_method_10_code (2 : Nat) (Option.some Jvm.ClassFile.FieldType.int)) ∈ x_all := x_in1 (List.mem_of_getElem? (i := 215) rfl) rfl
theorem wd_216 : (Jvm.Cond.methodLink "WireMoney$Net" (54 : Nat) ({ cls := "WireMoney$Net", name := "noteStraight", desc := "(ILWireMoney$Wire;)V" } : Jvm.MethodName)) ∈ x_all := x_in1 (List.mem_of_getElem? (i := 216) rfl) rfl
theorem wd_218 : (Jvm.Cond.instanceMethod ({ cls := "WireMoney$Net", name := "noteStraight", desc := "(ILWireMoney$Wire;)V" } : Jvm.MethodName)) ∈ x_all := x_in1 (List.mem_of_getElem? (i := 218) rfl) rfl
theorem wd_219 : (Jvm.Cond.code ({ cls := "WireMoney$Net", name := "noteStraight", desc := "(ILWireMoney$Wire;)V" } : Jvm.MethodName) prog_5_method_13_code (4 : Nat) (Option.none : Option Jvm.ClassFile.FieldType)) ∈ x_all := x_in1 (List.mem_of_getElem? (i := 219) rfl) rfl
theorem wd_220 : (Jvm.Cond.methodLink "WireMoney$Net" (89 : Nat) ({ cls := "WireMoney$Net", name := "isCell", desc := "(I)Z" } : Jvm.MethodName)) ∈ x_all := x_in1 (List.mem_of_getElem? (i := 220) rfl) rfl
theorem wd_221 : (Jvm.Cond.static ({ cls := "WireMoney$Net", name := "isCell", desc := "(I)Z" } : Jvm.MethodName)) ∈ x_all := x_in1 (List.mem_of_getElem? (i := 221) rfl) rfl
theorem wd_222 : (Jvm.Cond.code ({ cls := "WireMoney$Net", name := "isCell", desc := "(I)Z" } : Jvm.MethodName) prog_5_method_11_code (1 : Nat) (Option.some Jvm.ClassFile.FieldType.boolean)) ∈ x_all := x_in1 (List.mem_of_getElem? (i := 222) rfl) rfl
theorem wd_223 : (Jvm.Cond.methodLink "WireMoney$Net" (58 : Nat) ({ cls := "WireMoney$Net", name := "shortenBy", desc := "(III)V" } : Jvm.MethodName)) ∈ x_all := x_in1 (List.mem_of_getElem? (i := 223) rfl) rfl
theorem wd_225 : (Jvm.Cond.instanceMethod ({ cls := "WireMoney$Net", name := "shortenBy", desc := "(III)V" } : Jvm.MethodName)) ∈ x_all := x_in1 (List.mem_of_getElem? (i := 225) rfl) rfl
theorem wd_226 : (Jvm.Cond.code ({ cls := "WireMoney$Net", name := "shortenBy", desc := "(III)V" } : Jvm.MethodName) prog_5_method_14_code (9 : Nat) (Option.none : Option Jvm.ClassFile.FieldType)) ∈ x_all := x_in1 (List.mem_of_getElem? (i := 226) rfl) rfl
theorem wd_227 : (Jvm.Cond.methodLink "WireMoney$Net" (69 : Nat) ({ cls := "WireMoney$Net", name := "leastOf", desc := "(II)I" } : Jvm.MethodName)) ∈ x_all := x_in1 (List.mem_of_getElem? (i := 227) rfl) rfl
theorem wd_229 : (Jvm.Cond.instanceMethod ({ cls := "WireMoney$Net", name := "leastOf", desc := "(II)I" } : Jvm.MethodName)) ∈ x_all := x_in1 (List.mem_of_getElem? (i := 229) rfl) rfl
theorem wd_230 : (Jvm.Cond.code ({ cls := "WireMoney$Net", name := "leastOf", desc := "(II)I" } : Jvm.MethodName) prog_5_method_12_code (4 : Nat) (Option.some Jvm.ClassFile.FieldType.int)) ∈ x_all := x_in1 (List.mem_of_getElem? (i := 230) rfl) rfl
theorem wd_231 : (Jvm.Cond.methodLink "WireMoney$Net" (96 : Nat) ({ cls := "java/lang/Math", name := "min", desc := "(II)I" } : Jvm.MethodName)) ∈ x_all := x_in1 (List.mem_of_getElem? (i := 231) rfl) rfl
theorem wd_232 : (Jvm.Cond.static ({ cls := "java/lang/Math", name := "min", desc := "(II)I" } : Jvm.MethodName)) ∈ x_all := x_in1 (List.mem_of_getElem? (i := 232) rfl) rfl
theorem wd_233 : (Jvm.Cond.code ({ cls := "java/lang/Math", name := "min", desc := "(II)I" } : Jvm.MethodName) prog_12_method_69_code (2 : Nat) (Option.some Jvm.ClassFile.FieldType.int)) ∈ x_all := x_in1 (List.mem_of_getElem? (i := 233) rfl) rfl
theorem wd_234 : (Jvm.Cond.methodLink "WireMoney$Net" (62 : Nat) ({ cls := "WireMoney$Net", name := "layWays", desc := "()V" } : Jvm.MethodName)) ∈ x_all := x_in1 (List.mem_of_getElem? (i := 234) rfl) rfl
theorem wd_236 : (Jvm.Cond.instanceMethod ({ cls := "WireMoney$Net", name := "layWays", desc := "()V" } : Jvm.MethodName)) ∈ x_all := x_in1 (List.mem_of_getElem? (i := 236) rfl) rfl
theorem wd_237 : (Jvm.Cond.code ({ cls := "WireMoney$Net", name := "layWays", desc := "()V" } : Jvm.MethodName) prog_5_method_15_code (2 : Nat) (Option.none : Option Jvm.ClassFile.FieldType)) ∈ x_all := x_in1 (List.mem_of_getElem? (i := 237) rfl) rfl
theorem wd_238 : (Jvm.Cond.methodLink "WireMoney$Net" (101 : Nat) ({ cls := "WireMoney$Net", name := "findFirstWire", desc := "(II)LWireMoney$Wire;" } : Jvm.MethodName)) ∈ x_all := x_in1 (List.mem_of_getElem? (i := 238) rfl) rfl
theorem wd_240 : (Jvm.Cond.instanceMethod ({ cls := "WireMoney$Net", name := "findFirstWire", desc := "(II)LWireMoney$Wire;" } : Jvm.MethodName)) ∈ x_all := x_in2 (List.mem_of_getElem? (i := 0) rfl) rfl
theorem wd_241 : (Jvm.Cond.code ({ cls := "WireMoney$Net", name := "findFirstWire", desc := "(II)LWireMoney$Wire;" } : Jvm.MethodName) prog_5_method_16_code (7 : Nat) (Option.some (Jvm.ClassFile.FieldType.object "WireMoney$Wire"))) ∈ x_all := x_in2 (List.mem_of_getElem? (i := 1) rfl) rfl
theorem wd_242 : (Jvm.Cond.methodLink "WireMoneyLaw" (22 : Nat) ({ cls := "WireMoney", name := "down", desc := "(III)Z" } : Jvm.MethodName)) ∈ x_all := x_in2 (List.mem_of_getElem? (i := 2) rfl) rfl
theorem wd_243 : (Jvm.Cond.instanceMethod ({ cls := "WireMoney", name := "down", desc := "(III)Z" } : Jvm.MethodName)) ∈ x_all := x_in2 (List.mem_of_getElem? (i := 3) rfl) rfl
theorem wd_244 : (Jvm.Cond.selects "WireMoney" ({ cls := "WireMoney", name := "down", desc := "(III)Z" } : Jvm.MethodName) ({ cls := "WireMoney", name := "down", desc := "(III)Z" } : Jvm.MethodName)) ∈ x_all := x_in2 (List.mem_of_getElem? (i := 4) rfl) rfl
theorem wd_245 : (Jvm.Cond.code ({ cls := "WireMoney", name := "down", desc := "(III)Z" } : Jvm.MethodName) prog_1_method_4_code (5 : Nat) (Option.some Jvm.ClassFile.FieldType.boolean)) ∈ x_all := x_in2 (List.mem_of_getElem? (i := 5) rfl) rfl
theorem wd_246 : (Jvm.Cond.methodLink "WireMoney" (56 : Nat) ({ cls := "WireMoney$Net", name := "findWire", desc := "(I)LWireMoney$Wire;" } : Jvm.MethodName)) ∈ x_all := x_in2 (List.mem_of_getElem? (i := 6) rfl) rfl
theorem wd_247 : (Jvm.Cond.instanceMethod ({ cls := "WireMoney$Net", name := "findWire", desc := "(I)LWireMoney$Wire;" } : Jvm.MethodName)) ∈ x_all := x_in2 (List.mem_of_getElem? (i := 7) rfl) rfl
theorem wd_248 : (Jvm.Cond.selects "WireMoney$Net" ({ cls := "WireMoney$Net", name := "findWire", desc := "(I)LWireMoney$Wire;" } : Jvm.MethodName) ({ cls := "WireMoney$Net", name := "findWire", desc := "(I)LWireMoney$Wire;" } : Jvm.MethodName)) ∈ x_all := x_in2 (List.mem_of_getElem? (i := 8) rfl) rfl
theorem wd_249 : (Jvm.Cond.code ({ cls := "WireMoney$Net", name := "findWire", desc := "(I)LWireMoney$Wire;" } : Jvm.MethodName) prog_5_method_3_code (2 : Nat) (Option.some (Jvm.ClassFile.FieldType.object "WireMoney$Wire"))) ∈ x_all := x_in2 (List.mem_of_getElem? (i := 9) rfl) rfl
theorem wd_250 : (Jvm.Cond.methodLink "WireMoneyLaw" (27 : Nat) ({ cls := "WireMoney", name := "least", desc := "(II)I" } : Jvm.MethodName)) ∈ x_all := x_in2 (List.mem_of_getElem? (i := 10) rfl) rfl
theorem wd_251 : (Jvm.Cond.instanceMethod ({ cls := "WireMoney", name := "least", desc := "(II)I" } : Jvm.MethodName)) ∈ x_all := x_in2 (List.mem_of_getElem? (i := 11) rfl) rfl
theorem wd_252 : (Jvm.Cond.selects "WireMoney" ({ cls := "WireMoney", name := "least", desc := "(II)I" } : Jvm.MethodName) ({ cls := "WireMoney", name := "least", desc := "(II)I" } : Jvm.MethodName)) ∈ x_all := x_in2 (List.mem_of_getElem? (i := 12) rfl) rfl
theorem wd_253 : (Jvm.Cond.code ({ cls := "WireMoney", name := "least", desc := "(II)I" } : Jvm.MethodName) prog_1_method_5_code (5 : Nat) (Option.some Jvm.ClassFile.FieldType.int)) ∈ x_all := x_in2 (List.mem_of_getElem? (i := 13) rfl) rfl
theorem wd_254 : (Jvm.Cond.methodLink "WireMoney" (71 : Nat) ({ cls := "WireMoney$Net", name := "hasWay", desc := "(LWireMoney$Counter;LWireMoney$Counter;)Z" } : Jvm.MethodName)) ∈ x_all := x_in2 (List.mem_of_getElem? (i := 14) rfl) rfl
theorem wd_255 : (Jvm.Cond.instanceMethod ({ cls := "WireMoney$Net", name := "hasWay", desc := "(LWireMoney$Counter;LWireMoney$Counter;)Z" } : Jvm.MethodName)) ∈ x_all := x_in2 (List.mem_of_getElem? (i := 15) rfl) rfl
theorem wd_256 : (Jvm.Cond.selects "WireMoney$Net" ({ cls := "WireMoney$Net", name := "hasWay", desc := "(LWireMoney$Counter;LWireMoney$Counter;)Z" } : Jvm.MethodName) ({ cls := "WireMoney$Net", name := "hasWay", desc := "(LWireMoney$Counter;LWireMoney$Counter;)Z" } : Jvm.MethodName)) ∈ x_all := x_in2 (List.mem_of_getElem? (i := 16) rfl) rfl
theorem wd_257 : (Jvm.Cond.code ({ cls := "WireMoney$Net", name := "hasWay", desc := "(LWireMoney$Counter;LWireMoney$Counter;)Z" } : Jvm.MethodName) prog_5_method_6_code (3 : Nat) (Option.some Jvm.ClassFile.FieldType.boolean)) ∈ x_all := x_in2 (List.mem_of_getElem? (i := 17) rfl) rfl
theorem wd_258 : (Jvm.Cond.methodLink "WireMoney$Net" (65 : Nat) ({ cls := "WireMoney$Net", name := "minutesBetween", desc := "(LWireMoney$Counter;LWireMoney$Counter;)I" } : Jvm.MethodName)) ∈ x_all := x_in2 (List.mem_of_getElem? (i := 18) rfl) rfl
theorem wd_259 : (Jvm.Cond.instanceMethod ({ cls := "WireMoney$Net", name := "minutesBetween", desc := "(LWireMoney$Counter;LWireMoney$Counter;)I" } : Jvm.MethodName)) ∈ x_all := x_in2 (List.mem_of_getElem? (i := 19) rfl) rfl
theorem wd_260 : (Jvm.Cond.selects "WireMoney$Net" ({ cls := "WireMoney$Net", name := "minutesBetween", desc := "(LWireMoney$Counter;LWireMoney$Counter;)I" } : Jvm.MethodName) ({ cls := "WireMoney$Net", name := "minutesBetween", desc := "(LWireMoney$Counter;LWireMoney$Counter;)I" } : Jvm.MethodName)) ∈ x_all := x_in2 (List.mem_of_getElem? (i := 20) rfl) rfl
theorem wd_261 : (Jvm.Cond.code ({ cls := "WireMoney$Net", name := "minutesBetween", desc := "(LWireMoney$Counter;LWireMoney$Counter;)I" } : Jvm.MethodName) prog_5_method_7_code (3 : Nat) (Option.some Jvm.ClassFile.FieldType.int)) ∈ x_all := x_in2 (List.mem_of_getElem? (i := 21) rfl) rfl
theorem wd_262 : (Jvm.Cond.methodLink "WireMoney" (75 : Nat) ({ cls := "WireMoney$Net", name := "minutesBetween", desc := "(LWireMoney$Counter;LWireMoney$Counter;)I" } : Jvm.MethodName)) ∈ x_all := x_in2 (List.mem_of_getElem? (i := 22) rfl) rfl
theorem wd_263 : (Jvm.Cond.methodLink "WireMoneyLaw" (32 : Nat) ({ cls := "WireMoney", name := "band", desc := "(II)Z" } : Jvm.MethodName)) ∈ x_all := x_in2 (List.mem_of_getElem? (i := 23) rfl) rfl
theorem wd_264 : (Jvm.Cond.instanceMethod ({ cls := "WireMoney", name := "band", desc := "(II)Z" } : Jvm.MethodName)) ∈ x_all := x_in2 (List.mem_of_getElem? (i := 24) rfl) rfl
theorem wd_265 : (Jvm.Cond.selects "WireMoney" ({ cls := "WireMoney", name := "band", desc := "(II)Z" } : Jvm.MethodName) ({ cls := "WireMoney", name := "band", desc := "(II)Z" } : Jvm.MethodName)) ∈ x_all := x_in2 (List.mem_of_getElem? (i := 25) rfl) rfl
theorem wd_266 : (Jvm.Cond.code ({ cls := "WireMoney", name := "band", desc := "(II)Z" } : Jvm.MethodName) prog_1_method_6_code (3 : Nat) (Option.some Jvm.ClassFile.FieldType.boolean)) ∈ x_all := x_in2 (List.mem_of_getElem? (i := 26) rfl) rfl
theorem wd_267 : (Jvm.Cond.constant "WireMoney" (79 : Nat) (99999 : Int32)) ∈ x_all := x_in2 (List.mem_of_getElem? (i := 27) rfl) rfl
theorem wd_268 : (Jvm.Cond.methodLink "WireMoney" (80 : Nat) ({ cls := "WireMoney$Bands", name := "add", desc := "(II)Z" } : Jvm.MethodName)) ∈ x_all := x_in2 (List.mem_of_getElem? (i := 28) rfl) rfl
theorem wd_269 : (Jvm.Cond.instanceMethod ({ cls := "WireMoney$Bands", name := "add", desc := "(II)Z" } : Jvm.MethodName)) ∈ x_all := x_in2 (List.mem_of_getElem? (i := 29) rfl) rfl
theorem wd_270 : (Jvm.Cond.selects "WireMoney$Bands" ({ cls := "WireMoney$Bands", name := "add", desc := "(II)Z" } : Jvm.MethodName) ({ cls := "WireMoney$Bands", name := "add", desc := "(II)Z" } : Jvm.MethodName)) ∈ x_all := x_in2 (List.mem_of_getElem? (i := 30) rfl) rfl
theorem wd_271 : (Jvm.Cond.code ({ cls := "WireMoney$Bands", name := "add", desc := "(II)Z" } : Jvm.MethodName) prog_2_method_2_code (3 : Nat) (Option.some Jvm.ClassFile.FieldType.boolean)) ∈ x_all := x_in2 (List.mem_of_getElem? (i := 31) rfl) rfl
theorem wd_272 : (Jvm.Cond.methodLink "WireMoney$Bands" (22 : Nat) ({ cls := "WireMoney$Bands", name := "highestBound", desc := "()I" } : Jvm.MethodName)) ∈ x_all := x_in2 (List.mem_of_getElem? (i := 32) rfl) rfl
theorem wd_274 : (Jvm.Cond.instanceMethod ({ cls := "WireMoney$Bands", name := "highestBound", desc := "()I" } : Jvm.MethodName)) ∈ x_all := x_in2 (List.mem_of_getElem? (i := 34) rfl) rfl
theorem wd_275 : (Jvm.Cond.code ({ cls := "WireMoney$Bands", name := "highestBound", desc := "()I" } : Jvm.MethodName) prog_2_method_4_code (1 : Nat) (Option.some Jvm.ClassFile.FieldType.int)) ∈ x_all := x_in2 (List.mem_of_getElem? (i := 35) rfl) rfl
theorem wd_276 : (Jvm.Cond.methodLink "WireMoneyLaw" (37 : Nat) ({ cls := "WireMoney", name := "fee", desc := "(I)I" } : Jvm.MethodName)) ∈ x_all := x_in2 (List.mem_of_getElem? (i := 36) rfl) rfl
theorem wd_277 : (Jvm.Cond.instanceMethod ({ cls := "WireMoney", name := "fee", desc := "(I)I" } : Jvm.MethodName)) ∈ x_all := x_in2 (List.mem_of_getElem? (i := 37) rfl) rfl
theorem wd_278 : (Jvm.Cond.selects "WireMoney" ({ cls := "WireMoney", name := "fee", desc := "(I)I" } : Jvm.MethodName) ({ cls := "WireMoney", name := "fee", desc := "(I)I" } : Jvm.MethodName)) ∈ x_all := x_in2 (List.mem_of_getElem? (i := 38) rfl) rfl
theorem wd_279 : (Jvm.Cond.code ({ cls := "WireMoney", name := "fee", desc := "(I)I" } : Jvm.MethodName) prog_1_method_7_code (2 : Nat) (Option.some Jvm.ClassFile.FieldType.int)) ∈ x_all := x_in2 (List.mem_of_getElem? (i := 39) rfl) rfl
theorem wd_280 : (Jvm.Cond.methodLink "WireMoney" (84 : Nat) ({ cls := "WireMoney$Bands", name := "feeOf", desc := "(I)I" } : Jvm.MethodName)) ∈ x_all := x_in2 (List.mem_of_getElem? (i := 40) rfl) rfl
theorem wd_281 : (Jvm.Cond.instanceMethod ({ cls := "WireMoney$Bands", name := "feeOf", desc := "(I)I" } : Jvm.MethodName)) ∈ x_all := x_in2 (List.mem_of_getElem? (i := 41) rfl) rfl
theorem wd_282 : (Jvm.Cond.selects "WireMoney$Bands" ({ cls := "WireMoney$Bands", name := "feeOf", desc := "(I)I" } : Jvm.MethodName) ({ cls := "WireMoney$Bands", name := "feeOf", desc := "(I)I" } : Jvm.MethodName)) ∈ x_all := x_in2 (List.mem_of_getElem? (i := 42) rfl) rfl
theorem wd_283 : (Jvm.Cond.code ({ cls := "WireMoney$Bands", name := "feeOf", desc := "(I)I" } : Jvm.MethodName) prog_2_method_3_code (3 : Nat) (Option.some Jvm.ClassFile.FieldType.int)) ∈ x_all := x_in2 (List.mem_of_getElem? (i := 43) rfl) rfl
theorem wd_284 : (Jvm.Cond.methodLink "WireMoney$Bands" (26 : Nat) ({ cls := "java/lang/Math", name := "max", desc := "(II)I" } : Jvm.MethodName)) ∈ x_all := x_in2 (List.mem_of_getElem? (i := 44) rfl) rfl
theorem wd_285 : (Jvm.Cond.static ({ cls := "java/lang/Math", name := "max", desc := "(II)I" } : Jvm.MethodName)) ∈ x_all := x_in2 (List.mem_of_getElem? (i := 45) rfl) rfl
theorem wd_286 : (Jvm.Cond.code ({ cls := "java/lang/Math", name := "max", desc := "(II)I" } : Jvm.MethodName) prog_12_method_65_code (2 : Nat) (Option.some Jvm.ClassFile.FieldType.int)) ∈ x_all := x_in2 (List.mem_of_getElem? (i := 46) rfl) rfl
theorem wd_287 : (Jvm.Cond.methodLink "WireMoneyLaw" (42 : Nat) ({ cls := "WireMoney", name := "order", desc := "(IIII)I" } : Jvm.MethodName)) ∈ x_all := x_in2 (List.mem_of_getElem? (i := 47) rfl) rfl
theorem wd_288 : (Jvm.Cond.instanceMethod ({ cls := "WireMoney", name := "order", desc := "(IIII)I" } : Jvm.MethodName)) ∈ x_all := x_in2 (List.mem_of_getElem? (i := 48) rfl) rfl
theorem wd_289 : (Jvm.Cond.selects "WireMoney" ({ cls := "WireMoney", name := "order", desc := "(IIII)I" } : Jvm.MethodName) ({ cls := "WireMoney", name := "order", desc := "(IIII)I" } : Jvm.MethodName)) ∈ x_all := x_in2 (List.mem_of_getElem? (i := 49) rfl) rfl
theorem wd_290 : (Jvm.Cond.code ({ cls := "WireMoney", name := "order", desc := "(IIII)I" } : Jvm.MethodName) prog_1_method_8_code (8 : Nat) (Option.some Jvm.ClassFile.FieldType.int)) ∈ x_all := x_in2 (List.mem_of_getElem? (i := 50) rfl) rfl
theorem wd_291 : (Jvm.Cond.methodLink "WireMoney" (88 : Nat) ({ cls := "WireMoney$Counter", name := "isOpen", desc := "(I)Z" } : Jvm.MethodName)) ∈ x_all := x_in2 (List.mem_of_getElem? (i := 51) rfl) rfl
theorem wd_292 : (Jvm.Cond.instanceMethod ({ cls := "WireMoney$Counter", name := "isOpen", desc := "(I)Z" } : Jvm.MethodName)) ∈ x_all := x_in2 (List.mem_of_getElem? (i := 52) rfl) rfl
theorem wd_293 : (Jvm.Cond.selects "WireMoney$Counter" ({ cls := "WireMoney$Counter", name := "isOpen", desc := "(I)Z" } : Jvm.MethodName) ({ cls := "WireMoney$Counter", name := "isOpen", desc := "(I)Z" } : Jvm.MethodName)) ∈ x_all := x_in2 (List.mem_of_getElem? (i := 53) rfl) rfl
theorem wd_294 : (Jvm.Cond.code ({ cls := "WireMoney$Counter", name := "isOpen", desc := "(I)Z" } : Jvm.MethodName) prog_3_method_2_code (3 : Nat) (Option.some Jvm.ClassFile.FieldType.boolean)) ∈ x_all := x_in2 (List.mem_of_getElem? (i := 54) rfl) rfl
theorem wd_295 : (Jvm.Cond.methodLink "WireMoney" (97 : Nat) ({ cls := "WireMoney", name := "canWrite", desc := "()Z" } : Jvm.MethodName)) ∈ x_all := x_in2 (List.mem_of_getElem? (i := 55) rfl) rfl
theorem wd_297 : (Jvm.Cond.instanceMethod ({ cls := "WireMoney", name := "canWrite", desc := "()Z" } : Jvm.MethodName)) ∈ x_all := x_in2 (List.mem_of_getElem? (i := 57) rfl) rfl
theorem wd_298 : (Jvm.Cond.code ({ cls := "WireMoney", name := "canWrite", desc := "()Z" } : Jvm.MethodName) prog_1_method_23_code (1 : Nat) (Option.some Jvm.ClassFile.FieldType.boolean)) ∈ x_all := x_in2 (List.mem_of_getElem? (i := 58) rfl) rfl
theorem wd_299 : (Jvm.Cond.instantiable "WireMoney$Order" (13 : Nat)) ∈ x_all := x_in2 (List.mem_of_getElem? (i := 59) rfl) rfl
theorem wd_300 : (Jvm.Cond.methodLink "WireMoney" (101 : Nat) ({ cls := "WireMoney$Order", name := "<init>", desc := "(ILWireMoney$Counter;LWireMoney$Counter;II)V" } : Jvm.MethodName)) ∈ x_all := x_in2 (List.mem_of_getElem? (i := 60) rfl) rfl
theorem wd_301 : (Jvm.Cond.instanceMethod ({ cls := "WireMoney$Order", name := "<init>", desc := "(ILWireMoney$Counter;LWireMoney$Counter;II)V" } : Jvm.MethodName)) ∈ x_all := x_in2 (List.mem_of_getElem? (i := 61) rfl) rfl
theorem wd_302 : (Jvm.Cond.code ({ cls := "WireMoney$Order", name := "<init>", desc := "(ILWireMoney$Counter;LWireMoney$Counter;II)V" } : Jvm.MethodName) prog_6_method_1_code (6 : Nat) (Option.none : Option Jvm.ClassFile.FieldType)) ∈ x_all := x_in2 (List.mem_of_getElem? (i := 62) rfl) rfl
theorem wd_303 : (Jvm.Cond.methodLink "WireMoney$Order" (3 : Nat) ({ cls := "java/lang/Object", name := "<init>", desc := "()V" } : Jvm.MethodName)) ∈ x_all := x_in2 (List.mem_of_getElem? (i := 63) rfl) rfl
theorem wd_304 : (Jvm.Cond.fieldLink "WireMoney$Order" (9 : Nat) "WireMoney$Order" "number" "I") ∈ x_all := x_in2 (List.mem_of_getElem? (i := 64) rfl) rfl
theorem wd_305 : (Jvm.Cond.fieldLink "WireMoney$Signs" (19 : Nat) "WireMoney$Order" "number" "I") ∈ x_all := x_in2 (List.mem_of_getElem? (i := 65) rfl) rfl
theorem wd_306 : (Jvm.Cond.fieldLink "WireMoney" (117 : Nat) "WireMoney$Order" "number" "I") ∈ x_all := x_in2 (List.mem_of_getElem? (i := 66) rfl) rfl
theorem wd_307 : (Jvm.Cond.fieldLink "WireMoney$Order" (15 : Nat) "WireMoney$Order" "from" "LWireMoney$Counter;") ∈ x_all := x_in2 (List.mem_of_getElem? (i := 67) rfl) rfl
theorem wd_308 : (Jvm.Cond.fieldLink "WireMoney$Message" (25 : Nat) "WireMoney$Order" "from" "LWireMoney$Counter;") ∈ x_all := x_in2 (List.mem_of_getElem? (i := 68) rfl) rfl
theorem wd_309 : (Jvm.Cond.fieldLink "WireMoney" (128 : Nat) "WireMoney$Order" "from" "LWireMoney$Counter;") ∈ x_all := x_in2 (List.mem_of_getElem? (i := 69) rfl) rfl
theorem wd_310 : (Jvm.Cond.fieldLink "WireMoney$Order" (19 : Nat) "WireMoney$Order" "to" "LWireMoney$Counter;") ∈ x_all := x_in2 (List.mem_of_getElem? (i := 70) rfl) rfl
theorem wd_311 : (Jvm.Cond.fieldLink "WireMoney$Message" (19 : Nat) "WireMoney$Order" "to" "LWireMoney$Counter;") ∈ x_all := x_in2 (List.mem_of_getElem? (i := 71) rfl) rfl
theorem wd_312 : (Jvm.Cond.fieldLink "WireMoney" (132 : Nat) "WireMoney$Order" "to" "LWireMoney$Counter;") ∈ x_all := x_in2 (List.mem_of_getElem? (i := 72) rfl) rfl
theorem wd_313 : (Jvm.Cond.fieldLink "WireMoney$Order" (22 : Nat) "WireMoney$Order" "sum" "I") ∈ x_all := x_in2 (List.mem_of_getElem? (i := 73) rfl) rfl
theorem wd_314 : (Jvm.Cond.fieldLink "WireMoney$Signs" (26 : Nat) "WireMoney$Order" "sum" "I") ∈ x_all := x_in2 (List.mem_of_getElem? (i := 74) rfl) rfl
theorem wd_315 : (Jvm.Cond.fieldLink "WireMoney" (150 : Nat) "WireMoney$Order" "sum" "I") ∈ x_all := x_in2 (List.mem_of_getElem? (i := 75) rfl) rfl
theorem wd_316 : (Jvm.Cond.fieldLink "WireMoney$Order" (25 : Nat) "WireMoney$Order" "word" "I") ∈ x_all := x_in2 (List.mem_of_getElem? (i := 76) rfl) rfl
theorem wd_317 : (Jvm.Cond.fieldLink "WireMoney$Signs" (31 : Nat) "WireMoney$Order" "word" "I") ∈ x_all := x_in2 (List.mem_of_getElem? (i := 77) rfl) rfl
theorem wd_318 : (Jvm.Cond.fieldLink "WireMoney" (147 : Nat) "WireMoney$Order" "word" "I") ∈ x_all := x_in2 (List.mem_of_getElem? (i := 78) rfl) rfl
theorem wd_319 : (Jvm.Cond.fieldLink "WireMoney" (104 : Nat) "WireMoney$Order" "fee" "I") ∈ x_all := x_in2 (List.mem_of_getElem? (i := 79) rfl) rfl
theorem wd_320 : (Jvm.Cond.fieldLink "WireMoney$Order" (31 : Nat) "WireMoney$Order" "known" "Z") ∈ x_all := x_in2 (List.mem_of_getElem? (i := 80) rfl) rfl
theorem wd_321 : (Jvm.Cond.fieldLink "WireMoney" (138 : Nat) "WireMoney$Order" "known" "Z") ∈ x_all := x_in2 (List.mem_of_getElem? (i := 81) rfl) rfl
theorem wd_322 : (Jvm.Cond.fieldLink "WireMoney$Order" (35 : Nat) "WireMoney$Order" "paid" "Z") ∈ x_all := x_in2 (List.mem_of_getElem? (i := 82) rfl) rfl
theorem wd_323 : (Jvm.Cond.fieldLink "WireMoney" (141 : Nat) "WireMoney$Order" "paid" "Z") ∈ x_all := x_in2 (List.mem_of_getElem? (i := 83) rfl) rfl
theorem wd_324 : (Jvm.Cond.fieldLink "WireMoney$Order" (38 : Nat) "WireMoney$Order" "stopped" "Z") ∈ x_all := x_in2 (List.mem_of_getElem? (i := 84) rfl) rfl
theorem wd_325 : (Jvm.Cond.fieldLink "WireMoney" (144 : Nat) "WireMoney$Order" "stopped" "Z") ∈ x_all := x_in2 (List.mem_of_getElem? (i := 85) rfl) rfl
theorem wd_326 : (Jvm.Cond.fieldLink "WireMoney" (218 : Nat) "WireMoney$Order" "paidBack" "Z") ∈ x_all := x_in2 (List.mem_of_getElem? (i := 86) rfl) rfl
theorem wd_327 : (Jvm.Cond.fieldLink "WireMoney" (124 : Nat) "WireMoney$Order" "stopWritten" "Z") ∈ x_all := x_in2 (List.mem_of_getElem? (i := 87) rfl) rfl
theorem wd_328 : (Jvm.Cond.fieldLink "WireMoney$Order" (28 : Nat) "WireMoney$Order" "paidAt" "I") ∈ x_all := x_in2 (List.mem_of_getElem? (i := 88) rfl) rfl
theorem wd_329 : (Jvm.Cond.fieldLink "WireMoney" (221 : Nat) "WireMoney$Order" "paidAt" "I") ∈ x_all := x_in2 (List.mem_of_getElem? (i := 89) rfl) rfl
theorem wd_330 : (Jvm.Cond.fieldLink "WireMoney" (224 : Nat) "WireMoney$Order" "paymentCount" "I") ∈ x_all := x_in2 (List.mem_of_getElem? (i := 90) rfl) rfl
theorem wd_358 : (Jvm.Cond.methodLink "WireMoney" (113 : Nat) ({ cls := "WireMoney", name := "write", desc := "(ILWireMoney$Order;)V" } : Jvm.MethodName)) ∈ x_all := x_in2 (List.mem_of_getElem? (i := 118) rfl) rfl
theorem wd_360 : (Jvm.Cond.instanceMethod ({ cls := "WireMoney", name := "write", desc := "(ILWireMoney$Order;)V" } : Jvm.MethodName)) ∈ x_all := x_in2 (List.mem_of_getElem? (i := 120) rfl) rfl
theorem wd_361 : (Jvm.Cond.code ({ cls := "WireMoney", name := "write", desc := "(ILWireMoney$Order;)V" } : Jvm.MethodName) prog_1_method_27_code (6 : Nat) (Option.none : Option Jvm.ClassFile.FieldType)) ∈ x_all := x_in2 (List.mem_of_getElem? (i := 121) rfl) rfl
theorem wd_362 : (Jvm.Cond.classLink "WireMoney" (173 : Nat) "WireMoney$Signs") ∈ x_all := x_in2 (List.mem_of_getElem? (i := 122) rfl) rfl
theorem wd_363 : (Jvm.Cond.instantiable "WireMoney$Signs" (4 : Nat)) ∈ x_all := x_in2 (List.mem_of_getElem? (i := 123) rfl) rfl
theorem wd_364 : (Jvm.Cond.methodLink "WireMoney" (259 : Nat) ({ cls := "WireMoney$Signs", name := "<init>", desc := "(LWireMoney$Order;I)V" } : Jvm.MethodName)) ∈ x_all := x_in2 (List.mem_of_getElem? (i := 124) rfl) rfl
theorem wd_365 : (Jvm.Cond.instanceMethod ({ cls := "WireMoney$Signs", name := "<init>", desc := "(LWireMoney$Order;I)V" } : Jvm.MethodName)) ∈ x_all := x_in2 (List.mem_of_getElem? (i := 125) rfl) rfl
theorem wd_366 : (Jvm.Cond.code ({ cls := "WireMoney$Signs", name := "<init>", desc := "(LWireMoney$Order;I)V" } : Jvm.MethodName) prog_8_method_1_code (6 : Nat) (Option.none : Option Jvm.ClassFile.FieldType)) ∈ x_all := x_in2 (List.mem_of_getElem? (i := 126) rfl) rfl
theorem wd_367 : (Jvm.Cond.methodLink "WireMoney$Signs" (3 : Nat) ({ cls := "java/lang/Object", name := "<init>", desc := "()V" } : Jvm.MethodName)) ∈ x_all := x_in2 (List.mem_of_getElem? (i := 127) rfl) rfl
theorem wd_368 : (Jvm.Cond.constantLong "WireMoney$Signs" (24 : Nat) (100000 : Int64)) ∈ x_all := x_in2 (List.mem_of_getElem? (i := 128) rfl) rfl
theorem wd_369 : (Jvm.Cond.constantLong "WireMoney$Signs" (29 : Nat) (10000 : Int64)) ∈ x_all := x_in2 (List.mem_of_getElem? (i := 129) rfl) rfl
theorem wd_370 : (Jvm.Cond.constantLong "WireMoney$Signs" (34 : Nat) (10 : Int64)) ∈ x_all := x_in2 (List.mem_of_getElem? (i := 130) rfl) rfl
theorem wd_371 : (Jvm.Cond.methodLink "WireMoney$Signs" (36 : Nat) ({ cls := "WireMoney$Signs", name := "testOf", desc := "([II)I" } : Jvm.MethodName)) ∈ x_all := x_in2 (List.mem_of_getElem? (i := 131) rfl) rfl
theorem wd_372 : (Jvm.Cond.static ({ cls := "WireMoney$Signs", name := "testOf", desc := "([II)I" } : Jvm.MethodName)) ∈ x_all := x_in2 (List.mem_of_getElem? (i := 132) rfl) rfl
theorem wd_373 : (Jvm.Cond.code ({ cls := "WireMoney$Signs", name := "testOf", desc := "([II)I" } : Jvm.MethodName) prog_8_method_5_code (5 : Nat) (Option.some Jvm.ClassFile.FieldType.int)) ∈ x_all := x_in2 (List.mem_of_getElem? (i := 133) rfl) rfl
theorem wd_374 : (Jvm.Cond.fieldLink "WireMoney$Signs" (40 : Nat) "WireMoney$Signs" "test" "I") ∈ x_all := x_in2 (List.mem_of_getElem? (i := 134) rfl) rfl
theorem wd_375 : (Jvm.Cond.fieldLink "WireMoney" (189 : Nat) "WireMoney$Signs" "test" "I") ∈ x_all := x_in2 (List.mem_of_getElem? (i := 135) rfl) rfl
theorem wd_376 : (Jvm.Cond.fieldLink "WireMoney$Signs" (15 : Nat) "WireMoney$Signs" "digits" "[I") ∈ x_all := x_in2 (List.mem_of_getElem? (i := 136) rfl) rfl
theorem wd_377 : (Jvm.Cond.fieldLink "WireMoney$Signs" (9 : Nat) "WireMoney$Signs" "day" "I") ∈ x_all := x_in2 (List.mem_of_getElem? (i := 137) rfl) rfl
theorem wd_378 : (Jvm.Cond.fieldLink "WireMoney$Signs" (43 : Nat) "WireMoney$Signs" "changed" "Z") ∈ x_all := x_in2 (List.mem_of_getElem? (i := 138) rfl) rfl
theorem wd_388 : (Jvm.Cond.instantiable "WireMoney$Message" (11 : Nat)) ∈ x_all := x_in2 (List.mem_of_getElem? (i := 148) rfl) rfl
theorem wd_389 : (Jvm.Cond.methodLink "WireMoney" (262 : Nat) ({ cls := "WireMoney$Message", name := "<init>", desc := "(ILWireMoney$Order;ZLWireMoney$Signs;)V" } : Jvm.MethodName)) ∈ x_all := x_in2 (List.mem_of_getElem? (i := 149) rfl) rfl
theorem wd_390 : (Jvm.Cond.instanceMethod ({ cls := "WireMoney$Message", name := "<init>", desc := "(ILWireMoney$Order;ZLWireMoney$Signs;)V" } : Jvm.MethodName)) ∈ x_all := x_in2 (List.mem_of_getElem? (i := 150) rfl) rfl
theorem wd_391 : (Jvm.Cond.code ({ cls := "WireMoney$Message", name := "<init>", desc := "(ILWireMoney$Order;ZLWireMoney$Signs;)V" } : Jvm.MethodName) prog_4_method_1_code (5 : Nat) (Option.none : Option Jvm.ClassFile.FieldType)) ∈ x_all := x_in2 (List.mem_of_getElem? (i := 151) rfl) rfl
theorem wd_392 : (Jvm.Cond.methodLink "WireMoney$Message" (3 : Nat) ({ cls := "java/lang/Object", name := "<init>", desc := "()V" } : Jvm.MethodName)) ∈ x_all := x_in2 (List.mem_of_getElem? (i := 152) rfl) rfl
theorem wd_393 : (Jvm.Cond.fieldLink "WireMoney$Message" (9 : Nat) "WireMoney$Message" "kind" "I") ∈ x_all := x_in2 (List.mem_of_getElem? (i := 153) rfl) rfl
theorem wd_394 : (Jvm.Cond.fieldLink "WireMoney" (195 : Nat) "WireMoney$Message" "kind" "I") ∈ x_all := x_in2 (List.mem_of_getElem? (i := 154) rfl) rfl
theorem wd_395 : (Jvm.Cond.fieldLink "WireMoney$Message" (15 : Nat) "WireMoney$Message" "order" "LWireMoney$Order;") ∈ x_all := x_in2 (List.mem_of_getElem? (i := 155) rfl) rfl
theorem wd_396 : (Jvm.Cond.fieldLink "WireMoney" (198 : Nat) "WireMoney$Message" "order" "LWireMoney$Order;") ∈ x_all := x_in2 (List.mem_of_getElem? (i := 156) rfl) rfl
theorem wd_397 : (Jvm.Cond.fieldLink "WireMoney$Message" (28 : Nat) "WireMoney$Message" "from" "LWireMoney$Counter;") ∈ x_all := x_in2 (List.mem_of_getElem? (i := 157) rfl) rfl
theorem wd_398 : (Jvm.Cond.fieldLink "WireMoney" (202 : Nat) "WireMoney$Message" "from" "LWireMoney$Counter;") ∈ x_all := x_in2 (List.mem_of_getElem? (i := 158) rfl) rfl
theorem wd_399 : (Jvm.Cond.fieldLink "WireMoney$Message" (29 : Nat) "WireMoney$Message" "to" "LWireMoney$Counter;") ∈ x_all := x_in2 (List.mem_of_getElem? (i := 159) rfl) rfl
theorem wd_400 : (Jvm.Cond.fieldLink "WireMoney" (204 : Nat) "WireMoney$Message" "to" "LWireMoney$Counter;") ∈ x_all := x_in2 (List.mem_of_getElem? (i := 160) rfl) rfl
theorem wd_401 : (Jvm.Cond.fieldLink "WireMoney$Message" (30 : Nat) "WireMoney$Message" "signs" "LWireMoney$Signs;") ∈ x_all := x_in2 (List.mem_of_getElem? (i := 161) rfl) rfl
theorem wd_402 : (Jvm.Cond.fieldLink "WireMoney" (165 : Nat) "WireMoney$Message" "signs" "LWireMoney$Signs;") ∈ x_all := x_in2 (List.mem_of_getElem? (i := 162) rfl) rfl
theorem wd_403 : (Jvm.Cond.fieldLink "WireMoney$Message" (34 : Nat) "WireMoney$Message" "place" "LWireMoney$Counter;") ∈ x_all := x_in2 (List.mem_of_getElem? (i := 163) rfl) rfl
theorem wd_404 : (Jvm.Cond.fieldLink "WireMoney" (205 : Nat) "WireMoney$Message" "place" "LWireMoney$Counter;") ∈ x_all := x_in2 (List.mem_of_getElem? (i := 164) rfl) rfl
theorem wd_405 : (Jvm.Cond.fieldLink "WireMoney$Message" (43 : Nat) "WireMoney$Message" "heading" "LWireMoney$Counter;") ∈ x_all := x_in2 (List.mem_of_getElem? (i := 165) rfl) rfl
theorem wd_406 : (Jvm.Cond.fieldLink "WireMoney" (281 : Nat) "WireMoney$Message" "heading" "LWireMoney$Counter;") ∈ x_all := x_in2 (List.mem_of_getElem? (i := 166) rfl) rfl
theorem wd_407 : (Jvm.Cond.fieldLink "WireMoney$Message" (37 : Nat) "WireMoney$Message" "arrival" "I") ∈ x_all := x_in2 (List.mem_of_getElem? (i := 167) rfl) rfl
theorem wd_408 : (Jvm.Cond.fieldLink "WireMoney" (284 : Nat) "WireMoney$Message" "arrival" "I") ∈ x_all := x_in2 (List.mem_of_getElem? (i := 168) rfl) rfl
theorem wd_409 : (Jvm.Cond.fieldLink "WireMoney$Message" (40 : Nat) "WireMoney$Message" "readAt" "I") ∈ x_all := x_in2 (List.mem_of_getElem? (i := 169) rfl) rfl
theorem wd_410 : (Jvm.Cond.fieldLink "WireMoney" (208 : Nat) "WireMoney$Message" "readAt" "I") ∈ x_all := x_in2 (List.mem_of_getElem? (i := 170) rfl) rfl
theorem wd_411 : (Jvm.Cond.fieldLink "WireMoney" (211 : Nat) "WireMoney$Message" "garbled" "Z") ∈ x_all := x_in2 (List.mem_of_getElem? (i := 171) rfl) rfl
theorem wd_412 : (Jvm.Cond.fieldLink "WireMoney$Queue" (23 : Nat) "WireMoney$Message" "behind" "LWireMoney$Message;") ∈ x_all := x_in2 (List.mem_of_getElem? (i := 172) rfl) rfl
theorem wd_436 : (Jvm.Cond.methodLink "WireMoney" (265 : Nat) ({ cls := "WireMoney", name := "enqueue", desc := "(LWireMoney$Message;)V" } : Jvm.MethodName)) ∈ x_all := x_in2 (List.mem_of_getElem? (i := 196) rfl) rfl
theorem wd_438 : (Jvm.Cond.instanceMethod ({ cls := "WireMoney", name := "enqueue", desc := "(LWireMoney$Message;)V" } : Jvm.MethodName)) ∈ x_all := x_in2 (List.mem_of_getElem? (i := 198) rfl) rfl
theorem wd_439 : (Jvm.Cond.code ({ cls := "WireMoney", name := "enqueue", desc := "(LWireMoney$Message;)V" } : Jvm.MethodName) prog_1_method_28_code (3 : Nat) (Option.none : Option Jvm.ClassFile.FieldType)) ∈ x_all := x_in2 (List.mem_of_getElem? (i := 199) rfl) rfl
theorem wd_440 : (Jvm.Cond.methodLink "WireMoney" (269 : Nat) ({ cls := "WireMoney$Net", name := "nextWire", desc := "(LWireMoney$Counter;LWireMoney$Counter;)LWireMoney$Wire;" } : Jvm.MethodName)) ∈ x_all := x_in2 (List.mem_of_getElem? (i := 200) rfl) rfl
theorem wd_441 : (Jvm.Cond.instanceMethod ({ cls := "WireMoney$Net", name := "nextWire", desc := "(LWireMoney$Counter;LWireMoney$Counter;)LWireMoney$Wire;" } : Jvm.MethodName)) ∈ x_all := x_in2 (List.mem_of_getElem? (i := 201) rfl) rfl
theorem wd_442 : (Jvm.Cond.selects "WireMoney$Net" ({ cls := "WireMoney$Net", name := "nextWire", desc := "(LWireMoney$Counter;LWireMoney$Counter;)LWireMoney$Wire;" } : Jvm.MethodName) ({ cls := "WireMoney$Net", name := "nextWire", desc := "(LWireMoney$Counter;LWireMoney$Counter;)LWireMoney$Wire;" } : Jvm.MethodName)) ∈ x_all := x_in2 (List.mem_of_getElem? (i := 202) rfl) rfl
theorem wd_443 : (Jvm.Cond.code ({ cls := "WireMoney$Net", name := "nextWire", desc := "(LWireMoney$Counter;LWireMoney$Counter;)LWireMoney$Wire;" } : Jvm.MethodName) prog_5_method_8_code (4 : Nat) (Option.some (Jvm.ClassFile.FieldType.object "WireMoney$Wire"))) ∈ x_all := x_in2 (List.mem_of_getElem? (i := 203) rfl) rfl
theorem wd_444 : (Jvm.Cond.methodLink "WireMoney" (273 : Nat) ({ cls := "WireMoney$Wire", name := "queueFrom", desc := "(LWireMoney$Counter;)LWireMoney$Queue;" } : Jvm.MethodName)) ∈ x_all := x_in2 (List.mem_of_getElem? (i := 204) rfl) rfl
theorem wd_445 : (Jvm.Cond.instanceMethod ({ cls := "WireMoney$Wire", name := "queueFrom", desc := "(LWireMoney$Counter;)LWireMoney$Queue;" } : Jvm.MethodName)) ∈ x_all := x_in2 (List.mem_of_getElem? (i := 205) rfl) rfl
theorem wd_446 : (Jvm.Cond.selects "WireMoney$Wire" ({ cls := "WireMoney$Wire", name := "queueFrom", desc := "(LWireMoney$Counter;)LWireMoney$Queue;" } : Jvm.MethodName) ({ cls := "WireMoney$Wire", name := "queueFrom", desc := "(LWireMoney$Counter;)LWireMoney$Queue;" } : Jvm.MethodName)) ∈ x_all := x_in2 (List.mem_of_getElem? (i := 206) rfl) rfl
theorem wd_447 : (Jvm.Cond.code ({ cls := "WireMoney$Wire", name := "queueFrom", desc := "(LWireMoney$Counter;)LWireMoney$Queue;" } : Jvm.MethodName) prog_9_method_4_code (2 : Nat) (Option.some (Jvm.ClassFile.FieldType.object "WireMoney$Queue"))) ∈ x_all := x_in2 (List.mem_of_getElem? (i := 207) rfl) rfl
theorem wd_448 : (Jvm.Cond.methodLink "WireMoney" (277 : Nat) ({ cls := "WireMoney$Queue", name := "add", desc := "(LWireMoney$Message;)V" } : Jvm.MethodName)) ∈ x_all := x_in2 (List.mem_of_getElem? (i := 208) rfl) rfl
theorem wd_449 : (Jvm.Cond.instanceMethod ({ cls := "WireMoney$Queue", name := "add", desc := "(LWireMoney$Message;)V" } : Jvm.MethodName)) ∈ x_all := x_in2 (List.mem_of_getElem? (i := 209) rfl) rfl
theorem wd_450 : (Jvm.Cond.selects "WireMoney$Queue" ({ cls := "WireMoney$Queue", name := "add", desc := "(LWireMoney$Message;)V" } : Jvm.MethodName) ({ cls := "WireMoney$Queue", name := "add", desc := "(LWireMoney$Message;)V" } : Jvm.MethodName)) ∈ x_all := x_in2 (List.mem_of_getElem? (i := 210) rfl) rfl
theorem wd_451 : (Jvm.Cond.code ({ cls := "WireMoney$Queue", name := "add", desc := "(LWireMoney$Message;)V" } : Jvm.MethodName) prog_7_method_2_code (2 : Nat) (Option.none : Option Jvm.ClassFile.FieldType)) ∈ x_all := x_in2 (List.mem_of_getElem? (i := 211) rfl) rfl
theorem wd_452 : (Jvm.Cond.methodLink "WireMoneyLaw" (47 : Nat) ({ cls := "WireMoney", name := "stop", desc := "(I)I" } : Jvm.MethodName)) ∈ x_all := x_in2 (List.mem_of_getElem? (i := 212) rfl) rfl
theorem wd_453 : (Jvm.Cond.instanceMethod ({ cls := "WireMoney", name := "stop", desc := "(I)I" } : Jvm.MethodName)) ∈ x_all := x_in2 (List.mem_of_getElem? (i := 213) rfl) rfl
theorem wd_454 : (Jvm.Cond.selects "WireMoney" ({ cls := "WireMoney", name := "stop", desc := "(I)I" } : Jvm.MethodName) ({ cls := "WireMoney", name := "stop", desc := "(I)I" } : Jvm.MethodName)) ∈ x_all := x_in2 (List.mem_of_getElem? (i := 214) rfl) rfl
theorem wd_455 : (Jvm.Cond.code ({ cls := "WireMoney", name := "stop", desc := "(I)I" } : Jvm.MethodName) prog_1_method_9_code (4 : Nat) (Option.some Jvm.ClassFile.FieldType.int)) ∈ x_all := x_in2 (List.mem_of_getElem? (i := 215) rfl) rfl
theorem wd_456 : (Jvm.Cond.methodLink "WireMoney" (120 : Nat) ({ cls := "WireMoney", name := "findOrder", desc := "(I)LWireMoney$Order;" } : Jvm.MethodName)) ∈ x_all := x_in2 (List.mem_of_getElem? (i := 216) rfl) rfl
theorem wd_458 : (Jvm.Cond.instanceMethod ({ cls := "WireMoney", name := "findOrder", desc := "(I)LWireMoney$Order;" } : Jvm.MethodName)) ∈ x_all := x_in2 (List.mem_of_getElem? (i := 218) rfl) rfl
theorem wd_459 : (Jvm.Cond.code ({ cls := "WireMoney", name := "findOrder", desc := "(I)LWireMoney$Order;" } : Jvm.MethodName) prog_1_method_21_code (2 : Nat) (Option.some (Jvm.ClassFile.FieldType.object "WireMoney$Order"))) ∈ x_all := x_in2 (List.mem_of_getElem? (i := 219) rfl) rfl
theorem wd_460 : (Jvm.Cond.methodLink "WireMoneyLaw" (51 : Nat) ({ cls := "WireMoney", name := "pay", desc := "(II)I" } : Jvm.MethodName)) ∈ x_all := x_in2 (List.mem_of_getElem? (i := 220) rfl) rfl
theorem wd_461 : (Jvm.Cond.instanceMethod ({ cls := "WireMoney", name := "pay", desc := "(II)I" } : Jvm.MethodName)) ∈ x_all := x_in2 (List.mem_of_getElem? (i := 221) rfl) rfl
theorem wd_462 : (Jvm.Cond.selects "WireMoney" ({ cls := "WireMoney", name := "pay", desc := "(II)I" } : Jvm.MethodName) ({ cls := "WireMoney", name := "pay", desc := "(II)I" } : Jvm.MethodName)) ∈ x_all := x_in2 (List.mem_of_getElem? (i := 222) rfl) rfl
theorem wd_463 : (Jvm.Cond.code ({ cls := "WireMoney", name := "pay", desc := "(II)I" } : Jvm.MethodName) prog_1_method_10_code (4 : Nat) (Option.some Jvm.ClassFile.FieldType.int)) ∈ x_all := x_in2 (List.mem_of_getElem? (i := 223) rfl) rfl
theorem wd_464 : (Jvm.Cond.methodLink "WireMoney" (153 : Nat) ({ cls := "WireMoney", name := "payOut", desc := "(LWireMoney$Order;)V" } : Jvm.MethodName)) ∈ x_all := x_in2 (List.mem_of_getElem? (i := 224) rfl) rfl
theorem wd_466 : (Jvm.Cond.instanceMethod ({ cls := "WireMoney", name := "payOut", desc := "(LWireMoney$Order;)V" } : Jvm.MethodName)) ∈ x_all := x_in2 (List.mem_of_getElem? (i := 226) rfl) rfl
theorem wd_467 : (Jvm.Cond.code ({ cls := "WireMoney", name := "payOut", desc := "(LWireMoney$Order;)V" } : Jvm.MethodName) prog_1_method_25_code (2 : Nat) (Option.none : Option Jvm.ClassFile.FieldType)) ∈ x_all := x_in2 (List.mem_of_getElem? (i := 227) rfl) rfl
theorem wd_468 : (Jvm.Cond.methodLink "WireMoney" (157 : Nat) ({ cls := "WireMoney", name := "owe", desc := "(LWireMoney$Counter;LWireMoney$Counter;I)V" } : Jvm.MethodName)) ∈ x_all := x_in2 (List.mem_of_getElem? (i := 228) rfl) rfl
theorem wd_469 : (Jvm.Cond.static ({ cls := "WireMoney", name := "owe", desc := "(LWireMoney$Counter;LWireMoney$Counter;I)V" } : Jvm.MethodName)) ∈ x_all := x_in2 (List.mem_of_getElem? (i := 229) rfl) rfl
theorem wd_470 : (Jvm.Cond.code ({ cls := "WireMoney", name := "owe", desc := "(LWireMoney$Counter;LWireMoney$Counter;I)V" } : Jvm.MethodName) prog_1_method_24_code (3 : Nat) (Option.none : Option Jvm.ClassFile.FieldType)) ∈ x_all := x_in2 (List.mem_of_getElem? (i := 230) rfl) rfl
theorem wd_471 : (Jvm.Cond.methodLink "WireMoneyLaw" (55 : Nat) ({ cls := "WireMoney", name := "cart", desc := "(III)Z" } : Jvm.MethodName)) ∈ x_all := x_in2 (List.mem_of_getElem? (i := 231) rfl) rfl
theorem wd_472 : (Jvm.Cond.instanceMethod ({ cls := "WireMoney", name := "cart", desc := "(III)Z" } : Jvm.MethodName)) ∈ x_all := x_in2 (List.mem_of_getElem? (i := 232) rfl) rfl
theorem wd_473 : (Jvm.Cond.selects "WireMoney" ({ cls := "WireMoney", name := "cart", desc := "(III)Z" } : Jvm.MethodName) ({ cls := "WireMoney", name := "cart", desc := "(III)Z" } : Jvm.MethodName)) ∈ x_all := x_in2 (List.mem_of_getElem? (i := 233) rfl) rfl
theorem wd_474 : (Jvm.Cond.code ({ cls := "WireMoney", name := "cart", desc := "(III)Z" } : Jvm.MethodName) prog_1_method_11_code (6 : Nat) (Option.some Jvm.ClassFile.FieldType.boolean)) ∈ x_all := x_in2 (List.mem_of_getElem? (i := 234) rfl) rfl
theorem wd_475 : (Jvm.Cond.methodLink "WireMoneyLaw" (59 : Nat) ({ cls := "WireMoney", name := "garble", desc := "(III)Z" } : Jvm.MethodName)) ∈ x_all := x_in2 (List.mem_of_getElem? (i := 235) rfl) rfl
theorem wd_476 : (Jvm.Cond.instanceMethod ({ cls := "WireMoney", name := "garble", desc := "(III)Z" } : Jvm.MethodName)) ∈ x_all := x_in2 (List.mem_of_getElem? (i := 236) rfl) rfl
theorem wd_477 : (Jvm.Cond.selects "WireMoney" ({ cls := "WireMoney", name := "garble", desc := "(III)Z" } : Jvm.MethodName) ({ cls := "WireMoney", name := "garble", desc := "(III)Z" } : Jvm.MethodName)) ∈ x_all := x_in2 (List.mem_of_getElem? (i := 237) rfl) rfl
theorem wd_478 : (Jvm.Cond.code ({ cls := "WireMoney", name := "garble", desc := "(III)Z" } : Jvm.MethodName) prog_1_method_12_code (5 : Nat) (Option.some Jvm.ClassFile.FieldType.boolean)) ∈ x_all := x_in2 (List.mem_of_getElem? (i := 238) rfl) rfl
theorem wd_479 : (Jvm.Cond.methodLink "WireMoney" (161 : Nat) ({ cls := "WireMoney", name := "findMessage", desc := "(I)LWireMoney$Message;" } : Jvm.MethodName)) ∈ x_all := x_in2 (List.mem_of_getElem? (i := 239) rfl) rfl
theorem wd_481 : (Jvm.Cond.instanceMethod ({ cls := "WireMoney", name := "findMessage", desc := "(I)LWireMoney$Message;" } : Jvm.MethodName)) ∈ x_all := x_in3 (List.mem_of_getElem? (i := 1) rfl) rfl
theorem wd_482 : (Jvm.Cond.code ({ cls := "WireMoney", name := "findMessage", desc := "(I)LWireMoney$Message;" } : Jvm.MethodName) prog_1_method_22_code (2 : Nat) (Option.some (Jvm.ClassFile.FieldType.object "WireMoney$Message"))) ∈ x_all := x_in3 (List.mem_of_getElem? (i := 2) rfl) rfl
theorem wd_483 : (Jvm.Cond.methodLink "WireMoney" (169 : Nat) ({ cls := "WireMoney$Message", name := "isRead", desc := "()Z" } : Jvm.MethodName)) ∈ x_all := x_in3 (List.mem_of_getElem? (i := 3) rfl) rfl
theorem wd_484 : (Jvm.Cond.instanceMethod ({ cls := "WireMoney$Message", name := "isRead", desc := "()Z" } : Jvm.MethodName)) ∈ x_all := x_in3 (List.mem_of_getElem? (i := 4) rfl) rfl
theorem wd_485 : (Jvm.Cond.selects "WireMoney$Message" ({ cls := "WireMoney$Message", name := "isRead", desc := "()Z" } : Jvm.MethodName) ({ cls := "WireMoney$Message", name := "isRead", desc := "()Z" } : Jvm.MethodName)) ∈ x_all := x_in3 (List.mem_of_getElem? (i := 5) rfl) rfl
theorem wd_486 : (Jvm.Cond.code ({ cls := "WireMoney$Message", name := "isRead", desc := "()Z" } : Jvm.MethodName) prog_4_method_2_code (1 : Nat) (Option.some Jvm.ClassFile.FieldType.boolean)) ∈ x_all := x_in3 (List.mem_of_getElem? (i := 6) rfl) rfl
theorem wd_487 : (Jvm.Cond.methodLink "WireMoney" (172 : Nat) ({ cls := "WireMoney$Signs", name := "change", desc := "(II)Z" } : Jvm.MethodName)) ∈ x_all := x_in3 (List.mem_of_getElem? (i := 7) rfl) rfl
theorem wd_488 : (Jvm.Cond.instanceMethod ({ cls := "WireMoney$Signs", name := "change", desc := "(II)Z" } : Jvm.MethodName)) ∈ x_all := x_in3 (List.mem_of_getElem? (i := 8) rfl) rfl
theorem wd_489 : (Jvm.Cond.selects "WireMoney$Signs" ({ cls := "WireMoney$Signs", name := "change", desc := "(II)Z" } : Jvm.MethodName) ({ cls := "WireMoney$Signs", name := "change", desc := "(II)Z" } : Jvm.MethodName)) ∈ x_all := x_in3 (List.mem_of_getElem? (i := 9) rfl) rfl
theorem wd_490 : (Jvm.Cond.code ({ cls := "WireMoney$Signs", name := "change", desc := "(II)Z" } : Jvm.MethodName) prog_8_method_4_code (3 : Nat) (Option.some Jvm.ClassFile.FieldType.boolean)) ∈ x_all := x_in3 (List.mem_of_getElem? (i := 10) rfl) rfl
theorem wd_491 : (Jvm.Cond.methodLink "WireMoneyLaw" (63 : Nat) ({ cls := "WireMoney", name := "go", desc := "(I)I" } : Jvm.MethodName)) ∈ x_all := x_in3 (List.mem_of_getElem? (i := 11) rfl) rfl
theorem wd_492 : (Jvm.Cond.instanceMethod ({ cls := "WireMoney", name := "go", desc := "(I)I" } : Jvm.MethodName)) ∈ x_all := x_in3 (List.mem_of_getElem? (i := 12) rfl) rfl
theorem wd_493 : (Jvm.Cond.selects "WireMoney" ({ cls := "WireMoney", name := "go", desc := "(I)I" } : Jvm.MethodName) ({ cls := "WireMoney", name := "go", desc := "(I)I" } : Jvm.MethodName)) ∈ x_all := x_in3 (List.mem_of_getElem? (i := 13) rfl) rfl
theorem wd_494 : (Jvm.Cond.code ({ cls := "WireMoney", name := "go", desc := "(I)I" } : Jvm.MethodName) prog_1_method_13_code (4 : Nat) (Option.some Jvm.ClassFile.FieldType.int)) ∈ x_all := x_in3 (List.mem_of_getElem? (i := 14) rfl) rfl
theorem wd_495 : (Jvm.Cond.methodLink "WireMoney" (177 : Nat) ({ cls := "java/lang/Math", name := "min", desc := "(II)I" } : Jvm.MethodName)) ∈ x_all := x_in3 (List.mem_of_getElem? (i := 15) rfl) rfl
theorem wd_496 : (Jvm.Cond.methodLink "WireMoney" (183 : Nat) ({ cls := "WireMoney", name := "takeIn", desc := "()V" } : Jvm.MethodName)) ∈ x_all := x_in3 (List.mem_of_getElem? (i := 16) rfl) rfl
theorem wd_498 : (Jvm.Cond.instanceMethod ({ cls := "WireMoney", name := "takeIn", desc := "()V" } : Jvm.MethodName)) ∈ x_all := x_in3 (List.mem_of_getElem? (i := 18) rfl) rfl
theorem wd_499 : (Jvm.Cond.code ({ cls := "WireMoney", name := "takeIn", desc := "()V" } : Jvm.MethodName) prog_1_method_29_code (4 : Nat) (Option.none : Option Jvm.ClassFile.FieldType)) ∈ x_all := x_in3 (List.mem_of_getElem? (i := 19) rfl) rfl
theorem wd_500 : (Jvm.Cond.methodLink "WireMoney" (287 : Nat) ({ cls := "WireMoney$Message", name := "leaveWire", desc := "()V" } : Jvm.MethodName)) ∈ x_all := x_in3 (List.mem_of_getElem? (i := 20) rfl) rfl
theorem wd_501 : (Jvm.Cond.instanceMethod ({ cls := "WireMoney$Message", name := "leaveWire", desc := "()V" } : Jvm.MethodName)) ∈ x_all := x_in3 (List.mem_of_getElem? (i := 21) rfl) rfl
theorem wd_502 : (Jvm.Cond.selects "WireMoney$Message" ({ cls := "WireMoney$Message", name := "leaveWire", desc := "()V" } : Jvm.MethodName) ({ cls := "WireMoney$Message", name := "leaveWire", desc := "()V" } : Jvm.MethodName)) ∈ x_all := x_in3 (List.mem_of_getElem? (i := 22) rfl) rfl
theorem wd_503 : (Jvm.Cond.code ({ cls := "WireMoney$Message", name := "leaveWire", desc := "()V" } : Jvm.MethodName) prog_4_method_4_code (1 : Nat) (Option.none : Option Jvm.ClassFile.FieldType)) ∈ x_all := x_in3 (List.mem_of_getElem? (i := 23) rfl) rfl
theorem wd_504 : (Jvm.Cond.methodLink "WireMoney" (290 : Nat) ({ cls := "WireMoney", name := "read", desc := "(LWireMoney$Message;)V" } : Jvm.MethodName)) ∈ x_all := x_in3 (List.mem_of_getElem? (i := 24) rfl) rfl
theorem wd_506 : (Jvm.Cond.instanceMethod ({ cls := "WireMoney", name := "read", desc := "(LWireMoney$Message;)V" } : Jvm.MethodName)) ∈ x_all := x_in3 (List.mem_of_getElem? (i := 26) rfl) rfl
theorem wd_507 : (Jvm.Cond.code ({ cls := "WireMoney", name := "read", desc := "(LWireMoney$Message;)V" } : Jvm.MethodName) prog_1_method_32_code (2 : Nat) (Option.none : Option Jvm.ClassFile.FieldType)) ∈ x_all := x_in3 (List.mem_of_getElem? (i := 27) rfl) rfl
theorem wd_508 : (Jvm.Cond.methodLink "WireMoney" (321 : Nat) ({ cls := "WireMoney", name := "readPayment", desc := "(LWireMoney$Message;)V" } : Jvm.MethodName)) ∈ x_all := x_in3 (List.mem_of_getElem? (i := 28) rfl) rfl
theorem wd_510 : (Jvm.Cond.instanceMethod ({ cls := "WireMoney", name := "readPayment", desc := "(LWireMoney$Message;)V" } : Jvm.MethodName)) ∈ x_all := x_in3 (List.mem_of_getElem? (i := 30) rfl) rfl
theorem wd_511 : (Jvm.Cond.code ({ cls := "WireMoney", name := "readPayment", desc := "(LWireMoney$Message;)V" } : Jvm.MethodName) prog_1_method_33_code (2 : Nat) (Option.none : Option Jvm.ClassFile.FieldType)) ∈ x_all := x_in3 (List.mem_of_getElem? (i := 31) rfl) rfl
theorem wd_512 : (Jvm.Cond.methodLink "WireMoney" (333 : Nat) ({ cls := "WireMoney$Signs", name := "fitTest", desc := "()Z" } : Jvm.MethodName)) ∈ x_all := x_in3 (List.mem_of_getElem? (i := 32) rfl) rfl
theorem wd_513 : (Jvm.Cond.instanceMethod ({ cls := "WireMoney$Signs", name := "fitTest", desc := "()Z" } : Jvm.MethodName)) ∈ x_all := x_in3 (List.mem_of_getElem? (i := 33) rfl) rfl
theorem wd_514 : (Jvm.Cond.selects "WireMoney$Signs" ({ cls := "WireMoney$Signs", name := "fitTest", desc := "()Z" } : Jvm.MethodName) ({ cls := "WireMoney$Signs", name := "fitTest", desc := "()Z" } : Jvm.MethodName)) ∈ x_all := x_in3 (List.mem_of_getElem? (i := 34) rfl) rfl
theorem wd_515 : (Jvm.Cond.code ({ cls := "WireMoney$Signs", name := "fitTest", desc := "()Z" } : Jvm.MethodName) prog_8_method_3_code (1 : Nat) (Option.some Jvm.ClassFile.FieldType.boolean)) ∈ x_all := x_in3 (List.mem_of_getElem? (i := 35) rfl) rfl
theorem wd_516 : (Jvm.Cond.methodLink "WireMoney" (324 : Nat) ({ cls := "WireMoney", name := "readStop", desc := "(LWireMoney$Order;)V" } : Jvm.MethodName)) ∈ x_all := x_in3 (List.mem_of_getElem? (i := 36) rfl) rfl
theorem wd_518 : (Jvm.Cond.instanceMethod ({ cls := "WireMoney", name := "readStop", desc := "(LWireMoney$Order;)V" } : Jvm.MethodName)) ∈ x_all := x_in3 (List.mem_of_getElem? (i := 38) rfl) rfl
theorem wd_519 : (Jvm.Cond.code ({ cls := "WireMoney", name := "readStop", desc := "(LWireMoney$Order;)V" } : Jvm.MethodName) prog_1_method_34_code (2 : Nat) (Option.none : Option Jvm.ClassFile.FieldType)) ∈ x_all := x_in3 (List.mem_of_getElem? (i := 39) rfl) rfl
theorem wd_520 : (Jvm.Cond.methodLink "WireMoney" (327 : Nat) ({ cls := "WireMoney", name := "payBack", desc := "(LWireMoney$Order;)V" } : Jvm.MethodName)) ∈ x_all := x_in3 (List.mem_of_getElem? (i := 40) rfl) rfl
theorem wd_522 : (Jvm.Cond.instanceMethod ({ cls := "WireMoney", name := "payBack", desc := "(LWireMoney$Order;)V" } : Jvm.MethodName)) ∈ x_all := x_in3 (List.mem_of_getElem? (i := 42) rfl) rfl
theorem wd_523 : (Jvm.Cond.code ({ cls := "WireMoney", name := "payBack", desc := "(LWireMoney$Order;)V" } : Jvm.MethodName) prog_1_method_35_code (2 : Nat) (Option.none : Option Jvm.ClassFile.FieldType)) ∈ x_all := x_in3 (List.mem_of_getElem? (i := 43) rfl) rfl
theorem wd_524 : (Jvm.Cond.methodLink "WireMoney" (330 : Nat) ({ cls := "WireMoney", name := "readRepeat", desc := "(LWireMoney$Order;)V" } : Jvm.MethodName)) ∈ x_all := x_in3 (List.mem_of_getElem? (i := 44) rfl) rfl
theorem wd_526 : (Jvm.Cond.instanceMethod ({ cls := "WireMoney", name := "readRepeat", desc := "(LWireMoney$Order;)V" } : Jvm.MethodName)) ∈ x_all := x_in3 (List.mem_of_getElem? (i := 46) rfl) rfl
theorem wd_527 : (Jvm.Cond.code ({ cls := "WireMoney", name := "readRepeat", desc := "(LWireMoney$Order;)V" } : Jvm.MethodName) prog_1_method_36_code (2 : Nat) (Option.none : Option Jvm.ClassFile.FieldType)) ∈ x_all := x_in3 (List.mem_of_getElem? (i := 47) rfl) rfl
theorem wd_528 : (Jvm.Cond.methodLink "WireMoney" (186 : Nat) ({ cls := "WireMoney", name := "sendOut", desc := "()V" } : Jvm.MethodName)) ∈ x_all := x_in3 (List.mem_of_getElem? (i := 48) rfl) rfl
theorem wd_530 : (Jvm.Cond.instanceMethod ({ cls := "WireMoney", name := "sendOut", desc := "()V" } : Jvm.MethodName)) ∈ x_all := x_in3 (List.mem_of_getElem? (i := 50) rfl) rfl
theorem wd_531 : (Jvm.Cond.code ({ cls := "WireMoney", name := "sendOut", desc := "()V" } : Jvm.MethodName) prog_1_method_30_code (3 : Nat) (Option.none : Option Jvm.ClassFile.FieldType)) ∈ x_all := x_in3 (List.mem_of_getElem? (i := 51) rfl) rfl
theorem wd_532 : (Jvm.Cond.methodLink "WireMoney" (293 : Nat) ({ cls := "WireMoney$Wire", name := "isDown", desc := "(I)Z" } : Jvm.MethodName)) ∈ x_all := x_in3 (List.mem_of_getElem? (i := 52) rfl) rfl
theorem wd_533 : (Jvm.Cond.instanceMethod ({ cls := "WireMoney$Wire", name := "isDown", desc := "(I)Z" } : Jvm.MethodName)) ∈ x_all := x_in3 (List.mem_of_getElem? (i := 53) rfl) rfl
theorem wd_534 : (Jvm.Cond.selects "WireMoney$Wire" ({ cls := "WireMoney$Wire", name := "isDown", desc := "(I)Z" } : Jvm.MethodName) ({ cls := "WireMoney$Wire", name := "isDown", desc := "(I)Z" } : Jvm.MethodName)) ∈ x_all := x_in3 (List.mem_of_getElem? (i := 54) rfl) rfl
theorem wd_535 : (Jvm.Cond.code ({ cls := "WireMoney$Wire", name := "isDown", desc := "(I)Z" } : Jvm.MethodName) prog_9_method_2_code (2 : Nat) (Option.some Jvm.ClassFile.FieldType.boolean)) ∈ x_all := x_in3 (List.mem_of_getElem? (i := 55) rfl) rfl
theorem wd_536 : (Jvm.Cond.methodLink "WireMoney" (303 : Nat) ({ cls := "WireMoney", name := "sendFirst", desc := "(LWireMoney$Queue;I)V" } : Jvm.MethodName)) ∈ x_all := x_in3 (List.mem_of_getElem? (i := 56) rfl) rfl
theorem wd_538 : (Jvm.Cond.instanceMethod ({ cls := "WireMoney", name := "sendFirst", desc := "(LWireMoney$Queue;I)V" } : Jvm.MethodName)) ∈ x_all := x_in3 (List.mem_of_getElem? (i := 58) rfl) rfl
theorem wd_539 : (Jvm.Cond.code ({ cls := "WireMoney", name := "sendFirst", desc := "(LWireMoney$Queue;I)V" } : Jvm.MethodName) prog_1_method_31_code (4 : Nat) (Option.none : Option Jvm.ClassFile.FieldType)) ∈ x_all := x_in3 (List.mem_of_getElem? (i := 59) rfl) rfl
theorem wd_540 : (Jvm.Cond.methodLink "WireMoney" (310 : Nat) ({ cls := "WireMoney$Queue", name := "take", desc := "()LWireMoney$Message;" } : Jvm.MethodName)) ∈ x_all := x_in3 (List.mem_of_getElem? (i := 60) rfl) rfl
theorem wd_541 : (Jvm.Cond.instanceMethod ({ cls := "WireMoney$Queue", name := "take", desc := "()LWireMoney$Message;" } : Jvm.MethodName)) ∈ x_all := x_in3 (List.mem_of_getElem? (i := 61) rfl) rfl
theorem wd_542 : (Jvm.Cond.selects "WireMoney$Queue" ({ cls := "WireMoney$Queue", name := "take", desc := "()LWireMoney$Message;" } : Jvm.MethodName) ({ cls := "WireMoney$Queue", name := "take", desc := "()LWireMoney$Message;" } : Jvm.MethodName)) ∈ x_all := x_in3 (List.mem_of_getElem? (i := 62) rfl) rfl
theorem wd_543 : (Jvm.Cond.code ({ cls := "WireMoney$Queue", name := "take", desc := "()LWireMoney$Message;" } : Jvm.MethodName) prog_7_method_3_code (2 : Nat) (Option.some (Jvm.ClassFile.FieldType.object "WireMoney$Message"))) ∈ x_all := x_in3 (List.mem_of_getElem? (i := 63) rfl) rfl
theorem wd_544 : (Jvm.Cond.methodLink "WireMoney" (317 : Nat) ({ cls := "WireMoney$Message", name := "enterWire", desc := "(LWireMoney$Counter;I)V" } : Jvm.MethodName)) ∈ x_all := x_in3 (List.mem_of_getElem? (i := 64) rfl) rfl
theorem wd_545 : (Jvm.Cond.instanceMethod ({ cls := "WireMoney$Message", name := "enterWire", desc := "(LWireMoney$Counter;I)V" } : Jvm.MethodName)) ∈ x_all := x_in3 (List.mem_of_getElem? (i := 65) rfl) rfl
theorem wd_546 : (Jvm.Cond.selects "WireMoney$Message" ({ cls := "WireMoney$Message", name := "enterWire", desc := "(LWireMoney$Counter;I)V" } : Jvm.MethodName) ({ cls := "WireMoney$Message", name := "enterWire", desc := "(LWireMoney$Counter;I)V" } : Jvm.MethodName)) ∈ x_all := x_in3 (List.mem_of_getElem? (i := 66) rfl) rfl
theorem wd_547 : (Jvm.Cond.code ({ cls := "WireMoney$Message", name := "enterWire", desc := "(LWireMoney$Counter;I)V" } : Jvm.MethodName) prog_4_method_3_code (3 : Nat) (Option.none : Option Jvm.ClassFile.FieldType)) ∈ x_all := x_in3 (List.mem_of_getElem? (i := 67) rfl) rfl
theorem wd_548 : (Jvm.Cond.methodLink "WireMoneyLaw" (67 : Nat) ({ cls := "WireMoney", name := "sign", desc := "(II)I" } : Jvm.MethodName)) ∈ x_all := x_in3 (List.mem_of_getElem? (i := 68) rfl) rfl
theorem wd_549 : (Jvm.Cond.instanceMethod ({ cls := "WireMoney", name := "sign", desc := "(II)I" } : Jvm.MethodName)) ∈ x_all := x_in3 (List.mem_of_getElem? (i := 69) rfl) rfl
theorem wd_550 : (Jvm.Cond.selects "WireMoney" ({ cls := "WireMoney", name := "sign", desc := "(II)I" } : Jvm.MethodName) ({ cls := "WireMoney", name := "sign", desc := "(II)I" } : Jvm.MethodName)) ∈ x_all := x_in3 (List.mem_of_getElem? (i := 70) rfl) rfl
theorem wd_551 : (Jvm.Cond.code ({ cls := "WireMoney", name := "sign", desc := "(II)I" } : Jvm.MethodName) prog_1_method_14_code (4 : Nat) (Option.some Jvm.ClassFile.FieldType.int)) ∈ x_all := x_in3 (List.mem_of_getElem? (i := 71) rfl) rfl
theorem wd_552 : (Jvm.Cond.methodLink "WireMoney" (192 : Nat) ({ cls := "WireMoney$Signs", name := "digitOf", desc := "(I)I" } : Jvm.MethodName)) ∈ x_all := x_in3 (List.mem_of_getElem? (i := 72) rfl) rfl
theorem wd_553 : (Jvm.Cond.instanceMethod ({ cls := "WireMoney$Signs", name := "digitOf", desc := "(I)I" } : Jvm.MethodName)) ∈ x_all := x_in3 (List.mem_of_getElem? (i := 73) rfl) rfl
theorem wd_554 : (Jvm.Cond.selects "WireMoney$Signs" ({ cls := "WireMoney$Signs", name := "digitOf", desc := "(I)I" } : Jvm.MethodName) ({ cls := "WireMoney$Signs", name := "digitOf", desc := "(I)I" } : Jvm.MethodName)) ∈ x_all := x_in3 (List.mem_of_getElem? (i := 74) rfl) rfl
theorem wd_555 : (Jvm.Cond.code ({ cls := "WireMoney$Signs", name := "digitOf", desc := "(I)I" } : Jvm.MethodName) prog_8_method_2_code (2 : Nat) (Option.some Jvm.ClassFile.FieldType.int)) ∈ x_all := x_in3 (List.mem_of_getElem? (i := 75) rfl) rfl
theorem wd_556 : (Jvm.Cond.methodLink "WireMoneyLaw" (71 : Nat) ({ cls := "WireMoney", name := "message", desc := "(II)I" } : Jvm.MethodName)) ∈ x_all := x_in3 (List.mem_of_getElem? (i := 76) rfl) rfl
theorem wd_557 : (Jvm.Cond.instanceMethod ({ cls := "WireMoney", name := "message", desc := "(II)I" } : Jvm.MethodName)) ∈ x_all := x_in3 (List.mem_of_getElem? (i := 77) rfl) rfl
theorem wd_558 : (Jvm.Cond.selects "WireMoney" ({ cls := "WireMoney", name := "message", desc := "(II)I" } : Jvm.MethodName) ({ cls := "WireMoney", name := "message", desc := "(II)I" } : Jvm.MethodName)) ∈ x_all := x_in3 (List.mem_of_getElem? (i := 78) rfl) rfl
theorem wd_559 : (Jvm.Cond.code ({ cls := "WireMoney", name := "message", desc := "(II)I" } : Jvm.MethodName) prog_1_method_15_code (4 : Nat) (Option.some Jvm.ClassFile.FieldType.int)) ∈ x_all := x_in3 (List.mem_of_getElem? (i := 79) rfl) rfl
theorem wd_560 : (Jvm.Cond.methodLink "WireMoney" (214 : Nat) ({ cls := "WireMoney", name := "oneIf", desc := "(Z)I" } : Jvm.MethodName)) ∈ x_all := x_in3 (List.mem_of_getElem? (i := 80) rfl) rfl
theorem wd_561 : (Jvm.Cond.static ({ cls := "WireMoney", name := "oneIf", desc := "(Z)I" } : Jvm.MethodName)) ∈ x_all := x_in3 (List.mem_of_getElem? (i := 81) rfl) rfl
theorem wd_562 : (Jvm.Cond.code ({ cls := "WireMoney", name := "oneIf", desc := "(Z)I" } : Jvm.MethodName) prog_1_method_20_code (1 : Nat) (Option.some Jvm.ClassFile.FieldType.int)) ∈ x_all := x_in3 (List.mem_of_getElem? (i := 82) rfl) rfl
theorem wd_563 : (Jvm.Cond.methodLink "WireMoneyLaw" (75 : Nat) ({ cls := "WireMoney", name := "told", desc := "(II)I" } : Jvm.MethodName)) ∈ x_all := x_in3 (List.mem_of_getElem? (i := 83) rfl) rfl
theorem wd_564 : (Jvm.Cond.instanceMethod ({ cls := "WireMoney", name := "told", desc := "(II)I" } : Jvm.MethodName)) ∈ x_all := x_in3 (List.mem_of_getElem? (i := 84) rfl) rfl
theorem wd_565 : (Jvm.Cond.selects "WireMoney" ({ cls := "WireMoney", name := "told", desc := "(II)I" } : Jvm.MethodName) ({ cls := "WireMoney", name := "told", desc := "(II)I" } : Jvm.MethodName)) ∈ x_all := x_in3 (List.mem_of_getElem? (i := 85) rfl) rfl
theorem wd_566 : (Jvm.Cond.code ({ cls := "WireMoney", name := "told", desc := "(II)I" } : Jvm.MethodName) prog_1_method_16_code (4 : Nat) (Option.some Jvm.ClassFile.FieldType.int)) ∈ x_all := x_in3 (List.mem_of_getElem? (i := 86) rfl) rfl
theorem wd_567 : (Jvm.Cond.methodLink "WireMoneyLaw" (79 : Nat) ({ cls := "WireMoney", name := "at", desc := "(II)I" } : Jvm.MethodName)) ∈ x_all := x_in3 (List.mem_of_getElem? (i := 87) rfl) rfl
theorem wd_568 : (Jvm.Cond.instanceMethod ({ cls := "WireMoney", name := "at", desc := "(II)I" } : Jvm.MethodName)) ∈ x_all := x_in3 (List.mem_of_getElem? (i := 88) rfl) rfl
theorem wd_569 : (Jvm.Cond.selects "WireMoney" ({ cls := "WireMoney", name := "at", desc := "(II)I" } : Jvm.MethodName) ({ cls := "WireMoney", name := "at", desc := "(II)I" } : Jvm.MethodName)) ∈ x_all := x_in3 (List.mem_of_getElem? (i := 89) rfl) rfl
theorem wd_570 : (Jvm.Cond.code ({ cls := "WireMoney", name := "at", desc := "(II)I" } : Jvm.MethodName) prog_1_method_17_code (4 : Nat) (Option.some Jvm.ClassFile.FieldType.int)) ∈ x_all := x_in3 (List.mem_of_getElem? (i := 90) rfl) rfl
theorem wd_571 : (Jvm.Cond.constant "WireMoney" (227 : Nat) (-2147483648 : Int32)) ∈ x_all := x_in3 (List.mem_of_getElem? (i := 91) rfl) rfl
theorem wd_572 : (Jvm.Cond.methodLink "WireMoney" (228 : Nat) ({ cls := "WireMoney", name := "awaitedAt", desc := "(LWireMoney$Counter;)I" } : Jvm.MethodName)) ∈ x_all := x_in3 (List.mem_of_getElem? (i := 92) rfl) rfl
theorem wd_574 : (Jvm.Cond.instanceMethod ({ cls := "WireMoney", name := "awaitedAt", desc := "(LWireMoney$Counter;)I" } : Jvm.MethodName)) ∈ x_all := x_in3 (List.mem_of_getElem? (i := 94) rfl) rfl
theorem wd_575 : (Jvm.Cond.code ({ cls := "WireMoney", name := "awaitedAt", desc := "(LWireMoney$Counter;)I" } : Jvm.MethodName) prog_1_method_26_code (5 : Nat) (Option.some Jvm.ClassFile.FieldType.int)) ∈ x_all := x_in3 (List.mem_of_getElem? (i := 95) rfl) rfl
theorem wd_576 : (Jvm.Cond.methodLink "WireMoney" (256 : Nat) ({ cls := "WireMoney$Order", name := "isAwaited", desc := "()Z" } : Jvm.MethodName)) ∈ x_all := x_in3 (List.mem_of_getElem? (i := 96) rfl) rfl
theorem wd_577 : (Jvm.Cond.instanceMethod ({ cls := "WireMoney$Order", name := "isAwaited", desc := "()Z" } : Jvm.MethodName)) ∈ x_all := x_in3 (List.mem_of_getElem? (i := 97) rfl) rfl
theorem wd_578 : (Jvm.Cond.selects "WireMoney$Order" ({ cls := "WireMoney$Order", name := "isAwaited", desc := "()Z" } : Jvm.MethodName) ({ cls := "WireMoney$Order", name := "isAwaited", desc := "()Z" } : Jvm.MethodName)) ∈ x_all := x_in3 (List.mem_of_getElem? (i := 98) rfl) rfl
theorem wd_579 : (Jvm.Cond.code ({ cls := "WireMoney$Order", name := "isAwaited", desc := "()Z" } : Jvm.MethodName) prog_6_method_2_code (1 : Nat) (Option.some Jvm.ClassFile.FieldType.boolean)) ∈ x_all := x_in3 (List.mem_of_getElem? (i := 99) rfl) rfl
theorem wd_580 : (Jvm.Cond.methodLink "WireMoney" (232 : Nat) ({ cls := "java/lang/Math", name := "max", desc := "(II)I" } : Jvm.MethodName)) ∈ x_all := x_in3 (List.mem_of_getElem? (i := 100) rfl) rfl
theorem wd_581 : (Jvm.Cond.methodLink "WireMoney" (238 : Nat) ({ cls := "WireMoney$Net", name := "queuedAt", desc := "(LWireMoney$Counter;)I" } : Jvm.MethodName)) ∈ x_all := x_in3 (List.mem_of_getElem? (i := 101) rfl) rfl
theorem wd_582 : (Jvm.Cond.instanceMethod ({ cls := "WireMoney$Net", name := "queuedAt", desc := "(LWireMoney$Counter;)I" } : Jvm.MethodName)) ∈ x_all := x_in3 (List.mem_of_getElem? (i := 102) rfl) rfl
theorem wd_583 : (Jvm.Cond.selects "WireMoney$Net" ({ cls := "WireMoney$Net", name := "queuedAt", desc := "(LWireMoney$Counter;)I" } : Jvm.MethodName) ({ cls := "WireMoney$Net", name := "queuedAt", desc := "(LWireMoney$Counter;)I" } : Jvm.MethodName)) ∈ x_all := x_in3 (List.mem_of_getElem? (i := 103) rfl) rfl
theorem wd_584 : (Jvm.Cond.code ({ cls := "WireMoney$Net", name := "queuedAt", desc := "(LWireMoney$Counter;)I" } : Jvm.MethodName) prog_5_method_9_code (5 : Nat) (Option.some Jvm.ClassFile.FieldType.int)) ∈ x_all := x_in3 (List.mem_of_getElem? (i := 104) rfl) rfl
theorem wd_585 : (Jvm.Cond.methodLink "WireMoney$Net" (72 : Nat) ({ cls := "WireMoney$Net", name := "findWire", desc := "(I)LWireMoney$Wire;" } : Jvm.MethodName)) ∈ x_all := x_in3 (List.mem_of_getElem? (i := 105) rfl) rfl
theorem wd_586 : (Jvm.Cond.methodLink "WireMoney$Net" (76 : Nat) ({ cls := "WireMoney$Wire", name := "touches", desc := "(LWireMoney$Counter;)Z" } : Jvm.MethodName)) ∈ x_all := x_in3 (List.mem_of_getElem? (i := 106) rfl) rfl
theorem wd_587 : (Jvm.Cond.instanceMethod ({ cls := "WireMoney$Wire", name := "touches", desc := "(LWireMoney$Counter;)Z" } : Jvm.MethodName)) ∈ x_all := x_in3 (List.mem_of_getElem? (i := 107) rfl) rfl
theorem wd_588 : (Jvm.Cond.selects "WireMoney$Wire" ({ cls := "WireMoney$Wire", name := "touches", desc := "(LWireMoney$Counter;)Z" } : Jvm.MethodName) ({ cls := "WireMoney$Wire", name := "touches", desc := "(LWireMoney$Counter;)Z" } : Jvm.MethodName)) ∈ x_all := x_in3 (List.mem_of_getElem? (i := 108) rfl) rfl
theorem wd_589 : (Jvm.Cond.code ({ cls := "WireMoney$Wire", name := "touches", desc := "(LWireMoney$Counter;)Z" } : Jvm.MethodName) prog_9_method_3_code (2 : Nat) (Option.some Jvm.ClassFile.FieldType.boolean)) ∈ x_all := x_in3 (List.mem_of_getElem? (i := 109) rfl) rfl
theorem wd_590 : (Jvm.Cond.methodLink "WireMoney$Net" (80 : Nat) ({ cls := "WireMoney$Wire", name := "queueFrom", desc := "(LWireMoney$Counter;)LWireMoney$Queue;" } : Jvm.MethodName)) ∈ x_all := x_in3 (List.mem_of_getElem? (i := 110) rfl) rfl
theorem wd_591 : (Jvm.Cond.methodLink "WireMoneyLaw" (83 : Nat) ({ cls := "WireMoney", name := "count", desc := "(I)I" } : Jvm.MethodName)) ∈ x_all := x_in3 (List.mem_of_getElem? (i := 111) rfl) rfl
theorem wd_592 : (Jvm.Cond.instanceMethod ({ cls := "WireMoney", name := "count", desc := "(I)I" } : Jvm.MethodName)) ∈ x_all := x_in3 (List.mem_of_getElem? (i := 112) rfl) rfl
theorem wd_593 : (Jvm.Cond.selects "WireMoney" ({ cls := "WireMoney", name := "count", desc := "(I)I" } : Jvm.MethodName) ({ cls := "WireMoney", name := "count", desc := "(I)I" } : Jvm.MethodName)) ∈ x_all := x_in3 (List.mem_of_getElem? (i := 113) rfl) rfl
theorem wd_594 : (Jvm.Cond.code ({ cls := "WireMoney", name := "count", desc := "(I)I" } : Jvm.MethodName) prog_1_method_18_code (2 : Nat) (Option.some Jvm.ClassFile.FieldType.int)) ∈ x_all := x_in3 (List.mem_of_getElem? (i := 114) rfl) rfl
theorem wd_595 : (Jvm.Cond.classLink "WireMoneyLaw" (10 : Nat) "WireMoneyModel") ∈ x_all := x_in3 (List.mem_of_getElem? (i := 115) rfl) rfl
theorem wd_596 : (Jvm.Cond.instantiable "WireMoneyModel" (50 : Nat)) ∈ x_all := x_in3 (List.mem_of_getElem? (i := 116) rfl) rfl
theorem wd_597 : (Jvm.Cond.methodLink "WireMoneyLaw" (12 : Nat) ({ cls := "WireMoneyModel", name := "<init>", desc := "()V" } : Jvm.MethodName)) ∈ x_all := x_in3 (List.mem_of_getElem? (i := 117) rfl) rfl
theorem wd_598 : (Jvm.Cond.instanceMethod ({ cls := "WireMoneyModel", name := "<init>", desc := "()V" } : Jvm.MethodName)) ∈ x_all := x_in3 (List.mem_of_getElem? (i := 118) rfl) rfl
theorem wd_599 : (Jvm.Cond.code ({ cls := "WireMoneyModel", name := "<init>", desc := "()V" } : Jvm.MethodName) prog_11_method_1_code (1 : Nat) (Option.none : Option Jvm.ClassFile.FieldType)) ∈ x_all := x_in3 (List.mem_of_getElem? (i := 119) rfl) rfl
theorem wd_600 : (Jvm.Cond.methodLink "WireMoneyModel" (1 : Nat) ({ cls := "java/lang/Object", name := "<init>", desc := "()V" } : Jvm.MethodName)) ∈ x_all := x_in3 (List.mem_of_getElem? (i := 120) rfl) rfl
theorem wd_601 : (Jvm.Cond.methodLink "WireMoneyModel" (131 : Nat) ({ cls := "WireMoneyModel", name := "reckons", desc := "()V" } : Jvm.MethodName)) ∈ x_all := x_in3 (List.mem_of_getElem? (i := 121) rfl) rfl
theorem wd_603 : (Jvm.Cond.instanceMethod ({ cls := "WireMoneyModel", name := "reckons", desc := "()V" } : Jvm.MethodName)) ∈ x_all := x_in3 (List.mem_of_getElem? (i := 123) rfl) rfl
theorem wd_604 : (Jvm.Cond.code ({ cls := "WireMoneyModel", name := "reckons", desc := "()V" } : Jvm.MethodName) prog_11_method_7_code (6 : Nat) (Option.none : Option Jvm.ClassFile.FieldType)) ∈ x_all := x_in3 (List.mem_of_getElem? (i := 124) rfl) rfl
theorem wd_605 : (Jvm.Cond.constant "WireMoneyModel" (145 : Nat) (1000000 : Int32)) ∈ x_all := x_in3 (List.mem_of_getElem? (i := 125) rfl) rfl
theorem wd_606 : (Jvm.Cond.fieldLink "WireMoneyModel" (146 : Nat) "WireMoneyModel" "now" "I") ∈ x_all := x_in3 (List.mem_of_getElem? (i := 126) rfl) rfl
theorem wd_607 : (Jvm.Cond.fieldLink "WireMoneyModel" (134 : Nat) "WireMoneyModel" "counters" "I") ∈ x_all := x_in3 (List.mem_of_getElem? (i := 127) rfl) rfl
theorem wd_608 : (Jvm.Cond.fieldLink "WireMoneyModel" (9 : Nat) "WireMoneyModel" "coins" "[I") ∈ x_all := x_in3 (List.mem_of_getElem? (i := 128) rfl) rfl
theorem wd_609 : (Jvm.Cond.fieldLink "WireMoneyModel" (13 : Nat) "WireMoneyModel" "opens" "[I") ∈ x_all := x_in3 (List.mem_of_getElem? (i := 129) rfl) rfl
theorem wd_610 : (Jvm.Cond.fieldLink "WireMoneyModel" (16 : Nat) "WireMoneyModel" "shuts" "[I") ∈ x_all := x_in3 (List.mem_of_getElem? (i := 130) rfl) rfl
theorem wd_611 : (Jvm.Cond.fieldLink "WireMoneyModel" (19 : Nat) "WireMoneyModel" "fees" "[I") ∈ x_all := x_in3 (List.mem_of_getElem? (i := 131) rfl) rfl
theorem wd_612 : (Jvm.Cond.fieldLink "WireMoneyModel" (22 : Nat) "WireMoneyModel" "owed" "[I") ∈ x_all := x_in3 (List.mem_of_getElem? (i := 132) rfl) rfl
theorem wd_613 : (Jvm.Cond.fieldLink "WireMoneyModel" (149 : Nat) "WireMoneyModel" "wires" "I") ∈ x_all := x_in3 (List.mem_of_getElem? (i := 133) rfl) rfl
theorem wd_614 : (Jvm.Cond.fieldLink "WireMoneyModel" (25 : Nat) "WireMoneyModel" "endA" "[I") ∈ x_all := x_in3 (List.mem_of_getElem? (i := 134) rfl) rfl
theorem wd_615 : (Jvm.Cond.fieldLink "WireMoneyModel" (28 : Nat) "WireMoneyModel" "endB" "[I") ∈ x_all := x_in3 (List.mem_of_getElem? (i := 135) rfl) rfl
theorem wd_616 : (Jvm.Cond.fieldLink "WireMoneyModel" (31 : Nat) "WireMoneyModel" "takes" "[I") ∈ x_all := x_in3 (List.mem_of_getElem? (i := 136) rfl) rfl
theorem wd_617 : (Jvm.Cond.fieldLink "WireMoneyModel" (34 : Nat) "WireMoneyModel" "downFrom" "[I") ∈ x_all := x_in3 (List.mem_of_getElem? (i := 137) rfl) rfl
theorem wd_618 : (Jvm.Cond.fieldLink "WireMoneyModel" (37 : Nat) "WireMoneyModel" "downTo" "[I") ∈ x_all := x_in3 (List.mem_of_getElem? (i := 138) rfl) rfl
theorem wd_619 : (Jvm.Cond.fieldLink "WireMoneyModel" (40 : Nat) "WireMoneyModel" "least" "[I") ∈ x_all := x_in3 (List.mem_of_getElem? (i := 139) rfl) rfl
theorem wd_620 : (Jvm.Cond.fieldLink "WireMoneyModel" (161 : Nat) "WireMoneyModel" "bands" "I") ∈ x_all := x_in3 (List.mem_of_getElem? (i := 140) rfl) rfl
theorem wd_621 : (Jvm.Cond.fieldLink "WireMoneyModel" (43 : Nat) "WireMoneyModel" "bound" "[I") ∈ x_all := x_in3 (List.mem_of_getElem? (i := 141) rfl) rfl
theorem wd_622 : (Jvm.Cond.fieldLink "WireMoneyModel" (46 : Nat) "WireMoneyModel" "bandFee" "[I") ∈ x_all := x_in3 (List.mem_of_getElem? (i := 142) rfl) rfl
theorem wd_623 : (Jvm.Cond.fieldLink "WireMoneyModel" (142 : Nat) "WireMoneyModel" "orders" "I") ∈ x_all := x_in3 (List.mem_of_getElem? (i := 143) rfl) rfl
theorem wd_624 : (Jvm.Cond.fieldLink "WireMoneyModel" (49 : Nat) "WireMoneyModel" "from" "[I") ∈ x_all := x_in3 (List.mem_of_getElem? (i := 144) rfl) rfl
theorem wd_625 : (Jvm.Cond.fieldLink "WireMoneyModel" (52 : Nat) "WireMoneyModel" "to" "[I") ∈ x_all := x_in3 (List.mem_of_getElem? (i := 145) rfl) rfl
theorem wd_626 : (Jvm.Cond.fieldLink "WireMoneyModel" (55 : Nat) "WireMoneyModel" "sum" "[I") ∈ x_all := x_in3 (List.mem_of_getElem? (i := 146) rfl) rfl
theorem wd_627 : (Jvm.Cond.fieldLink "WireMoneyModel" (58 : Nat) "WireMoneyModel" "word" "[I") ∈ x_all := x_in3 (List.mem_of_getElem? (i := 147) rfl) rfl
theorem wd_628 : (Jvm.Cond.fieldLink "WireMoneyModel" (61 : Nat) "WireMoneyModel" "feeOf" "[I") ∈ x_all := x_in3 (List.mem_of_getElem? (i := 148) rfl) rfl
theorem wd_629 : (Jvm.Cond.fieldLink "WireMoneyModel" (64 : Nat) "WireMoneyModel" "isKnown" "[Z") ∈ x_all := x_in3 (List.mem_of_getElem? (i := 149) rfl) rfl
theorem wd_630 : (Jvm.Cond.fieldLink "WireMoneyModel" (68 : Nat) "WireMoneyModel" "isPaid" "[Z") ∈ x_all := x_in3 (List.mem_of_getElem? (i := 150) rfl) rfl
theorem wd_631 : (Jvm.Cond.fieldLink "WireMoneyModel" (71 : Nat) "WireMoneyModel" "isStopped" "[Z") ∈ x_all := x_in3 (List.mem_of_getElem? (i := 151) rfl) rfl
theorem wd_632 : (Jvm.Cond.fieldLink "WireMoneyModel" (74 : Nat) "WireMoneyModel" "isBack" "[Z") ∈ x_all := x_in3 (List.mem_of_getElem? (i := 152) rfl) rfl
theorem wd_633 : (Jvm.Cond.fieldLink "WireMoneyModel" (77 : Nat) "WireMoneyModel" "hasStop" "[Z") ∈ x_all := x_in3 (List.mem_of_getElem? (i := 153) rfl) rfl
theorem wd_634 : (Jvm.Cond.fieldLink "WireMoneyModel" (80 : Nat) "WireMoneyModel" "paidAt" "[I") ∈ x_all := x_in3 (List.mem_of_getElem? (i := 154) rfl) rfl
theorem wd_635 : (Jvm.Cond.fieldLink "WireMoneyModel" (83 : Nat) "WireMoneyModel" "written" "[I") ∈ x_all := x_in3 (List.mem_of_getElem? (i := 155) rfl) rfl
theorem wd_636 : (Jvm.Cond.fieldLink "WireMoneyModel" (173 : Nat) "WireMoneyModel" "messages" "I") ∈ x_all := x_in3 (List.mem_of_getElem? (i := 156) rfl) rfl
theorem wd_637 : (Jvm.Cond.fieldLink "WireMoneyModel" (86 : Nat) "WireMoneyModel" "kind" "[I") ∈ x_all := x_in3 (List.mem_of_getElem? (i := 157) rfl) rfl
theorem wd_638 : (Jvm.Cond.fieldLink "WireMoneyModel" (89 : Nat) "WireMoneyModel" "orderOf" "[I") ∈ x_all := x_in3 (List.mem_of_getElem? (i := 158) rfl) rfl
theorem wd_639 : (Jvm.Cond.fieldLink "WireMoneyModel" (92 : Nat) "WireMoneyModel" "messageFrom" "[I") ∈ x_all := x_in3 (List.mem_of_getElem? (i := 159) rfl) rfl
theorem wd_640 : (Jvm.Cond.fieldLink "WireMoneyModel" (95 : Nat) "WireMoneyModel" "messageTo" "[I") ∈ x_all := x_in3 (List.mem_of_getElem? (i := 160) rfl) rfl
theorem wd_641 : (Jvm.Cond.fieldLink "WireMoneyModel" (98 : Nat) "WireMoneyModel" "state" "[I") ∈ x_all := x_in3 (List.mem_of_getElem? (i := 161) rfl) rfl
theorem wd_642 : (Jvm.Cond.fieldLink "WireMoneyModel" (101 : Nat) "WireMoneyModel" "place" "[I") ∈ x_all := x_in3 (List.mem_of_getElem? (i := 162) rfl) rfl
theorem wd_643 : (Jvm.Cond.fieldLink "WireMoneyModel" (104 : Nat) "WireMoneyModel" "wireOf" "[I") ∈ x_all := x_in3 (List.mem_of_getElem? (i := 163) rfl) rfl
theorem wd_644 : (Jvm.Cond.fieldLink "WireMoneyModel" (107 : Nat) "WireMoneyModel" "put" "[I") ∈ x_all := x_in3 (List.mem_of_getElem? (i := 164) rfl) rfl
theorem wd_645 : (Jvm.Cond.fieldLink "WireMoneyModel" (110 : Nat) "WireMoneyModel" "comes" "[I") ∈ x_all := x_in3 (List.mem_of_getElem? (i := 165) rfl) rfl
theorem wd_646 : (Jvm.Cond.fieldLink "WireMoneyModel" (113 : Nat) "WireMoneyModel" "readAt" "[I") ∈ x_all := x_in3 (List.mem_of_getElem? (i := 166) rfl) rfl
theorem wd_647 : (Jvm.Cond.fieldLink "WireMoneyModel" (116 : Nat) "WireMoneyModel" "wasGarbled" "[Z") ∈ x_all := x_in3 (List.mem_of_getElem? (i := 167) rfl) rfl
theorem wd_648 : (Jvm.Cond.fieldLink "WireMoneyModel" (119 : Nat) "WireMoneyModel" "isChanged" "[Z") ∈ x_all := x_in3 (List.mem_of_getElem? (i := 168) rfl) rfl
theorem wd_649 : (Jvm.Cond.fieldLink "WireMoneyModel" (122 : Nat) "WireMoneyModel" "test" "[I") ∈ x_all := x_in3 (List.mem_of_getElem? (i := 169) rfl) rfl
theorem wd_650 : (Jvm.Cond.fieldLink "WireMoneyModel" (125 : Nat) "WireMoneyModel" "day" "[I") ∈ x_all := x_in3 (List.mem_of_getElem? (i := 170) rfl) rfl
theorem wd_651 : (Jvm.Cond.fieldLink "WireMoneyModel" (128 : Nat) "WireMoneyModel" "signs" "[I") ∈ x_all := x_in3 (List.mem_of_getElem? (i := 171) rfl) rfl
theorem wd_652 : (Jvm.Cond.fieldLink "WireMoneyModel" (170 : Nat) "WireMoneyModel" "puts" "I") ∈ x_all := x_in3 (List.mem_of_getElem? (i := 172) rfl) rfl
theorem wd_653 : (Jvm.Cond.fieldLink "WireMoneyModel" (208 : Nat) "WireMoneyModel" "garbled" "I") ∈ x_all := x_in3 (List.mem_of_getElem? (i := 173) rfl) rfl
theorem wd_654 : (Jvm.Cond.fieldLink "WireMoneyModel" (202 : Nat) "WireMoneyModel" "paid" "I") ∈ x_all := x_in3 (List.mem_of_getElem? (i := 174) rfl) rfl
theorem wd_655 : (Jvm.Cond.fieldLink "WireMoneyModel" (211 : Nat) "WireMoneyModel" "late" "I") ∈ x_all := x_in3 (List.mem_of_getElem? (i := 175) rfl) rfl
theorem wd_757 : (Jvm.Cond.arrayClass Jvm.ClassFile.FieldType.boolean) ∈ x_all := x_in4 (List.mem_of_getElem? (i := 37) rfl) rfl
theorem wd_758 : (Jvm.Cond.methodLink "WireMoneyLaw" (17 : Nat) ({ cls := "WireMoneyModel", name := "counter", desc := "(III)I" } : Jvm.MethodName)) ∈ x_all := x_in4 (List.mem_of_getElem? (i := 38) rfl) rfl
theorem wd_759 : (Jvm.Cond.instanceMethod ({ cls := "WireMoneyModel", name := "counter", desc := "(III)I" } : Jvm.MethodName)) ∈ x_all := x_in4 (List.mem_of_getElem? (i := 39) rfl) rfl
theorem wd_760 : (Jvm.Cond.selects "WireMoneyModel" ({ cls := "WireMoneyModel", name := "counter", desc := "(III)I" } : Jvm.MethodName) ({ cls := "WireMoneyModel", name := "counter", desc := "(III)I" } : Jvm.MethodName)) ∈ x_all := x_in4 (List.mem_of_getElem? (i := 40) rfl) rfl
theorem wd_761 : (Jvm.Cond.code ({ cls := "WireMoneyModel", name := "counter", desc := "(III)I" } : Jvm.MethodName) prog_11_method_5_code (4 : Nat) (Option.some Jvm.ClassFile.FieldType.int)) ∈ x_all := x_in4 (List.mem_of_getElem? (i := 41) rfl) rfl
theorem wd_762 : (Jvm.Cond.methodLink "WireMoneyModel" (138 : Nat) ({ cls := "WireMoneyModel", name := "in", desc := "(III)Z" } : Jvm.MethodName)) ∈ x_all := x_in4 (List.mem_of_getElem? (i := 42) rfl) rfl
theorem wd_763 : (Jvm.Cond.static ({ cls := "WireMoneyModel", name := "in", desc := "(III)Z" } : Jvm.MethodName)) ∈ x_all := x_in4 (List.mem_of_getElem? (i := 43) rfl) rfl
theorem wd_764 : (Jvm.Cond.code ({ cls := "WireMoneyModel", name := "in", desc := "(III)Z" } : Jvm.MethodName) prog_11_method_2_code (3 : Nat) (Option.some Jvm.ClassFile.FieldType.boolean)) ∈ x_all := x_in4 (List.mem_of_getElem? (i := 44) rfl) rfl
theorem wd_765 : (Jvm.Cond.methodLink "WireMoneyLaw" (21 : Nat) ({ cls := "WireMoneyModel", name := "wire", desc := "(III)I" } : Jvm.MethodName)) ∈ x_all := x_in4 (List.mem_of_getElem? (i := 45) rfl) rfl
theorem wd_766 : (Jvm.Cond.instanceMethod ({ cls := "WireMoneyModel", name := "wire", desc := "(III)I" } : Jvm.MethodName)) ∈ x_all := x_in4 (List.mem_of_getElem? (i := 46) rfl) rfl
theorem wd_767 : (Jvm.Cond.selects "WireMoneyModel" ({ cls := "WireMoneyModel", name := "wire", desc := "(III)I" } : Jvm.MethodName) ({ cls := "WireMoneyModel", name := "wire", desc := "(III)I" } : Jvm.MethodName)) ∈ x_all := x_in4 (List.mem_of_getElem? (i := 47) rfl) rfl
theorem wd_768 : (Jvm.Cond.code ({ cls := "WireMoneyModel", name := "wire", desc := "(III)I" } : Jvm.MethodName) prog_11_method_8_code (4 : Nat) (Option.some Jvm.ClassFile.FieldType.int)) ∈ x_all := x_in4 (List.mem_of_getElem? (i := 48) rfl) rfl
theorem wd_769 : (Jvm.Cond.methodLink "WireMoneyModel" (152 : Nat) ({ cls := "WireMoneyModel", name := "isCounter", desc := "(I)Z" } : Jvm.MethodName)) ∈ x_all := x_in4 (List.mem_of_getElem? (i := 49) rfl) rfl
theorem wd_771 : (Jvm.Cond.instanceMethod ({ cls := "WireMoneyModel", name := "isCounter", desc := "(I)Z" } : Jvm.MethodName)) ∈ x_all := x_in4 (List.mem_of_getElem? (i := 51) rfl) rfl
theorem wd_772 : (Jvm.Cond.code ({ cls := "WireMoneyModel", name := "isCounter", desc := "(I)Z" } : Jvm.MethodName) prog_11_method_3_code (2 : Nat) (Option.some Jvm.ClassFile.FieldType.boolean)) ∈ x_all := x_in4 (List.mem_of_getElem? (i := 52) rfl) rfl
theorem wd_773 : (Jvm.Cond.methodLink "WireMoneyLaw" (26 : Nat) ({ cls := "WireMoneyModel", name := "down", desc := "(III)Z" } : Jvm.MethodName)) ∈ x_all := x_in4 (List.mem_of_getElem? (i := 53) rfl) rfl
theorem wd_774 : (Jvm.Cond.instanceMethod ({ cls := "WireMoneyModel", name := "down", desc := "(III)Z" } : Jvm.MethodName)) ∈ x_all := x_in4 (List.mem_of_getElem? (i := 54) rfl) rfl
theorem wd_775 : (Jvm.Cond.selects "WireMoneyModel" ({ cls := "WireMoneyModel", name := "down", desc := "(III)Z" } : Jvm.MethodName) ({ cls := "WireMoneyModel", name := "down", desc := "(III)Z" } : Jvm.MethodName)) ∈ x_all := x_in4 (List.mem_of_getElem? (i := 55) rfl) rfl
theorem wd_776 : (Jvm.Cond.code ({ cls := "WireMoneyModel", name := "down", desc := "(III)Z" } : Jvm.MethodName) prog_11_method_9_code (4 : Nat) (Option.some Jvm.ClassFile.FieldType.boolean)) ∈ x_all := x_in4 (List.mem_of_getElem? (i := 56) rfl) rfl
theorem wd_777 : (Jvm.Cond.methodLink "WireMoneyLaw" (31 : Nat) ({ cls := "WireMoneyModel", name := "least", desc := "(II)I" } : Jvm.MethodName)) ∈ x_all := x_in4 (List.mem_of_getElem? (i := 57) rfl) rfl
theorem wd_778 : (Jvm.Cond.instanceMethod ({ cls := "WireMoneyModel", name := "least", desc := "(II)I" } : Jvm.MethodName)) ∈ x_all := x_in4 (List.mem_of_getElem? (i := 58) rfl) rfl
theorem wd_779 : (Jvm.Cond.selects "WireMoneyModel" ({ cls := "WireMoneyModel", name := "least", desc := "(II)I" } : Jvm.MethodName) ({ cls := "WireMoneyModel", name := "least", desc := "(II)I" } : Jvm.MethodName)) ∈ x_all := x_in4 (List.mem_of_getElem? (i := 59) rfl) rfl
theorem wd_780 : (Jvm.Cond.code ({ cls := "WireMoneyModel", name := "least", desc := "(II)I" } : Jvm.MethodName) prog_11_method_10_code (4 : Nat) (Option.some Jvm.ClassFile.FieldType.int)) ∈ x_all := x_in4 (List.mem_of_getElem? (i := 60) rfl) rfl
theorem wd_781 : (Jvm.Cond.methodLink "WireMoneyLaw" (36 : Nat) ({ cls := "WireMoneyModel", name := "band", desc := "(II)Z" } : Jvm.MethodName)) ∈ x_all := x_in4 (List.mem_of_getElem? (i := 61) rfl) rfl
theorem wd_782 : (Jvm.Cond.instanceMethod ({ cls := "WireMoneyModel", name := "band", desc := "(II)Z" } : Jvm.MethodName)) ∈ x_all := x_in4 (List.mem_of_getElem? (i := 62) rfl) rfl
theorem wd_783 : (Jvm.Cond.selects "WireMoneyModel" ({ cls := "WireMoneyModel", name := "band", desc := "(II)Z" } : Jvm.MethodName) ({ cls := "WireMoneyModel", name := "band", desc := "(II)Z" } : Jvm.MethodName)) ∈ x_all := x_in4 (List.mem_of_getElem? (i := 63) rfl) rfl
theorem wd_784 : (Jvm.Cond.code ({ cls := "WireMoneyModel", name := "band", desc := "(II)Z" } : Jvm.MethodName) prog_11_method_13_code (3 : Nat) (Option.some Jvm.ClassFile.FieldType.boolean)) ∈ x_all := x_in4 (List.mem_of_getElem? (i := 64) rfl) rfl
theorem wd_785 : (Jvm.Cond.constant "WireMoneyModel" (160 : Nat) (99999 : Int32)) ∈ x_all := x_in4 (List.mem_of_getElem? (i := 65) rfl) rfl
theorem wd_786 : (Jvm.Cond.methodLink "WireMoneyLaw" (41 : Nat) ({ cls := "WireMoneyModel", name := "fee", desc := "(I)I" } : Jvm.MethodName)) ∈ x_all := x_in4 (List.mem_of_getElem? (i := 66) rfl) rfl
theorem wd_787 : (Jvm.Cond.instanceMethod ({ cls := "WireMoneyModel", name := "fee", desc := "(I)I" } : Jvm.MethodName)) ∈ x_all := x_in4 (List.mem_of_getElem? (i := 67) rfl) rfl
theorem wd_788 : (Jvm.Cond.selects "WireMoneyModel" ({ cls := "WireMoneyModel", name := "fee", desc := "(I)I" } : Jvm.MethodName) ({ cls := "WireMoneyModel", name := "fee", desc := "(I)I" } : Jvm.MethodName)) ∈ x_all := x_in4 (List.mem_of_getElem? (i := 68) rfl) rfl
theorem wd_789 : (Jvm.Cond.code ({ cls := "WireMoneyModel", name := "fee", desc := "(I)I" } : Jvm.MethodName) prog_11_method_14_code (3 : Nat) (Option.some Jvm.ClassFile.FieldType.int)) ∈ x_all := x_in4 (List.mem_of_getElem? (i := 69) rfl) rfl
theorem wd_790 : (Jvm.Cond.methodLink "WireMoneyLaw" (46 : Nat) ({ cls := "WireMoneyModel", name := "order", desc := "(IIII)I" } : Jvm.MethodName)) ∈ x_all := x_in4 (List.mem_of_getElem? (i := 70) rfl) rfl
theorem wd_791 : (Jvm.Cond.instanceMethod ({ cls := "WireMoneyModel", name := "order", desc := "(IIII)I" } : Jvm.MethodName)) ∈ x_all := x_in4 (List.mem_of_getElem? (i := 71) rfl) rfl
theorem wd_792 : (Jvm.Cond.selects "WireMoneyModel" ({ cls := "WireMoneyModel", name := "order", desc := "(IIII)I" } : Jvm.MethodName) ({ cls := "WireMoneyModel", name := "order", desc := "(IIII)I" } : Jvm.MethodName)) ∈ x_all := x_in4 (List.mem_of_getElem? (i := 72) rfl) rfl
theorem wd_793 : (Jvm.Cond.code ({ cls := "WireMoneyModel", name := "order", desc := "(IIII)I" } : Jvm.MethodName) prog_11_method_20_code (6 : Nat) (Option.some Jvm.ClassFile.FieldType.int)) ∈ x_all := x_in4 (List.mem_of_getElem? (i := 73) rfl) rfl
theorem wd_794 : (Jvm.Cond.methodLink "WireMoneyModel" (187 : Nat) ({ cls := "WireMoneyModel", name := "least", desc := "(II)I" } : Jvm.MethodName)) ∈ x_all := x_in4 (List.mem_of_getElem? (i := 74) rfl) rfl
theorem wd_795 : (Jvm.Cond.methodLink "WireMoneyModel" (189 : Nat) ({ cls := "WireMoneyModel", name := "isOpen", desc := "(I)Z" } : Jvm.MethodName)) ∈ x_all := x_in4 (List.mem_of_getElem? (i := 75) rfl) rfl
theorem wd_797 : (Jvm.Cond.instanceMethod ({ cls := "WireMoneyModel", name := "isOpen", desc := "(I)Z" } : Jvm.MethodName)) ∈ x_all := x_in4 (List.mem_of_getElem? (i := 77) rfl) rfl
theorem wd_798 : (Jvm.Cond.code ({ cls := "WireMoneyModel", name := "isOpen", desc := "(I)Z" } : Jvm.MethodName) prog_11_method_6_code (2 : Nat) (Option.some Jvm.ClassFile.FieldType.boolean)) ∈ x_all := x_in4 (List.mem_of_getElem? (i := 78) rfl) rfl
theorem wd_799 : (Jvm.Cond.methodLink "WireMoneyModel" (192 : Nat) ({ cls := "WireMoneyModel", name := "fee", desc := "(I)I" } : Jvm.MethodName)) ∈ x_all := x_in4 (List.mem_of_getElem? (i := 79) rfl) rfl
theorem wd_800 : (Jvm.Cond.methodLink "WireMoneyModel" (195 : Nat) ({ cls := "WireMoneyModel", name := "writes", desc := "(IIII)I" } : Jvm.MethodName)) ∈ x_all := x_in4 (List.mem_of_getElem? (i := 80) rfl) rfl
theorem wd_802 : (Jvm.Cond.instanceMethod ({ cls := "WireMoneyModel", name := "writes", desc := "(IIII)I" } : Jvm.MethodName)) ∈ x_all := x_in4 (List.mem_of_getElem? (i := 82) rfl) rfl
theorem wd_803 : (Jvm.Cond.code ({ cls := "WireMoneyModel", name := "writes", desc := "(IIII)I" } : Jvm.MethodName) prog_11_method_19_code (7 : Nat) (Option.some Jvm.ClassFile.FieldType.int)) ∈ x_all := x_in4 (List.mem_of_getElem? (i := 83) rfl) rfl
theorem wd_804 : (Jvm.Cond.methodLink "WireMoneyModel" (176 : Nat) ({ cls := "WireMoneyModel", name := "digit", desc := "(II)I" } : Jvm.MethodName)) ∈ x_all := x_in4 (List.mem_of_getElem? (i := 84) rfl) rfl
theorem wd_805 : (Jvm.Cond.static ({ cls := "WireMoneyModel", name := "digit", desc := "(II)I" } : Jvm.MethodName)) ∈ x_all := x_in4 (List.mem_of_getElem? (i := 85) rfl) rfl
theorem wd_806 : (Jvm.Cond.code ({ cls := "WireMoneyModel", name := "digit", desc := "(II)I" } : Jvm.MethodName) prog_11_method_17_code (4 : Nat) (Option.some Jvm.ClassFile.FieldType.int)) ∈ x_all := x_in4 (List.mem_of_getElem? (i := 86) rfl) rfl
theorem wd_807 : (Jvm.Cond.methodLink "WireMoneyModel" (179 : Nat) ({ cls := "WireMoneyModel", name := "testOf", desc := "(I)I" } : Jvm.MethodName)) ∈ x_all := x_in4 (List.mem_of_getElem? (i := 87) rfl) rfl
theorem wd_809 : (Jvm.Cond.instanceMethod ({ cls := "WireMoneyModel", name := "testOf", desc := "(I)I" } : Jvm.MethodName)) ∈ x_all := x_in4 (List.mem_of_getElem? (i := 89) rfl) rfl
theorem wd_810 : (Jvm.Cond.code ({ cls := "WireMoneyModel", name := "testOf", desc := "(I)I" } : Jvm.MethodName) prog_11_method_16_code (4 : Nat) (Option.some Jvm.ClassFile.FieldType.int)) ∈ x_all := x_in4 (List.mem_of_getElem? (i := 90) rfl) rfl
theorem wd_811 : (Jvm.Cond.methodLink "WireMoneyModel" (164 : Nat) ({ cls := "WireMoneyModel", name := "weight", desc := "(II)I" } : Jvm.MethodName)) ∈ x_all := x_in4 (List.mem_of_getElem? (i := 91) rfl) rfl
theorem wd_812 : (Jvm.Cond.static ({ cls := "WireMoneyModel", name := "weight", desc := "(II)I" } : Jvm.MethodName)) ∈ x_all := x_in4 (List.mem_of_getElem? (i := 92) rfl) rfl
theorem wd_813 : (Jvm.Cond.code ({ cls := "WireMoneyModel", name := "weight", desc := "(II)I" } : Jvm.MethodName) prog_11_method_15_code (2 : Nat) (Option.some Jvm.ClassFile.FieldType.int)) ∈ x_all := x_in4 (List.mem_of_getElem? (i := 93) rfl) rfl
theorem wd_814 : (Jvm.Cond.methodLink "WireMoneyModel" (183 : Nat) ({ cls := "WireMoneyModel", name := "queues", desc := "(II)V" } : Jvm.MethodName)) ∈ x_all := x_in4 (List.mem_of_getElem? (i := 94) rfl) rfl
theorem wd_816 : (Jvm.Cond.instanceMethod ({ cls := "WireMoneyModel", name := "queues", desc := "(II)V" } : Jvm.MethodName)) ∈ x_all := x_in4 (List.mem_of_getElem? (i := 96) rfl) rfl
theorem wd_817 : (Jvm.Cond.code ({ cls := "WireMoneyModel", name := "queues", desc := "(II)V" } : Jvm.MethodName) prog_11_method_18_code (3 : Nat) (Option.none : Option Jvm.ClassFile.FieldType)) ∈ x_all := x_in4 (List.mem_of_getElem? (i := 97) rfl) rfl
theorem wd_818 : (Jvm.Cond.methodLink "WireMoneyModel" (167 : Nat) ({ cls := "WireMoneyModel", name := "nextWire", desc := "(II)I" } : Jvm.MethodName)) ∈ x_all := x_in4 (List.mem_of_getElem? (i := 98) rfl) rfl
theorem wd_820 : (Jvm.Cond.instanceMethod ({ cls := "WireMoneyModel", name := "nextWire", desc := "(II)I" } : Jvm.MethodName)) ∈ x_all := x_in4 (List.mem_of_getElem? (i := 100) rfl) rfl
theorem wd_821 : (Jvm.Cond.code ({ cls := "WireMoneyModel", name := "nextWire", desc := "(II)I" } : Jvm.MethodName) prog_11_method_12_code (6 : Nat) (Option.some Jvm.ClassFile.FieldType.int)) ∈ x_all := x_in4 (List.mem_of_getElem? (i := 101) rfl) rfl
theorem wd_822 : (Jvm.Cond.methodLink "WireMoneyModel" (156 : Nat) ({ cls := "WireMoneyModel", name := "otherEnd", desc := "(II)I" } : Jvm.MethodName)) ∈ x_all := x_in4 (List.mem_of_getElem? (i := 102) rfl) rfl
theorem wd_824 : (Jvm.Cond.instanceMethod ({ cls := "WireMoneyModel", name := "otherEnd", desc := "(II)I" } : Jvm.MethodName)) ∈ x_all := x_in4 (List.mem_of_getElem? (i := 104) rfl) rfl
theorem wd_825 : (Jvm.Cond.code ({ cls := "WireMoneyModel", name := "otherEnd", desc := "(II)I" } : Jvm.MethodName) prog_11_method_11_code (3 : Nat) (Option.some Jvm.ClassFile.FieldType.int)) ∈ x_all := x_in4 (List.mem_of_getElem? (i := 105) rfl) rfl
theorem wd_826 : (Jvm.Cond.methodLink "WireMoneyLaw" (50 : Nat) ({ cls := "WireMoneyModel", name := "stop", desc := "(I)I" } : Jvm.MethodName)) ∈ x_all := x_in4 (List.mem_of_getElem? (i := 106) rfl) rfl
theorem wd_827 : (Jvm.Cond.instanceMethod ({ cls := "WireMoneyModel", name := "stop", desc := "(I)I" } : Jvm.MethodName)) ∈ x_all := x_in4 (List.mem_of_getElem? (i := 107) rfl) rfl
theorem wd_828 : (Jvm.Cond.selects "WireMoneyModel" ({ cls := "WireMoneyModel", name := "stop", desc := "(I)I" } : Jvm.MethodName) ({ cls := "WireMoneyModel", name := "stop", desc := "(I)I" } : Jvm.MethodName)) ∈ x_all := x_in4 (List.mem_of_getElem? (i := 108) rfl) rfl
theorem wd_829 : (Jvm.Cond.code ({ cls := "WireMoneyModel", name := "stop", desc := "(I)I" } : Jvm.MethodName) prog_11_method_21_code (2 : Nat) (Option.some Jvm.ClassFile.FieldType.int)) ∈ x_all := x_in4 (List.mem_of_getElem? (i := 109) rfl) rfl
theorem wd_830 : (Jvm.Cond.methodLink "WireMoneyModel" (199 : Nat) ({ cls := "WireMoneyModel", name := "isOrder", desc := "(I)Z" } : Jvm.MethodName)) ∈ x_all := x_in4 (List.mem_of_getElem? (i := 110) rfl) rfl
theorem wd_832 : (Jvm.Cond.instanceMethod ({ cls := "WireMoneyModel", name := "isOrder", desc := "(I)Z" } : Jvm.MethodName)) ∈ x_all := x_in4 (List.mem_of_getElem? (i := 112) rfl) rfl
theorem wd_833 : (Jvm.Cond.code ({ cls := "WireMoneyModel", name := "isOrder", desc := "(I)Z" } : Jvm.MethodName) prog_11_method_4_code (2 : Nat) (Option.some Jvm.ClassFile.FieldType.boolean)) ∈ x_all := x_in4 (List.mem_of_getElem? (i := 113) rfl) rfl
theorem wd_834 : (Jvm.Cond.methodLink "WireMoneyLaw" (54 : Nat) ({ cls := "WireMoneyModel", name := "pay", desc := "(II)I" } : Jvm.MethodName)) ∈ x_all := x_in4 (List.mem_of_getElem? (i := 114) rfl) rfl
theorem wd_835 : (Jvm.Cond.instanceMethod ({ cls := "WireMoneyModel", name := "pay", desc := "(II)I" } : Jvm.MethodName)) ∈ x_all := x_in4 (List.mem_of_getElem? (i := 115) rfl) rfl
theorem wd_836 : (Jvm.Cond.selects "WireMoneyModel" ({ cls := "WireMoneyModel", name := "pay", desc := "(II)I" } : Jvm.MethodName) ({ cls := "WireMoneyModel", name := "pay", desc := "(II)I" } : Jvm.MethodName)) ∈ x_all := x_in4 (List.mem_of_getElem? (i := 116) rfl) rfl
theorem wd_837 : (Jvm.Cond.code ({ cls := "WireMoneyModel", name := "pay", desc := "(II)I" } : Jvm.MethodName) prog_11_method_22_code (3 : Nat) (Option.some Jvm.ClassFile.FieldType.int)) ∈ x_all := x_in4 (List.mem_of_getElem? (i := 117) rfl) rfl
theorem wd_838 : (Jvm.Cond.methodLink "WireMoneyLaw" (58 : Nat) ({ cls := "WireMoneyModel", name := "cart", desc := "(III)Z" } : Jvm.MethodName)) ∈ x_all := x_in4 (List.mem_of_getElem? (i := 118) rfl) rfl
theorem wd_839 : (Jvm.Cond.instanceMethod ({ cls := "WireMoneyModel", name := "cart", desc := "(III)Z" } : Jvm.MethodName)) ∈ x_all := x_in4 (List.mem_of_getElem? (i := 119) rfl) rfl
theorem wd_840 : (Jvm.Cond.selects "WireMoneyModel" ({ cls := "WireMoneyModel", name := "cart", desc := "(III)Z" } : Jvm.MethodName) ({ cls := "WireMoneyModel", name := "cart", desc := "(III)Z" } : Jvm.MethodName)) ∈ x_all := x_in4 (List.mem_of_getElem? (i := 120) rfl) rfl
theorem wd_841 : (Jvm.Cond.code ({ cls := "WireMoneyModel", name := "cart", desc := "(III)Z" } : Jvm.MethodName) prog_11_method_23_code (4 : Nat) (Option.some Jvm.ClassFile.FieldType.boolean)) ∈ x_all := x_in4 (List.mem_of_getElem? (i := 121) rfl) rfl
theorem wd_842 : (Jvm.Cond.methodLink "WireMoneyLaw" (62 : Nat) ({ cls := "WireMoneyModel", name := "garble", desc := "(III)Z" } : Jvm.MethodName)) ∈ x_all := x_in4 (List.mem_of_getElem? (i := 122) rfl) rfl
theorem wd_843 : (Jvm.Cond.instanceMethod ({ cls := "WireMoneyModel", name := "garble", desc := "(III)Z" } : Jvm.MethodName)) ∈ x_all := x_in4 (List.mem_of_getElem? (i := 123) rfl) rfl
theorem wd_844 : (Jvm.Cond.selects "WireMoneyModel" ({ cls := "WireMoneyModel", name := "garble", desc := "(III)Z" } : Jvm.MethodName) ({ cls := "WireMoneyModel", name := "garble", desc := "(III)Z" } : Jvm.MethodName)) ∈ x_all := x_in4 (List.mem_of_getElem? (i := 124) rfl) rfl
theorem wd_845 : (Jvm.Cond.code ({ cls := "WireMoneyModel", name := "garble", desc := "(III)Z" } : Jvm.MethodName) prog_11_method_25_code (4 : Nat) (Option.some Jvm.ClassFile.FieldType.boolean)) ∈ x_all := x_in4 (List.mem_of_getElem? (i := 125) rfl) rfl
theorem wd_846 : (Jvm.Cond.methodLink "WireMoneyModel" (205 : Nat) ({ cls := "WireMoneyModel", name := "isPayment", desc := "(I)Z" } : Jvm.MethodName)) ∈ x_all := x_in4 (List.mem_of_getElem? (i := 126) rfl) rfl
theorem wd_848 : (Jvm.Cond.instanceMethod ({ cls := "WireMoneyModel", name := "isPayment", desc := "(I)Z" } : Jvm.MethodName)) ∈ x_all := x_in4 (List.mem_of_getElem? (i := 128) rfl) rfl
theorem wd_849 : (Jvm.Cond.code ({ cls := "WireMoneyModel", name := "isPayment", desc := "(I)Z" } : Jvm.MethodName) prog_11_method_24_code (2 : Nat) (Option.some Jvm.ClassFile.FieldType.boolean)) ∈ x_all := x_in4 (List.mem_of_getElem? (i := 129) rfl) rfl
theorem wd_850 : (Jvm.Cond.methodLink "WireMoneyLaw" (66 : Nat) ({ cls := "WireMoneyModel", name := "go", desc := "(I)I" } : Jvm.MethodName)) ∈ x_all := x_in4 (List.mem_of_getElem? (i := 130) rfl) rfl
theorem wd_851 : (Jvm.Cond.instanceMethod ({ cls := "WireMoneyModel", name := "go", desc := "(I)I" } : Jvm.MethodName)) ∈ x_all := x_in4 (List.mem_of_getElem? (i := 131) rfl) rfl
theorem wd_852 : (Jvm.Cond.selects "WireMoneyModel" ({ cls := "WireMoneyModel", name := "go", desc := "(I)I" } : Jvm.MethodName) ({ cls := "WireMoneyModel", name := "go", desc := "(I)I" } : Jvm.MethodName)) ∈ x_all := x_in4 (List.mem_of_getElem? (i := 132) rfl) rfl
theorem wd_853 : (Jvm.Cond.code ({ cls := "WireMoneyModel", name := "go", desc := "(I)I" } : Jvm.MethodName) prog_11_method_30_code (3 : Nat) (Option.some Jvm.ClassFile.FieldType.int)) ∈ x_all := x_in4 (List.mem_of_getElem? (i := 133) rfl) rfl
theorem wd_854 : (Jvm.Cond.methodLink "WireMoneyModel" (224 : Nat) ({ cls := "WireMoneyModel", name := "minute", desc := "()V" } : Jvm.MethodName)) ∈ x_all := x_in4 (List.mem_of_getElem? (i := 134) rfl) rfl
theorem wd_856 : (Jvm.Cond.instanceMethod ({ cls := "WireMoneyModel", name := "minute", desc := "()V" } : Jvm.MethodName)) ∈ x_all := x_in4 (List.mem_of_getElem? (i := 136) rfl) rfl
theorem wd_857 : (Jvm.Cond.code ({ cls := "WireMoneyModel", name := "minute", desc := "()V" } : Jvm.MethodName) prog_11_method_28_code (3 : Nat) (Option.none : Option Jvm.ClassFile.FieldType)) ∈ x_all := x_in4 (List.mem_of_getElem? (i := 137) rfl) rfl
theorem wd_858 : (Jvm.Cond.methodLink "WireMoneyModel" (214 : Nat) ({ cls := "WireMoneyModel", name := "reads", desc := "(I)V" } : Jvm.MethodName)) ∈ x_all := x_in4 (List.mem_of_getElem? (i := 138) rfl) rfl
theorem wd_860 : (Jvm.Cond.instanceMethod ({ cls := "WireMoneyModel", name := "reads", desc := "(I)V" } : Jvm.MethodName)) ∈ x_all := x_in4 (List.mem_of_getElem? (i := 140) rfl) rfl
theorem wd_861 : (Jvm.Cond.code ({ cls := "WireMoneyModel", name := "reads", desc := "(I)V" } : Jvm.MethodName) prog_11_method_26_code (3 : Nat) (Option.none : Option Jvm.ClassFile.FieldType)) ∈ x_all := x_in4 (List.mem_of_getElem? (i := 141) rfl) rfl
theorem wd_862 : (Jvm.Cond.methodLink "WireMoneyModel" (218 : Nat) ({ cls := "WireMoneyModel", name := "setsOut", desc := "(II)V" } : Jvm.MethodName)) ∈ x_all := x_in4 (List.mem_of_getElem? (i := 142) rfl) rfl
theorem wd_864 : (Jvm.Cond.instanceMethod ({ cls := "WireMoneyModel", name := "setsOut", desc := "(II)V" } : Jvm.MethodName)) ∈ x_all := x_in4 (List.mem_of_getElem? (i := 144) rfl) rfl
theorem wd_865 : (Jvm.Cond.code ({ cls := "WireMoneyModel", name := "setsOut", desc := "(II)V" } : Jvm.MethodName) prog_11_method_29_code (4 : Nat) (Option.none : Option Jvm.ClassFile.FieldType)) ∈ x_all := x_in4 (List.mem_of_getElem? (i := 145) rfl) rfl
theorem wd_866 : (Jvm.Cond.methodLink "WireMoneyModel" (221 : Nat) ({ cls := "WireMoneyModel", name := "firstOf", desc := "(II)I" } : Jvm.MethodName)) ∈ x_all := x_in4 (List.mem_of_getElem? (i := 146) rfl) rfl
theorem wd_868 : (Jvm.Cond.instanceMethod ({ cls := "WireMoneyModel", name := "firstOf", desc := "(II)I" } : Jvm.MethodName)) ∈ x_all := x_in4 (List.mem_of_getElem? (i := 148) rfl) rfl
theorem wd_869 : (Jvm.Cond.code ({ cls := "WireMoneyModel", name := "firstOf", desc := "(II)I" } : Jvm.MethodName) prog_11_method_27_code (5 : Nat) (Option.some Jvm.ClassFile.FieldType.int)) ∈ x_all := x_in4 (List.mem_of_getElem? (i := 149) rfl) rfl
theorem wd_870 : (Jvm.Cond.methodLink "WireMoneyLaw" (70 : Nat) ({ cls := "WireMoneyModel", name := "sign", desc := "(II)I" } : Jvm.MethodName)) ∈ x_all := x_in4 (List.mem_of_getElem? (i := 150) rfl) rfl
theorem wd_871 : (Jvm.Cond.instanceMethod ({ cls := "WireMoneyModel", name := "sign", desc := "(II)I" } : Jvm.MethodName)) ∈ x_all := x_in4 (List.mem_of_getElem? (i := 151) rfl) rfl
theorem wd_872 : (Jvm.Cond.selects "WireMoneyModel" ({ cls := "WireMoneyModel", name := "sign", desc := "(II)I" } : Jvm.MethodName) ({ cls := "WireMoneyModel", name := "sign", desc := "(II)I" } : Jvm.MethodName)) ∈ x_all := x_in4 (List.mem_of_getElem? (i := 152) rfl) rfl
theorem wd_873 : (Jvm.Cond.code ({ cls := "WireMoneyModel", name := "sign", desc := "(II)I" } : Jvm.MethodName) prog_11_method_31_code (3 : Nat) (Option.some Jvm.ClassFile.FieldType.int)) ∈ x_all := x_in4 (List.mem_of_getElem? (i := 153) rfl) rfl
theorem wd_874 : (Jvm.Cond.methodLink "WireMoneyLaw" (74 : Nat) ({ cls := "WireMoneyModel", name := "message", desc := "(II)I" } : Jvm.MethodName)) ∈ x_all := x_in4 (List.mem_of_getElem? (i := 154) rfl) rfl
theorem wd_875 : (Jvm.Cond.instanceMethod ({ cls := "WireMoneyModel", name := "message", desc := "(II)I" } : Jvm.MethodName)) ∈ x_all := x_in4 (List.mem_of_getElem? (i := 155) rfl) rfl
theorem wd_876 : (Jvm.Cond.selects "WireMoneyModel" ({ cls := "WireMoneyModel", name := "message", desc := "(II)I" } : Jvm.MethodName) ({ cls := "WireMoneyModel", name := "message", desc := "(II)I" } : Jvm.MethodName)) ∈ x_all := x_in4 (List.mem_of_getElem? (i := 156) rfl) rfl
theorem wd_877 : (Jvm.Cond.code ({ cls := "WireMoneyModel", name := "message", desc := "(II)I" } : Jvm.MethodName) prog_11_method_32_code (3 : Nat) (Option.some Jvm.ClassFile.FieldType.int)) ∈ x_all := x_in4 (List.mem_of_getElem? (i := 157) rfl) rfl
theorem wd_878 : (Jvm.Cond.methodLink "WireMoneyLaw" (78 : Nat) ({ cls := "WireMoneyModel", name := "told", desc := "(II)I" } : Jvm.MethodName)) ∈ x_all := x_in4 (List.mem_of_getElem? (i := 158) rfl) rfl
theorem wd_879 : (Jvm.Cond.instanceMethod ({ cls := "WireMoneyModel", name := "told", desc := "(II)I" } : Jvm.MethodName)) ∈ x_all := x_in4 (List.mem_of_getElem? (i := 159) rfl) rfl
theorem wd_880 : (Jvm.Cond.selects "WireMoneyModel" ({ cls := "WireMoneyModel", name := "told", desc := "(II)I" } : Jvm.MethodName) ({ cls := "WireMoneyModel", name := "told", desc := "(II)I" } : Jvm.MethodName)) ∈ x_all := x_in4 (List.mem_of_getElem? (i := 160) rfl) rfl
theorem wd_881 : (Jvm.Cond.code ({ cls := "WireMoneyModel", name := "told", desc := "(II)I" } : Jvm.MethodName) prog_11_method_33_code (3 : Nat) (Option.some Jvm.ClassFile.FieldType.int)) ∈ x_all := x_in4 (List.mem_of_getElem? (i := 161) rfl) rfl
theorem wd_882 : (Jvm.Cond.methodLink "WireMoneyLaw" (82 : Nat) ({ cls := "WireMoneyModel", name := "at", desc := "(II)I" } : Jvm.MethodName)) ∈ x_all := x_in4 (List.mem_of_getElem? (i := 162) rfl) rfl
theorem wd_883 : (Jvm.Cond.instanceMethod ({ cls := "WireMoneyModel", name := "at", desc := "(II)I" } : Jvm.MethodName)) ∈ x_all := x_in4 (List.mem_of_getElem? (i := 163) rfl) rfl
theorem wd_884 : (Jvm.Cond.selects "WireMoneyModel" ({ cls := "WireMoneyModel", name := "at", desc := "(II)I" } : Jvm.MethodName) ({ cls := "WireMoneyModel", name := "at", desc := "(II)I" } : Jvm.MethodName)) ∈ x_all := x_in4 (List.mem_of_getElem? (i := 164) rfl) rfl
theorem wd_885 : (Jvm.Cond.code ({ cls := "WireMoneyModel", name := "at", desc := "(II)I" } : Jvm.MethodName) prog_11_method_35_code (5 : Nat) (Option.some Jvm.ClassFile.FieldType.int)) ∈ x_all := x_in4 (List.mem_of_getElem? (i := 165) rfl) rfl
theorem wd_886 : (Jvm.Cond.constant "WireMoneyModel" (227 : Nat) (-2147483648 : Int32)) ∈ x_all := x_in4 (List.mem_of_getElem? (i := 166) rfl) rfl
theorem wd_887 : (Jvm.Cond.methodLink "WireMoneyModel" (228 : Nat) ({ cls := "WireMoneyModel", name := "lack", desc := "(I)I" } : Jvm.MethodName)) ∈ x_all := x_in4 (List.mem_of_getElem? (i := 167) rfl) rfl
theorem wd_889 : (Jvm.Cond.instanceMethod ({ cls := "WireMoneyModel", name := "lack", desc := "(I)I" } : Jvm.MethodName)) ∈ x_all := x_in4 (List.mem_of_getElem? (i := 169) rfl) rfl
theorem wd_890 : (Jvm.Cond.code ({ cls := "WireMoneyModel", name := "lack", desc := "(I)I" } : Jvm.MethodName) prog_11_method_34_code (4 : Nat) (Option.some Jvm.ClassFile.FieldType.int)) ∈ x_all := x_in4 (List.mem_of_getElem? (i := 170) rfl) rfl
theorem wd_891 : (Jvm.Cond.methodLink "WireMoneyLaw" (86 : Nat) ({ cls := "WireMoneyModel", name := "count", desc := "(I)I" } : Jvm.MethodName)) ∈ x_all := x_in4 (List.mem_of_getElem? (i := 171) rfl) rfl
theorem wd_892 : (Jvm.Cond.instanceMethod ({ cls := "WireMoneyModel", name := "count", desc := "(I)I" } : Jvm.MethodName)) ∈ x_all := x_in4 (List.mem_of_getElem? (i := 172) rfl) rfl
theorem wd_893 : (Jvm.Cond.selects "WireMoneyModel" ({ cls := "WireMoneyModel", name := "count", desc := "(I)I" } : Jvm.MethodName) ({ cls := "WireMoneyModel", name := "count", desc := "(I)I" } : Jvm.MethodName)) ∈ x_all := x_in4 (List.mem_of_getElem? (i := 173) rfl) rfl
theorem wd_894 : (Jvm.Cond.code ({ cls := "WireMoneyModel", name := "count", desc := "(I)I" } : Jvm.MethodName) prog_11_method_36_code (2 : Nat) (Option.some Jvm.ClassFile.FieldType.int)) ∈ x_all := x_in4 (List.mem_of_getElem? (i := 174) rfl) rfl
theorem wp_0 : Cond.selects "WireMoney$Net" ⟨"WireMoney$Net", "noteStraight", "(ILWireMoney$Wire;)V"⟩ ⟨"WireMoney$Net", "noteStraight", "(ILWireMoney$Wire;)V"⟩ ∈ x_all := x_ina (List.mem_append_left _ (List.mem_of_getElem? (i := 0) rfl)) rfl
theorem wp_1 : Cond.selects "WireMoney$Net" ⟨"WireMoney$Net", "shortenBy", "(III)V"⟩ ⟨"WireMoney$Net", "shortenBy", "(III)V"⟩ ∈ x_all := x_ina (List.mem_append_left _ (List.mem_of_getElem? (i := 1) rfl)) rfl
theorem wp_2 : Cond.selects "WireMoney$Net" ⟨"WireMoney$Net", "leastOf", "(II)I"⟩ ⟨"WireMoney$Net", "leastOf", "(II)I"⟩ ∈ x_all := x_ina (List.mem_append_left _ (List.mem_of_getElem? (i := 2) rfl)) rfl
theorem wp_3 : Cond.selects "WireMoney$Net" ⟨"WireMoney$Net", "layWays", "()V"⟩ ⟨"WireMoney$Net", "layWays", "()V"⟩ ∈ x_all := x_ina (List.mem_append_left _ (List.mem_of_getElem? (i := 3) rfl)) rfl
theorem wp_4 : Cond.selects "WireMoney$Net" ⟨"WireMoney$Net", "findFirstWire", "(II)LWireMoney$Wire;"⟩ ⟨"WireMoney$Net", "findFirstWire", "(II)LWireMoney$Wire;"⟩ ∈ x_all := x_ina (List.mem_append_left _ (List.mem_of_getElem? (i := 4) rfl)) rfl
theorem wp_5 : Cond.selects "WireMoney$Bands" ⟨"WireMoney$Bands", "highestBound", "()I"⟩ ⟨"WireMoney$Bands", "highestBound", "()I"⟩ ∈ x_all := x_ina (List.mem_append_left _ (List.mem_of_getElem? (i := 5) rfl)) rfl
theorem wp_6 : Cond.selects "WireMoney" ⟨"WireMoney", "canWrite", "()Z"⟩ ⟨"WireMoney", "canWrite", "()Z"⟩ ∈ x_all := x_ina (List.mem_append_left _ (List.mem_of_getElem? (i := 6) rfl)) rfl
theorem wp_7 : Cond.selects "WireMoney" ⟨"WireMoney", "write", "(ILWireMoney$Order;)V"⟩ ⟨"WireMoney", "write", "(ILWireMoney$Order;)V"⟩ ∈ x_all := x_ina (List.mem_append_left _ (List.mem_of_getElem? (i := 7) rfl)) rfl
theorem wp_8 : Cond.selects "WireMoney" ⟨"WireMoney", "enqueue", "(LWireMoney$Message;)V"⟩ ⟨"WireMoney", "enqueue", "(LWireMoney$Message;)V"⟩ ∈ x_all := x_ina (List.mem_append_left _ (List.mem_of_getElem? (i := 8) rfl)) rfl
theorem wp_9 : Cond.selects "WireMoney" ⟨"WireMoney", "findOrder", "(I)LWireMoney$Order;"⟩ ⟨"WireMoney", "findOrder", "(I)LWireMoney$Order;"⟩ ∈ x_all := x_ina (List.mem_append_left _ (List.mem_of_getElem? (i := 9) rfl)) rfl
theorem wp_10 : Cond.selects "WireMoney" ⟨"WireMoney", "payOut", "(LWireMoney$Order;)V"⟩ ⟨"WireMoney", "payOut", "(LWireMoney$Order;)V"⟩ ∈ x_all := x_ina (List.mem_append_left _ (List.mem_of_getElem? (i := 10) rfl)) rfl
theorem wp_11 : Cond.selects "WireMoney" ⟨"WireMoney", "findMessage", "(I)LWireMoney$Message;"⟩ ⟨"WireMoney", "findMessage", "(I)LWireMoney$Message;"⟩ ∈ x_all := x_ina (List.mem_append_left _ (List.mem_of_getElem? (i := 11) rfl)) rfl
theorem wp_12 : Cond.selects "WireMoney" ⟨"WireMoney", "takeIn", "()V"⟩ ⟨"WireMoney", "takeIn", "()V"⟩ ∈ x_all := x_ina (List.mem_append_left _ (List.mem_of_getElem? (i := 12) rfl)) rfl
theorem wp_13 : Cond.selects "WireMoney" ⟨"WireMoney", "read", "(LWireMoney$Message;)V"⟩ ⟨"WireMoney", "read", "(LWireMoney$Message;)V"⟩ ∈ x_all := x_ina (List.mem_append_left _ (List.mem_of_getElem? (i := 13) rfl)) rfl
theorem wp_14 : Cond.selects "WireMoney" ⟨"WireMoney", "readPayment", "(LWireMoney$Message;)V"⟩ ⟨"WireMoney", "readPayment", "(LWireMoney$Message;)V"⟩ ∈ x_all := x_ina (List.mem_append_left _ (List.mem_of_getElem? (i := 14) rfl)) rfl
theorem wp_15 : Cond.selects "WireMoney" ⟨"WireMoney", "readStop", "(LWireMoney$Order;)V"⟩ ⟨"WireMoney", "readStop", "(LWireMoney$Order;)V"⟩ ∈ x_all := x_ina (List.mem_append_left _ (List.mem_of_getElem? (i := 15) rfl)) rfl
theorem wp_16 : Cond.selects "WireMoney" ⟨"WireMoney", "payBack", "(LWireMoney$Order;)V"⟩ ⟨"WireMoney", "payBack", "(LWireMoney$Order;)V"⟩ ∈ x_all := x_ina (List.mem_append_left _ (List.mem_of_getElem? (i := 16) rfl)) rfl
theorem wp_17 : Cond.selects "WireMoney" ⟨"WireMoney", "readRepeat", "(LWireMoney$Order;)V"⟩ ⟨"WireMoney", "readRepeat", "(LWireMoney$Order;)V"⟩ ∈ x_all := x_ina (List.mem_append_left _ (List.mem_of_getElem? (i := 17) rfl)) rfl
theorem wp_18 : Cond.selects "WireMoney" ⟨"WireMoney", "sendOut", "()V"⟩ ⟨"WireMoney", "sendOut", "()V"⟩ ∈ x_all := x_ina (List.mem_append_left _ (List.mem_of_getElem? (i := 18) rfl)) rfl
theorem wp_19 : Cond.selects "WireMoney" ⟨"WireMoney", "sendFirst", "(LWireMoney$Queue;I)V"⟩ ⟨"WireMoney", "sendFirst", "(LWireMoney$Queue;I)V"⟩ ∈ x_all := x_ina (List.mem_append_left _ (List.mem_of_getElem? (i := 19) rfl)) rfl
theorem wp_20 : Cond.selects "WireMoney" ⟨"WireMoney", "awaitedAt", "(LWireMoney$Counter;)I"⟩ ⟨"WireMoney", "awaitedAt", "(LWireMoney$Counter;)I"⟩ ∈ x_all := x_ina (List.mem_append_left _ (List.mem_of_getElem? (i := 20) rfl)) rfl
theorem wp_21 : Cond.selects "WireMoneyModel" ⟨"WireMoneyModel", "reckons", "()V"⟩ ⟨"WireMoneyModel", "reckons", "()V"⟩ ∈ x_all := x_ina (List.mem_append_left _ (List.mem_of_getElem? (i := 21) rfl)) rfl
theorem wp_22 : Cond.selects "WireMoneyModel" ⟨"WireMoneyModel", "isCounter", "(I)Z"⟩ ⟨"WireMoneyModel", "isCounter", "(I)Z"⟩ ∈ x_all := x_ina (List.mem_append_left _ (List.mem_of_getElem? (i := 22) rfl)) rfl
theorem wp_23 : Cond.selects "WireMoneyModel" ⟨"WireMoneyModel", "isOpen", "(I)Z"⟩ ⟨"WireMoneyModel", "isOpen", "(I)Z"⟩ ∈ x_all := x_ina (List.mem_append_left _ (List.mem_of_getElem? (i := 23) rfl)) rfl
theorem wp_24 : Cond.selects "WireMoneyModel" ⟨"WireMoneyModel", "writes", "(IIII)I"⟩ ⟨"WireMoneyModel", "writes", "(IIII)I"⟩ ∈ x_all := x_ina (List.mem_append_left _ (List.mem_of_getElem? (i := 24) rfl)) rfl
theorem wp_25 : Cond.selects "WireMoneyModel" ⟨"WireMoneyModel", "testOf", "(I)I"⟩ ⟨"WireMoneyModel", "testOf", "(I)I"⟩ ∈ x_all := x_ina (List.mem_append_left _ (List.mem_of_getElem? (i := 25) rfl)) rfl
theorem wp_26 : Cond.selects "WireMoneyModel" ⟨"WireMoneyModel", "queues", "(II)V"⟩ ⟨"WireMoneyModel", "queues", "(II)V"⟩ ∈ x_all := x_ina (List.mem_append_left _ (List.mem_of_getElem? (i := 26) rfl)) rfl
theorem wp_27 : Cond.selects "WireMoneyModel" ⟨"WireMoneyModel", "nextWire", "(II)I"⟩ ⟨"WireMoneyModel", "nextWire", "(II)I"⟩ ∈ x_all := x_ina (List.mem_append_left _ (List.mem_of_getElem? (i := 27) rfl)) rfl
theorem wp_28 : Cond.selects "WireMoneyModel" ⟨"WireMoneyModel", "otherEnd", "(II)I"⟩ ⟨"WireMoneyModel", "otherEnd", "(II)I"⟩ ∈ x_all := x_ina (List.mem_append_left _ (List.mem_of_getElem? (i := 28) rfl)) rfl
theorem wp_29 : Cond.selects "WireMoneyModel" ⟨"WireMoneyModel", "isOrder", "(I)Z"⟩ ⟨"WireMoneyModel", "isOrder", "(I)Z"⟩ ∈ x_all := x_ina (List.mem_append_left _ (List.mem_of_getElem? (i := 29) rfl)) rfl
theorem wp_30 : Cond.selects "WireMoneyModel" ⟨"WireMoneyModel", "isPayment", "(I)Z"⟩ ⟨"WireMoneyModel", "isPayment", "(I)Z"⟩ ∈ x_all := x_ina (List.mem_append_left _ (List.mem_of_getElem? (i := 30) rfl)) rfl
theorem wp_31 : Cond.selects "WireMoneyModel" ⟨"WireMoneyModel", "minute", "()V"⟩ ⟨"WireMoneyModel", "minute", "()V"⟩ ∈ x_all := x_ina (List.mem_append_left _ (List.mem_of_getElem? (i := 31) rfl)) rfl
theorem wp_32 : Cond.selects "WireMoneyModel" ⟨"WireMoneyModel", "reads", "(I)V"⟩ ⟨"WireMoneyModel", "reads", "(I)V"⟩ ∈ x_all := x_ina (List.mem_append_left _ (List.mem_of_getElem? (i := 32) rfl)) rfl
theorem wp_33 : Cond.selects "WireMoneyModel" ⟨"WireMoneyModel", "setsOut", "(II)V"⟩ ⟨"WireMoneyModel", "setsOut", "(II)V"⟩ ∈ x_all := x_ina (List.mem_append_left _ (List.mem_of_getElem? (i := 33) rfl)) rfl
theorem wp_34 : Cond.selects "WireMoneyModel" ⟨"WireMoneyModel", "firstOf", "(II)I"⟩ ⟨"WireMoneyModel", "firstOf", "(II)I"⟩ ∈ x_all := x_ina (List.mem_append_left _ (List.mem_of_getElem? (i := 34) rfl)) rfl
theorem wp_35 : Cond.selects "WireMoneyModel" ⟨"WireMoneyModel", "lack", "(I)I"⟩ ⟨"WireMoneyModel", "lack", "(I)I"⟩ ∈ x_all := x_ina (List.mem_append_left _ (List.mem_of_getElem? (i := 35) rfl)) rfl
def x_nf (ci : Nat) : Nat := match ci with
  | 0 => 3
  | 1 => 6
  | 2 => 11
  | 3 => 7
  | 4 => 13
  | 5 => 5
  | 6 => 4
  | 7 => 5
  | 8 => 11
  | 9 => 50
  | _ => 0
def x_ty (ci : Nat) : Nat → FieldType := match ci with
  | 0 => tyX0
  | 1 => tyX1
  | 2 => tyX2
  | 3 => tyX3
  | 4 => tyX4
  | 5 => tyX5
  | 6 => tyX6
  | 7 => tyX7
  | 8 => tyX8
  | 9 => tyX9
  | _ => fun _ => .int
def x_isT (t : FieldType) : Bool := match t with
  | .int => true
  | .boolean => true
  | _ => false
def x_isI (ci k : Nat) : Bool := x_isT (x_ty ci k)
def x_cl (ci : Nat) : Prop := ∃ (C : String) (T : u_T) (N : Nat), vwCl[ci]? = some (C, T, N) ∧ (∀ w ∈ u_ws C T N, w ∈ x_all) ∧ N = x_nf ci ∧ (∀ k, k < N → parseFieldDescriptor (T k).2.2.1 = some (x_ty ci k)) ∧ (∀ a, a < N → ∀ b, b < N → a ≠ b → (T a).2.1 ≠ (T b).2.1) ∧ (∀ k, k < N → (T k).1 = C) ∧ Cond.instantiable C N ∈ x_all ∧ Cond.initialized C ∈ x_all
set_option maxRecDepth 20000 in
theorem x_cl0 : x_cl 0 := ⟨RX0, TX0, 3, rfl, by decide +kernel, rfl, tyX0_ok, nmX0, by decide +kernel, wd_57, wd_3⟩
set_option maxRecDepth 20000 in
theorem x_cl1 : x_cl 1 := ⟨RX1, TX1, 6, rfl, by decide +kernel, rfl, tyX1_ok, nmX1, by decide +kernel, wd_122, wd_5⟩
set_option maxRecDepth 20000 in
theorem x_cl2 : x_cl 2 := ⟨RX2, TX2, 11, rfl, by decide +kernel, rfl, tyX2_ok, nmX2, by decide +kernel, wd_388, wd_11⟩
set_option maxRecDepth 20000 in
theorem x_cl3 : x_cl 3 := ⟨RX3, TX3, 7, rfl, by decide +kernel, rfl, tyX3_ok, nmX3, by decide +kernel, wd_21, wd_2⟩
set_option maxRecDepth 20000 in
theorem x_cl4 : x_cl 4 := ⟨RX4, TX4, 13, rfl, by decide +kernel, rfl, tyX4_ok, nmX4, by decide +kernel, wd_299, wd_9⟩
set_option maxRecDepth 20000 in
theorem x_cl5 : x_cl 5 := ⟨RX5, TX5, 5, rfl, by decide +kernel, rfl, tyX5_ok, nmX5, by decide +kernel, wd_167, wd_7⟩
set_option maxRecDepth 20000 in
theorem x_cl6 : x_cl 6 := ⟨RX6, TX6, 4, rfl, by decide +kernel, rfl, tyX6_ok, nmX6, by decide +kernel, wd_363, wd_10⟩
set_option maxRecDepth 20000 in
theorem x_cl7 : x_cl 7 := ⟨RX7, TX7, 5, rfl, by decide +kernel, rfl, tyX7_ok, nmX7, by decide +kernel, wd_161, wd_6⟩
set_option maxRecDepth 20000 in
theorem x_cl8 : x_cl 8 := ⟨RX8, TX8, 11, rfl, by decide +kernel, rfl, tyX8_ok, nmX8, by decide +kernel, wd_13, wd_1⟩
set_option maxRecDepth 20000 in
theorem x_cl9 : x_cl 9 := ⟨RX9, TX9, 50, rfl, by decide +kernel, rfl, tyX9_ok, nmX9, by decide +kernel, wd_596, wd_4⟩
theorem x_clA : ∀ ci, ci < 10 → x_cl ci
  | 0, _ => x_cl0
  | 1, _ => x_cl1
  | 2, _ => x_cl2
  | 3, _ => x_cl3
  | 4, _ => x_cl4
  | 5, _ => x_cl5
  | 6, _ => x_cl6
  | 7, _ => x_cl7
  | 8, _ => x_cl8
  | 9, _ => x_cl9
  | n + 10, h => absurd h (by omega)
def x_lk (own : String) (index ci k : Nat) : Prop := ci < 10 ∧ k < x_nf ci ∧ ∀ (C : String) (T : u_T) (N : Nat), vwCl[ci]? = some (C, T, N) → Cond.fieldLink own index (T k).1 (T k).2.1 (T k).2.2.1 ∈ x_all
theorem lk_3_34 : x_lk "WireMoney$Net" 34 3 0 := ⟨by decide, by decide, fun C T N h => by cases h; exact wd_31⟩
theorem lk_8_241 : x_lk "WireMoney" 241 3 0 := ⟨by decide, by decide, fun C T N h => by cases h; exact wd_32⟩
theorem lk_3_38 : x_lk "WireMoney$Net" 38 3 1 := ⟨by decide, by decide, fun C T N h => by cases h; exact wd_33⟩
theorem lk_8_244 : x_lk "WireMoney" 244 3 1 := ⟨by decide, by decide, fun C T N h => by cases h; exact wd_34⟩
theorem lk_3_11 : x_lk "WireMoney$Net" 11 3 2 := ⟨by decide, by decide, fun C T N h => by cases h; exact wd_35⟩
theorem lk_3_19 : x_lk "WireMoney$Net" 19 3 3 := ⟨by decide, by decide, fun C T N h => by cases h; exact wd_36⟩
theorem lk_3_23 : x_lk "WireMoney$Net" 23 3 4 := ⟨by decide, by decide, fun C T N h => by cases h; exact wd_37⟩
theorem lk_3_27 : x_lk "WireMoney$Net" 27 3 5 := ⟨by decide, by decide, fun C T N h => by cases h; exact wd_38⟩
theorem lk_3_30 : x_lk "WireMoney$Net" 30 3 6 := ⟨by decide, by decide, fun C T N h => by cases h; exact wd_39⟩
theorem lk_0_9 : x_lk "WireMoney$Bands" 9 0 0 := ⟨by decide, by decide, fun C T N h => by cases h; exact wd_62⟩
theorem lk_0_15 : x_lk "WireMoney$Bands" 15 0 1 := ⟨by decide, by decide, fun C T N h => by cases h; exact wd_63⟩
theorem lk_0_18 : x_lk "WireMoney$Bands" 18 0 2 := ⟨by decide, by decide, fun C T N h => by cases h; exact wd_64⟩
theorem lk_8_12 : x_lk "WireMoney" 12 8 0 := ⟨by decide, by decide, fun C T N h => by cases h; exact wd_77⟩
theorem lk_8_19 : x_lk "WireMoney" 19 8 1 := ⟨by decide, by decide, fun C T N h => by cases h; exact wd_78⟩
theorem lk_8_25 : x_lk "WireMoney" 25 8 2 := ⟨by decide, by decide, fun C T N h => by cases h; exact wd_79⟩
theorem lk_8_31 : x_lk "WireMoney" 31 8 3 := ⟨by decide, by decide, fun C T N h => by cases h; exact wd_80⟩
theorem lk_8_94 : x_lk "WireMoney" 94 8 4 := ⟨by decide, by decide, fun C T N h => by cases h; exact wd_81⟩
theorem lk_8_135 : x_lk "WireMoney" 135 8 5 := ⟨by decide, by decide, fun C T N h => by cases h; exact wd_82⟩
theorem lk_8_60 : x_lk "WireMoney" 60 8 6 := ⟨by decide, by decide, fun C T N h => by cases h; exact wd_83⟩
theorem lk_8_36 : x_lk "WireMoney" 36 8 7 := ⟨by decide, by decide, fun C T N h => by cases h; exact wd_84⟩
theorem lk_8_247 : x_lk "WireMoney" 247 8 8 := ⟨by decide, by decide, fun C T N h => by cases h; exact wd_85⟩
theorem lk_8_250 : x_lk "WireMoney" 250 8 9 := ⟨by decide, by decide, fun C T N h => by cases h; exact wd_86⟩
theorem lk_8_253 : x_lk "WireMoney" 253 8 10 := ⟨by decide, by decide, fun C T N h => by cases h; exact wd_87⟩
theorem lk_1_9 : x_lk "WireMoney$Counter" 9 1 0 := ⟨by decide, by decide, fun C T N h => by cases h; exact wd_127⟩
theorem lk_3_47 : x_lk "WireMoney$Net" 47 1 0 := ⟨by decide, by decide, fun C T N h => by cases h; exact wd_128⟩
theorem lk_8_203 : x_lk "WireMoney" 203 1 0 := ⟨by decide, by decide, fun C T N h => by cases h; exact wd_129⟩
theorem lk_1_18 : x_lk "WireMoney$Counter" 18 1 1 := ⟨by decide, by decide, fun C T N h => by cases h; exact wd_130⟩
theorem lk_1_21 : x_lk "WireMoney$Counter" 21 1 2 := ⟨by decide, by decide, fun C T N h => by cases h; exact wd_131⟩
theorem lk_1_15 : x_lk "WireMoney$Counter" 15 1 3 := ⟨by decide, by decide, fun C T N h => by cases h; exact wd_132⟩
theorem lk_8_107 : x_lk "WireMoney" 107 1 3 := ⟨by decide, by decide, fun C T N h => by cases h; exact wd_133⟩
theorem lk_8_235 : x_lk "WireMoney" 235 1 4 := ⟨by decide, by decide, fun C T N h => by cases h; exact wd_134⟩
theorem lk_8_110 : x_lk "WireMoney" 110 1 5 := ⟨by decide, by decide, fun C T N h => by cases h; exact wd_135⟩
theorem lk_5_7 : x_lk "WireMoney$Queue" 7 5 0 := ⟨by decide, by decide, fun C T N h => by cases h; exact wd_172⟩
theorem lk_7_31 : x_lk "WireMoney$Wire" 31 5 0 := ⟨by decide, by decide, fun C T N h => by cases h; exact wd_173⟩
theorem lk_5_13 : x_lk "WireMoney$Queue" 13 5 1 := ⟨by decide, by decide, fun C T N h => by cases h; exact wd_174⟩
theorem lk_8_314 : x_lk "WireMoney" 314 5 1 := ⟨by decide, by decide, fun C T N h => by cases h; exact wd_175⟩
theorem lk_5_28 : x_lk "WireMoney$Queue" 28 5 2 := ⟨by decide, by decide, fun C T N h => by cases h; exact wd_176⟩
theorem lk_3_84 : x_lk "WireMoney$Net" 84 5 2 := ⟨by decide, by decide, fun C T N h => by cases h; exact wd_177⟩
theorem lk_5_20 : x_lk "WireMoney$Queue" 20 5 3 := ⟨by decide, by decide, fun C T N h => by cases h; exact wd_178⟩
theorem lk_5_16 : x_lk "WireMoney$Queue" 16 5 4 := ⟨by decide, by decide, fun C T N h => by cases h; exact wd_179⟩
theorem lk_7_12 : x_lk "WireMoney$Wire" 12 7 0 := ⟨by decide, by decide, fun C T N h => by cases h; exact wd_191⟩
theorem lk_8_296 : x_lk "WireMoney" 296 7 0 := ⟨by decide, by decide, fun C T N h => by cases h; exact wd_192⟩
theorem lk_7_18 : x_lk "WireMoney$Wire" 18 7 1 := ⟨by decide, by decide, fun C T N h => by cases h; exact wd_193⟩
theorem lk_8_307 : x_lk "WireMoney" 307 7 1 := ⟨by decide, by decide, fun C T N h => by cases h; exact wd_194⟩
theorem lk_7_21 : x_lk "WireMoney$Wire" 21 7 2 := ⟨by decide, by decide, fun C T N h => by cases h; exact wd_195⟩
theorem lk_3_93 : x_lk "WireMoney$Net" 93 7 2 := ⟨by decide, by decide, fun C T N h => by cases h; exact wd_196⟩
theorem lk_8_300 : x_lk "WireMoney" 300 7 2 := ⟨by decide, by decide, fun C T N h => by cases h; exact wd_197⟩
theorem lk_7_25 : x_lk "WireMoney$Wire" 25 7 3 := ⟨by decide, by decide, fun C T N h => by cases h; exact wd_198⟩
theorem lk_8_63 : x_lk "WireMoney" 63 7 3 := ⟨by decide, by decide, fun C T N h => by cases h; exact wd_199⟩
theorem lk_7_28 : x_lk "WireMoney$Wire" 28 7 4 := ⟨by decide, by decide, fun C T N h => by cases h; exact wd_200⟩
theorem lk_8_68 : x_lk "WireMoney" 68 7 4 := ⟨by decide, by decide, fun C T N h => by cases h; exact wd_201⟩
theorem lk_4_9 : x_lk "WireMoney$Order" 9 4 0 := ⟨by decide, by decide, fun C T N h => by cases h; exact wd_304⟩
theorem lk_6_19 : x_lk "WireMoney$Signs" 19 4 0 := ⟨by decide, by decide, fun C T N h => by cases h; exact wd_305⟩
theorem lk_8_117 : x_lk "WireMoney" 117 4 0 := ⟨by decide, by decide, fun C T N h => by cases h; exact wd_306⟩
theorem lk_4_15 : x_lk "WireMoney$Order" 15 4 1 := ⟨by decide, by decide, fun C T N h => by cases h; exact wd_307⟩
theorem lk_2_25 : x_lk "WireMoney$Message" 25 4 1 := ⟨by decide, by decide, fun C T N h => by cases h; exact wd_308⟩
theorem lk_8_128 : x_lk "WireMoney" 128 4 1 := ⟨by decide, by decide, fun C T N h => by cases h; exact wd_309⟩
theorem lk_4_19 : x_lk "WireMoney$Order" 19 4 2 := ⟨by decide, by decide, fun C T N h => by cases h; exact wd_310⟩
theorem lk_2_19 : x_lk "WireMoney$Message" 19 4 2 := ⟨by decide, by decide, fun C T N h => by cases h; exact wd_311⟩
theorem lk_8_132 : x_lk "WireMoney" 132 4 2 := ⟨by decide, by decide, fun C T N h => by cases h; exact wd_312⟩
theorem lk_4_22 : x_lk "WireMoney$Order" 22 4 3 := ⟨by decide, by decide, fun C T N h => by cases h; exact wd_313⟩
theorem lk_6_26 : x_lk "WireMoney$Signs" 26 4 3 := ⟨by decide, by decide, fun C T N h => by cases h; exact wd_314⟩
theorem lk_8_150 : x_lk "WireMoney" 150 4 3 := ⟨by decide, by decide, fun C T N h => by cases h; exact wd_315⟩
theorem lk_4_25 : x_lk "WireMoney$Order" 25 4 4 := ⟨by decide, by decide, fun C T N h => by cases h; exact wd_316⟩
theorem lk_6_31 : x_lk "WireMoney$Signs" 31 4 4 := ⟨by decide, by decide, fun C T N h => by cases h; exact wd_317⟩
theorem lk_8_147 : x_lk "WireMoney" 147 4 4 := ⟨by decide, by decide, fun C T N h => by cases h; exact wd_318⟩
theorem lk_8_104 : x_lk "WireMoney" 104 4 5 := ⟨by decide, by decide, fun C T N h => by cases h; exact wd_319⟩
theorem lk_4_31 : x_lk "WireMoney$Order" 31 4 6 := ⟨by decide, by decide, fun C T N h => by cases h; exact wd_320⟩
theorem lk_8_138 : x_lk "WireMoney" 138 4 6 := ⟨by decide, by decide, fun C T N h => by cases h; exact wd_321⟩
theorem lk_4_35 : x_lk "WireMoney$Order" 35 4 7 := ⟨by decide, by decide, fun C T N h => by cases h; exact wd_322⟩
theorem lk_8_141 : x_lk "WireMoney" 141 4 7 := ⟨by decide, by decide, fun C T N h => by cases h; exact wd_323⟩
theorem lk_4_38 : x_lk "WireMoney$Order" 38 4 8 := ⟨by decide, by decide, fun C T N h => by cases h; exact wd_324⟩
theorem lk_8_144 : x_lk "WireMoney" 144 4 8 := ⟨by decide, by decide, fun C T N h => by cases h; exact wd_325⟩
theorem lk_8_218 : x_lk "WireMoney" 218 4 9 := ⟨by decide, by decide, fun C T N h => by cases h; exact wd_326⟩
theorem lk_8_124 : x_lk "WireMoney" 124 4 10 := ⟨by decide, by decide, fun C T N h => by cases h; exact wd_327⟩
theorem lk_4_28 : x_lk "WireMoney$Order" 28 4 11 := ⟨by decide, by decide, fun C T N h => by cases h; exact wd_328⟩
theorem lk_8_221 : x_lk "WireMoney" 221 4 11 := ⟨by decide, by decide, fun C T N h => by cases h; exact wd_329⟩
theorem lk_8_224 : x_lk "WireMoney" 224 4 12 := ⟨by decide, by decide, fun C T N h => by cases h; exact wd_330⟩
theorem lk_6_40 : x_lk "WireMoney$Signs" 40 6 0 := ⟨by decide, by decide, fun C T N h => by cases h; exact wd_374⟩
theorem lk_8_189 : x_lk "WireMoney" 189 6 0 := ⟨by decide, by decide, fun C T N h => by cases h; exact wd_375⟩
theorem lk_6_15 : x_lk "WireMoney$Signs" 15 6 1 := ⟨by decide, by decide, fun C T N h => by cases h; exact wd_376⟩
theorem lk_6_9 : x_lk "WireMoney$Signs" 9 6 2 := ⟨by decide, by decide, fun C T N h => by cases h; exact wd_377⟩
theorem lk_6_43 : x_lk "WireMoney$Signs" 43 6 3 := ⟨by decide, by decide, fun C T N h => by cases h; exact wd_378⟩
theorem lk_2_9 : x_lk "WireMoney$Message" 9 2 0 := ⟨by decide, by decide, fun C T N h => by cases h; exact wd_393⟩
theorem lk_8_195 : x_lk "WireMoney" 195 2 0 := ⟨by decide, by decide, fun C T N h => by cases h; exact wd_394⟩
theorem lk_2_15 : x_lk "WireMoney$Message" 15 2 1 := ⟨by decide, by decide, fun C T N h => by cases h; exact wd_395⟩
theorem lk_8_198 : x_lk "WireMoney" 198 2 1 := ⟨by decide, by decide, fun C T N h => by cases h; exact wd_396⟩
theorem lk_2_28 : x_lk "WireMoney$Message" 28 2 2 := ⟨by decide, by decide, fun C T N h => by cases h; exact wd_397⟩
theorem lk_8_202 : x_lk "WireMoney" 202 2 2 := ⟨by decide, by decide, fun C T N h => by cases h; exact wd_398⟩
theorem lk_2_29 : x_lk "WireMoney$Message" 29 2 3 := ⟨by decide, by decide, fun C T N h => by cases h; exact wd_399⟩
theorem lk_8_204 : x_lk "WireMoney" 204 2 3 := ⟨by decide, by decide, fun C T N h => by cases h; exact wd_400⟩
theorem lk_2_30 : x_lk "WireMoney$Message" 30 2 4 := ⟨by decide, by decide, fun C T N h => by cases h; exact wd_401⟩
theorem lk_8_165 : x_lk "WireMoney" 165 2 4 := ⟨by decide, by decide, fun C T N h => by cases h; exact wd_402⟩
theorem lk_2_34 : x_lk "WireMoney$Message" 34 2 5 := ⟨by decide, by decide, fun C T N h => by cases h; exact wd_403⟩
theorem lk_8_205 : x_lk "WireMoney" 205 2 5 := ⟨by decide, by decide, fun C T N h => by cases h; exact wd_404⟩
theorem lk_2_43 : x_lk "WireMoney$Message" 43 2 6 := ⟨by decide, by decide, fun C T N h => by cases h; exact wd_405⟩
theorem lk_8_281 : x_lk "WireMoney" 281 2 6 := ⟨by decide, by decide, fun C T N h => by cases h; exact wd_406⟩
theorem lk_2_37 : x_lk "WireMoney$Message" 37 2 7 := ⟨by decide, by decide, fun C T N h => by cases h; exact wd_407⟩
theorem lk_8_284 : x_lk "WireMoney" 284 2 7 := ⟨by decide, by decide, fun C T N h => by cases h; exact wd_408⟩
theorem lk_2_40 : x_lk "WireMoney$Message" 40 2 8 := ⟨by decide, by decide, fun C T N h => by cases h; exact wd_409⟩
theorem lk_8_208 : x_lk "WireMoney" 208 2 8 := ⟨by decide, by decide, fun C T N h => by cases h; exact wd_410⟩
theorem lk_8_211 : x_lk "WireMoney" 211 2 9 := ⟨by decide, by decide, fun C T N h => by cases h; exact wd_411⟩
theorem lk_5_23 : x_lk "WireMoney$Queue" 23 2 10 := ⟨by decide, by decide, fun C T N h => by cases h; exact wd_412⟩
theorem lk_9_146 : x_lk "WireMoneyModel" 146 9 0 := ⟨by decide, by decide, fun C T N h => by cases h; exact wd_606⟩
theorem lk_9_134 : x_lk "WireMoneyModel" 134 9 1 := ⟨by decide, by decide, fun C T N h => by cases h; exact wd_607⟩
theorem lk_9_9 : x_lk "WireMoneyModel" 9 9 2 := ⟨by decide, by decide, fun C T N h => by cases h; exact wd_608⟩
theorem lk_9_13 : x_lk "WireMoneyModel" 13 9 3 := ⟨by decide, by decide, fun C T N h => by cases h; exact wd_609⟩
theorem lk_9_16 : x_lk "WireMoneyModel" 16 9 4 := ⟨by decide, by decide, fun C T N h => by cases h; exact wd_610⟩
theorem lk_9_19 : x_lk "WireMoneyModel" 19 9 5 := ⟨by decide, by decide, fun C T N h => by cases h; exact wd_611⟩
theorem lk_9_22 : x_lk "WireMoneyModel" 22 9 6 := ⟨by decide, by decide, fun C T N h => by cases h; exact wd_612⟩
theorem lk_9_149 : x_lk "WireMoneyModel" 149 9 7 := ⟨by decide, by decide, fun C T N h => by cases h; exact wd_613⟩
theorem lk_9_25 : x_lk "WireMoneyModel" 25 9 8 := ⟨by decide, by decide, fun C T N h => by cases h; exact wd_614⟩
theorem lk_9_28 : x_lk "WireMoneyModel" 28 9 9 := ⟨by decide, by decide, fun C T N h => by cases h; exact wd_615⟩
theorem lk_9_31 : x_lk "WireMoneyModel" 31 9 10 := ⟨by decide, by decide, fun C T N h => by cases h; exact wd_616⟩
theorem lk_9_34 : x_lk "WireMoneyModel" 34 9 11 := ⟨by decide, by decide, fun C T N h => by cases h; exact wd_617⟩
theorem lk_9_37 : x_lk "WireMoneyModel" 37 9 12 := ⟨by decide, by decide, fun C T N h => by cases h; exact wd_618⟩
theorem lk_9_40 : x_lk "WireMoneyModel" 40 9 13 := ⟨by decide, by decide, fun C T N h => by cases h; exact wd_619⟩
theorem lk_9_161 : x_lk "WireMoneyModel" 161 9 14 := ⟨by decide, by decide, fun C T N h => by cases h; exact wd_620⟩
theorem lk_9_43 : x_lk "WireMoneyModel" 43 9 15 := ⟨by decide, by decide, fun C T N h => by cases h; exact wd_621⟩
theorem lk_9_46 : x_lk "WireMoneyModel" 46 9 16 := ⟨by decide, by decide, fun C T N h => by cases h; exact wd_622⟩
theorem lk_9_142 : x_lk "WireMoneyModel" 142 9 17 := ⟨by decide, by decide, fun C T N h => by cases h; exact wd_623⟩
theorem lk_9_49 : x_lk "WireMoneyModel" 49 9 18 := ⟨by decide, by decide, fun C T N h => by cases h; exact wd_624⟩
theorem lk_9_52 : x_lk "WireMoneyModel" 52 9 19 := ⟨by decide, by decide, fun C T N h => by cases h; exact wd_625⟩
theorem lk_9_55 : x_lk "WireMoneyModel" 55 9 20 := ⟨by decide, by decide, fun C T N h => by cases h; exact wd_626⟩
theorem lk_9_58 : x_lk "WireMoneyModel" 58 9 21 := ⟨by decide, by decide, fun C T N h => by cases h; exact wd_627⟩
theorem lk_9_61 : x_lk "WireMoneyModel" 61 9 22 := ⟨by decide, by decide, fun C T N h => by cases h; exact wd_628⟩
theorem lk_9_64 : x_lk "WireMoneyModel" 64 9 23 := ⟨by decide, by decide, fun C T N h => by cases h; exact wd_629⟩
theorem lk_9_68 : x_lk "WireMoneyModel" 68 9 24 := ⟨by decide, by decide, fun C T N h => by cases h; exact wd_630⟩
theorem lk_9_71 : x_lk "WireMoneyModel" 71 9 25 := ⟨by decide, by decide, fun C T N h => by cases h; exact wd_631⟩
theorem lk_9_74 : x_lk "WireMoneyModel" 74 9 26 := ⟨by decide, by decide, fun C T N h => by cases h; exact wd_632⟩
theorem lk_9_77 : x_lk "WireMoneyModel" 77 9 27 := ⟨by decide, by decide, fun C T N h => by cases h; exact wd_633⟩
theorem lk_9_80 : x_lk "WireMoneyModel" 80 9 28 := ⟨by decide, by decide, fun C T N h => by cases h; exact wd_634⟩
theorem lk_9_83 : x_lk "WireMoneyModel" 83 9 29 := ⟨by decide, by decide, fun C T N h => by cases h; exact wd_635⟩
theorem lk_9_173 : x_lk "WireMoneyModel" 173 9 30 := ⟨by decide, by decide, fun C T N h => by cases h; exact wd_636⟩
theorem lk_9_86 : x_lk "WireMoneyModel" 86 9 31 := ⟨by decide, by decide, fun C T N h => by cases h; exact wd_637⟩
theorem lk_9_89 : x_lk "WireMoneyModel" 89 9 32 := ⟨by decide, by decide, fun C T N h => by cases h; exact wd_638⟩
theorem lk_9_92 : x_lk "WireMoneyModel" 92 9 33 := ⟨by decide, by decide, fun C T N h => by cases h; exact wd_639⟩
theorem lk_9_95 : x_lk "WireMoneyModel" 95 9 34 := ⟨by decide, by decide, fun C T N h => by cases h; exact wd_640⟩
theorem lk_9_98 : x_lk "WireMoneyModel" 98 9 35 := ⟨by decide, by decide, fun C T N h => by cases h; exact wd_641⟩
theorem lk_9_101 : x_lk "WireMoneyModel" 101 9 36 := ⟨by decide, by decide, fun C T N h => by cases h; exact wd_642⟩
theorem lk_9_104 : x_lk "WireMoneyModel" 104 9 37 := ⟨by decide, by decide, fun C T N h => by cases h; exact wd_643⟩
theorem lk_9_107 : x_lk "WireMoneyModel" 107 9 38 := ⟨by decide, by decide, fun C T N h => by cases h; exact wd_644⟩
theorem lk_9_110 : x_lk "WireMoneyModel" 110 9 39 := ⟨by decide, by decide, fun C T N h => by cases h; exact wd_645⟩
theorem lk_9_113 : x_lk "WireMoneyModel" 113 9 40 := ⟨by decide, by decide, fun C T N h => by cases h; exact wd_646⟩
theorem lk_9_116 : x_lk "WireMoneyModel" 116 9 41 := ⟨by decide, by decide, fun C T N h => by cases h; exact wd_647⟩
theorem lk_9_119 : x_lk "WireMoneyModel" 119 9 42 := ⟨by decide, by decide, fun C T N h => by cases h; exact wd_648⟩
theorem lk_9_122 : x_lk "WireMoneyModel" 122 9 43 := ⟨by decide, by decide, fun C T N h => by cases h; exact wd_649⟩
theorem lk_9_125 : x_lk "WireMoneyModel" 125 9 44 := ⟨by decide, by decide, fun C T N h => by cases h; exact wd_650⟩
theorem lk_9_128 : x_lk "WireMoneyModel" 128 9 45 := ⟨by decide, by decide, fun C T N h => by cases h; exact wd_651⟩
theorem lk_9_170 : x_lk "WireMoneyModel" 170 9 46 := ⟨by decide, by decide, fun C T N h => by cases h; exact wd_652⟩
theorem lk_9_208 : x_lk "WireMoneyModel" 208 9 47 := ⟨by decide, by decide, fun C T N h => by cases h; exact wd_653⟩
theorem lk_9_202 : x_lk "WireMoneyModel" 202 9 48 := ⟨by decide, by decide, fun C T N h => by cases h; exact wd_654⟩
theorem lk_9_211 : x_lk "WireMoneyModel" 211 9 49 := ⟨by decide, by decide, fun C T N h => by cases h; exact wd_655⟩
end
section
/-! The pure store: kinds of cells (0 none, 1 + class number, 11 + array kind), fields by number and address, rows of arrays by address, lengths, the next address, the slots used -/
abbrev PH : Type := (Nat → Nat) × (Nat → Nat → Int32) × (Nat → Nat → Option Nat) × (Nat → Nat → Int32) × (Nat → Nat → Option Nat) × (Nat → Nat) × Nat × Nat
def x_K (σ : PH) : Nat → Nat := σ.1
def x_I (σ : PH) : Nat → Nat → Int32 := σ.2.1
def x_R (σ : PH) : Nat → Nat → Option Nat := σ.2.2.1
def x_A (σ : PH) : Nat → Nat → Int32 := σ.2.2.2.1
def x_Q (σ : PH) : Nat → Nat → Option Nat := σ.2.2.2.2.1
def x_L (σ : PH) : Nat → Nat := σ.2.2.2.2.2.1
def x_N (σ : PH) : Nat := σ.2.2.2.2.2.2.1
def x_U (σ : PH) : Nat := σ.2.2.2.2.2.2.2
def x_up {α : Type} (f : Nat → Nat → α) (i j : Nat) (v : α) : Nat → Nat → α := fun x y => if x = i ∧ y = j then v else f x y
def x_uI (σ : PH) (f a : Nat) (v : Int32) : PH := (x_K σ, x_up (x_I σ) f a v, x_R σ, x_A σ, x_Q σ, x_L σ, x_N σ, x_U σ)
def x_uR (σ : PH) (f a : Nat) (v : Option Nat) : PH := (x_K σ, x_I σ, x_up (x_R σ) f a v, x_A σ, x_Q σ, x_L σ, x_N σ, x_U σ)
def x_uA (σ : PH) (a i : Nat) (v : Int32) : PH := (x_K σ, x_I σ, x_R σ, x_up (x_A σ) a i v, x_Q σ, x_L σ, x_N σ, x_U σ)
def x_uQ (σ : PH) (a i : Nat) (v : Option Nat) : PH := (x_K σ, x_I σ, x_R σ, x_A σ, x_up (x_Q σ) a i v, x_L σ, x_N σ, x_U σ)
def x_nO (σ : PH) (ci : Nat) : PH := (fun x => if x = x_N σ then ci + 1 else x_K σ x, fun f x => if x = x_N σ then 0 else x_I σ f x, fun f x => if x = x_N σ then none else x_R σ f x, x_A σ, x_Q σ, x_L σ, x_N σ + 1, x_U σ + x_nf ci)
def x_nA (σ : PH) (kd n : Nat) : PH := (fun x => if x = x_N σ then kd + 11 else x_K σ x, x_I σ, x_R σ, fun x i => if x = x_N σ then 0 else x_A σ x i, fun x i => if x = x_N σ then none else x_Q σ x i, fun x => if x = x_N σ then n else x_L σ x, x_N σ + 1, x_U σ + n)
/-- a step that may fail; it never gives cells or slots back -/
def x_mono {α : Type} (f : PH → Option (α × PH)) : Prop := ∀ (σ : PH) (a : α) (τ : PH), f σ = some (a, τ) → x_N σ ≤ x_N τ ∧ x_U σ ≤ x_U τ
abbrev PM (α : Type) : Type := { f : PH → Option (α × PH) // x_mono f }
def x_rn {α : Type} (f : PM α) (σ : PH) : Option (α × PH) := f.1 σ
def x_bdf {α β : Type} (f : PM α) (g : α → PM β) : PH → Option (β × PH) := fun σ => match f.1 σ with
  | none => none
  | some (a, τ) => (g a).1 τ
theorem x_bdm {α β : Type} (f : PM α) (g : α → PM β) : x_mono (x_bdf f g) := by
  intro σ b τ h
  unfold x_bdf at h
  cases hf : f.1 σ with
  | none => rw [hf] at h; cases h
  | some q =>
    obtain ⟨a, ρ⟩ := q
    rw [hf] at h
    have h1 := f.2 σ a ρ hf
    have h2 := (g a).2 ρ b τ h
    omega
def x_bd {α β : Type} (f : PM α) (g : α → PM β) : PM β := ⟨x_bdf f g, x_bdm f g⟩
def x_pr {α : Type} (a : α) : PM α := ⟨fun σ => some (a, σ), fun σ b τ h => by cases h; exact ⟨Nat.le_refl _, Nat.le_refl _⟩⟩
def x_fl {α : Type} : PM α := ⟨fun _ => none, fun σ b τ h => by cases h⟩
/-- a look at the store -/
def x_ask {α : Type} (g : PH → Option α) : PM α := ⟨fun σ => match g σ with
  | none => none
  | some a => some (a, σ), fun σ b τ h => by
    cases hg : g σ with
    | none => simp only [hg] at h; cases h
    | some a => simp only [hg] at h; cases h; exact ⟨Nat.le_refl _, Nat.le_refl _⟩⟩
/-- a change of the store that makes nothing -/
def x_put (g : PH → Option PH) (hg : ∀ σ τ, g σ = some τ → x_N τ = x_N σ ∧ x_U τ = x_U σ) : PM Unit := ⟨fun σ => match g σ with
  | none => none
  | some τ => some ((), τ), fun σ b τ h => by
    cases hh : g σ with
    | none => simp only [hh] at h; cases h
    | some ρ => simp only [hh] at h; cases h; have := hg σ τ hh; omega⟩
/-- the address of a reference whose cell is of the kind -/
def x_dr (σ : PH) (r : Option Nat) (kd : Nat) : Option Nat := match r with
  | none => none
  | some a => if x_K σ a = kd then some a else none
def x_ix (σ : PH) (r : Option Nat) (kd : Nat) (i : Int32) : Option Nat := match r with
  | none => none
  | some a => if x_K σ a = kd ∧ ¬ (i < 0 ∨ x_L σ a ≤ i.toNatClampNeg) then some a else none
theorem x_dr_some {σ : PH} {r : Option Nat} {kd a : Nat} (h : x_dr σ r kd = some a) : r = some a ∧ x_K σ a = kd := by
  cases r with
  | none => cases h
  | some b =>
    simp only [x_dr] at h
    split at h
    · cases h; exact ⟨rfl, by assumption⟩
    · cases h
theorem x_ix_some {σ : PH} {r : Option Nat} {kd a : Nat} {i : Int32} (h : x_ix σ r kd i = some a) : r = some a ∧ x_K σ a = kd ∧ vp_in i (x_L σ a) := by
  cases r with
  | none => cases h
  | some b =>
    simp only [x_ix] at h
    split at h
    · rename_i hc; cases h; exact ⟨rfl, hc.1, hc.2⟩
    · cases h
theorem x_map_some {α β : Type} {o : Option α} {f : α → β} {b : β} (h : o.map f = some b) : ∃ a, o = some a ∧ f a = b := by
  cases o with
  | none => cases h
  | some a => exact ⟨a, rfl, Option.some.inj h⟩
def x_rI (r : Option Nat) (ci k : Nat) : PM Int32 := x_ask (fun σ => (x_dr σ r (ci + 1)).map (fun a => x_I σ (100 * ci + k) a))
def x_rR (r : Option Nat) (ci k : Nat) : PM (Option Nat) := x_ask (fun σ => (x_dr σ r (ci + 1)).map (fun a => x_R σ (100 * ci + k) a))
def x_wI (r : Option Nat) (ci k : Nat) (v : Int32) : PM Unit := x_put (fun σ => (x_dr σ r (ci + 1)).map (fun a => x_uI σ (100 * ci + k) a v)) (fun σ τ h => by
  obtain ⟨a, -, rfl⟩ := x_map_some h
  exact ⟨rfl, rfl⟩)
def x_wZ (r : Option Nat) (ci k : Nat) (v : Int32) : PM Unit := x_put (fun σ => if v = 0 ∨ v = 1 then (x_dr σ r (ci + 1)).map (fun a => x_uI σ (100 * ci + k) a v) else none) (fun σ τ h => by
  split at h
  · obtain ⟨a, -, rfl⟩ := x_map_some h
    exact ⟨rfl, rfl⟩
  · cases h)
def x_wR (r : Option Nat) (ci k : Nat) (v : Option Nat) : PM Unit := x_put (fun σ => (x_dr σ r (ci + 1)).map (fun a => x_uR σ (100 * ci + k) a v)) (fun σ τ h => by
  obtain ⟨a, -, rfl⟩ := x_map_some h
  exact ⟨rfl, rfl⟩)
/-- arrays: kinds 0 int, 1 boolean, 2 Counter, 3 Message, 4 Order, 5 Wire -/
def x_aI (kd : Nat) (r : Option Nat) (i : Int32) : PM Int32 := x_ask (fun σ => (x_ix σ r (kd + 11) i).map (fun a => x_A σ a i.toNatClampNeg))
def x_aQ (kd : Nat) (r : Option Nat) (i : Int32) : PM (Option Nat) := x_ask (fun σ => (x_ix σ r (kd + 11) i).map (fun a => x_Q σ a i.toNatClampNeg))
def x_aL (kd : Nat) (r : Option Nat) : PM Int32 := x_ask (fun σ => (x_dr σ r (kd + 11)).map (fun a => Int32.ofNat (x_L σ a)))
def x_sI (r : Option Nat) (i v : Int32) : PM Unit := x_put (fun σ => (x_ix σ r 11 i).map (fun a => x_uA σ a i.toNatClampNeg v)) (fun σ τ h => by
  obtain ⟨a, -, rfl⟩ := x_map_some h
  exact ⟨rfl, rfl⟩)
def x_sZ (r : Option Nat) (i v : Int32) : PM Unit := x_put (fun σ => if v = 0 ∨ v = 1 then (x_ix σ r 12 i).map (fun a => x_uA σ a i.toNatClampNeg v) else none) (fun σ τ h => by
  split at h
  · obtain ⟨a, -, rfl⟩ := x_map_some h
    exact ⟨rfl, rfl⟩
  · cases h)
def x_fit (σ : PH) (v : Option Nat) (ci : Nat) : Bool := match v with
  | none => true
  | some b => x_K σ b == ci + 1
def x_sQ (kd ci : Nat) (r : Option Nat) (i : Int32) (v : Option Nat) : PM Unit := x_put (fun σ => if x_fit σ v ci = true then (x_ix σ r (kd + 11) i).map (fun a => x_uQ σ a i.toNatClampNeg v) else none) (fun σ τ h => by
  split at h
  · obtain ⟨a, -, rfl⟩ := x_map_some h
    exact ⟨rfl, rfl⟩
  · cases h)
def x_mO (ci : Nat) : PM (Option Nat) := ⟨fun σ => some (some (x_N σ), x_nO σ ci), fun σ b τ h => by cases h; exact ⟨Nat.le_succ _, Nat.le_add_right _ _⟩⟩
def x_mA (kd : Nat) (n : Int32) : PM (Option Nat) := ⟨fun σ => if n < 0 ∨ 65536 < n.toNatClampNeg then none else some (some (x_N σ), x_nA σ kd n.toNatClampNeg), fun σ b τ h => by
  simp only at h
  split at h
  · cases h
  · cases h; exact ⟨Nat.le_succ _, Nat.le_add_right _ _⟩⟩
def x_ck (r : Option Nat) (ci : Nat) : PM Unit := x_ask (fun σ => (x_dr σ r (ci + 1)).map (fun _ => ()))
def x_cV {α : Type} (r : Option Nat) (ci : Nat) (f : PM α) : PM α := x_bd (x_ck r ci) (fun _ => f)
def x_rem (x y : Int32) : Int32 := x - x / y * y
def x_lrem (x y : Int64) : Int64 := x - x / y * y
def x_max (x y : Int32) : Int32 := if x < y then y else x
def x_min (x y : Int32) : Int32 := if y < x then y else x
/-! what a run of a step that came through says -/
theorem x_okB {α β : Type} {f : PM α} {g : α → PM β} {σ : PH} {z : β × PH} (h : x_rn (x_bd f g) σ = some z) : ∃ a τ, x_rn f σ = some (a, τ) ∧ x_rn (g a) τ = some z := by
  have h' : x_bdf f g σ = some z := h
  unfold x_bdf at h'
  cases hf : f.1 σ with
  | none => rw [hf] at h'; cases h'
  | some q =>
    obtain ⟨a, ρ⟩ := q
    rw [hf] at h'
    exact ⟨a, ρ, hf, h'⟩
theorem x_okA {α β : Type} {q : PH → Option α} {g : α → PM β} {σ : PH} {z : β × PH} (h : x_rn (x_bd (x_ask q) g) σ = some z) : ∃ a, q σ = some a ∧ x_rn (g a) σ = some z := by
  obtain ⟨a, τ, h1, h2⟩ := x_okB h
  have h1' : (match q σ with
    | none => none
    | some a => some (a, σ)) = some (a, τ) := h1
  cases hq : q σ with
  | none => rw [hq] at h1'; cases h1'
  | some b => rw [hq] at h1'; cases h1'; exact ⟨_, rfl, h2⟩
theorem x_okP {β : Type} {q : PH → Option PH} {hg} {g : Unit → PM β} {σ : PH} {z : β × PH} (h : x_rn (x_bd (x_put q hg) g) σ = some z) : ∃ τ, q σ = some τ ∧ x_rn (g ()) τ = some z := by
  obtain ⟨a, τ, h1, h2⟩ := x_okB h
  have h1' : (match q σ with
    | none => none
    | some ρ => some ((), ρ)) = some (a, τ) := h1
  cases hq : q σ with
  | none => rw [hq] at h1'; cases h1'
  | some b => rw [hq] at h1'; cases h1'; exact ⟨_, rfl, h2⟩
theorem x_okR {α : Type} {a : α} {σ : PH} {z : α × PH} (h : x_rn (x_pr a) σ = some z) : z = (a, σ) := by
  cases h; rfl
theorem x_okN {α β : Type} {a : α} {g : α → PM β} {σ : PH} {z : β × PH} (h : x_rn (x_bd (x_pr a) g) σ = some z) : x_rn (g a) σ = some z := h
theorem x_okM {α : Type} {f : PM α} {σ : PH} {z : α × PH} (h : x_rn f σ = some z) : x_N σ ≤ x_N z.2 ∧ x_U σ ≤ x_U z.2 := f.2 σ z.1 z.2 h
theorem x_okT {α : Type} {c : Prop} [Decidable c] {A B : PM α} {σ : PH} {z : α × PH} (h : x_rn (if c then A else B) σ = some z) (hc : c) : x_rn A σ = some z := by
  rwa [if_pos hc] at h
theorem x_okF {α : Type} {c : Prop} [Decidable c] {A B : PM α} {σ : PH} {z : α × PH} (h : x_rn (if c then A else B) σ = some z) (hc : ¬ c) : x_rn B σ = some z := by
  rwa [if_neg hc] at h
end
section
/-! The heap that holds a pure store, and a row of the machine for each step of it -/
def x_V (σ : PH) (ci k a : Nat) : Value := if x_isI ci k = true then .int (x_I σ (100 * ci + k) a) else va_rf (x_R σ (100 * ci + k) a)
def x_O (σ : PH) (ci a : Nat) : List Value := (List.range (x_nf ci)).map (fun k => x_V σ ci k a)
def x_Rep (base : Nat) (D : va_G) (dA : Nat → ClassId) (σ : PH) (H : Heap) : Prop :=
  (∀ ci a, ci < 10 → x_K σ a = ci + 1 → va_at D vwCl (a, .inr (ci, x_O σ ci a)) H) ∧
  (∀ j a, j < 2 → x_K σ a = j + 11 → H[a]? = some (vp_cell (dA j) (x_L σ a, .inl (x_A σ a)))) ∧
  (∀ j a, 2 ≤ j → j < 6 → x_K σ a = j + 11 → H[a]? = some (vp_cell (dA j) (x_L σ a, .inr (.inr (.inr (.inr (x_Q σ a))))))) ∧
  (∀ a, x_K σ a ≠ 0 → base ≤ a ∧ a < x_N σ) ∧ H.size = x_N σ ∧ base ≤ x_N σ
def x_eC (j : Nat) : String := if j = 2 then "WireMoney$Counter" else if j = 3 then "WireMoney$Message" else if j = 4 then "WireMoney$Order" else "WireMoney$Wire"
def x_eI (j : Nat) : Nat := if j = 2 then 1 else if j = 3 then 2 else if j = 4 then 4 else 7
def x_tyA (j : Nat) : FieldType := if j = 0 then .int else if j = 1 then .boolean else .object (x_eC j)
def x_tys (dA : Nat → ClassId) : List (ClassId × FieldType) := (List.range 6).map (fun j => (dA j, x_tyA j))
/-- the tables, with the arrays' classes -/
def x_T (D : va_G) (dA : Nat → ClassId) (U : State) : Prop := va_K D vwCl (x_tys dA) U ∧ ∀ j, 2 ≤ j → j < 6 → va_AO (x_eC j) U
theorem x_T.moved {D : va_G} {dA : Nat → ClassId} {u U : State} (hvm : u.vm.Alike U.vm) (h : x_T D dA u) : x_T D dA U := ⟨va_K.moved hvm h.1, fun j h1 h2 => (h.2 j h1 h2).moved hvm⟩
theorem x_T.ty {D : va_G} {dA : Nat → ClassId} {U : State} (h : x_T D dA U) {j : Nat} (hj : j < 6) : ArrOfT U (dA j) (x_tyA j) ∧ va_RA U (dA j) (x_tyA j) := by
  refine h.1.2 j (dA j, x_tyA j) ?_
  simp [x_tys, hj]
def x_E (p : Program) (s : State) (m : MethodId) (args : Array Value) (c : Code) (cc : ByteArray) (nL : Nat) (own : String) (D : va_G) (dA : Nat → ClassId) : Prop :=
  p.tables.exec = Jvm.exec ∧ c.code = cc ∧ c.maxLocals = nL ∧ s.vm.findClass own = some m.cls ∧ (∀ w ∈ x_all, w.before args s = true) ∧ x_T D dA s
def x_S (base : Nat) (D : va_G) (dA : Nat → ClassId) (R : Room) (s : State) (σ0 σE σ : PH) (H : Heap) (locs : List Loc) : Prop :=
  x_Rep base D dA σ H ∧ va_S (fun q => base ≤ q) s.heap H locs ∧ base ≤ s.heap.size ∧ (x_N σ0 ≤ x_N σ ∧ x_U σ0 ≤ x_U σ) ∧ (x_N σ ≤ x_N σE ∧ x_U σ ≤ x_U σE) ∧ x_N σE - x_N σ0 ≤ R.cells ∧ x_U σE - x_U σ0 ≤ R.slots
theorem x_O_len (σ : PH) (ci a : Nat) : (x_O σ ci a).length = x_nf ci := by simp [x_O]
theorem x_O_get (σ : PH) (ci a : Nat) {k : Nat} (h : k < x_nf ci) : (x_O σ ci a)[k]? = some (x_V σ ci k a) := by simp [x_O, h]
theorem x_V_vp (σ : PH) (ci a : Nat) {k : Nat} (h : k < x_nf ci) : vp_V (x_O σ ci a) k = x_V σ ci k a := by
  simp [vp_V, x_O_get σ ci a h]
theorem x_cat (r : Option Nat) : (va_rf r).category = 1 := by cases r <;> rfl
theorem x_roomL (st : List Value) (h : st.length ≤ 4) : (st.map fun v => v.category).sum ≤ 8 := by
  have h1 : ∀ (l : List Value), (l.map fun v => v.category).sum ≤ 2 * l.length := by
    intro l
    induction l with
    | nil => simp
    | cons v l ih =>
      have := lv_cat v
      simp only [List.map_cons, List.sum_cons, List.length_cons]
      omega
  have := h1 st
  omega
theorem x_fid {ci k ci' k' : Nat} (h : k < x_nf ci) (h' : k' < x_nf ci') (e : 100 * ci + k = 100 * ci' + k') : ci = ci' ∧ k = k' := by
  have b : ∀ c, x_nf c ≤ 50 := by
    intro c
    unfold x_nf
    split <;> omega
  have := b ci
  have := b ci'
  omega
theorem x_V_uI_ne {σ : PH} {f a b : Nat} {v : Int32} (ci k : Nat) (h : b ≠ a) : x_V (x_uI σ f a v) ci k b = x_V σ ci k b := by
  simp [x_V, x_uI, x_I, x_R, x_up, h]
theorem x_O_uI_ne {σ : PH} {f a b : Nat} {v : Int32} (ci : Nat) (h : b ≠ a) : x_O (x_uI σ f a v) ci b = x_O σ ci b := by
  simp only [x_O]
  exact List.map_congr_left (fun k _ => x_V_uI_ne ci k h)
theorem x_V_uR_ne {σ : PH} {f a b : Nat} {v : Option Nat} (ci k : Nat) (h : b ≠ a) : x_V (x_uR σ f a v) ci k b = x_V σ ci k b := by
  simp [x_V, x_uR, x_I, x_R, x_up, h]
theorem x_O_uR_ne {σ : PH} {f a b : Nat} {v : Option Nat} (ci : Nat) (h : b ≠ a) : x_O (x_uR σ f a v) ci b = x_O σ ci b := by
  simp only [x_O]
  exact List.map_congr_left (fun k _ => x_V_uR_ne ci k h)
theorem x_V_uI {σ : PH} {ci k a : Nat} {v : Int32} (hI : x_isI ci k = true) {j : Nat} (hj : j < x_nf ci) (hk : k < x_nf ci) : x_V (x_uI σ (100 * ci + k) a v) ci j a = updV (vp_V (x_O σ ci a)) k (.int v) j := by
  by_cases h : j = k
  · subst h
    simp [x_V, hI, updV, x_uI, x_I, x_up]
  · have h2 : ¬ (100 * ci + j = 100 * ci + k) := by omega
    simp only [updV, if_neg h, x_V_vp σ ci a hj]
    simp [x_V, x_uI, x_I, x_R, x_up, h]
theorem x_V_uR {σ : PH} {ci k a : Nat} {v : Option Nat} (hI : x_isI ci k = false) {j : Nat} (hj : j < x_nf ci) (hk : k < x_nf ci) : x_V (x_uR σ (100 * ci + k) a v) ci j a = updV (vp_V (x_O σ ci a)) k (va_rf v) j := by
  by_cases h : j = k
  · subst h
    simp [x_V, hI, updV, x_uR, x_R, x_up]
  · simp only [updV, if_neg h, x_V_vp σ ci a hj]
    simp [x_V, x_uR, x_I, x_R, x_up, h]
/-- the store behind a change at one address -/
theorem x_Rep.chg {base : Nat} {D : va_G} {dA : Nat → ClassId} {σ τ : PH} {H H1 : Heap} {a : Nat} (h : x_Rep base D dA σ H) (hk : x_K τ = x_K σ) (hL : x_L τ = x_L σ) (hN : x_N τ = x_N σ) (z : H1.size = H.size) (oq : ∀ q : Nat, q ≠ a → H1[q]? = H[q]?)
    (h1 : ∀ ci b, b ≠ a → x_O τ ci b = x_O σ ci b) (h2 : ∀ b, b ≠ a → x_A τ b = x_A σ b) (h3 : ∀ b, b ≠ a → x_Q τ b = x_Q σ b)
    (g1 : ∀ ci, ci < 10 → x_K σ a = ci + 1 → va_at D vwCl (a, .inr (ci, x_O τ ci a)) H1)
    (g2 : ∀ j, j < 2 → x_K σ a = j + 11 → H1[a]? = some (vp_cell (dA j) (x_L σ a, .inl (x_A τ a))))
    (g3 : ∀ j, 2 ≤ j → j < 6 → x_K σ a = j + 11 → H1[a]? = some (vp_cell (dA j) (x_L σ a, .inr (.inr (.inr (.inr (x_Q τ a))))))) : x_Rep base D dA τ H1 := by
  obtain ⟨r1, r2, r3, r4, r5, r6⟩ := h
  refine ⟨fun ci b hc hb => ?_, fun j b hj hb => ?_, fun j b hj hj2 hb => ?_, ?_, ?_, ?_⟩
  · rw [hk] at hb
    by_cases e : b = a
    · subst e; exact g1 ci hc hb
    · rw [h1 ci b e]
      exact (r1 ci b hc hb).kept (oq b e)
  · rw [hk] at hb
    rw [hL]
    by_cases e : b = a
    · subst e; exact g2 j hj hb
    · rw [h2 b e, oq b e]; exact r2 j b hj hb
  · rw [hk] at hb
    rw [hL]
    by_cases e : b = a
    · subst e; exact g3 j hj hj2 hb
    · rw [h3 b e, oq b e]; exact r3 j b hj hj2 hb
  · rw [hk, hN]; exact r4
  · rw [hN, z]; exact r5
  · rw [hN]; exact r6
/-- the store behind a cell more -/
theorem x_Rep.grow {base : Nat} {D : va_G} {dA : Nat → ClassId} {σ τ : PH} {H H1 : Heap} (h : x_Rep base D dA σ H) (hk : ∀ b, b ≠ x_N σ → x_K τ b = x_K σ b) (hL : ∀ b, b ≠ x_N σ → x_L τ b = x_L σ b) (hN : x_N τ = x_N σ + 1) (z : H1.size = H.size + 1) (oq : ∀ q : Nat, q < H.size → H1[q]? = H[q]?)
    (h1 : ∀ ci b, b ≠ x_N σ → x_O τ ci b = x_O σ ci b) (h2 : ∀ b, b ≠ x_N σ → x_A τ b = x_A σ b) (h3 : ∀ b, b ≠ x_N σ → x_Q τ b = x_Q σ b)
    (g1 : ∀ ci, ci < 10 → x_K τ (x_N σ) = ci + 1 → va_at D vwCl (x_N σ, .inr (ci, x_O τ ci (x_N σ))) H1)
    (g2 : ∀ j, j < 2 → x_K τ (x_N σ) = j + 11 → H1[x_N σ]? = some (vp_cell (dA j) (x_L τ (x_N σ), .inl (x_A τ (x_N σ)))))
    (g3 : ∀ j, 2 ≤ j → j < 6 → x_K τ (x_N σ) = j + 11 → H1[x_N σ]? = some (vp_cell (dA j) (x_L τ (x_N σ), .inr (.inr (.inr (.inr (x_Q τ (x_N σ)))))))) : x_Rep base D dA τ H1 := by
  obtain ⟨r1, r2, r3, r4, r5, r6⟩ := h
  have lt : ∀ b, b ≠ x_N σ → x_K τ b ≠ 0 → b < x_N σ := fun b e hb => (r4 b (by rw [← hk b e]; exact hb)).2
  refine ⟨fun ci b hc hb => ?_, fun j b hj hb => ?_, fun j b hj hj2 hb => ?_, fun b hb => ?_, ?_, ?_⟩
  · by_cases e : b = x_N σ
    · subst e; exact g1 ci hc hb
    · have l := lt b e (by omega)
      rw [hk b e] at hb
      rw [h1 ci b e]
      exact (r1 ci b hc hb).kept (oq b (by omega))
  · by_cases e : b = x_N σ
    · subst e; exact g2 j hj hb
    · have l := lt b e (by omega)
      rw [hk b e] at hb
      rw [h2 b e, hL b e, oq b (by omega)]
      exact r2 j b hj hb
  · by_cases e : b = x_N σ
    · subst e; exact g3 j hj hj2 hb
    · have l := lt b e (by omega)
      rw [hk b e] at hb
      rw [h3 b e, hL b e, oq b (by omega)]
      exact r3 j b hj hj2 hb
  · by_cases e : b = x_N σ
    · subst e; exact ⟨r6, by omega⟩
    · rw [hk b e] at hb
      have := r4 b hb
      exact ⟨this.1, by omega⟩
  · omega
  · omega
end
section
def x_fin (ci k : Nat) : Bool := match vwCl[ci]? with
  | some q => (q.2.1 k).2.2.2
  | none => false
def x_nm (ci : Nat) : String := match vwCl[ci]? with
  | some q => q.1
  | none => ""
theorem x_P1 {D : va_G} {cl : List vw_C} {q : Nat × va_E} {H : Heap} (h : va_at D cl q H) : va_P D cl [q] H := by
  intro k x hx
  cases k with
  | zero => cases hx; exact h
  | succ k => simp at hx
theorem x_narI (v : Int32) : narrow .int (.int v) = .int v ∧ fits .int (.int v) = true := ⟨rfl, rfl⟩
theorem x_narZ {v : Int32} (h : v = 0 ∨ v = 1) : narrow .boolean (.int v) = .int v ∧ fits .boolean (.int v) = true := by
  rcases h with rfl | rfl <;> exact ⟨rfl, rfl⟩
theorem x_narR {t : FieldType} (h : x_isT t = false) (ho : (∃ n, t = .object n) ∨ ∃ n, t = .array n) (r : Option Nat) : narrow t (va_rf r) = va_rf r ∧ fits t (va_rf r) = true := by
  rcases ho with ⟨n, rfl⟩ | ⟨n, rfl⟩ <;> cases r <;> exact ⟨rfl, rfl⟩
def x_isR (t : FieldType) : Bool := match t with
  | .object _ => true
  | .array _ => true
  | _ => false
theorem x_isR_of {t : FieldType} (h : x_isR t = true) : (∃ n, t = .object n) ∨ ∃ n, t = .array n := by
  cases t <;> first | exact Or.inl ⟨_, rfl⟩ | exact Or.inr ⟨_, rfl⟩ | cases h
section XW
variable {p : Program} {l : Launch} {e : Env} {R : Room} {s : State} {m : MethodId} {args : Array Value} {below : List Frame} {meth : Method} {c : Code} {H : Heap} {locs : List Loc} {Q : State → Prop}
variable {cc : ByteArray} {nL : Nat} {own : String} {base : Nat} {D : va_G} {dA : Nat → ClassId} {σ0 σE σ : PH} {pc : Nat} {ls : Array Slot} {rest : List Value}
variable {α : Type} {z : α × PH}
theorem w_rI (E : x_E p s m args c cc nL own D dA) (S : x_S base D dA R s σ0 σE σ H locs) {r : Option Nat} {ci k index : Nat} {kf : Int32 → PM α} (hM : x_rn (x_bd (x_rI r ci k) kf) σ = some z) (lk : x_lk own index ci k) (hI : x_isI ci k = true) (hdg : decode cc pc = .ok (.getfield index, 3))
    (kk : ∀ v : Int32, x_rn (kf v) σ = some z → W p l e R s m args below meth c H locs (x_N σ - x_N σ0) (x_U σ - x_U σ0) Q (F0 m (pc + 3) ls (.int v :: rest))) : W p l e R s m args below meth c H locs (x_N σ - x_N σ0) (x_U σ - x_U σ0) Q (F0 m pc ls (va_rf r :: rest)) := by
  obtain ⟨v, hv, hM'⟩ := x_okA hM
  obtain ⟨a, ha, rfl⟩ := x_map_some hv
  obtain ⟨rfl, hKa⟩ := x_dr_some ha
  obtain ⟨hci, hk, hl⟩ := lk
  obtain ⟨C, T, N, hc, hin, hN, hty, hnm, hC, _, _⟩ := x_clA ci hci
  subst hN
  obtain ⟨hx, hb, hml, hown, hts, hT⟩ := E
  exact va_get (v := .int (x_I σ (100 * ci + k) a)) (ws := [(a, .inr (ci, x_O σ ci a))]) hx hb hts hin hown hT.1 (x_P1 (S.1.1 ci a hci hKa)) 0 rfl hc k hk (hts _ (hl C T _ hc)) (fun _ h => h) (by rw [x_O_get σ ci a hk]; simp [x_V, hI]) hdg (kk _ hM')
theorem w_rR (E : x_E p s m args c cc nL own D dA) (S : x_S base D dA R s σ0 σE σ H locs) {r : Option Nat} {ci k index : Nat} {kf : Option Nat → PM α} (hM : x_rn (x_bd (x_rR r ci k) kf) σ = some z) (lk : x_lk own index ci k) (hI : x_isI ci k = false) (hdg : decode cc pc = .ok (.getfield index, 3))
    (kk : ∀ v : Option Nat, x_rn (kf v) σ = some z → W p l e R s m args below meth c H locs (x_N σ - x_N σ0) (x_U σ - x_U σ0) Q (F0 m (pc + 3) ls (va_rf v :: rest))) : W p l e R s m args below meth c H locs (x_N σ - x_N σ0) (x_U σ - x_U σ0) Q (F0 m pc ls (va_rf r :: rest)) := by
  obtain ⟨v, hv, hM'⟩ := x_okA hM
  obtain ⟨a, ha, rfl⟩ := x_map_some hv
  obtain ⟨rfl, hKa⟩ := x_dr_some ha
  obtain ⟨hci, hk, hl⟩ := lk
  obtain ⟨C, T, N, hc, hin, hN, hty, hnm, hC, _, _⟩ := x_clA ci hci
  subst hN
  obtain ⟨hx, hb, hml, hown, hts, hT⟩ := E
  exact va_get (v := va_rf (x_R σ (100 * ci + k) a)) (ws := [(a, .inr (ci, x_O σ ci a))]) hx hb hts hin hown hT.1 (x_P1 (S.1.1 ci a hci hKa)) 0 rfl hc k hk (hts _ (hl C T _ hc)) (fun _ h => h) (by rw [x_O_get σ ci a hk]; simp [x_V, hI]) hdg (kk _ hM')
/-- any putfield -/
theorem w_putc (E : x_E p s m args c cc nL own D dA) (S : x_S base D dA R s σ0 σE σ H locs) {a ci k index : Nat} {v : Value} {cells slots : Nat} (hKa : x_K σ a = ci + 1) (lk : x_lk own index ci k) (hw : x_fin ci k = false ∨ (meth.name = "<init>" ∧ x_fin ci k = true ∧ x_nm ci = own)) (hv : narrow (x_ty ci k) v = v ∧ fits (x_ty ci k) v = true) (hdg : decode cc pc = .ok (.putfield index, 3))
    (kk : ∀ (H1 : Heap) (locs1 : List Loc), (∀ V : List Value, V.length = x_nf ci → (∀ j, j < x_nf ci → updV (vp_V (x_O σ ci a)) k v j = vp_V V j) → va_at D vwCl (a, .inr (ci, V)) H1) → H1.size = H.size → (∀ q : Nat, q ≠ a → H1[q]? = H[q]?) → va_S (fun q => base ≤ q) s.heap H1 locs1 → W p l e R s m args below meth c H1 locs1 cells slots Q (F0 m (pc + 3) ls rest)) : W p l e R s m args below meth c H locs cells slots Q (F0 m pc ls (v :: .ref a :: rest)) := by
  obtain ⟨hci, hk, hl⟩ := lk
  obtain ⟨C, T, N, hc, hin, hN, hty, hnm, hC, _, _⟩ := x_clA ci hci
  subst hN
  obtain ⟨hx, hb, hml, hown, hts, hT⟩ := E
  have hlink := hts _ (hl C T _ hc)
  have hf : x_fin ci k = (T k).2.2.2 := by simp only [x_fin, hc]
  have hn : x_nm ci = C := by simp only [x_nm, hc]
  have hba : base ≤ a := (S.1.2.2.2.1 a (by omega)).1
  have hap := va_apart (own := own) hts hin (x_ty ci) hty hnm hT.1 hc
  obtain ⟨r, h1, cell, q1, q2, q3, q4⟩ := S.1.1 ci a hci hKa
  have hr : r = (C, T, x_nf ci) := Option.some.inj (h1.symm.trans hc)
  subst hr
  obtain ⟨hS, hfc, kC, hkC, hkind⟩ := hT.1.1 ci _ hc
  obtain ⟨cf, kf, fi, f, hi, hsl⟩ := hS k hk
  have hlay := hts _ (hin _ (u_in_lay hk))
  unfold u_lay at hlay
  have hst := (u_facts hfc hkC (u_lays hts hin hk) hi).1
  rcases hw with hw | ⟨hin2, hw, hno⟩
  · rw [if_neg (by rw [← hf, hw]; decide)] at hlay
    have h6 := u_store hfc hkC hkind hlay hi (hty k hk) hv.1 hv.2
    refine W.putK hx hb (f := f) ⟨hown, hlink, ⟨_, _, _, hi⟩, hst⟩ (by rw [q2]; exact h6) q1 q3 (by rw [hsl]; exact k2_hasslot (q4 k hk)) rfl rfl hdg fun H' e1 e2 e3 => ?_
    rw [hsl] at e1 ⊢
    exact kk H' _ (fun V _ hV => ⟨_, hc, t_OB.to (V := updV (vp_V (x_O σ ci a)) k v) ⟨_, e1, q2, q3, t_set q4 hap hk v⟩ hV⟩) e2 e3 (S.2.1.put e2 e3 hba)
  · rw [if_pos (by rw [← hf, hw])] at hlay
    have hcf : m.cls = cf := by
      obtain ⟨_, _, c', _, _, _, -, -, hf', -, -, -, hown2, -⟩ := Cond.laysFinal_spec hlay
      have e1 : c' = cf := by have := hi.symm.trans hf'; simp at this; exact this.1.symm
      rw [hC k hk, ← hn, hno] at hown2
      rw [← e1]; exact Option.some.inj (hown.symm.trans hown2)
    have h6 := u_fits hfc hkC hkind (Or.inr hlay) hi (hty k hk) hv.1 hv.2
    refine W.putFinK hx hb hown hlink hi hst hcf hin2 (by rw [q2]; exact h6) q1 q3 (by rw [hsl]; exact k2_hasslot (q4 k hk)) rfl rfl hdg fun H' e1 e2 e3 => ?_
    rw [hsl] at e1 ⊢
    exact kk H' _ (fun V _ hV => ⟨_, hc, t_OB.to (V := updV (vp_V (x_O σ ci a)) k v) ⟨_, e1, q2, q3, t_set q4 hap hk v⟩ hV⟩) e2 e3 (S.2.1.put e2 e3 hba)
theorem x_S.uI (S : x_S base D dA R s σ0 σE σ H locs) {a ci k : Nat} {v : Int32} {H1 : Heap} {locs1 : List Loc} (hci : ci < 10) (hk : k < x_nf ci) (hKa : x_K σ a = ci + 1) (hI : x_isI ci k = true) (h1 : ∀ V : List Value, V.length = x_nf ci → (∀ j, j < x_nf ci → updV (vp_V (x_O σ ci a)) k (.int v) j = vp_V V j) → va_at D vwCl (a, .inr (ci, V)) H1) (z : H1.size = H.size) (oq : ∀ q : Nat, q ≠ a → H1[q]? = H[q]?) (hS : va_S (fun q => base ≤ q) s.heap H1 locs1) : x_S base D dA R s σ0 σE (x_uI σ (100 * ci + k) a v) H1 locs1 := by
  refine ⟨S.1.chg (a := a) rfl rfl rfl z oq (fun c b hb => x_O_uI_ne c hb) (fun _ _ => rfl) (fun _ _ => rfl) (fun c hc hc2 => ?_) (fun j hj hj2 => ?_) (fun j hj hj2 hj3 => ?_), hS, S.2.2⟩
  · have : c = ci := by omega
    subst this
    refine h1 _ (x_O_len _ _ _) (fun j hj => ?_)
    rw [x_V_vp _ _ _ hj, x_V_uI hI hj hk]
  · omega
  · omega
theorem x_S.uR (S : x_S base D dA R s σ0 σE σ H locs) {a ci k : Nat} {v : Option Nat} {H1 : Heap} {locs1 : List Loc} (hci : ci < 10) (hk : k < x_nf ci) (hKa : x_K σ a = ci + 1) (hI : x_isI ci k = false) (h1 : ∀ V : List Value, V.length = x_nf ci → (∀ j, j < x_nf ci → updV (vp_V (x_O σ ci a)) k (va_rf v) j = vp_V V j) → va_at D vwCl (a, .inr (ci, V)) H1) (z : H1.size = H.size) (oq : ∀ q : Nat, q ≠ a → H1[q]? = H[q]?) (hS : va_S (fun q => base ≤ q) s.heap H1 locs1) : x_S base D dA R s σ0 σE (x_uR σ (100 * ci + k) a v) H1 locs1 := by
  refine ⟨S.1.chg (a := a) rfl rfl rfl z oq (fun c b hb => x_O_uR_ne c hb) (fun _ _ => rfl) (fun _ _ => rfl) (fun c hc hc2 => ?_) (fun j hj hj2 => ?_) (fun j hj hj2 hj3 => ?_), hS, S.2.2⟩
  · have : c = ci := by omega
    subst this
    refine h1 _ (x_O_len _ _ _) (fun j hj => ?_)
    rw [x_V_vp _ _ _ hj, x_V_uR hI hj hk]
  · omega
  · omega
theorem w_wI (E : x_E p s m args c cc nL own D dA) (S : x_S base D dA R s σ0 σE σ H locs) {r : Option Nat} {ci k index : Nat} {v : Int32} {kf : Unit → PM α} (hM : x_rn (x_bd (x_wI r ci k v) kf) σ = some z) (lk : x_lk own index ci k) (hI : x_ty ci k = .int) (hw : x_fin ci k = false ∨ (meth.name = "<init>" ∧ x_fin ci k = true ∧ x_nm ci = own)) (hdg : decode cc pc = .ok (.putfield index, 3))
    (kk : ∀ (σ : PH) (H : Heap) (locs : List Loc), x_S base D dA R s σ0 σE σ H locs → x_rn (kf ()) σ = some z → W p l e R s m args below meth c H locs (x_N σ - x_N σ0) (x_U σ - x_U σ0) Q (F0 m (pc + 3) ls rest)) : W p l e R s m args below meth c H locs (x_N σ - x_N σ0) (x_U σ - x_U σ0) Q (F0 m pc ls (.int v :: va_rf r :: rest)) := by
  obtain ⟨τ, hv, hM'⟩ := x_okP hM
  obtain ⟨a, ha, rfl⟩ := x_map_some hv
  obtain ⟨rfl, hKa⟩ := x_dr_some ha
  refine w_putc (v := .int v) E S hKa lk hw (by rw [hI]; exact x_narI v) hdg (fun H1 locs1 h1 z1 oq hS => ?_)
  exact kk (x_uI σ (100 * ci + k) a v) H1 locs1 (S.uI lk.1 lk.2.1 hKa (by simp [x_isI, hI, x_isT]) h1 z1 oq hS) hM'
theorem w_wZ (E : x_E p s m args c cc nL own D dA) (S : x_S base D dA R s σ0 σE σ H locs) {r : Option Nat} {ci k index : Nat} {v : Int32} {kf : Unit → PM α} (hM : x_rn (x_bd (x_wZ r ci k v) kf) σ = some z) (lk : x_lk own index ci k) (hI : x_ty ci k = .boolean) (hw : x_fin ci k = false ∨ (meth.name = "<init>" ∧ x_fin ci k = true ∧ x_nm ci = own)) (hdg : decode cc pc = .ok (.putfield index, 3))
    (kk : ∀ (σ : PH) (H : Heap) (locs : List Loc), x_S base D dA R s σ0 σE σ H locs → x_rn (kf ()) σ = some z → W p l e R s m args below meth c H locs (x_N σ - x_N σ0) (x_U σ - x_U σ0) Q (F0 m (pc + 3) ls rest)) : W p l e R s m args below meth c H locs (x_N σ - x_N σ0) (x_U σ - x_U σ0) Q (F0 m pc ls (.int v :: va_rf r :: rest)) := by
  obtain ⟨τ, hv, hM'⟩ := x_okP hM
  split at hv
  case isFalse => cases hv
  rename_i hz
  obtain ⟨a, ha, rfl⟩ := x_map_some hv
  obtain ⟨rfl, hKa⟩ := x_dr_some ha
  refine w_putc (v := .int v) E S hKa lk hw (by rw [hI]; exact x_narZ hz) hdg (fun H1 locs1 h1 z1 oq hS => ?_)
  exact kk (x_uI σ (100 * ci + k) a v) H1 locs1 (S.uI lk.1 lk.2.1 hKa (by simp [x_isI, hI, x_isT]) h1 z1 oq hS) hM'
theorem w_wR (E : x_E p s m args c cc nL own D dA) (S : x_S base D dA R s σ0 σE σ H locs) {r v : Option Nat} {ci k index : Nat} {kf : Unit → PM α} (hM : x_rn (x_bd (x_wR r ci k v) kf) σ = some z) (lk : x_lk own index ci k) (hI : x_isR (x_ty ci k) = true) (hw : x_fin ci k = false ∨ (meth.name = "<init>" ∧ x_fin ci k = true ∧ x_nm ci = own)) (hdg : decode cc pc = .ok (.putfield index, 3))
    (kk : ∀ (σ : PH) (H : Heap) (locs : List Loc), x_S base D dA R s σ0 σE σ H locs → x_rn (kf ()) σ = some z → W p l e R s m args below meth c H locs (x_N σ - x_N σ0) (x_U σ - x_U σ0) Q (F0 m (pc + 3) ls rest)) : W p l e R s m args below meth c H locs (x_N σ - x_N σ0) (x_U σ - x_U σ0) Q (F0 m pc ls (va_rf v :: va_rf r :: rest)) := by
  obtain ⟨τ, hv, hM'⟩ := x_okP hM
  obtain ⟨a, ha, rfl⟩ := x_map_some hv
  obtain ⟨rfl, hKa⟩ := x_dr_some ha
  have hI2 : x_isI ci k = false := by
    unfold x_isI
    rcases x_isR_of hI with ⟨n, e⟩ | ⟨n, e⟩ <;> rw [e] <;> rfl
  refine w_putc (v := va_rf v) E S hKa lk hw (x_narR hI2 (x_isR_of hI) v) hdg (fun H1 locs1 h1 z1 oq hS => ?_)
  exact kk (x_uR σ (100 * ci + k) a v) H1 locs1 (S.uR lk.1 lk.2.1 hKa hI2 h1 z1 oq hS) hM'
/-! arrays -/
theorem w_aI (E : x_E p s m args c cc nL own D dA) (S : x_S base D dA R s σ0 σE σ H locs) {r : Option Nat} {i : Int32} {kf : Int32 → PM α} (hM : x_rn (x_bd (x_aI 0 r i) kf) σ = some z) (hdg : decode cc pc = .ok (.iaload, 1))
    (kk : ∀ v : Int32, x_rn (kf v) σ = some z → W p l e R s m args below meth c H locs (x_N σ - x_N σ0) (x_U σ - x_U σ0) Q (F0 m (pc + 1) ls (.int v :: rest))) : W p l e R s m args below meth c H locs (x_N σ - x_N σ0) (x_U σ - x_U σ0) Q (F0 m pc ls (.int i :: va_rf r :: rest)) := by
  obtain ⟨v, hv, hM'⟩ := x_okA hM
  obtain ⟨a, ha, rfl⟩ := x_map_some hv
  obtain ⟨rfl, hKa, hi⟩ := x_ix_some ha
  obtain ⟨hx, hb, hml, hown, hts, hT⟩ := E
  exact va_iald (ws := [(a, .inl (dA 0, x_L σ a, .inl (x_A σ a)))]) (cl := vwCl) hx hb hT.1 (x_P1 (S.1.2.1 0 a (by omega) hKa)) 0 0 rfl rfl hi hdg (kk _ hM')
theorem w_aZ (E : x_E p s m args c cc nL own D dA) (S : x_S base D dA R s σ0 σE σ H locs) {r : Option Nat} {i : Int32} {kf : Int32 → PM α} (hM : x_rn (x_bd (x_aI 1 r i) kf) σ = some z) (hdg : decode cc pc = .ok (.baload, 1))
    (kk : ∀ v : Int32, x_rn (kf v) σ = some z → W p l e R s m args below meth c H locs (x_N σ - x_N σ0) (x_U σ - x_U σ0) Q (F0 m (pc + 1) ls (.int v :: rest))) : W p l e R s m args below meth c H locs (x_N σ - x_N σ0) (x_U σ - x_U σ0) Q (F0 m pc ls (.int i :: va_rf r :: rest)) := by
  obtain ⟨v, hv, hM'⟩ := x_okA hM
  obtain ⟨a, ha, rfl⟩ := x_map_some hv
  obtain ⟨rfl, hKa, hi⟩ := x_ix_some ha
  obtain ⟨hx, hb, hml, hown, hts, hT⟩ := E
  exact va_zald (ws := [(a, .inl (dA 1, x_L σ a, .inl (x_A σ a)))]) (cl := vwCl) hx hb hT.1 (x_P1 (S.1.2.1 1 a (by omega) hKa)) 0 1 rfl rfl hi hdg (kk _ hM')
theorem x_tyA_o {j : Nat} (h : 2 ≤ j) : x_tyA j = .object (x_eC j) := by
  unfold x_tyA
  rw [if_neg (by omega), if_neg (by omega)]
theorem x_tys_get (dA : Nat → ClassId) {j : Nat} (h2 : j < 6) : (x_tys dA)[j]? = some (dA j, x_tyA j) := by simp [x_tys, h2]
theorem w_aQ (E : x_E p s m args c cc nL own D dA) (S : x_S base D dA R s σ0 σE σ H locs) {kd : Nat} {r : Option Nat} {i : Int32} {kf : Option Nat → PM α} (hM : x_rn (x_bd (x_aQ kd r i) kf) σ = some z) (hk : 2 ≤ kd ∧ kd < 6) (hdg : decode cc pc = .ok (.aaload, 1))
    (kk : ∀ v : Option Nat, x_rn (kf v) σ = some z → W p l e R s m args below meth c H locs (x_N σ - x_N σ0) (x_U σ - x_U σ0) Q (F0 m (pc + 1) ls (va_rf v :: rest))) : W p l e R s m args below meth c H locs (x_N σ - x_N σ0) (x_U σ - x_U σ0) Q (F0 m pc ls (.int i :: va_rf r :: rest)) := by
  obtain ⟨v, hv, hM'⟩ := x_okA hM
  obtain ⟨a, ha, rfl⟩ := x_map_some hv
  obtain ⟨rfl, hKa, hi⟩ := x_ix_some ha
  obtain ⟨hx, hb, hml, hown, hts, hT⟩ := E
  exact va_aldq (C := x_eC kd) (ws := [(a, .inl (dA kd, x_L σ a, .inr (.inr (.inr (.inr (x_Q σ a))))))]) (cl := vwCl) hx hb hT.1 (x_P1 (S.1.2.2.1 kd a hk.1 hk.2 hKa)) 0 kd rfl (by rw [x_tys_get dA hk.2, x_tyA_o hk.1]) hi hdg (kk _ hM')
theorem w_aL (E : x_E p s m args c cc nL own D dA) (S : x_S base D dA R s σ0 σE σ H locs) {kd : Nat} {r : Option Nat} {kf : Int32 → PM α} (hM : x_rn (x_bd (x_aL kd r) kf) σ = some z) (hk : kd < 6) (hdg : decode cc pc = .ok (.arraylength, 1))
    (kk : ∀ v : Int32, x_rn (kf v) σ = some z → W p l e R s m args below meth c H locs (x_N σ - x_N σ0) (x_U σ - x_U σ0) Q (F0 m (pc + 1) ls (.int v :: rest))) : W p l e R s m args below meth c H locs (x_N σ - x_N σ0) (x_U σ - x_U σ0) Q (F0 m pc ls (va_rf r :: rest)) := by
  obtain ⟨v, hv, hM'⟩ := x_okA hM
  obtain ⟨a, ha, rfl⟩ := x_map_some hv
  obtain ⟨rfl, hKa⟩ := x_dr_some ha
  obtain ⟨hx, hb, hml, hown, hts, hT⟩ := E
  by_cases h2 : kd < 2
  · exact va_alen (ws := [(a, .inl (dA kd, x_L σ a, .inl (x_A σ a)))]) (cl := vwCl) hx hb hT.1 (x_P1 (S.1.2.1 kd a h2 hKa)) 0 kd rfl (x_tys_get dA hk) rfl hdg (kk _ hM')
  · exact va_alen (ws := [(a, .inl (dA kd, x_L σ a, .inr (.inr (.inr (.inr (x_Q σ a))))))]) (cl := vwCl) hx hb hT.1 (x_P1 (S.1.2.2.1 kd a (by omega) hk hKa)) 0 kd rfl (x_tys_get dA hk) rfl hdg (kk _ hM')
theorem x_A_uA_ne {σ : PH} {a b i : Nat} {v : Int32} (h : b ≠ a) : x_A (x_uA σ a i v) b = x_A σ b := by
  funext j; simp [x_uA, x_A, x_up, h]
theorem x_A_uA {σ : PH} {a i : Nat} {v : Int32} : x_A (x_uA σ a i v) a = upd (x_A σ a) i v := by
  funext j; simp [x_uA, x_A, x_up, upd]
theorem x_Q_uQ_ne {σ : PH} {a b i : Nat} {v : Option Nat} (h : b ≠ a) : x_Q (x_uQ σ a i v) b = x_Q σ b := by
  funext j; simp [x_uQ, x_Q, x_up, h]
theorem x_Q_uQ {σ : PH} {a i : Nat} {v : Option Nat} : x_Q (x_uQ σ a i v) a = va_up (x_Q σ a) i v := by
  funext j; simp [x_uQ, x_Q, x_up, va_up]
theorem x_S.uA (S : x_S base D dA R s σ0 σE σ H locs) {a j i : Nat} {v : Int32} {H1 : Heap} {locs1 : List Loc} (hj : j < 2) (hKa : x_K σ a = j + 11) (h1 : H1[a]? = some (vp_cell (dA j) (x_L σ a, .inl (upd (x_A σ a) i v)))) (z : H1.size = H.size) (oq : ∀ q : Nat, q ≠ a → H1[q]? = H[q]?) (hS : va_S (fun q => base ≤ q) s.heap H1 locs1) : x_S base D dA R s σ0 σE (x_uA σ a i v) H1 locs1 := by
  refine ⟨S.1.chg (a := a) rfl rfl rfl z oq (fun c b hb => rfl) (fun _ hb => x_A_uA_ne hb) (fun _ _ => rfl) (fun c hc hc2 => ?_) (fun k hk hk2 => ?_) (fun k hk hk2 hk3 => ?_), hS, S.2.2⟩
  · omega
  · have : k = j := by omega
    subst this
    rw [x_A_uA]; exact h1
  · omega
theorem x_S.uQ (S : x_S base D dA R s σ0 σE σ H locs) {a j i : Nat} {v : Option Nat} {H1 : Heap} {locs1 : List Loc} (hj : 2 ≤ j ∧ j < 6) (hKa : x_K σ a = j + 11) (h1 : H1[a]? = some (vp_cell (dA j) (x_L σ a, .inr (.inr (.inr (.inr (va_up (x_Q σ a) i v))))))) (z : H1.size = H.size) (oq : ∀ q : Nat, q ≠ a → H1[q]? = H[q]?) (hS : va_S (fun q => base ≤ q) s.heap H1 locs1) : x_S base D dA R s σ0 σE (x_uQ σ a i v) H1 locs1 := by
  refine ⟨S.1.chg (a := a) rfl rfl rfl z oq (fun c b hb => rfl) (fun _ _ => rfl) (fun _ hb => x_Q_uQ_ne hb) (fun c hc hc2 => ?_) (fun k hk hk2 => ?_) (fun k hk hk2 hk3 => ?_), hS, S.2.2⟩
  · omega
  · omega
  · have : k = j := by omega
    subst this
    rw [x_Q_uQ]; exact h1
theorem w_sI (E : x_E p s m args c cc nL own D dA) (S : x_S base D dA R s σ0 σE σ H locs) {r : Option Nat} {i v : Int32} {kf : Unit → PM α} (hM : x_rn (x_bd (x_sI r i v) kf) σ = some z) (hdg : decode cc pc = .ok (.iastore, 1))
    (kk : ∀ (σ : PH) (H : Heap) (locs : List Loc), x_S base D dA R s σ0 σE σ H locs → x_rn (kf ()) σ = some z → W p l e R s m args below meth c H locs (x_N σ - x_N σ0) (x_U σ - x_U σ0) Q (F0 m (pc + 1) ls rest)) : W p l e R s m args below meth c H locs (x_N σ - x_N σ0) (x_U σ - x_U σ0) Q (F0 m pc ls (.int v :: .int i :: va_rf r :: rest)) := by
  obtain ⟨τ, hv, hM'⟩ := x_okP hM
  obtain ⟨a, ha, rfl⟩ := x_map_some hv
  obtain ⟨rfl, hKa, hi⟩ := x_ix_some ha
  obtain ⟨hx, hb, hml, hown, hts, hT⟩ := E
  have hba : base ≤ a := (S.1.2.2.2.1 a (by omega)).1
  have hty := (hT.ty (j := 0) (by omega)).1
  refine W.iast hx hb (S.1.2.1 0 a (by omega) hKa) (hty (x_L σ a) (fun j => .int (x_A σ a j))) (fun q => by cases q) (by show ¬ (i < 0 ∨ (arrV _ _ _).slots.size ≤ _); rw [arrV_size]; exact hi) rfl rfl hdg fun H1 e1 z1 oq => ?_
  refine kk (x_uA σ a i.toNatClampNeg v) H1 _ (S.uA (j := 0) (by omega) hKa ?_ z1 oq (S.2.1.put z1 oq hba)) hM'
  rw [e1, vp_cell_i, vp_cell_i, arrV_store]
  congr 2
  funext q
  by_cases hq : q = i.toNatClampNeg
  · subst hq; simp [updV, upd]
  · simp [updV, upd, hq]
theorem w_sZ (E : x_E p s m args c cc nL own D dA) (S : x_S base D dA R s σ0 σE σ H locs) {r : Option Nat} {i v : Int32} {kf : Unit → PM α} (hM : x_rn (x_bd (x_sZ r i v) kf) σ = some z) (hdg : decode cc pc = .ok (.bastore, 1))
    (kk : ∀ (σ : PH) (H : Heap) (locs : List Loc), x_S base D dA R s σ0 σE σ H locs → x_rn (kf ()) σ = some z → W p l e R s m args below meth c H locs (x_N σ - x_N σ0) (x_U σ - x_U σ0) Q (F0 m (pc + 1) ls rest)) : W p l e R s m args below meth c H locs (x_N σ - x_N σ0) (x_U σ - x_U σ0) Q (F0 m pc ls (.int v :: .int i :: va_rf r :: rest)) := by
  obtain ⟨τ, hv, hM'⟩ := x_okP hM
  split at hv
  case isFalse => cases hv
  rename_i hz
  obtain ⟨a, ha, rfl⟩ := x_map_some hv
  obtain ⟨rfl, hKa, hi⟩ := x_ix_some ha
  obtain ⟨hx, hb, hml, hown, hts, hT⟩ := E
  have hba : base ≤ a := (S.1.2.2.2.1 a (by omega)).1
  have hty := (hT.ty (j := 1) (by omega)).1
  refine W.zast hx hb (S.1.2.1 1 a (by omega) hKa) (hty (x_L σ a) (fun j => .int (x_A σ a j))) (fun q => by cases q) (by show ¬ (i < 0 ∨ (arrV _ _ _).slots.size ≤ _); rw [arrV_size]; exact hi) rfl rfl hdg fun H1 e1 z1 oq => ?_
  refine kk (x_uA σ a i.toNatClampNeg v) H1 _ (S.uA (j := 1) (by omega) hKa ?_ z1 oq (S.2.1.put z1 oq hba)) hM'
  rw [e1, vp_cell_i, vp_cell_i, arrV_store, (x_narZ hz).1]
  congr 2
  funext q
  by_cases hq : q = i.toNatClampNeg
  · subst hq; simp [updV, upd]
  · simp [updV, upd, hq]
theorem w_sQ (E : x_E p s m args c cc nL own D dA) (S : x_S base D dA R s σ0 σE σ H locs) {kd ci : Nat} {r v : Option Nat} {i : Int32} {kf : Unit → PM α} (hM : x_rn (x_bd (x_sQ kd ci r i v) kf) σ = some z) (hk : 2 ≤ kd ∧ kd < 6 ∧ ci < 10 ∧ x_nm ci = x_eC kd) (hdg : decode cc pc = .ok (.aastore, 1))
    (kk : ∀ (σ : PH) (H : Heap) (locs : List Loc), x_S base D dA R s σ0 σE σ H locs → x_rn (kf ()) σ = some z → W p l e R s m args below meth c H locs (x_N σ - x_N σ0) (x_U σ - x_U σ0) Q (F0 m (pc + 1) ls rest)) : W p l e R s m args below meth c H locs (x_N σ - x_N σ0) (x_U σ - x_U σ0) Q (F0 m pc ls (va_rf v :: .int i :: va_rf r :: rest)) := by
  obtain ⟨τ, hv, hM'⟩ := x_okP hM
  split at hv
  case isFalse => cases hv
  rename_i hz
  obtain ⟨a, ha, rfl⟩ := x_map_some hv
  obtain ⟨rfl, hKa, hi⟩ := x_ix_some ha
  obtain ⟨hx, hb, hml, hown, hts, hT⟩ := E
  have hba : base ≤ a := (S.1.2.2.2.1 a (by omega)).1
  have hty := hT.ty (j := kd) hk.2.1
  rw [x_tyA_o hk.1] at hty
  have hlt : i.toNatClampNeg < x_L σ a := Nat.not_le.mp fun q => hi (Or.inr q)
  have h0 : ¬ i < 0 := fun q => hi (Or.inl q)
  have fin : ∀ (H1 : Heap), H1[a]? = some ((vp_cell (dA kd) (x_L σ a, .inr (.inr (.inr (.inr (x_Q σ a)))))).setSlot i.toNatClampNeg (va_rf v)) → H1.size = H.size → (∀ q : Nat, q ≠ a → H1[q]? = H[q]?) → ∀ kl : Nat, x_S base D dA R s σ0 σE (x_uQ σ a i.toNatClampNeg v) H1 (locs ++ [⟨a, kl⟩]) := by
    intro H1 e1 z1 oq kl
    refine S.uQ ⟨hk.1, hk.2.1⟩ hKa ?_ z1 oq (S.2.1.put z1 oq hba)
    rw [e1, vp_cell_q, vp_cell_q, arrV_store]
    congr 2
    funext q
    by_cases hq : q = i.toNatClampNeg
    · subst hq; simp [updV, va_up]
    · simp [updV, va_up, hq]
  cases v with
  | none =>
    refine va_WaastN (C := x_eC kd) hx hb (S.1.2.2.1 kd a hk.1 hk.2.1 hKa) (hty.1 (x_L σ a) (fun j => va_rf (x_Q σ a j))) (fun h => by cases h) (by show ¬ (i < 0 ∨ (arrV _ _ _).slots.size ≤ _); rw [arrV_size]; exact hi) rfl rfl hdg fun H1 e1 z1 oq => ?_
    exact kk (x_uQ σ a i.toNatClampNeg none) H1 _ (fin H1 e1 z1 oq _) hM'
  | some b =>
    have hKb : x_K σ b = ci + 1 := by simpa [x_fit] using hz
    obtain ⟨C, T, N, hc, -⟩ := x_clA ci hk.2.2.1
    have hn : x_nm ci = C := by simp only [x_nm, hc]
    obtain ⟨r', hr', cellV, g1, g2, g3, -⟩ := S.1.1 ci b hk.2.2.1 hKb
    have hcls := (hT.1.1 ci _ hc).2
    obtain ⟨kA, comp, k1, k2, k3, -⟩ := hty.2
    have hcomp : comp = D.1 ci := Option.some.inj (k3.symm.trans (by rw [← hk.2.2.2, hn]; exact hcls.1))
    subst hcomp
    obtain ⟨kC, hkC, -⟩ := hcls.2
    refine W.aast hx hb (S.1.2.2.1 kd a hk.1 hk.2.1 hKa) (fun q h => by cases h) (fun h => by cases h) k1 k2 rfl hkC ⟨h0, by show _ < (arrV _ _ _).slots.size; rw [arrV_size]; exact hlt⟩ g1 (fun q h => by rw [g3] at h; cases h) (by rw [g2]; exact hkC) (by rw [g2]; exact va_assign hcls) rfl rfl hdg fun H1 e1 z1 oq => ?_
    exact kk (x_uQ σ a i.toNatClampNeg (some b)) H1 _ (fin H1 e1 z1 oq _) hM'
end XW
end
section
theorem x_tyOK : ∀ ci, ci < 10 → ∀ k, k < x_nf ci → (x_isI ci k = true ∧ defaultValue (x_ty ci k) = .int 0) ∨ (x_isI ci k = false ∧ defaultValue (x_ty ci k) = .null) := by
  have h : ∀ ci, ci < 10 → ∀ k, k < 50 → k < x_nf ci → (x_isI ci k = true ∧ defaultValue (x_ty ci k) = .int 0) ∨ (x_isI ci k = false ∧ defaultValue (x_ty ci k) = .null) := by decide +kernel
  intro ci hc k hk
  have : x_nf ci ≤ 50 := by
    unfold x_nf
    split <;> omega
  exact h ci hc k (by omega) hk
def x_clk (own : String) (index ci : Nat) : Prop := ci < 10 ∧ Cond.classLink own index (x_nm ci) ∈ x_all
section XN
variable {p : Program} {l : Launch} {e : Env} {R : Room} {s : State} {m : MethodId} {args : Array Value} {below : List Frame} {meth : Method} {c : Code} {H : Heap} {locs : List Loc} {Q : State → Prop}
variable {cc : ByteArray} {nL : Nat} {own : String} {base : Nat} {D : va_G} {dA : Nat → ClassId} {σ0 σE σ : PH} {pc : Nat} {ls : Array Slot} {rest : List Value}
variable {α : Type} {z : α × PH}
theorem x_va_S_push {A : Nat → Prop} {H0 H H1 : Heap} (h : va_S A H0 H locs) (z1 : H1.size = H.size + 1) (oq : ∀ q : Nat, q < H.size → H1[q]? = H[q]?) : va_S A H0 H1 locs := ⟨Nat.le_trans h.1 (by omega), fun x h1 h2 => (oq x (Nat.lt_of_lt_of_le h1 h.1)).trans (h.2.1 x h1 h2), h.2.2⟩
theorem w_new (E : x_E p s m args c cc nL own D dA) (S : x_S base D dA R s σ0 z.2 σ H locs) {ci index : Nat} {kf : Option Nat → PM α} (hM : x_rn (x_bd (x_mO ci) kf) σ = some z) (lk : x_clk own index ci) (hdg : decode cc pc = .ok (.new index, 3))
    (kk : ∀ (q : Nat) (σ : PH) (H : Heap), x_S base D dA R s σ0 z.2 σ H locs → x_rn (kf (some q)) σ = some z → W p l e R s m args below meth c H locs (x_N σ - x_N σ0) (x_U σ - x_U σ0) Q (F0 m (pc + 3) ls (va_rf (some q) :: rest))) : W p l e R s m args below meth c H locs (x_N σ - x_N σ0) (x_U σ - x_U σ0) Q (F0 m pc ls rest) := by
  have hM' : x_rn (kf (some (x_N σ))) (x_nO σ ci) = some z := hM
  have hmo := x_okM hM'
  obtain ⟨hci, hcl⟩ := lk
  obtain ⟨C, T, N, hc, hin, hN, hty, hnm, hC, hins, hini⟩ := x_clA ci hci
  subst hN
  have hn : x_nm ci = C := by simp only [x_nm, hc]
  rw [hn] at hcl
  obtain ⟨hx, hb, hml, hown, hts, hT⟩ := E
  obtain ⟨S1, S2, S3, S4, S5, S6, S7⟩ := S
  have e1 : x_N (x_nO σ ci) = x_N σ + 1 := rfl
  have e2 : x_U (x_nO σ ci) = x_U σ + x_nf ci := rfl
  have hKn := hT.1.1 ci _ hc
  refine W.newcK (h := x_N σ) hx hb hown (hts _ hcl) (hts _ hins) (hts _ hini) rfl hdg (by omega) (by omega) hKn.2.1 S1.2.2.2.2.1 fun H1 kC hkC g1 z1 o1 => ?_
  have hsz : H.size = x_N σ := S1.2.2.2.2.1
  have hrep : x_Rep base D dA (x_nO σ ci) H1 := by
    refine S1.grow (fun b hb => by simp [x_nO, x_K, hb]) (fun b hb => rfl) e1 (by omega) (fun q hq => o1 q (by omega)) (fun c b hb => ?_) (fun _ _ => rfl) (fun _ _ => rfl) (fun c hc1 hc2 => ?_) (fun j hj hj2 => ?_) (fun j hj hj2 hj3 => ?_)
    · simp only [x_O]
      refine List.map_congr_left (fun k _ => ?_)
      simp [x_V, x_nO, x_I, x_R, hb]
    · have hcc : c = ci := by
        have : x_K (x_nO σ ci) (x_N σ) = ci + 1 := by simp [x_nO, x_K]
        omega
      subst hcc
      refine ⟨_, hc, (u_born (x_ty c) hts hin hKn hkC g1 hty).to (fun k hk => ?_)⟩
      rw [x_V_vp _ _ _ hk]
      rcases x_tyOK c hci k hk with ⟨i1, i2⟩ | ⟨i1, i2⟩
      · rw [i2]; simp [x_V, i1, x_nO, x_I]
      · rw [i2]; simp [x_V, i1, x_nO, x_R, va_rf]
    · have : x_K (x_nO σ ci) (x_N σ) = ci + 1 := by simp [x_nO, x_K]
      omega
    · have : x_K (x_nO σ ci) (x_N σ) = ci + 1 := by simp [x_nO, x_K]
      omega
  refine W.widen (k := x_N (x_nO σ ci) - x_N σ0) (n := x_U (x_nO σ ci) - x_U σ0) (by omega) (by omega) ?_
  exact kk (x_N σ) (x_nO σ ci) H1 ⟨hrep, x_va_S_push S2 (by omega) (fun q hq => o1 q (by omega)), S3, by omega, by omega, S6, S7⟩ hM'
theorem x_nA_rep {kd n : Nat} {H1 : Heap} (S1 : x_Rep base D dA σ H) (hkd : kd < 6) (z1 : H1.size = H.size + 1) (o1 : ∀ q : Nat, q < H.size → H1[q]? = H[q]?) (g : H1[H.size]? = some (arrV (dA kd) n (fun _ => defaultValue (x_tyA kd)))) : x_Rep base D dA (x_nA σ kd n) H1 := by
  have hsz : H.size = x_N σ := S1.2.2.2.2.1
  have hk0 : x_K (x_nA σ kd n) (x_N σ) = kd + 11 := by simp [x_nA, x_K]
  have hl0 : x_L (x_nA σ kd n) (x_N σ) = n := by simp [x_nA, x_L]
  refine S1.grow (fun b hb => by simp [x_nA, x_K, hb]) (fun b hb => by simp [x_nA, x_L, hb]) rfl (by omega) o1 (fun c b hb => rfl) (fun b hb => by funext i; simp [x_nA, x_A, hb]) (fun b hb => by funext i; simp [x_nA, x_Q, hb]) (fun c hc1 hc2 => ?_) (fun j hj hj2 => ?_) (fun j hj hj2 hj3 => ?_)
  · omega
  · have : j = kd := by omega
    subst this
    rw [hl0, ← hsz, g, vp_cell_i]
    have hd : defaultValue (x_tyA j) = .int 0 := by
      have : j = 0 ∨ j = 1 := by omega
      rcases this with rfl | rfl <;> rfl
    have ha : x_A (x_nA σ j n) H.size = fun _ => 0 := by funext i; simp [x_nA, x_A, hsz]
    rw [hd, ha]
  · have : j = kd := by omega
    subst this
    rw [hl0, ← hsz, g, vp_cell_q]
    have hd : defaultValue (x_tyA j) = .null := by rw [x_tyA_o hj]; rfl
    have ha : x_Q (x_nA σ j n) H.size = fun _ => none := by funext i; simp [x_nA, x_Q, hsz]
    rw [hd, ha]
    rfl
theorem w_newa (E : x_E p s m args c cc nL own D dA) (S : x_S base D dA R s σ0 z.2 σ H locs) {kd : Nat} {n : Int32} {atype : ArrayType} {kf : Option Nat → PM α} (hM : x_rn (x_bd (x_mA kd n) kf) σ = some z) (hkd : kd < 2 ∧ newarray.typeOf atype = x_tyA kd ∧ Cond.arrayClass (newarray.typeOf atype) ∈ x_all) (hdg : decode cc pc = .ok (.newarray atype, 2))
    (kk : ∀ (q : Nat) (σ : PH) (H : Heap), x_S base D dA R s σ0 z.2 σ H locs → x_rn (kf (some q)) σ = some z → W p l e R s m args below meth c H locs (x_N σ - x_N σ0) (x_U σ - x_U σ0) Q (F0 m (pc + 2) ls (va_rf (some q) :: rest))) : W p l e R s m args below meth c H locs (x_N σ - x_N σ0) (x_U σ - x_U σ0) Q (F0 m pc ls (.int n :: rest)) := by
  obtain ⟨a, τ, h1, hM'⟩ := x_okB hM
  have h1' : (if n < 0 ∨ 65536 < n.toNatClampNeg then none else some (some (x_N σ), x_nA σ kd n.toNatClampNeg)) = some (a, τ) := h1
  split at h1'
  case isTrue => cases h1'
  rename_i hn
  cases h1'
  have hmo := x_okM hM'
  obtain ⟨hx, hb, hml, hown, hts, hT⟩ := E
  obtain ⟨S1, S2, S3, S4, S5, S6, S7⟩ := S
  have e1 : x_N (x_nA σ kd n.toNatClampNeg) = x_N σ + 1 := rfl
  have e2 : x_U (x_nA σ kd n.toNatClampNeg) = x_U σ + n.toNatClampNeg := rfl
  have hsz : H.size = x_N σ := S1.2.2.2.2.1
  have hby : n.toNatClampNeg * componentBytes (newarray.typeOf atype) ≤ 536870912 := by
    have hb : componentBytes (newarray.typeOf atype) ≤ 8 := by cases atype <;> decide
    have : n.toNatClampNeg ≤ 65536 := by omega
    calc n.toNatClampNeg * componentBytes (newarray.typeOf atype) ≤ 65536 * 8 := Nat.mul_le_mul this hb
      _ ≤ 536870912 := by decide
  refine va_newaK (h := x_N σ) hx hb (hts _ hkd.2.2) rfl hdg rfl (fun q => hn (Or.inl q)) rfl hby (by omega) (by omega) hsz fun H1 cA g1 z1 o1 hAr hNm => ?_
  have hcA : cA = dA kd := by
    have h := (hT.ty (j := kd) (by omega)).2
    have h2 : va_RA s cA (x_tyA kd) := by
      rw [← hkd.2.1]
      cases atype <;> exact hNm
    have hj : kd = 0 ∨ kd = 1 := by omega
    rcases hj with rfl | rfl
    · exact Option.some.inj ((show s.vm.findClass _ = some cA from h2).symm.trans (show s.vm.findClass _ = some (dA 0) from h))
    · exact Option.some.inj ((show s.vm.findClass _ = some cA from h2).symm.trans (show s.vm.findClass _ = some (dA 1) from h))
  subst hcA
  refine W.widen (k := x_N (x_nA σ kd n.toNatClampNeg) - x_N σ0) (n := x_U (x_nA σ kd n.toNatClampNeg) - x_U σ0) (by omega) (by omega) ?_
  exact kk (x_N σ) (x_nA σ kd n.toNatClampNeg) H1 ⟨x_nA_rep S1 (by omega) (by omega) (fun q hq => o1 q (by omega)) (by rw [hsz, g1, hkd.2.1]), x_va_S_push S2 (by omega) (fun q hq => o1 q (by omega)), S3, by omega, by omega, S6, S7⟩ hM'
theorem w_newq (E : x_E p s m args c cc nL own D dA) (S : x_S base D dA R s σ0 z.2 σ H locs) {kd index : Nat} {n : Int32} {kf : Option Nat → PM α} (hM : x_rn (x_bd (x_mA kd n) kf) σ = some z) (hkd : 2 ≤ kd ∧ kd < 6) (hcl : Cond.classLink own index (x_eC kd) ∈ x_all) (hdg : decode cc pc = .ok (.anewarray index, 3))
    (kk : ∀ (q : Nat) (σ : PH) (H : Heap), x_S base D dA R s σ0 z.2 σ H locs → x_rn (kf (some q)) σ = some z → W p l e R s m args below meth c H locs (x_N σ - x_N σ0) (x_U σ - x_U σ0) Q (F0 m (pc + 3) ls (va_rf (some q) :: rest))) : W p l e R s m args below meth c H locs (x_N σ - x_N σ0) (x_U σ - x_U σ0) Q (F0 m pc ls (.int n :: rest)) := by
  obtain ⟨a, τ, h1, hM'⟩ := x_okB hM
  have h1' : (if n < 0 ∨ 65536 < n.toNatClampNeg then none else some (some (x_N σ), x_nA σ kd n.toNatClampNeg)) = some (a, τ) := h1
  split at h1'
  case isTrue => cases h1'
  rename_i hn
  cases h1'
  have hmo := x_okM hM'
  obtain ⟨hx, hb, hml, hown, hts, hT⟩ := E
  obtain ⟨S1, S2, S3, S4, S5, S6, S7⟩ := S
  have e1 : x_N (x_nA σ kd n.toNatClampNeg) = x_N σ + 1 := rfl
  have e2 : x_U (x_nA σ kd n.toNatClampNeg) = x_U σ + n.toNatClampNeg := rfl
  have hsz : H.size = x_N σ := S1.2.2.2.2.1
  refine W.anew hx hb hown (hts _ hcl) (va_AO.use (hT.2 kd hkd.1 hkd.2)) rfl hdg rfl (fun q => hn (Or.inl q)) (by omega) (by omega) (by omega) fun cA kA comp f1 f2 f3 f4 => ?_
  generalize hH1 : H.push ({ cls := cA, slots := Array.replicate n.toNatClampNeg .null, vm := .none } : Cell) = H1
  have z1 : H1.size = H.size + 1 := by rw [← hH1, Array.size_push]
  have g1 : H1[H.size]? = some (arrV cA n.toNatClampNeg (fun _ => .null)) := by rw [← hH1, Array.getElem?_push_size, ← arrV_new]
  have o1 : ∀ q : Nat, q < H.size → H1[q]? = H[q]? := fun q hq => by rw [← hH1, Array.getElem?_push, if_neg (Nat.ne_of_lt hq)]
  have hcA : cA = dA kd := by
    have h := (hT.ty (j := kd) hkd.2).2
    rw [x_tyA_o hkd.1] at h
    obtain ⟨_, _, _, _, _, h4⟩ := h
    exact Option.some.inj (f1.symm.trans h4)
  subst hcA
  rw [hsz]
  refine W.widen (k := x_N (x_nA σ kd n.toNatClampNeg) - x_N σ0) (n := x_U (x_nA σ kd n.toNatClampNeg) - x_U σ0) (by omega) (by omega) ?_
  exact kk (x_N σ) (x_nA σ kd n.toNatClampNeg) H1 ⟨x_nA_rep S1 hkd.2 z1 o1 (by rw [g1, x_tyA_o hkd.1]; rfl), x_va_S_push S2 z1 o1, S3, by omega, by omega, S6, S7⟩ hM'
end XN
end
section
/-! locals by their kinds -/
abbrev x_tv : Type := Int32 ⊕ (Option Nat ⊕ Int64)
def x_val (t : x_tv) : Value := match t with
  | .inl x => .int x
  | .inr (.inl r) => va_rf r
  | .inr (.inr y) => .long y
def x_lng (t : x_tv) : Bool := match t with
  | .inr (.inr _) => true
  | _ => false
theorem x_lng_cat (t : x_tv) : ((x_val t).category == 2) = x_lng t := by
  rcases t with x | r | y
  · rfl
  · cases r <;> rfl
  · rfl
abbrev x_lm (lt : List (Nat × x_tv)) : List (Nat × Value) := lt.map (fun q => (q.1, x_val q.2))
def x_lv (ls : Array Slot) (nL : Nat) (lt : List (Nat × x_tv)) : Prop := lv_has ls nL (lt.map (fun q => (q.1, x_val q.2)))
theorem x_lv_at {ls : Array Slot} {nL : Nat} {lt : List (Nat × x_tv)} (h : x_lv ls nL lt) (k : Nat) {i : Nat} {t : x_tv} (hk : lt[k]? = some (i, t)) : ls[i]? = some (.val (x_val t)) := by
  refine lv_at h k ?_
  rw [List.getElem?_map, hk]
  rfl
theorem x_lv_sub {ls : Array Slot} {nL : Nat} {lt lt' : List (Nat × x_tv)} (h : x_lv ls nL lt) (ks : List Nat) (hk : ks.filterMap (fun k => lt[k]?) = lt') : x_lv ls nL lt' := by
  refine lv_sub h ks ?_
  subst hk
  unfold lv_pick
  rw [List.map_filterMap]
  congr 1
  funext k
  rw [List.getElem?_map]
def x_keep (i : Nat) (q : Nat × x_tv) : Bool := !(q.1 == i) && !(q.1 + 1 == i && x_lng q.2)
theorem x_lv_flt (lt : List (Nat × x_tv)) (i : Nat) : (lt.map (fun q => (q.1, x_val q.2))).filter (fun q => !(q.1 == i) && !(q.1 + 1 == i && q.2.category == 2)) = (lt.filter (x_keep i)).map (fun q => (q.1, x_val q.2)) := by
  rw [List.filter_map]
  congr 1
  refine List.filter_congr (fun q _ => ?_)
  simp only [Function.comp, x_keep, x_lng_cat]
def x_keep2 (i : Nat) (q : Nat × x_tv) : Bool := !(q.1 == i) && (!(q.1 == i + 1) && !(q.1 + 1 == i && x_lng q.2))
theorem x_lv_flt2 (lt : List (Nat × x_tv)) (i : Nat) : (lt.map (fun q => (q.1, x_val q.2))).filter (fun q => !(q.1 == i) && (!(q.1 == i + 1) && !(q.1 + 1 == i && q.2.category == 2))) = (lt.filter (x_keep2 i)).map (fun q => (q.1, x_val q.2)) := by
  rw [List.filter_map]
  congr 1
  refine List.filter_congr (fun q _ => ?_)
  simp only [Function.comp, x_keep2, x_lng_cat]
/-! a method's contract by its pure step -/
def x_PreB (base : Nat) (D : va_G) (dA : Nat → ClassId) (σ : PH) : State → Prop := fun U => x_Rep base D dA σ U.heap ∧ x_T D dA U
def x_Post (base : Nat) (D : va_G) (dA : Nat → ClassId) (τ : PH) (rv : Option Value) : State → Outcome → State → Prop := fun st o t => o = .returned rv ∧ x_Rep base D dA τ t.heap ∧ x_T D dA t ∧ va_F (fun q => base ≤ q) st t
def x_rm (fr lo : Nat) (σ τ : PH) : Room := { frames := fr, cells := x_N τ - x_N σ, slots := x_U τ - x_U σ, locals := lo }
def x_Met {α : Type} (l : Launch) (base : Nat) (D : va_G) (dA : Nat → ClassId) (y : MethodName) (cc : ByteArray) (maxL : Nat) (ret : Option FieldType) (fr lo : Nat) (av : List Value) (f : PM α) (rv : α → Option Value) : Prop :=
  ∀ (σ : PH) (a : α) (τ : PH), x_rn f σ = some (a, τ) → Met l y (Cond.code y cc maxL ret :: x_all) (x_rm fr lo σ τ) (va_Pc av (x_PreB base D dA σ)) (fun _ st o t => x_Post base D dA τ (rv a) st o t) (x_N τ - x_N σ) (x_U τ - x_U σ) (fun q => base ≤ q)
theorem x_blind {base : Nat} {D : va_G} {dA : Nat → ClassId} {σ : PH} {av : List Value} : FrameBlind (va_Pc av (x_PreB base D dA σ)) := by
  intro a U g mk q
  obtain ⟨q0, qR, qT⟩ := q
  exact ⟨q0, qR, x_T.moved (u := U) (U := U.calling g mk a) (Vm.Alike.refl U.vm) qT⟩
theorem x_goodIn {ws : List Cond} (h : ∀ w ∈ ws, w ∈ x_all) : GoodIn x_all ws := fun w hw => ⟨h w hw, good_of_word (List.mem_filter.mp (h w hw)).2⟩
/-- what a call of y takes from the tables -/
def x_mc (y : MethodName) (cc : ByteArray) (maxL : Nat) (ret : Option FieldType) (n : Nat) : Prop := Cond.code y cc maxL ret ∈ x_all ∧ Cond.initialized y.cls ∈ x_all ∧ (y.cls ≠ "java/lang/invoke/MethodHandle" ∧ y.cls ≠ "java/lang/invoke/VarHandle" ∧ (parseMethodDescriptor y.desc).map (fun d => d.parameters.length) = some n)
section XC
variable {p : Program} {l : Launch} {e : Env} {R : Room} {s : State} {m : MethodId} {args : Array Value} {below : List Frame} {meth : Method} {c : Code} {H : Heap} {locs : List Loc} {Q : State → Prop}
variable {cc : ByteArray} {nL : Nat} {own : String} {base : Nat} {D : va_G} {dA : Nat → ClassId} {σ0 σE σ : PH} {pc : Nat} {ls : Array Slot} {rest : List Value}
variable {α β : Type} {z : α × PH} {cells slots : Nat} {lt lt' : List (Nat × x_tv)}
theorem w_iload_n (E : x_E p s m args c cc nL own D dA) (hl : x_lv ls nL lt) {k : Fin 4} {x : Int32} (j : Nat) (hdg : decode cc pc = .ok (.iload_n k, 1)) (hj : lt[j]? = some (k.val, .inl x)) (kk : W p l e R s m args below meth c H locs cells slots Q (F0 m (pc + 1) ls (.int x :: rest))) : W p l e R s m args below meth c H locs cells slots Q (F0 m pc ls rest) := lv_iload_n E.1 E.2.1 hdg rfl (x_lv_at hl j hj) kk
theorem w_iload (E : x_E p s m args c cc nL own D dA) (hl : x_lv ls nL lt) {k : Nat} {x : Int32} (j : Nat) (hdg : decode cc pc = .ok (.iload k, 2)) (hj : lt[j]? = some (k, .inl x)) (kk : W p l e R s m args below meth c H locs cells slots Q (F0 m (pc + 2) ls (.int x :: rest))) : W p l e R s m args below meth c H locs cells slots Q (F0 m pc ls rest) := lv_iload E.1 E.2.1 hdg (x_lv_at hl j hj) kk
theorem w_lload_n (E : x_E p s m args c cc nL own D dA) (hl : x_lv ls nL lt) {k : Fin 4} {x : Int64} (j : Nat) (hdg : decode cc pc = .ok (.lload_n k, 1)) (hj : lt[j]? = some (k.val, .inr (.inr x))) (kk : W p l e R s m args below meth c H locs cells slots Q (F0 m (pc + 1) ls (.long x :: rest))) : W p l e R s m args below meth c H locs cells slots Q (F0 m pc ls rest) := lv_lload_n E.1 E.2.1 hdg rfl (x_lv_at hl j hj) kk
theorem w_lload (E : x_E p s m args c cc nL own D dA) (hl : x_lv ls nL lt) {k : Nat} {x : Int64} (j : Nat) (hdg : decode cc pc = .ok (.lload k, 2)) (hj : lt[j]? = some (k, .inr (.inr x))) (kk : W p l e R s m args below meth c H locs cells slots Q (F0 m (pc + 2) ls (.long x :: rest))) : W p l e R s m args below meth c H locs cells slots Q (F0 m pc ls rest) := lv_lload E.1 E.2.1 hdg (x_lv_at hl j hj) kk
theorem w_aload_n (E : x_E p s m args c cc nL own D dA) (hl : x_lv ls nL lt) {k : Fin 4} {r : Option Nat} (j : Nat) (hdg : decode cc pc = .ok (.aload_n k, 1)) (hj : lt[j]? = some (k.val, .inr (.inl r))) (kk : W p l e R s m args below meth c H locs cells slots Q (F0 m (pc + 1) ls (va_rf r :: rest))) : W p l e R s m args below meth c H locs cells slots Q (F0 m pc ls rest) := by
  have h := x_lv_at hl j hj
  cases r with
  | none => exact lv_aload_nN E.1 E.2.1 hdg rfl h kk
  | some a => exact lv_aload_n E.1 E.2.1 hdg rfl h kk
theorem w_aload (E : x_E p s m args c cc nL own D dA) (hl : x_lv ls nL lt) {k : Nat} {r : Option Nat} (j : Nat) (hdg : decode cc pc = .ok (.aload k, 2)) (hj : lt[j]? = some (k, .inr (.inl r))) (kk : W p l e R s m args below meth c H locs cells slots Q (F0 m (pc + 2) ls (va_rf r :: rest))) : W p l e R s m args below meth c H locs cells slots Q (F0 m pc ls rest) := by
  have h := x_lv_at hl j hj
  cases r with
  | none => exact lv_aloadN E.1 E.2.1 hdg h kk
  | some a => exact lv_aload E.1 E.2.1 hdg h kk
theorem w_istore_n (E : x_E p s m args c cc nL own D dA) (hl : x_lv ls nL lt) {k : Fin 4} {x : Int32} (hdg : decode cc pc = .ok (.istore_n k, 1)) (hn : k.val < nL) (he : (k.val, .inl x) :: lt.filter (x_keep k.val) = lt') (kk : ∀ ls : Array Slot, x_lv ls nL lt' → W p l e R s m args below meth c H locs cells slots Q (F0 m (pc + 1) ls rest)) : W p l e R s m args below meth c H locs cells slots Q (F0 m pc ls (.int x :: rest)) :=
  lv_istore_n (lv' := x_lm lt') E.1 E.2.1 hdg rfl hl hn (by rw [x_lv_flt, ← he]; rfl) kk
theorem w_istore (E : x_E p s m args c cc nL own D dA) (hl : x_lv ls nL lt) {k : Nat} {x : Int32} (hdg : decode cc pc = .ok (.istore k, 2)) (hn : k < nL) (he : (k, .inl x) :: lt.filter (x_keep k) = lt') (kk : ∀ ls : Array Slot, x_lv ls nL lt' → W p l e R s m args below meth c H locs cells slots Q (F0 m (pc + 2) ls rest)) : W p l e R s m args below meth c H locs cells slots Q (F0 m pc ls (.int x :: rest)) :=
  lv_istore (lv' := x_lm lt') E.1 E.2.1 hdg hl hn (by rw [x_lv_flt, ← he]; rfl) kk
theorem w_lstore_n (E : x_E p s m args c cc nL own D dA) (hl : x_lv ls nL lt) {k : Fin 4} {x : Int64} (hdg : decode cc pc = .ok (.lstore_n k, 1)) (hn : k.val + 1 < nL) (he : (k.val, .inr (.inr x)) :: lt.filter (x_keep2 k.val) = lt') (kk : ∀ ls : Array Slot, x_lv ls nL lt' → W p l e R s m args below meth c H locs cells slots Q (F0 m (pc + 1) ls rest)) : W p l e R s m args below meth c H locs cells slots Q (F0 m pc ls (.long x :: rest)) :=
  lv_lstore_n (lv' := x_lm lt') E.1 E.2.1 hdg rfl hl hn (by rw [x_lv_flt2, ← he]; rfl) kk
theorem w_lstore (E : x_E p s m args c cc nL own D dA) (hl : x_lv ls nL lt) {k : Nat} {x : Int64} (hdg : decode cc pc = .ok (.lstore k, 2)) (hn : k + 1 < nL) (he : (k, .inr (.inr x)) :: lt.filter (x_keep2 k) = lt') (kk : ∀ ls : Array Slot, x_lv ls nL lt' → W p l e R s m args below meth c H locs cells slots Q (F0 m (pc + 2) ls rest)) : W p l e R s m args below meth c H locs cells slots Q (F0 m pc ls (.long x :: rest)) :=
  lv_lstore (lv' := x_lm lt') E.1 E.2.1 hdg hl hn (by rw [x_lv_flt2, ← he]; rfl) kk
theorem w_astore_n (E : x_E p s m args c cc nL own D dA) (hl : x_lv ls nL lt) {k : Fin 4} {r : Option Nat} (hdg : decode cc pc = .ok (.astore_n k, 1)) (hn : k.val < nL) (he : (k.val, .inr (.inl r)) :: lt.filter (x_keep k.val) = lt') (kk : ∀ ls : Array Slot, x_lv ls nL lt' → W p l e R s m args below meth c H locs cells slots Q (F0 m (pc + 1) ls rest)) : W p l e R s m args below meth c H locs cells slots Q (F0 m pc ls (va_rf r :: rest)) := by
  cases r with
  | none => exact lv_astore_nN (lv' := x_lm lt') E.1 E.2.1 hdg rfl hl hn (by rw [x_lv_flt, ← he]; rfl) kk
  | some a => exact lv_astore_n (lv' := x_lm lt') E.1 E.2.1 hdg rfl hl hn (by rw [x_lv_flt, ← he]; rfl) kk
theorem w_astore (E : x_E p s m args c cc nL own D dA) (hl : x_lv ls nL lt) {k : Nat} {r : Option Nat} (hdg : decode cc pc = .ok (.astore k, 2)) (hn : k < nL) (he : (k, .inr (.inl r)) :: lt.filter (x_keep k) = lt') (kk : ∀ ls : Array Slot, x_lv ls nL lt' → W p l e R s m args below meth c H locs cells slots Q (F0 m (pc + 2) ls rest)) : W p l e R s m args below meth c H locs cells slots Q (F0 m pc ls (va_rf r :: rest)) := by
  cases r with
  | none => exact lv_astoreN (lv' := x_lm lt') E.1 E.2.1 hdg hl hn (by rw [x_lv_flt, ← he]; rfl) kk
  | some a => exact lv_astore (lv' := x_lm lt') E.1 E.2.1 hdg hl hn (by rw [x_lv_flt, ← he]; rfl) kk
theorem w_iinc (E : x_E p s m args c cc nL own D dA) (hl : x_lv ls nL lt) {k : Nat} {n : Int} {x v : Int32} (j : Nat) (hdg : decode cc pc = .ok (.iinc k n, 3)) (hj : lt[j]? = some (k, .inl x)) (hv : x + Int32.ofInt n = v) (hn : k < nL) (he : (k, .inl v) :: lt.filter (x_keep k) = lt') (kk : ∀ ls : Array Slot, x_lv ls nL lt' → W p l e R s m args below meth c H locs cells slots Q (F0 m (pc + 3) ls rest)) : W p l e R s m args below meth c H locs cells slots Q (F0 m pc ls rest) :=
  lv_iinc (lv' := x_lm lt') (k := j) E.1 E.2.1 hdg hl (by rw [List.getElem?_map, hj]; rfl) hv hn (by rw [x_lv_flt, ← he]; rfl) kk
/-! null -/
theorem w_ifnull (E : x_E p s m args c cc nL own D dA) {r : Option Nat} {off : Int} {tgt : Nat} {A B : PM α} (hM : x_rn (if r = none then A else B) σ = some z) (hdg : decode cc pc = .ok (.ifnull off, 3)) (ht : (pc : Int) + off = (tgt : Int)) (k1 : r = none → x_rn A σ = some z → W p l e R s m args below meth c H locs cells slots Q (F0 m tgt ls rest)) (k2 : ∀ a, r = some a → x_rn B σ = some z → W p l e R s m args below meth c H locs cells slots Q (F0 m (pc + 3) ls rest)) : W p l e R s m args below meth c H locs cells slots Q (F0 m pc ls (va_rf r :: rest)) := by
  cases r with
  | none => exact lv_ifnullN E.1 E.2.1 hdg ht (k1 rfl (x_okT hM rfl))
  | some a => exact lv_ifnull E.1 E.2.1 hdg (k2 a rfl (x_okF hM (fun h => by cases h)))
theorem w_ifnonnull (E : x_E p s m args c cc nL own D dA) {r : Option Nat} {off : Int} {tgt : Nat} {A B : PM α} (hM : x_rn (if r = none then A else B) σ = some z) (hdg : decode cc pc = .ok (.ifnonnull off, 3)) (ht : (pc : Int) + off = (tgt : Int)) (k1 : r = none → x_rn A σ = some z → W p l e R s m args below meth c H locs cells slots Q (F0 m (pc + 3) ls rest)) (k2 : ∀ a, r = some a → x_rn B σ = some z → W p l e R s m args below meth c H locs cells slots Q (F0 m tgt ls rest)) : W p l e R s m args below meth c H locs cells slots Q (F0 m pc ls (va_rf r :: rest)) := by
  cases r with
  | none => exact lv_ifnonnullN E.1 E.2.1 hdg (k1 rfl (x_okT hM rfl))
  | some a => exact lv_ifnonnull E.1 E.2.1 hdg ht (k2 a rfl (x_okF hM (fun h => by cases h)))
theorem w_null (E : x_E p s m args c cc nL own D dA) (hdg : decode cc pc = .ok (.aconst_null, 1)) (kk : W p l e R s m args below meth c H locs cells slots Q (F0 m (pc + 1) ls (va_rf none :: rest))) : W p l e R s m args below meth c H locs cells slots Q (F0 m pc ls rest) := lv_null E.1 E.2.1 hdg kk
theorem w_irem (E : x_E p s m args c cc nL own D dA) {x y : Int32} (hdg : decode cc pc = .ok (.irem, 1)) (hne : ¬ y = 0) (kk : W p l e R s m args below meth c H locs cells slots Q (F0 m (pc + 1) ls (.int (x_rem x y) :: rest))) : W p l e R s m args below meth c H locs cells slots Q (F0 m pc ls (.int y :: .int x :: rest)) := lv_irem E.1 E.2.1 hdg hne kk
theorem w_lrem (E : x_E p s m args c cc nL own D dA) {x y : Int64} (hdg : decode cc pc = .ok (.lrem, 1)) (hne : ¬ y = 0) (kk : W p l e R s m args below meth c H locs cells slots Q (F0 m (pc + 1) ls (.long (x_lrem x y) :: rest))) : W p l e R s m args below meth c H locs cells slots Q (F0 m pc ls (.long y :: .long x :: rest)) := lv_lrem E.1 E.2.1 hdg hne kk
theorem w_ldc (E : x_E p s m args c cc nL own D dA) {index : Nat} {v : Int32} (hc : Cond.constant own index v ∈ x_all) (hdg : decode cc pc = .ok (.ldc index, 2)) (kk : W p l e R s m args below meth c H locs cells slots Q (F0 m (pc + 2) ls (.int v :: rest))) : W p l e R s m args below meth c H locs cells slots Q (F0 m pc ls rest) := lv_ldc E.1 E.2.1 E.2.2.2.1 (E.2.2.2.2.1 _ hc) hdg kk
theorem w_ldc2 (E : x_E p s m args c cc nL own D dA) {index : Nat} {v : Int64} (hc : Cond.constantLong own index v ∈ x_all) (hdg : decode cc pc = .ok (.ldc2_w index, 3)) (kk : W p l e R s m args below meth c H locs cells slots Q (F0 m (pc + 3) ls (.long v :: rest))) : W p l e R s m args below meth c H locs cells slots Q (F0 m pc ls rest) := lv_ldc2 E.1 E.2.1 E.2.2.2.1 (E.2.2.2.2.1 _ hc) hdg kk
theorem w_nm {x : Int32} {kf : Int32 → PM α} (hM : x_rn (x_bd (x_pr x) kf) σ = some z) (kk : ∀ y : Int32, x_rn (kf y) σ = some z → W p l e R s m args below meth c H locs cells slots Q (F0 m pc ls (.int y :: rest))) : W p l e R s m args below meth c H locs cells slots Q (F0 m pc ls (.int x :: rest)) := kk x (x_okN hM)
theorem w_nml {x : Int64} {kf : Int64 → PM α} (hM : x_rn (x_bd (x_pr x) kf) σ = some z) (kk : ∀ y : Int64, x_rn (kf y) σ = some z → W p l e R s m args below meth c H locs cells slots Q (F0 m pc ls (.long y :: rest))) : W p l e R s m args below meth c H locs cells slots Q (F0 m pc ls (.long x :: rest)) := kk x (x_okN hM)
theorem x_szL (hl : x_lv ls nL lt) : ls.size = nL := hl.1
theorem w_mmax (E : x_E p s m args c cc nL own D dA) (S : x_S base D dA R s σ0 σE σ H locs) (hl : x_lv ls nL lt) {index : Nat} {x y : Int32} (hw : Cond.methodLink own index Lib.Math.max.name ∈ x_all ∧ Cond.static Lib.Math.max.name ∈ x_all ∧ Cond.initialized "java/lang/Math" ∈ x_all ∧ Cond.code Lib.Math.max.name Lib.Math.max.code 2 (some .int) ∈ x_all) (hR : 1 ≤ R.frames ∧ 21 ≤ R.locals) (hr : rest.length ≤ 4) (hdg : decode cc pc = .ok (.invokestatic index, 3))
    (kk : W p l e R s m args below meth c H locs (x_N σ - x_N σ0) (x_U σ - x_U σ0) Q (F0 m (pc + 3) ls (.int (x_max x y) :: rest))) : W p l e R s m args below meth c H locs (x_N σ - x_N σ0) (x_U σ - x_U σ0) Q (F0 m pc ls (.int y :: .int x :: rest)) := by
  obtain ⟨hx, hb, hml, hown, hts, hT⟩ := E
  obtain ⟨S1, S2, S3, S4, S5, S6, S7⟩ := S
  have := x_roomL rest hr
  exact va_mmax hx hb (by rw [hml, x_szL hl]) hown (hts _ hw.1) (hts _ hw.2.1) (hts _ hw.2.2.1) (hts _ hw.2.2.2) hR.1 (by omega) (by omega) (by omega) hdg kk
theorem w_mmin (E : x_E p s m args c cc nL own D dA) (S : x_S base D dA R s σ0 σE σ H locs) (hl : x_lv ls nL lt) {index : Nat} {x y : Int32} (hw : Cond.methodLink own index Lib.Math.min.name ∈ x_all ∧ Cond.static Lib.Math.min.name ∈ x_all ∧ Cond.initialized "java/lang/Math" ∈ x_all ∧ Cond.code Lib.Math.min.name Lib.Math.min.code 2 (some .int) ∈ x_all) (hR : 1 ≤ R.frames ∧ 21 ≤ R.locals) (hr : rest.length ≤ 4) (hdg : decode cc pc = .ok (.invokestatic index, 3))
    (kk : W p l e R s m args below meth c H locs (x_N σ - x_N σ0) (x_U σ - x_U σ0) Q (F0 m (pc + 3) ls (.int (x_min x y) :: rest))) : W p l e R s m args below meth c H locs (x_N σ - x_N σ0) (x_U σ - x_U σ0) Q (F0 m pc ls (.int y :: .int x :: rest)) := by
  obtain ⟨hx, hb, hml, hown, hts, hT⟩ := E
  obtain ⟨S1, S2, S3, S4, S5, S6, S7⟩ := S
  have := x_roomL rest hr
  exact va_mmin hx hb (by rw [hml, x_szL hl]) hown (hts _ hw.1) (hts _ hw.2.1) (hts _ hw.2.2.1) (hts _ hw.2.2.2) hR.1 (by omega) (by omega) (by omega) hdg kk
theorem w_obj (E : x_E p s m args c cc nL own D dA) (hl : x_lv ls nL lt) {idx : Nat} {r : Nat} (hw : Cond.methodLink own idx Lib.objectInit ∈ x_all ∧ Cond.instanceMethod Lib.objectInit ∈ x_all ∧ Cond.code Lib.objectInit ⟨#[0xb1]⟩ 1 none ∈ x_all) (hR : 1 ≤ R.frames ∧ 20 ≤ R.locals) (hr : rest.length ≤ 4) (hdg : decode cc pc = .ok (.invokespecial idx, 3))
    (kk : W p l e R s m args below meth c H locs cells slots Q (F0 m (pc + 3) ls rest)) : W p l e R s m args below meth c H locs cells slots Q (F0 m pc ls (va_rf (some r) :: rest)) := by
  obtain ⟨hx, hb, hml, hown, hts, hT⟩ := E
  have := x_roomL rest hr
  exact W.objInit hx hb hown (hts _ hw.1) (hts _ hw.2.1) (hts _ hw.2.2) rfl (by rw [hml]; exact hl.1) rfl hdg hR.1 (by show 2 * 0 + _ + 12 ≤ _; omega) kk
/-! calls -/
theorem w_run {τ : PH} {rv : Option Value} {st0 : List Value} (S : x_S base D dA R s σ0 σE σ H locs) (h1 : x_N σ ≤ x_N τ ∧ x_U σ ≤ x_U τ) (h2 : x_N τ ≤ x_N σE ∧ x_U τ ≤ x_U σE) (hr : va_Run p l e R s m args below meth c H locs (x_N σ - x_N σ0) (x_U σ - x_U σ0) (x_N τ - x_N σ) (x_U τ - x_U σ) (F0 m pc ls st0) rest (x_Post base D dA τ rv) (fun q => base ≤ q))
    (kk : ∀ (H : Heap) (locs : List Loc), x_S base D dA R s σ0 σE τ H locs → W p l e R s m args below meth c H locs (x_N τ - x_N σ0) (x_U τ - x_U σ0) Q (F0 m (pc + 3) ls (rv.toList ++ rest))) : W p l e R s m args below meth c H locs (x_N σ - x_N σ0) (x_U σ - x_U σ0) Q (F0 m pc ls st0) := by
  obtain ⟨S1, hS, S3, S4, S5, S6, S7⟩ := S
  intro T hT X
  obtain ⟨v, st₀, t, T', L, h0, X', hL, e1, e2, ⟨hv, hrep, hTt, hz, hk⟩, st⟩ := hr T hT X
  cases hv
  rw [h0] at hz hk
  have hrep' : x_Rep base D dA τ T'.heap := by rw [e1]; exact hrep
  obtain ⟨t2, a1, b1⟩ := W.widen (k := x_N τ - x_N σ0) (n := x_U τ - x_U σ0) (by omega) (by omega) (kk T'.heap (locs ++ L) ⟨hrep', ⟨Nat.le_trans hS.1 (by rw [e1]; exact hz), fun q h1 h2 => by rw [e1, hk q (Nat.lt_of_lt_of_le h1 hS.1) h2]; exact hS.2.1 q h1 h2, fun q hq => by
      rcases List.mem_append.mp hq with h | h
      · exact hS.2.2 q h
      · exact hL q h⟩, S3, by omega, h2, S6, S7⟩) T' rfl X'
  exact ⟨t2, st t2 a1, b1⟩
theorem w_cV (E : x_E p s m args c cc nL own D dA) (S : x_S base D dA R s σ0 z.2 σ H locs) (hl : x_lv ls nL lt) {r : Option Nat} {ci index n maxL fr lo : Nat} {y : MethodName} {cy : ByteArray} {ret : Option FieldType} {As : List Value} {f : PM β} {rv : β → Option Value} {kf : β → PM α} (hM : x_rn (x_bd (x_cV r ci f) kf) σ = some z) (hmet : x_Met l base D dA y cy maxL ret fr lo (va_rf r :: As) f rv) (hy : x_mc y cy maxL ret n) (hw : ci < 10 ∧ y.cls = x_nm ci ∧ Cond.methodLink own index y ∈ x_all ∧ Cond.instanceMethod y ∈ x_all ∧ Cond.selects y.cls y y ∈ x_all) (hR : fr + 1 ≤ R.frames ∧ 8 + (maxL + 11) + lo ≤ R.locals) (hn : As.length = n) (hr : rest.length ≤ 4) (hdg : decode cc pc = .ok (.invokevirtual index, 3)) {st0 : List Value} (hst : st0 = As.reverse ++ va_rf r :: rest)
    (kk : ∀ (b : β) (σ : PH) (H : Heap) (locs : List Loc), x_S base D dA R s σ0 z.2 σ H locs → x_rn (kf b) σ = some z → W p l e R s m args below meth c H locs (x_N σ - x_N σ0) (x_U σ - x_U σ0) Q (F0 m (pc + 3) ls ((rv b).toList ++ rest))) : W p l e R s m args below meth c H locs (x_N σ - x_N σ0) (x_U σ - x_U σ0) Q (F0 m pc ls st0) := by
  subst hst
  obtain ⟨b, τ, h1, h2⟩ := x_okB hM
  obtain ⟨u, hu, h3⟩ := x_okA (show x_rn (x_bd (x_ask _) _) σ = _ from h1)
  obtain ⟨a, ha, -⟩ := x_map_some hu
  obtain ⟨rfl, hKa⟩ := x_dr_some ha
  have hmo := x_okM h3
  have hmo2 := x_okM h2
  dsimp only at hmo
  obtain ⟨hx, hb, hml, hown, hts, hT⟩ := E
  obtain ⟨C, T, N, hc, -⟩ := x_clA ci hw.1
  have hnm : x_nm ci = C := by simp only [x_nm, hc]
  have hcw : CallB R s args own index y cy maxL ret (Cond.code y cy maxL ret :: x_all) (x_rm fr lo σ τ) (x_N τ - x_N σ) (x_U τ - x_U σ) n :=
    callB_of n hts (x_goodIn (fun w h => by
      rcases List.mem_cons.mp h with rfl | h
      · exact hy.1
      · exact h)) rfl rfl rfl (hts _ hy.2.1) (hts _ hw.2.2.1) hy.2.2 hR
  obtain ⟨S1, S2, S3, S4, S5, S6, S7⟩ := id S
  refine w_run S hmo hmo2 (va_runV (C := y.cls) (As := As) (rest := rest) ⟨hx, hb, hml, hown, hts⟩ (hmet σ b τ h3) ⟨hcw, hts _ hw.2.2.2.1, hts _ hw.2.2.2.2⟩ ⟨x_blind, ?_, fun U hU hW => ⟨rfl, by rw [hU]; exact S1, x_T.moved hW.alike hT⟩⟩ rfl hn hl.1 rfl (lv_room (x_roomL rest hr)) hdg ⟨by omega, by omega⟩) (fun H locs S => kk b τ H locs S h2)
  rw [hw.2.1]
  obtain ⟨cell, g1, g2, g3⟩ := va_recv (q0 := 0) (a := a) hT.1 (x_P1 (S1.1 ci a hw.1 hKa)) hc rfl
  exact ⟨cell, g1, g2, by rw [hnm]; exact g3⟩
theorem w_cS (E : x_E p s m args c cc nL own D dA) (S : x_S base D dA R s σ0 z.2 σ H locs) (hl : x_lv ls nL lt) {index n maxL fr lo : Nat} {y : MethodName} {cy : ByteArray} {ret : Option FieldType} {As : List Value} {f : PM β} {rv : β → Option Value} {kf : β → PM α} (hM : x_rn (x_bd f kf) σ = some z) (hmet : x_Met l base D dA y cy maxL ret fr lo As f rv) (hy : x_mc y cy maxL ret n) (hw : Cond.methodLink own index y ∈ x_all ∧ Cond.static y ∈ x_all) (hR : fr + 1 ≤ R.frames ∧ 8 + (maxL + 11) + lo ≤ R.locals) (hn : As.length = n) (hr : rest.length ≤ 4) (hdg : decode cc pc = .ok (.invokestatic index, 3)) {st0 : List Value} (hst : st0 = As.reverse ++ rest)
    (kk : ∀ (b : β) (σ : PH) (H : Heap) (locs : List Loc), x_S base D dA R s σ0 z.2 σ H locs → x_rn (kf b) σ = some z → W p l e R s m args below meth c H locs (x_N σ - x_N σ0) (x_U σ - x_U σ0) Q (F0 m (pc + 3) ls ((rv b).toList ++ rest))) : W p l e R s m args below meth c H locs (x_N σ - x_N σ0) (x_U σ - x_U σ0) Q (F0 m pc ls st0) := by
  subst hst
  obtain ⟨b, τ, h3, h2⟩ := x_okB hM
  have hmo := x_okM h3
  have hmo2 := x_okM h2
  dsimp only at hmo
  obtain ⟨hx, hb, hml, hown, hts, hT⟩ := E
  have hcw : CallB R s args own index y cy maxL ret (Cond.code y cy maxL ret :: x_all) (x_rm fr lo σ τ) (x_N τ - x_N σ) (x_U τ - x_U σ) n :=
    callB_of n hts (x_goodIn (fun w h => by
      rcases List.mem_cons.mp h with rfl | h
      · exact hy.1
      · exact h)) rfl rfl rfl (hts _ hy.2.1) (hts _ hw.1) hy.2.2 hR
  obtain ⟨S1, S2, S3, S4, S5, S6, S7⟩ := id S
  exact w_run S hmo hmo2 (va_runS (As := As) (rest := rest) ⟨hx, hb, hml, hown, hts⟩ (hmet σ b τ h3) ⟨hcw, hts _ hw.2⟩ ⟨x_blind, fun U hU hW => ⟨rfl, by rw [hU]; exact S1, x_T.moved hW.alike hT⟩⟩ rfl hn hl.1 rfl (lv_room (x_roomL rest hr)) hdg ⟨by omega, by omega⟩) (fun H locs S => kk b τ H locs S h2)
theorem w_cI (E : x_E p s m args c cc nL own D dA) (S : x_S base D dA R s σ0 z.2 σ H locs) (hl : x_lv ls nL lt) {a index n maxL fr lo : Nat} {y : MethodName} {cy : ByteArray} {As : List Value} {f : PM Unit} {kf : Unit → PM α} (hM : x_rn (x_bd f kf) σ = some z) (hmet : x_Met l base D dA y cy maxL none fr lo (va_rf (some a) :: As) f (fun _ => none)) (hy : x_mc y cy maxL none n) (hw : Cond.methodLink own index y ∈ x_all ∧ Cond.instanceMethod y ∈ x_all ∧ y.name = "<init>") (hR : fr + 1 ≤ R.frames ∧ 8 + (maxL + 11) + lo ≤ R.locals) (hn : As.length = n) (hr : rest.length ≤ 4) (hdg : decode cc pc = .ok (.invokespecial index, 3)) {st0 : List Value} (hst : st0 = As.reverse ++ va_rf (some a) :: rest)
    (kk : ∀ (σ : PH) (H : Heap) (locs : List Loc), x_S base D dA R s σ0 z.2 σ H locs → x_rn (kf ()) σ = some z → W p l e R s m args below meth c H locs (x_N σ - x_N σ0) (x_U σ - x_U σ0) Q (F0 m (pc + 3) ls rest)) : W p l e R s m args below meth c H locs (x_N σ - x_N σ0) (x_U σ - x_U σ0) Q (F0 m pc ls st0) := by
  subst hst
  obtain ⟨b, τ, h3, h2⟩ := x_okB hM
  have hmo := x_okM h3
  have hmo2 := x_okM h2
  dsimp only at hmo
  obtain ⟨hx, hb, hml, hown, hts, hT⟩ := E
  have hcw : CallB R s args own index y cy maxL none (Cond.code y cy maxL none :: x_all) (x_rm fr lo σ τ) (x_N τ - x_N σ) (x_U τ - x_U σ) n :=
    callB_of n hts (x_goodIn (fun w h => by
      rcases List.mem_cons.mp h with rfl | h
      · exact hy.1
      · exact h)) rfl rfl rfl (hts _ hy.2.1) (hts _ hw.1) hy.2.2 hR
  obtain ⟨S1, S2, S3, S4, S5, S6, S7⟩ := id S
  exact w_run S hmo hmo2 (va_runI (As := As) (rest := rest) ⟨hx, hb, hml, hown, hts⟩ (hmet σ b τ h3) ⟨hcw, hw.2.2, hts _ hw.2.1⟩ ⟨x_blind, fun U hU hW => ⟨rfl, by rw [hU]; exact S1, x_T.moved hW.alike hT⟩⟩ rfl hn hl.1 rfl (lv_room (x_roomL rest hr)) hdg ⟨by omega, by omega⟩) (fun H locs S => kk τ H locs S h2)
/-! ends -/
def x_end (below : List Frame) (args : Array Value) (s : State) (base : Nat) (D : va_G) (dA : Nat → ClassId) (rv : α → Option Value) (σ0 : PH) (z : α × PH) : State → Prop := MQ below (fun _ st o t => x_Post base D dA z.2 (rv z.1) st o t) args s (x_N z.2 - x_N σ0) (x_U z.2 - x_U σ0) (fun q => base ≤ q)
theorem w_iret {z : Int32 × PH} {v : Int32} (E : x_E p s m args c cc nL own D dA) (S : x_S base D dA R s σ0 z.2 σ H locs) (hM : x_rn (x_pr v) σ = some z) (hr : meth.sig.returnType = some .int) (hlocks : meth.locks = false) (hdg : decode cc pc = .ok (.ireturn, 1)) : W p l e R s m args below meth c H locs (x_N σ - x_N σ0) (x_U σ - x_U σ0) (x_end below args s base D dA (fun x => some (.int x)) σ0 z) (F0 m pc ls [.int v]) := by
  obtain rfl := x_okR hM
  exact W.iret E.1 E.2.1 hr (fun t ht hW => ⟨rfl, by rw [ht]; exact S.1, x_T.moved hW.alike E.2.2.2.2.2, S.2.1.F ht⟩) S.2.1.2.2 hdg hlocks
theorem w_zret {z : Int32 × PH} {v : Int32} (E : x_E p s m args c cc nL own D dA) (S : x_S base D dA R s σ0 z.2 σ H locs) (hM : x_rn (if v = 0 ∨ v = 1 then x_pr v else x_fl) σ = some z) (hr : meth.sig.returnType = some .boolean) (hlocks : meth.locks = false) (hdg : decode cc pc = .ok (.ireturn, 1)) : W p l e R s m args below meth c H locs (x_N σ - x_N σ0) (x_U σ - x_U σ0) (x_end below args s base D dA (fun x => some (.int x)) σ0 z) (F0 m pc ls [.int v]) := by
  by_cases hv : v = 0 ∨ v = 1
  · obtain rfl := x_okR (x_okT hM hv)
    exact W.zret E.1 E.2.1 hr (x_narZ hv).1 (fun t ht hW => ⟨rfl, by rw [ht]; exact S.1, x_T.moved hW.alike E.2.2.2.2.2, S.2.1.F ht⟩) S.2.1.2.2 hdg hlocks
  · cases x_okF hM hv
theorem w_vret {z : Unit × PH} (E : x_E p s m args c cc nL own D dA) (S : x_S base D dA R s σ0 z.2 σ H locs) (hM : x_rn (x_pr ()) σ = some z) (hr : meth.sig.returnType = none) (hlocks : meth.locks = false) (hdg : decode cc pc = .ok (.return_, 1)) : W p l e R s m args below meth c H locs (x_N σ - x_N σ0) (x_U σ - x_U σ0) (x_end below args s base D dA (fun _ => none) σ0 z) (F0 m pc ls []) := by
  obtain rfl := x_okR hM
  exact W.vret E.1 E.2.1 hr (fun t ht hW => ⟨rfl, by rw [ht]; exact S.1, x_T.moved hW.alike E.2.2.2.2.2, S.2.1.F ht⟩) S.2.1.2.2 hdg hlocks
theorem w_aret {z : Option Nat × PH} {v : Option Nat} {C : String} (E : x_E p s m args c cc nL own D dA) (S : x_S base D dA R s σ0 z.2 σ H locs) (hM : x_rn (x_pr v) σ = some z) (hr : meth.sig.returnType = some (.object C)) (hlocks : meth.locks = false) (hdg : decode cc pc = .ok (.areturn, 1)) : W p l e R s m args below meth c H locs (x_N σ - x_N σ0) (x_U σ - x_U σ0) (x_end below args s base D dA (fun x => some (va_rf x)) σ0 z) (F0 m pc ls [va_rf v]) := by
  obtain rfl := x_okR hM
  exact W.aret E.1 E.2.1 hr (Or.inl ⟨C, rfl⟩) (va_rf_or v) (fun t ht hW => ⟨rfl, by rw [ht]; exact S.1, x_T.moved hW.alike E.2.2.2.2.2, S.2.1.F ht⟩) S.2.1.2.2 hdg hlocks
theorem w_cVi (E : x_E p s m args c cc nL own D dA) (S : x_S base D dA R s σ0 z.2 σ H locs) (hl : x_lv ls nL lt) {r : Option Nat} {ci index n maxL fr lo frR loR : Nat} {y : MethodName} {cy : ByteArray} {ret : Option FieldType} {As : List Value} {f : PM (Int32)} {kf : Int32 → PM α} (hM : x_rn (x_bd (x_cV r ci f) kf) σ = some z) (hmet : x_Met l base D dA y cy maxL ret fr lo (va_rf r :: As) f (fun x : Int32 => some (Value.int x))) (hy : x_mc y cy maxL ret n) (hw : ci < 10 ∧ y.cls = x_nm ci ∧ Cond.methodLink own index y ∈ x_all ∧ Cond.instanceMethod y ∈ x_all ∧ Cond.selects y.cls y y ∈ x_all) (hF : R.frames = frR) (hL : R.locals = loR) (hR : fr + 1 ≤ frR ∧ 8 + (maxL + 11) + lo ≤ loR) (hn : As.length = n) (hr : rest.length ≤ 4) (hdg : decode cc pc = .ok (.invokevirtual index, 3)) {st0 : List Value} (hst : st0 = As.reverse ++ va_rf r :: rest)
    (kk : ∀ (b : Int32) (σ : PH) (H : Heap) (locs : List Loc), x_S base D dA R s σ0 z.2 σ H locs → x_rn (kf b) σ = some z → W p l e R s m args below meth c H locs (x_N σ - x_N σ0) (x_U σ - x_U σ0) Q (F0 m (pc + 3) ls (.int b :: rest))) : W p l e R s m args below meth c H locs (x_N σ - x_N σ0) (x_U σ - x_U σ0) Q (F0 m pc ls st0) :=
  w_cV E S hl hM hmet hy hw (by rw [hF, hL]; exact hR) hn hr hdg hst (fun b σ H locs S hM => kk b σ H locs S hM)
theorem w_cSi (E : x_E p s m args c cc nL own D dA) (S : x_S base D dA R s σ0 z.2 σ H locs) (hl : x_lv ls nL lt) {index n maxL fr lo frR loR : Nat} {y : MethodName} {cy : ByteArray} {ret : Option FieldType} {As : List Value} {f : PM (Int32)} {kf : Int32 → PM α} (hM : x_rn (x_bd f kf) σ = some z) (hmet : x_Met l base D dA y cy maxL ret fr lo As f (fun x : Int32 => some (Value.int x))) (hy : x_mc y cy maxL ret n) (hw : Cond.methodLink own index y ∈ x_all ∧ Cond.static y ∈ x_all) (hF : R.frames = frR) (hL : R.locals = loR) (hR : fr + 1 ≤ frR ∧ 8 + (maxL + 11) + lo ≤ loR) (hn : As.length = n) (hr : rest.length ≤ 4) (hdg : decode cc pc = .ok (.invokestatic index, 3)) {st0 : List Value} (hst : st0 = As.reverse ++ rest)
    (kk : ∀ (b : Int32) (σ : PH) (H : Heap) (locs : List Loc), x_S base D dA R s σ0 z.2 σ H locs → x_rn (kf b) σ = some z → W p l e R s m args below meth c H locs (x_N σ - x_N σ0) (x_U σ - x_U σ0) Q (F0 m (pc + 3) ls (.int b :: rest))) : W p l e R s m args below meth c H locs (x_N σ - x_N σ0) (x_U σ - x_U σ0) Q (F0 m pc ls st0) :=
  w_cS E S hl hM hmet hy hw (by rw [hF, hL]; exact hR) hn hr hdg hst (fun b σ H locs S hM => kk b σ H locs S hM)
theorem w_cVq (E : x_E p s m args c cc nL own D dA) (S : x_S base D dA R s σ0 z.2 σ H locs) (hl : x_lv ls nL lt) {r : Option Nat} {ci index n maxL fr lo frR loR : Nat} {y : MethodName} {cy : ByteArray} {ret : Option FieldType} {As : List Value} {f : PM (Option Nat)} {kf : Option Nat → PM α} (hM : x_rn (x_bd (x_cV r ci f) kf) σ = some z) (hmet : x_Met l base D dA y cy maxL ret fr lo (va_rf r :: As) f (fun x : Option Nat => some (va_rf x))) (hy : x_mc y cy maxL ret n) (hw : ci < 10 ∧ y.cls = x_nm ci ∧ Cond.methodLink own index y ∈ x_all ∧ Cond.instanceMethod y ∈ x_all ∧ Cond.selects y.cls y y ∈ x_all) (hF : R.frames = frR) (hL : R.locals = loR) (hR : fr + 1 ≤ frR ∧ 8 + (maxL + 11) + lo ≤ loR) (hn : As.length = n) (hr : rest.length ≤ 4) (hdg : decode cc pc = .ok (.invokevirtual index, 3)) {st0 : List Value} (hst : st0 = As.reverse ++ va_rf r :: rest)
    (kk : ∀ (b : Option Nat) (σ : PH) (H : Heap) (locs : List Loc), x_S base D dA R s σ0 z.2 σ H locs → x_rn (kf b) σ = some z → W p l e R s m args below meth c H locs (x_N σ - x_N σ0) (x_U σ - x_U σ0) Q (F0 m (pc + 3) ls (va_rf b :: rest))) : W p l e R s m args below meth c H locs (x_N σ - x_N σ0) (x_U σ - x_U σ0) Q (F0 m pc ls st0) :=
  w_cV E S hl hM hmet hy hw (by rw [hF, hL]; exact hR) hn hr hdg hst (fun b σ H locs S hM => kk b σ H locs S hM)
theorem w_cSq (E : x_E p s m args c cc nL own D dA) (S : x_S base D dA R s σ0 z.2 σ H locs) (hl : x_lv ls nL lt) {index n maxL fr lo frR loR : Nat} {y : MethodName} {cy : ByteArray} {ret : Option FieldType} {As : List Value} {f : PM (Option Nat)} {kf : Option Nat → PM α} (hM : x_rn (x_bd f kf) σ = some z) (hmet : x_Met l base D dA y cy maxL ret fr lo As f (fun x : Option Nat => some (va_rf x))) (hy : x_mc y cy maxL ret n) (hw : Cond.methodLink own index y ∈ x_all ∧ Cond.static y ∈ x_all) (hF : R.frames = frR) (hL : R.locals = loR) (hR : fr + 1 ≤ frR ∧ 8 + (maxL + 11) + lo ≤ loR) (hn : As.length = n) (hr : rest.length ≤ 4) (hdg : decode cc pc = .ok (.invokestatic index, 3)) {st0 : List Value} (hst : st0 = As.reverse ++ rest)
    (kk : ∀ (b : Option Nat) (σ : PH) (H : Heap) (locs : List Loc), x_S base D dA R s σ0 z.2 σ H locs → x_rn (kf b) σ = some z → W p l e R s m args below meth c H locs (x_N σ - x_N σ0) (x_U σ - x_U σ0) Q (F0 m (pc + 3) ls (va_rf b :: rest))) : W p l e R s m args below meth c H locs (x_N σ - x_N σ0) (x_U σ - x_U σ0) Q (F0 m pc ls st0) :=
  w_cS E S hl hM hmet hy hw (by rw [hF, hL]; exact hR) hn hr hdg hst (fun b σ H locs S hM => kk b σ H locs S hM)
theorem w_cVv (E : x_E p s m args c cc nL own D dA) (S : x_S base D dA R s σ0 z.2 σ H locs) (hl : x_lv ls nL lt) {r : Option Nat} {ci index n maxL fr lo frR loR : Nat} {y : MethodName} {cy : ByteArray} {ret : Option FieldType} {As : List Value} {f : PM (Unit)} {kf : Unit → PM α} (hM : x_rn (x_bd (x_cV r ci f) kf) σ = some z) (hmet : x_Met l base D dA y cy maxL ret fr lo (va_rf r :: As) f (fun _ : Unit => none)) (hy : x_mc y cy maxL ret n) (hw : ci < 10 ∧ y.cls = x_nm ci ∧ Cond.methodLink own index y ∈ x_all ∧ Cond.instanceMethod y ∈ x_all ∧ Cond.selects y.cls y y ∈ x_all) (hF : R.frames = frR) (hL : R.locals = loR) (hR : fr + 1 ≤ frR ∧ 8 + (maxL + 11) + lo ≤ loR) (hn : As.length = n) (hr : rest.length ≤ 4) (hdg : decode cc pc = .ok (.invokevirtual index, 3)) {st0 : List Value} (hst : st0 = As.reverse ++ va_rf r :: rest)
    (kk : ∀ (σ : PH) (H : Heap) (locs : List Loc), x_S base D dA R s σ0 z.2 σ H locs → x_rn (kf ()) σ = some z → W p l e R s m args below meth c H locs (x_N σ - x_N σ0) (x_U σ - x_U σ0) Q (F0 m (pc + 3) ls (rest))) : W p l e R s m args below meth c H locs (x_N σ - x_N σ0) (x_U σ - x_U σ0) Q (F0 m pc ls st0) :=
  w_cV E S hl hM hmet hy hw (by rw [hF, hL]; exact hR) hn hr hdg hst (fun _ σ H locs S hM => kk σ H locs S hM)
theorem w_cSv (E : x_E p s m args c cc nL own D dA) (S : x_S base D dA R s σ0 z.2 σ H locs) (hl : x_lv ls nL lt) {index n maxL fr lo frR loR : Nat} {y : MethodName} {cy : ByteArray} {ret : Option FieldType} {As : List Value} {f : PM (Unit)} {kf : Unit → PM α} (hM : x_rn (x_bd f kf) σ = some z) (hmet : x_Met l base D dA y cy maxL ret fr lo As f (fun _ : Unit => none)) (hy : x_mc y cy maxL ret n) (hw : Cond.methodLink own index y ∈ x_all ∧ Cond.static y ∈ x_all) (hF : R.frames = frR) (hL : R.locals = loR) (hR : fr + 1 ≤ frR ∧ 8 + (maxL + 11) + lo ≤ loR) (hn : As.length = n) (hr : rest.length ≤ 4) (hdg : decode cc pc = .ok (.invokestatic index, 3)) {st0 : List Value} (hst : st0 = As.reverse ++ rest)
    (kk : ∀ (σ : PH) (H : Heap) (locs : List Loc), x_S base D dA R s σ0 z.2 σ H locs → x_rn (kf ()) σ = some z → W p l e R s m args below meth c H locs (x_N σ - x_N σ0) (x_U σ - x_U σ0) Q (F0 m (pc + 3) ls (rest))) : W p l e R s m args below meth c H locs (x_N σ - x_N σ0) (x_U σ - x_U σ0) Q (F0 m pc ls st0) :=
  w_cS E S hl hM hmet hy hw (by rw [hF, hL]; exact hR) hn hr hdg hst (fun _ σ H locs S hM => kk σ H locs S hM)
theorem w_zretc {z : Int32 × PH} {v : Int32} (E : x_E p s m args c cc nL own D dA) (S : x_S base D dA R s σ0 z.2 σ H locs) (hM : x_rn (x_pr v) σ = some z) (hv : v = 0 ∨ v = 1) (hr : meth.sig.returnType = some .boolean) (hlocks : meth.locks = false) (hdg : decode cc pc = .ok (.ireturn, 1)) : W p l e R s m args below meth c H locs (x_N σ - x_N σ0) (x_U σ - x_U σ0) (x_end below args s base D dA (fun x => some (.int x)) σ0 z) (F0 m pc ls [.int v]) := by
  obtain rfl := x_okR hM
  exact W.zret E.1 E.2.1 hr (x_narZ hv).1 (fun t ht hW => ⟨rfl, by rw [ht]; exact S.1, x_T.moved hW.alike E.2.2.2.2.2, S.2.1.F ht⟩) S.2.1.2.2 hdg hlocks
theorem w_iincN (E : x_E p s m args c cc nL own D dA) (hl : x_lv ls nL lt) {k : Nat} {n : Int} {x cn : Int32} {ltf : Int32 → List (Nat × x_tv)} {kf : Int32 → PM α} (j : Nat) (hM : x_rn (x_bd (x_pr (x + cn)) kf) σ = some z) (hdg : decode cc pc = .ok (.iinc k n, 3)) (hj : lt[j]? = some (k, .inl x)) (hv : Int32.ofInt n = cn) (hn : k < nL) (he : ∀ v : Int32, (k, .inl v) :: lt.filter (x_keep k) = ltf v) (kk : ∀ (v : Int32) (ls : Array Slot), x_rn (kf v) σ = some z → x_lv ls nL (ltf v) → W p l e R s m args below meth c H locs cells slots Q (F0 m (pc + 3) ls rest)) : W p l e R s m args below meth c H locs cells slots Q (F0 m pc ls rest) :=
  w_iinc E hl j hdg hj (by rw [hv]) hn (he (x + cn)) (fun ls hl => kk (x + cn) ls (x_okN hM) hl)
end XC
def x_num : Nat → List Value → List (Nat × Value)
  | _, [] => []
  | i, v :: vs => (i, v) :: x_num (i + 1) vs
theorem x_num_args : ∀ (vs : List Value) (i : Nat), (∀ v ∈ vs, v.category = 1) → lv_args i vs = x_num i vs ∧ (lg_sl vs).length = vs.length
  | [], _, _ => ⟨rfl, rfl⟩
  | v :: vs, i, h => by
    have hv : v.category = 1 := h v List.mem_cons_self
    have hne : ¬ v.category = 2 := by omega
    obtain ⟨h1, h2⟩ := x_num_args vs (i + 1) (fun w hw => h w (List.mem_cons_of_mem _ hw))
    refine ⟨?_, ?_⟩
    · simp only [lv_args, x_num, if_neg hne, h1]
    · simp only [lg_sl, List.flatMap_cons, if_neg hne, List.length_append, List.length_cons, List.length_nil]
      have : (List.flatMap (fun v => if v.category = 2 then [Slot.val v, Slot.second] else [Slot.val v]) vs).length = vs.length := h2
      omega
theorem x_num_snd : ∀ (vs : List Value) (i : Nat), (x_num i vs).map Prod.snd = vs
  | [], _ => rfl
  | v :: vs, i => by simp [x_num, x_num_snd vs (i + 1)]
theorem x_cat1 {lt : List (Nat × x_tv)} {av : List Value} (hlt : x_num 0 av = x_lm lt) (hng : lt.all (fun q => !(x_lng q.2)) = true) : ∀ v ∈ av, v.category = 1 := by
  intro v hv
  rw [← x_num_snd av 0, hlt] at hv
  obtain ⟨q, hq, rfl⟩ := List.mem_map.mp hv
  obtain ⟨q', hq', rfl⟩ := List.mem_map.mp hq
  have h := List.all_eq_true.mp hng q' hq'
  have h2 := x_lng_cat q'.2
  have h3 := lv_cat (x_val q'.2)
  rcases h3 with h3 | h3
  · exact h3
  · rw [h3] at h2
    rw [← h2] at h
    simp at h
/-- a contract out of a walk of its body -/
theorem x_Met.of {α : Type} {l : Launch} {base : Nat} {D : va_G} {dA : Nat → ClassId} {y : MethodName} {cc : ByteArray} {maxL : Nat} {ret : Option FieldType} {fr lo : Nat} {av : List Value} {f : PM α} {rv : α → Option Value} (lt : List (Nat × x_tv)) (hy : plainName y.cls = true) (hlen : av.length ≤ maxL) (hlt : x_num 0 av = x_lm lt) (hng : lt.all (fun q => !(x_lng q.2)) = true)
    (body : ∀ (p : Program) (e : Env) (R : Room) (s : State) (m : MethodId) (args : Array Value) (below : List Frame) (meth : Method) (c : Code) (σ : PH) (a : α) (τ : PH) (ls : Array Slot), R.frames = fr → R.locals = lo → x_E p s m args c cc maxL y.cls D dA → meth.sig.returnType = ret → meth.locks = false → meth.name = y.name → x_S base D dA R s σ τ σ s.heap [] → x_rn f σ = some (a, τ) → x_lv ls maxL lt → W p l e R s m args below meth c s.heap [] (x_N σ - x_N σ) (x_U σ - x_U σ) (x_end below args s base D dA rv σ (a, τ)) (F0 m 0 ls [])) : x_Met l base D dA y cc maxL ret fr lo av f rv := by
  intro σ a τ hM
  refine Met.ofW (cc := cc) (maxL := maxL) (ret := ret) hy rfl ?_
  intro p e s m args below meth c s₁ B hml hv
  obtain ⟨rfl, hRep, hT⟩ := hv
  have hts := atoms_spec (ws := Cond.code y cc maxL ret :: x_all) B.pre
  have hna := x_num_args av 0 (x_cat1 hlt hng)
  have hl := lv_entry av (n := maxL) (by rw [hna.2]; exact hlen)
  rw [hna.1, hlt] at hl
  have hmo := x_okM hM
  have hsz := hRep.2.2.2.2.1
  have hbs := hRep.2.2.2.2.2
  have K := body p e (x_rm fr lo σ τ) s m av.toArray below meth c σ a τ _ rfl rfl ⟨B.exec, B.bytes, hml, findClass_of_methodNamed B.named, fun w h => hts w (List.mem_cons_of_mem _ h), hT⟩ B.returns B.notSynchronized (name_of_methodNamed B.named B.method).1 ⟨hRep, va_S.rf, by omega, ⟨Nat.le_refl _, Nat.le_refl _⟩, hmo, Nat.le_refl _, Nat.le_refl _⟩ hM hl
  rw [lg_entry_eq]
  rw [Nat.sub_self, Nat.sub_self] at K
  exact K
end
section
def mX0_init (F : Nat) (r0 : Option Nat) : PM (Unit) := x_bd (x_mA 0 (8 : Int32)) fun v7 => x_bd (x_wR r0 0 0 v7) fun _ => x_bd (x_mA 0 (8 : Int32)) fun v15 => x_bd (x_wR r0 0 1 v15) fun _ => (x_pr ())
def mX0_highestBound (F : Nat) (r0 : Option Nat) : PM (Int32) := x_bd (x_rI r0 0 2) fun v1 => (if v1 ≤ 0 then (x_pr (0 : Int32)) else x_bd (x_rI r0 0 2) fun v8 => (if (8 : Int32) < v8 then (x_pr (0 : Int32)) else x_bd (x_rR r0 0 0) fun v17 => x_bd (x_rI r0 0 2) fun v21 => x_bd (x_aI 0 v17 (v21 - (1 : Int32))) fun v26 => (x_pr v26)))
def mX0_add (F : Nat) (r0 : Option Nat) (x1 : Int32) (x2 : Int32) : PM (Int32) := x_bd (x_rI r0 0 2) fun v1 => (if (8 : Int32) ≤ v1 then (x_pr (0 : Int32)) else x_bd (x_cV r0 0 (mX0_highestBound F r0)) fun v11 => (if v11 < x1 then x_bd (x_rR r0 0 0) fun v20 => x_bd (x_rI r0 0 2) fun v24 => x_bd (x_sI v20 v24 x1) fun _ => x_bd (x_rR r0 0 1) fun v30 => x_bd (x_rI r0 0 2) fun v34 => x_bd (x_sI v30 v34 x2) fun _ => x_bd (x_rI r0 0 2) fun v41 => x_bd (x_wI r0 0 2 (v41 + (1 : Int32))) fun _ => (x_pr (1 : Int32)) else (x_pr (0 : Int32))))
def mX0_feeOf_2 (F : Nat) : Nat → Option Nat → Int32 → Int32 → PM (Int32)
  | 0, _, _, _ => x_fl
  | n + 1, y0, y1, y2 => x_bd (x_rI y0 0 2) fun v4 => (if v4 ≤ y2 then (x_pr (x_max (1 : Int32) (y1 / (100 : Int32)))) else (if (8 : Int32) ≤ y2 then (x_pr (x_max (1 : Int32) (y1 / (100 : Int32)))) else x_bd (x_rR y0 0 0) fun v17 => x_bd (x_aI 0 v17 y2) fun v21 => (if v21 < y1 then x_bd (x_pr (y2 + (1 : Int32))) fun (v33 : Int32) => (mX0_feeOf_2 F n y0 y1 v33) else x_bd (x_rR y0 0 1) fun v27 => x_bd (x_aI 0 v27 y2) fun v31 => (x_pr v31))))
def mX0_feeOf (F : Nat) (r0 : Option Nat) (x1 : Int32) : PM (Int32) := (mX0_feeOf_2 F F r0 x1 (0 : Int32))
def mX1_init (F : Nat) (r0 : Option Nat) (x1 : Int32) (x2 : Int32) (x3 : Int32) (x4 : Int32) : PM (Unit) := x_bd (x_wI r0 1 0 x1) fun _ => x_bd (x_wI r0 1 3 x2) fun _ => x_bd (x_wI r0 1 1 x3) fun _ => x_bd (x_wI r0 1 2 x4) fun _ => (x_pr ())
def mX1_isOpen (F : Nat) (r0 : Option Nat) (x1 : Int32) : PM (Int32) := x_bd (x_pr (x_rem x1 (1440 : Int32))) fun (v5 : Int32) => x_bd (x_rI r0 1 1) fun v8 => (if v5 < v8 then (x_pr (0 : Int32)) else x_bd (x_rI r0 1 2) fun v16 => (if v16 ≤ v5 then (x_pr (0 : Int32)) else (x_pr (1 : Int32))))
def mX2_init_49 (F : Nat) (y0 : Option Nat) (y4 : Option Nat) (t0 : Option Nat) (t1 : Option Nat) : PM (Unit) := x_bd (x_wR t1 2 3 t0) fun _ => x_bd (x_wR y0 2 4 y4) fun _ => x_bd (x_rR y0 2 2) fun v60 => x_bd (x_wR y0 2 5 v60) fun _ => x_bd (x_wI y0 2 7 (-1 : Int32)) fun _ => x_bd (x_wI y0 2 8 (-1 : Int32)) fun _ => (x_pr ())
def mX2_init_30 (F : Nat) (y0 : Option Nat) (y2 : Option Nat) (y3 : Int32) (y4 : Option Nat) (t0 : Option Nat) (t1 : Option Nat) : PM (Unit) := x_bd (x_wR t1 2 2 t0) fun _ => (if y3 = 0 then x_bd (x_rR y2 4 2) fun v46 => (mX2_init_49 F y0 y4 v46 y0) else x_bd (x_rR y2 4 1) fun v39 => (mX2_init_49 F y0 y4 v39 y0))
def mX2_init (F : Nat) (r0 : Option Nat) (x1 : Int32) (r2 : Option Nat) (x3 : Int32) (r4 : Option Nat) : PM (Unit) := x_bd (x_wI r0 2 0 x1) fun _ => x_bd (x_wR r0 2 1 r2) fun _ => (if x3 = 0 then x_bd (x_rR r2 4 1) fun v27 => (mX2_init_30 F r0 r2 x3 r4 v27 r0) else x_bd (x_rR r2 4 2) fun v20 => (mX2_init_30 F r0 r2 x3 r4 v20 r0))
def mX2_isRead (F : Nat) (r0 : Option Nat) : PM (Int32) := x_bd (x_rI r0 2 8) fun v1 => (if v1 = (-1 : Int32) then (x_pr (0 : Int32)) else (x_pr (1 : Int32)))
def mX2_enterWire (F : Nat) (r0 : Option Nat) (r1 : Option Nat) (x2 : Int32) : PM (Unit) := x_bd (x_wR r0 2 5 (none : Option Nat)) fun _ => x_bd (x_wR r0 2 6 r1) fun _ => x_bd (x_wI r0 2 7 x2) fun _ => (x_pr ())
def mX2_leaveWire (F : Nat) (r0 : Option Nat) : PM (Unit) := x_bd (x_rR r0 2 6) fun v2 => x_bd (x_wR r0 2 5 v2) fun _ => x_bd (x_wR r0 2 6 (none : Option Nat)) fun _ => x_bd (x_wI r0 2 7 (-1 : Int32)) fun _ => (x_pr ())
def mX3_init_50 (F : Nat) : Nat → Option Nat → Int32 → PM (Unit)
  | 0, _, _ => x_fl
  | n + 1, y0, y1 => x_bd (x_rR y0 3 4) fun v52 => x_bd (x_aL 0 v52) fun v55 => (if v55 ≤ y1 then (x_pr ()) else (if (y1 / (10 : Int32)) = (x_rem y1 (10 : Int32)) then x_bd (x_rR y0 3 4) fun v77 => (if (1 : Int32) = 0 then x_bd (x_sI v77 y1 (1000000 : Int32)) fun _ => x_bd (x_pr (y1 + (1 : Int32))) fun (v92 : Int32) => (mX3_init_50 F n y0 v92) else x_bd (x_sI v77 y1 (0 : Int32)) fun _ => x_bd (x_pr (y1 + (1 : Int32))) fun (v92 : Int32) => (mX3_init_50 F n y0 v92)) else x_bd (x_rR y0 3 4) fun v77 => (if (0 : Int32) = 0 then x_bd (x_sI v77 y1 (1000000 : Int32)) fun _ => x_bd (x_pr (y1 + (1 : Int32))) fun (v92 : Int32) => (mX3_init_50 F n y0 v92) else x_bd (x_sI v77 y1 (0 : Int32)) fun _ => x_bd (x_pr (y1 + (1 : Int32))) fun (v92 : Int32) => (mX3_init_50 F n y0 v92))))
def mX3_init (F : Nat) (r0 : Option Nat) : PM (Unit) := x_bd (x_mA 2 (10 : Int32)) fun v7 => x_bd (x_wR r0 3 2 v7) fun _ => x_bd (x_mA 5 (15 : Int32)) fun v16 => x_bd (x_wR r0 3 3 v16) fun _ => x_bd (x_mA 0 (100 : Int32)) fun v25 => x_bd (x_wR r0 3 4 v25) fun _ => x_bd (x_mA 5 (100 : Int32)) fun v33 => x_bd (x_wR r0 3 5 v33) fun _ => x_bd (x_mA 5 (100 : Int32)) fun v42 => x_bd (x_wR r0 3 6 v42) fun _ => (mX3_init_50 F F r0 (0 : Int32))
def mX3_findCounter (F : Nat) (r0 : Option Nat) (x1 : Int32) : PM (Option Nat) := (if x1 < 0 then (x_pr (none : Option Nat)) else x_bd (x_rI r0 3 0) fun v6 => (if v6 ≤ x1 then (x_pr (none : Option Nat)) else x_bd (x_rR r0 3 2) fun v14 => x_bd (x_aL 2 v14) fun v17 => (if v17 ≤ x1 then (x_pr (none : Option Nat)) else x_bd (x_rR r0 3 2) fun v22 => x_bd (x_aQ 2 v22 x1) fun v26 => (x_pr v26))))
def mX3_findWire (F : Nat) (r0 : Option Nat) (x1 : Int32) : PM (Option Nat) := (if x1 < 0 then (x_pr (none : Option Nat)) else x_bd (x_rI r0 3 1) fun v6 => (if v6 ≤ x1 then (x_pr (none : Option Nat)) else x_bd (x_rR r0 3 3) fun v14 => x_bd (x_aL 5 v14) fun v17 => (if v17 ≤ x1 then (x_pr (none : Option Nat)) else x_bd (x_rR r0 3 3) fun v22 => x_bd (x_aQ 5 v22 x1) fun v26 => (x_pr v26))))
def mX3_addCounter (F : Nat) (r0 : Option Nat) (x1 : Int32) (x2 : Int32) (x3 : Int32) : PM (Int32) := x_bd (x_rI r0 3 0) fun v1 => x_bd (x_rR r0 3 2) fun v9 => x_bd (x_aL 2 v9) fun v12 => (if v1 < v12 then x_bd (x_rR r0 3 2) fun v19 => x_bd (x_mO 1) fun v24 => x_bd (mX1_init F v24 v1 x1 x2 x3) fun _ => x_bd (x_sQ 2 1 v19 v1 v24) fun _ => x_bd (x_rI r0 3 0) fun v39 => x_bd (x_wI r0 3 0 (v39 + (1 : Int32))) fun _ => (x_pr v1) else (x_pr (-1 : Int32)))
def mX5_init (F : Nat) (r0 : Option Nat) (r1 : Option Nat) (r2 : Option Nat) : PM (Unit) := x_bd (x_wR r0 5 0 r1) fun _ => x_bd (x_wR r0 5 1 r2) fun _ => (x_pr ())
def mX7_init (F : Nat) (r0 : Option Nat) (r1 : Option Nat) (r2 : Option Nat) (x3 : Int32) : PM (Unit) := x_bd (x_mO 5) fun v5 => x_bd (mX5_init F v5 r1 r2) fun _ => x_bd (x_wR r0 7 0 v5) fun _ => x_bd (x_mO 5) fun v18 => x_bd (mX5_init F v18 r2 r1) fun _ => x_bd (x_wR r0 7 1 v18) fun _ => x_bd (x_wI r0 7 2 x3) fun _ => (x_pr ())
def mX3_cell (F : Nat) (x0 : Int32) (x1 : Int32) : PM (Int32) := (x_pr ((x0 * (10 : Int32)) + x1))
def mX3_isCell (F : Nat) (x0 : Int32) : PM (Int32) := (if x0 < 0 then (x_pr (0 : Int32)) else (if (100 : Int32) ≤ x0 then (x_pr (0 : Int32)) else (x_pr (1 : Int32))))
def mX3_noteStraight (F : Nat) (r0 : Option Nat) (x1 : Int32) (r2 : Option Nat) : PM (Unit) := x_bd (mX3_isCell F x1) fun v1 => (if v1 = 0 then (x_pr ()) else x_bd (x_rR r0 3 5) fun v9 => x_bd (x_aQ 5 v9 x1) fun v13 => (if v13 = none then x_bd (x_rR r0 3 5) fun v31 => x_bd (x_sQ 5 7 v31 x1 r2) fun _ => (x_pr ()) else x_bd (x_rI r2 7 2) fun v20 => x_bd (x_rI v13 7 2) fun v24 => (if v24 ≤ v20 then (x_pr ()) else x_bd (x_rR r0 3 5) fun v31 => x_bd (x_sQ 5 7 v31 x1 r2) fun _ => (x_pr ()))))
def mX3_leastOf (F : Nat) (r0 : Option Nat) (x1 : Int32) (x2 : Int32) : PM (Int32) := x_bd (mX3_cell F x1 x2) fun v2 => x_bd (mX3_isCell F v2) fun v7 => (if v7 = 0 then (x_pr (1000000 : Int32)) else x_bd (x_rR r0 3 4) fun v14 => x_bd (x_aI 0 v14 v2) fun v18 => (x_pr v18))
def mX3_shortenBy_3 (F : Nat) : Nat → Option Nat → Int32 → Int32 → Int32 → Int32 → PM (Unit)
  | 0, _, _, _, _, _ => x_fl
  | n + 1, y0, y1, y2, y3, y4 => x_bd (x_rR y0 3 4) fun v6 => x_bd (x_aL 0 v6) fun v9 => (if v9 ≤ y4 then (x_pr ()) else x_bd (x_pr (y4 / (10 : Int32))) fun (v18 : Int32) => x_bd (x_pr (x_rem y4 (10 : Int32))) fun (v25 : Int32) => x_bd (x_cV y0 3 (mX3_leastOf F y0 v18 y1)) fun v31 => x_bd (x_cV y0 3 (mX3_leastOf F y0 y2 v25)) fun v40 => x_bd (x_pr ((v31 + y3) + v40)) fun (v44 : Int32) => x_bd (x_cV y0 3 (mX3_leastOf F y0 v18 y2)) fun v50 => x_bd (x_cV y0 3 (mX3_leastOf F y0 y1 v25)) fun v59 => x_bd (x_pr ((v50 + y3) + v59)) fun (v63 : Int32) => x_bd (x_rR y0 3 4) fun v66 => x_bd (x_rR y0 3 4) fun v72 => x_bd (x_aI 0 v72 y4) fun v77 => x_bd (x_sI v66 y4 (x_min v77 (x_min v44 v63))) fun _ => x_bd (x_pr (y4 + (1 : Int32))) fun (v89 : Int32) => (mX3_shortenBy_3 F n y0 y1 y2 y3 v89))
def mX3_shortenBy (F : Nat) (r0 : Option Nat) (x1 : Int32) (x2 : Int32) (x3 : Int32) : PM (Unit) := (mX3_shortenBy_3 F F r0 x1 x2 x3 (0 : Int32))
def mX3_findFirstWire_10 (F : Nat) : Nat → Option Nat → Int32 → Int32 → Int32 → Int32 → PM (Option Nat)
  | 0, _, _, _, _, _ => x_fl
  | n + 1, y0, y1, y2, y3, y4 => x_bd (x_rI y0 3 0) fun v13 => (if v13 ≤ y4 then (x_pr (none : Option Nat)) else x_bd (mX3_cell F y1 y4) fun v22 => x_bd (mX3_isCell F v22) fun v29 => (if v29 = 0 then (if (none : Option Nat) = none then x_bd (x_pr (y4 + (1 : Int32))) fun (v73 : Int32) => (mX3_findFirstWire_10 F n y0 y1 y2 y3 v73) else x_bd (x_rI (none : Option Nat) 7 2) fun v55 => x_bd (x_cV y0 3 (mX3_leastOf F y0 y4 y2)) fun v62 => (if (v55 + v62) = y3 then (x_pr (none : Option Nat)) else x_bd (x_pr (y4 + (1 : Int32))) fun (v73 : Int32) => (mX3_findFirstWire_10 F n y0 y1 y2 y3 v73))) else x_bd (x_rR y0 3 5) fun v36 => x_bd (x_aQ 5 v36 v22) fun v41 => (if v41 = none then x_bd (x_pr (y4 + (1 : Int32))) fun (v73 : Int32) => (mX3_findFirstWire_10 F n y0 y1 y2 y3 v73) else x_bd (x_rI v41 7 2) fun v55 => x_bd (x_cV y0 3 (mX3_leastOf F y0 y4 y2)) fun v62 => (if (v55 + v62) = y3 then (x_pr v41) else x_bd (x_pr (y4 + (1 : Int32))) fun (v73 : Int32) => (mX3_findFirstWire_10 F n y0 y1 y2 y3 v73)))))
def mX3_findFirstWire (F : Nat) (r0 : Option Nat) (x1 : Int32) (x2 : Int32) : PM (Option Nat) := x_bd (x_cV r0 3 (mX3_leastOf F r0 x1 x2)) fun v3 => (mX3_findFirstWire_10 F F r0 x1 x2 v3 (0 : Int32))
def mX3_layWays_2 (F : Nat) : Nat → Option Nat → Int32 → PM (Unit)
  | 0, _, _ => x_fl
  | n + 1, y0, y1 => x_bd (x_rR y0 3 6) fun v4 => x_bd (x_aL 5 v4) fun v7 => (if v7 ≤ y1 then (x_pr ()) else x_bd (x_rR y0 3 6) fun v12 => x_bd (x_cV y0 3 (mX3_findFirstWire F y0 (y1 / (10 : Int32)) (x_rem y1 (10 : Int32)))) fun v25 => x_bd (x_sQ 5 7 v12 y1 v25) fun _ => x_bd (x_pr (y1 + (1 : Int32))) fun (v29 : Int32) => (mX3_layWays_2 F n y0 v29))
def mX3_layWays (F : Nat) (r0 : Option Nat) : PM (Unit) := (mX3_layWays_2 F F r0 (0 : Int32))
def mX3_addWire (F : Nat) (r0 : Option Nat) (r1 : Option Nat) (r2 : Option Nat) (x3 : Int32) : PM (Int32) := x_bd (x_rI r0 3 1) fun v1 => x_bd (x_rR r0 3 3) fun v9 => x_bd (x_aL 5 v9) fun v12 => (if v1 < v12 then x_bd (x_mO 7) fun v18 => x_bd (mX7_init F v18 r1 r2 x3) fun _ => x_bd (x_rR r0 3 3) fun v31 => x_bd (x_sQ 5 7 v31 v1 v18) fun _ => x_bd (x_rI r0 3 1) fun v41 => x_bd (x_wI r0 3 1 (v41 + (1 : Int32))) fun _ => x_bd (x_rI r1 1 0) fun v51 => x_bd (x_rI r2 1 0) fun v55 => x_bd (mX3_cell F v51 v55) fun v58 => x_bd (x_cV r0 3 (mX3_noteStraight F r0 v58 v18)) fun _ => x_bd (x_rI r2 1 0) fun v68 => x_bd (x_rI r1 1 0) fun v72 => x_bd (mX3_cell F v68 v72) fun v75 => x_bd (x_cV r0 3 (mX3_noteStraight F r0 v75 v18)) fun _ => x_bd (x_rI r1 1 0) fun v85 => x_bd (x_rI r2 1 0) fun v89 => x_bd (x_cV r0 3 (mX3_shortenBy F r0 v85 v89 x3)) fun _ => x_bd (x_cV r0 3 (mX3_layWays F r0)) fun _ => (x_pr v1) else (x_pr (-1 : Int32)))
def mX3_minutesBetween (F : Nat) (r0 : Option Nat) (r1 : Option Nat) (r2 : Option Nat) : PM (Int32) := x_bd (x_rI r1 1 0) fun v2 => x_bd (x_rI r2 1 0) fun v6 => x_bd (x_cV r0 3 (mX3_leastOf F r0 v2 v6)) fun v9 => (x_pr v9)
def mX3_hasWay (F : Nat) (r0 : Option Nat) (r1 : Option Nat) (r2 : Option Nat) : PM (Int32) := x_bd (x_cV r0 3 (mX3_minutesBetween F r0 r1 r2)) fun v3 => (if (1000000 : Int32) ≤ v3 then (x_pr (0 : Int32)) else (x_pr (1 : Int32)))
def mX3_nextWire (F : Nat) (r0 : Option Nat) (r1 : Option Nat) (r2 : Option Nat) : PM (Option Nat) := (if r1 = none then (x_pr (none : Option Nat)) else (if r2 = none then (x_pr (none : Option Nat)) else x_bd (x_rI r1 1 0) fun v11 => x_bd (x_rI r2 1 0) fun v18 => x_bd (x_pr ((v11 * (10 : Int32)) + v18)) fun (v22 : Int32) => (if v22 < 0 then (x_pr (none : Option Nat)) else x_bd (x_rR r0 3 6) fun v29 => x_bd (x_aL 5 v29) fun v32 => (if v32 ≤ v22 then (x_pr (none : Option Nat)) else x_bd (x_rR r0 3 6) fun v37 => x_bd (x_aQ 5 v37 v22) fun v41 => (x_pr v41)))))
def mX7_touches (F : Nat) (r0 : Option Nat) (r1 : Option Nat) : PM (Int32) := x_bd (x_rR r0 7 0) fun v1 => x_bd (x_rR v1 5 0) fun v4 => (if v4 = r1 then (x_pr (1 : Int32)) else x_bd (x_rR r0 7 1) fun v12 => x_bd (x_rR v12 5 0) fun v15 => (if v15 = r1 then (x_pr (1 : Int32)) else (x_pr (0 : Int32))))
def mX7_queueFrom (F : Nat) (r0 : Option Nat) (r1 : Option Nat) : PM (Option Nat) := x_bd (x_rR r0 7 0) fun v1 => x_bd (x_rR v1 5 0) fun v4 => (if v4 = r1 then x_bd (x_rR r0 7 0) fun v12 => (x_pr v12) else x_bd (x_rR r0 7 1) fun v19 => (x_pr v19))
def mX3_queuedAt_4 (F : Nat) : Nat → Option Nat → Option Nat → Int32 → Int32 → PM (Int32)
  | 0, _, _, _, _ => x_fl
  | n + 1, y0, y1, y2, y3 => x_bd (x_rI y0 3 1) fun v6 => (if v6 ≤ y3 then (x_pr y2) else x_bd (x_cV y0 3 (mX3_findWire F y0 y3)) fun v14 => (if v14 = none then x_bd (x_pr (y3 + (1 : Int32))) fun (v45 : Int32) => (mX3_queuedAt_4 F n y0 y1 y2 v45) else x_bd (x_cV v14 7 (mX7_touches F v14 y1)) fun v27 => (if v27 = 0 then x_bd (x_pr (y3 + (1 : Int32))) fun (v45 : Int32) => (mX3_queuedAt_4 F n y0 y1 y2 v45) else x_bd (x_cV v14 7 (mX7_queueFrom F v14 y1)) fun v37 => x_bd (x_rI v37 5 2) fun v40 => x_bd (x_pr (y2 + v40)) fun (v44 : Int32) => x_bd (x_pr (y3 + (1 : Int32))) fun (v45 : Int32) => (mX3_queuedAt_4 F n y0 y1 v44 v45))))
def mX3_queuedAt (F : Nat) (r0 : Option Nat) (r1 : Option Nat) : PM (Int32) := (mX3_queuedAt_4 F F r0 r1 (0 : Int32) (0 : Int32))
def mX4_init (F : Nat) (r0 : Option Nat) (x1 : Int32) (r2 : Option Nat) (r3 : Option Nat) (x4 : Int32) (x5 : Int32) : PM (Unit) := x_bd (x_wI r0 4 0 x1) fun _ => x_bd (x_wR r0 4 1 r2) fun _ => x_bd (x_wR r0 4 2 r3) fun _ => x_bd (x_wI r0 4 3 x4) fun _ => x_bd (x_wI r0 4 4 x5) fun _ => x_bd (x_wI r0 4 11 (-1 : Int32)) fun _ => (x_pr ())
def mX4_isAwaited (F : Nat) (r0 : Option Nat) : PM (Int32) := x_bd (x_rI r0 4 6) fun v1 => (if v1 = 0 then (x_pr (0 : Int32)) else x_bd (x_rI r0 4 7) fun v8 => (if v8 = 0 then x_bd (x_rI r0 4 8) fun v15 => (if v15 = 0 then (x_pr (1 : Int32)) else (x_pr (0 : Int32))) else (x_pr (0 : Int32))))
def mX5_add_23 (F : Nat) (y0 : Option Nat) (y1 : Option Nat) : PM (Unit) := x_bd (x_wR y0 5 4 y1) fun _ => x_bd (x_rI y0 5 2) fun v30 => x_bd (x_wI y0 5 2 (v30 + (1 : Int32))) fun _ => (x_pr ())
def mX5_add (F : Nat) (r0 : Option Nat) (r1 : Option Nat) : PM (Unit) := x_bd (x_rR r0 5 4) fun v1 => (if v1 = none then x_bd (x_wR r0 5 3 r1) fun _ => (mX5_add_23 F r0 r1) else x_bd (x_rR r0 5 4) fun v16 => x_bd (x_wR v16 2 10 r1) fun _ => (mX5_add_23 F r0 r1))
def mX5_take_31 (F : Nat) (y0 : Option Nat) (y1 : Option Nat) : PM (Option Nat) := x_bd (x_wR y1 2 10 (none : Option Nat)) fun _ => x_bd (x_rI y0 5 2) fun v38 => x_bd (x_wI y0 5 2 (v38 - (1 : Int32))) fun _ => (x_pr y1)
def mX5_take (F : Nat) (r0 : Option Nat) : PM (Option Nat) := x_bd (x_rR r0 5 3) fun v1 => (if v1 = none then (x_pr (none : Option Nat)) else x_bd (x_rR v1 2 10) fun v13 => x_bd (x_wR r0 5 3 v13) fun _ => x_bd (x_rR r0 5 3) fun v20 => (if v20 = none then x_bd (x_wR r0 5 4 (none : Option Nat)) fun _ => (mX5_take_31 F r0 v1) else (mX5_take_31 F r0 v1)))
def mX6_testOf_4 (F : Nat) : Nat → Option Nat → Int32 → Int32 → Int32 → PM (Int32)
  | 0, _, _, _, _ => x_fl
  | n + 1, y0, y1, y2, y3 => x_bd (x_aL 0 y0) fun v6 => (if v6 ≤ y3 then (x_pr (x_rem y2 (97 : Int32))) else x_bd (x_pr ((1 : Int32) + (x_rem (((7 : Int32) * y1) + ((13 : Int32) * y3)) (96 : Int32)))) fun (v24 : Int32) => x_bd (x_aI 0 y0 y3) fun v29 => x_bd (x_pr (y2 + (v29 * v24))) fun (v34 : Int32) => x_bd (x_pr (y3 + (1 : Int32))) fun (v35 : Int32) => (mX6_testOf_4 F n y0 y1 v34 v35))
def mX6_testOf (F : Nat) (r0 : Option Nat) (x1 : Int32) : PM (Int32) := (mX6_testOf_4 F F r0 x1 (0 : Int32) (0 : Int32))
def mX6_init_52 (F : Nat) : Nat → Option Nat → Int32 → Int64 → Int32 → PM (Unit)
  | 0, _, _, _, _ => x_fl
  | n + 1, y0, y2, y3, y5 => (if y5 < 0 then x_bd (x_rR y0 6 1) fun v84 => x_bd (mX6_testOf F v84 y2) fun v88 => x_bd (x_wI y0 6 0 v88) fun _ => (x_pr ()) else x_bd (x_rR y0 6 1) fun v58 => x_bd (x_sI v58 y5 ((x_lrem y3 (10 : Int64)).toInt32)) fun _ => x_bd (x_pr (y3 / (10 : Int64))) fun (v75 : Int64) => x_bd (x_pr (y5 + (-1 : Int32))) fun (v76 : Int32) => (mX6_init_52 F n y0 y2 v75 v76))
def mX6_init (F : Nat) (r0 : Option Nat) (r1 : Option Nat) (x2 : Int32) : PM (Unit) := x_bd (x_wI r0 6 2 x2) fun _ => x_bd (x_mA 0 (13 : Int32)) fun v12 => x_bd (x_wR r0 6 1 v12) fun _ => x_bd (x_rI r1 4 0) fun v18 => x_bd (x_rI r1 4 3) fun v27 => x_bd (x_rI r1 4 4) fun v37 => x_bd (x_pr (((((v18.toInt64) * (100000 : Int64)) + (v27.toInt64)) * (10000 : Int64)) + (v37.toInt64))) fun (v42 : Int64) => x_bd (x_rR r0 6 1) fun v44 => x_bd (x_aL 0 v44) fun v47 => x_bd (x_pr (v47 - (1 : Int32))) fun (v50 : Int32) => (mX6_init_52 F F r0 x2 v42 v50)
def mX6_digitOf (F : Nat) (r0 : Option Nat) (x1 : Int32) : PM (Int32) := (if x1 < 0 then (x_pr (-1 : Int32)) else x_bd (x_rR r0 6 1) fun v6 => x_bd (x_aL 0 v6) fun v9 => (if v9 ≤ x1 then (x_pr (-1 : Int32)) else x_bd (x_rR r0 6 1) fun v14 => x_bd (x_aI 0 v14 x1) fun v18 => (x_pr v18)))
def mX6_fitTest (F : Nat) (r0 : Option Nat) : PM (Int32) := x_bd (x_rR r0 6 1) fun v1 => x_bd (x_rI r0 6 2) fun v5 => x_bd (mX6_testOf F v1 v5) fun v8 => x_bd (x_rI r0 6 0) fun v12 => (if v8 = v12 then (x_pr (1 : Int32)) else (x_pr (0 : Int32)))
def mX6_change (F : Nat) (r0 : Option Nat) (x1 : Int32) (x2 : Int32) : PM (Int32) := x_bd (x_rI r0 6 3) fun v1 => (if v1 = 0 then (if x1 < 0 then (x_pr (0 : Int32)) else x_bd (x_rR r0 6 1) fun v13 => x_bd (x_aL 0 v13) fun v16 => (if v16 ≤ x1 then (x_pr (0 : Int32)) else (if x2 < 0 then (x_pr (0 : Int32)) else (if (9 : Int32) < x2 then (x_pr (0 : Int32)) else x_bd (x_rR r0 6 1) fun v31 => x_bd (x_aI 0 v31 x1) fun v35 => (if v35 = x2 then (x_pr (0 : Int32)) else x_bd (x_rR r0 6 1) fun v43 => x_bd (x_sI v43 x1 x2) fun _ => x_bd (x_wZ r0 6 3 (1 : Int32)) fun _ => (x_pr (1 : Int32))))))) else (x_pr (0 : Int32)))
def mX7_isDown (F : Nat) (r0 : Option Nat) (x1 : Int32) : PM (Int32) := x_bd (x_rI r0 7 3) fun v2 => (if x1 < v2 then (x_pr (0 : Int32)) else x_bd (x_rI r0 7 4) fun v10 => (if v10 ≤ x1 then (x_pr (0 : Int32)) else (x_pr (1 : Int32))))
def mX8_init (F : Nat) (r0 : Option Nat) : PM (Unit) := x_bd (x_mO 3) fun v5 => x_bd (mX3_init F v5) fun _ => x_bd (x_wR r0 8 0 v5) fun _ => x_bd (x_mO 0) fun v16 => x_bd (mX0_init F v16) fun _ => x_bd (x_wR r0 8 1 v16) fun _ => x_bd (x_mA 4 (200 : Int32)) fun v30 => x_bd (x_wR r0 8 2 v30) fun _ => x_bd (x_mA 3 (1000 : Int32)) fun v40 => x_bd (x_wR r0 8 3 v40) fun _ => x_bd (x_wI r0 8 7 (1000000 : Int32)) fun _ => (x_pr ())
def mX8_isWithin (F : Nat) (x0 : Int32) (x1 : Int32) (x2 : Int32) : PM (Int32) := (if x0 < x1 then (x_pr (0 : Int32)) else (if x2 < x0 then (x_pr (0 : Int32)) else (x_pr (1 : Int32))))
def mX8_counter_21 (F : Nat) (y0 : Option Nat) (y1 : Int32) (y2 : Int32) (y3 : Int32) (t0 : Int32) : PM (Int32) := x_bd (mX8_isWithin F y1 (0 : Int32) (1000000 : Int32)) fun v27 => (if v27 = 0 then (x_pr (-1 : Int32)) else (if t0 = 0 then (x_pr (-1 : Int32)) else x_bd (x_rR y0 8 0) fun v41 => x_bd (x_cV v41 3 (mX3_addCounter F v41 y1 y2 y3)) fun v47 => (x_pr v47)))
def mX8_counter (F : Nat) (r0 : Option Nat) (x1 : Int32) (x2 : Int32) (x3 : Int32) : PM (Int32) := (if x2 < 0 then (mX8_counter_21 F r0 x1 x2 x3 (0 : Int32)) else (if x3 ≤ x2 then (mX8_counter_21 F r0 x1 x2 x3 (0 : Int32)) else (if (1440 : Int32) < x3 then (mX8_counter_21 F r0 x1 x2 x3 (0 : Int32)) else (mX8_counter_21 F r0 x1 x2 x3 (1 : Int32)))))
def mX8_wire (F : Nat) (r0 : Option Nat) (x1 : Int32) (x2 : Int32) (x3 : Int32) : PM (Int32) := x_bd (x_rR r0 8 0) fun v1 => x_bd (x_cV v1 3 (mX3_findCounter F v1 x1)) fun v5 => x_bd (x_rR r0 8 0) fun v11 => x_bd (x_cV v11 3 (mX3_findCounter F v11 x2)) fun v15 => (if v5 = none then (x_pr (-1 : Int32)) else (if v15 = none then (x_pr (-1 : Int32)) else (if v5 = v15 then (x_pr (-1 : Int32)) else x_bd (mX8_isWithin F x3 (1 : Int32) (60 : Int32)) fun v41 => (if v41 = 0 then (x_pr (-1 : Int32)) else x_bd (x_rR r0 8 0) fun v50 => x_bd (x_cV v50 3 (mX3_addWire F v50 v5 v15 x3)) fun v58 => (x_pr v58)))))
def mX8_down (F : Nat) (r0 : Option Nat) (x1 : Int32) (x2 : Int32) (x3 : Int32) : PM (Int32) := x_bd (x_rR r0 8 0) fun v1 => x_bd (x_cV v1 3 (mX3_findWire F v1 x1)) fun v5 => (if v5 = none then (x_pr (0 : Int32)) else x_bd (x_rI r0 8 6) fun v17 => (if x2 < v17 then (x_pr (0 : Int32)) else (if x2 < x3 then x_bd (x_wI v5 7 3 x2) fun _ => x_bd (x_wI v5 7 4 x3) fun _ => (x_pr (1 : Int32)) else (x_pr (0 : Int32)))))
def mX8_least (F : Nat) (r0 : Option Nat) (x1 : Int32) (x2 : Int32) : PM (Int32) := x_bd (x_rR r0 8 0) fun v1 => x_bd (x_cV v1 3 (mX3_findCounter F v1 x1)) fun v5 => x_bd (x_rR r0 8 0) fun v10 => x_bd (x_cV v10 3 (mX3_findCounter F v10 x2)) fun v14 => (if v5 = none then (x_pr (-1 : Int32)) else (if v14 = none then (x_pr (-1 : Int32)) else x_bd (x_rR r0 8 0) fun v29 => x_bd (x_cV v29 3 (mX3_hasWay F v29 v5 v14)) fun v35 => (if v35 = 0 then (x_pr (-1 : Int32)) else x_bd (x_rR r0 8 0) fun v44 => x_bd (x_cV v44 3 (mX3_minutesBetween F v44 v5 v14)) fun v50 => (x_pr v50))))
def mX8_band (F : Nat) (r0 : Option Nat) (x1 : Int32) (x2 : Int32) : PM (Int32) := x_bd (mX8_isWithin F x1 (1 : Int32) (99999 : Int32)) fun v4 => (if v4 = 0 then (x_pr (0 : Int32)) else x_bd (mX8_isWithin F x2 (0 : Int32) (1000 : Int32)) fun v15 => (if v15 = 0 then (x_pr (0 : Int32)) else x_bd (x_rR r0 8 1) fun v22 => x_bd (x_cV v22 0 (mX0_add F v22 x1 x2)) fun v27 => (if v27 = 0 then (x_pr (0 : Int32)) else (x_pr (1 : Int32)))))
def mX8_fee (F : Nat) (r0 : Option Nat) (x1 : Int32) : PM (Int32) := x_bd (mX8_isWithin F x1 (1 : Int32) (99999 : Int32)) fun v4 => (if v4 = 0 then (x_pr (-1 : Int32)) else x_bd (x_rR r0 8 1) fun v11 => x_bd (x_cV v11 0 (mX0_feeOf F v11 x1)) fun v15 => (x_pr v15))
def mX8_canWrite (F : Nat) (r0 : Option Nat) : PM (Int32) := x_bd (x_rI r0 8 5) fun v1 => x_bd (x_rR r0 8 3) fun v5 => x_bd (x_aL 3 v5) fun v8 => (if v8 ≤ v1 then (x_pr (0 : Int32)) else (x_pr (1 : Int32)))
def mX8_enqueue (F : Nat) (r0 : Option Nat) (r1 : Option Nat) : PM (Unit) := x_bd (x_rR r0 8 0) fun v1 => x_bd (x_rR r1 2 5) fun v5 => x_bd (x_rR r1 2 3) fun v9 => x_bd (x_cV v1 3 (mX3_nextWire F v1 v5 v9)) fun v12 => (if v12 = none then (x_pr ()) else x_bd (x_rR r1 2 5) fun v22 => x_bd (x_cV v12 7 (mX7_queueFrom F v12 v22)) fun v25 => x_bd (x_cV v25 5 (mX5_add F v25 r1)) fun _ => (x_pr ()))
def mX8_write_59 (F : Nat) (y0 : Option Nat) (y1 : Int32) (y2 : Option Nat) (y3 : Int32) (y4 : Option Nat) : PM (Unit) := x_bd (x_mO 2) fun v59 => x_bd (mX2_init F v59 y1 y2 y3 y4) fun _ => x_bd (x_rR y0 8 3) fun v74 => x_bd (x_rI y0 8 5) fun v78 => x_bd (x_sQ 3 2 v74 v78 v59) fun _ => x_bd (x_rI y0 8 5) fun v86 => x_bd (x_wI y0 8 5 (v86 + (1 : Int32))) fun _ => x_bd (x_cV y0 8 (mX8_enqueue F y0 v59)) fun _ => (x_pr ())
def mX8_write_23 (F : Nat) (y0 : Option Nat) (y1 : Int32) (y2 : Option Nat) (t0 : Int32) : PM (Unit) := (if y1 = 0 then x_bd (x_mO 6) fun v31 => x_bd (x_rI y0 8 6) fun v37 => x_bd (mX6_init F v31 y2 (v37 / (1440 : Int32))) fun _ => x_bd (x_rI y2 4 12) fun v51 => x_bd (x_wI y2 4 12 (v51 + (1 : Int32))) fun _ => (mX8_write_59 F y0 y1 y2 t0 v31) else (mX8_write_59 F y0 y1 y2 t0 (none : Option Nat)))
def mX8_write (F : Nat) (r0 : Option Nat) (x1 : Int32) (r2 : Option Nat) : PM (Unit) := x_bd (x_cV r0 8 (mX8_canWrite F r0)) fun v1 => (if v1 = 0 then (x_pr ()) else (if x1 = (2 : Int32) then (mX8_write_23 F r0 x1 r2 (1 : Int32)) else (if x1 = (3 : Int32) then (mX8_write_23 F r0 x1 r2 (1 : Int32)) else (mX8_write_23 F r0 x1 r2 (0 : Int32)))))
def mX8_order (F : Nat) (r0 : Option Nat) (x1 : Int32) (x2 : Int32) (x3 : Int32) (x4 : Int32) : PM (Int32) := x_bd (x_rR r0 8 0) fun v1 => x_bd (x_cV v1 3 (mX3_findCounter F v1 x1)) fun v5 => x_bd (x_rR r0 8 0) fun v11 => x_bd (x_cV v11 3 (mX3_findCounter F v11 x2)) fun v15 => (if v5 = none then (x_pr (-1 : Int32)) else (if v15 = none then (x_pr (-1 : Int32)) else (if v5 = v15 then (x_pr (-1 : Int32)) else x_bd (x_rR r0 8 0) fun v38 => x_bd (x_cV v38 3 (mX3_hasWay F v38 v5 v15)) fun v45 => (if v45 = 0 then (x_pr (-1 : Int32)) else x_bd (mX8_isWithin F x3 (1 : Int32) (99999 : Int32)) fun v55 => (if v55 = 0 then (x_pr (-1 : Int32)) else x_bd (mX8_isWithin F x4 (0 : Int32) (9999 : Int32)) fun v67 => (if v67 = 0 then (x_pr (-1 : Int32)) else x_bd (x_rI r0 8 6) fun v76 => x_bd (x_cV v5 1 (mX1_isOpen F v5 v76)) fun v79 => (if v79 = 0 then (x_pr (-1 : Int32)) else x_bd (x_rI r0 8 4) fun v86 => x_bd (x_rR r0 8 2) fun v90 => x_bd (x_aL 4 v90) fun v93 => (if v93 ≤ v86 then (x_pr (-1 : Int32)) else x_bd (x_cV r0 8 (mX8_canWrite F r0)) fun v98 => (if v98 = 0 then (x_pr (-1 : Int32)) else x_bd (x_mO 4) fun v106 => x_bd (x_rI r0 8 4) fun v111 => x_bd (mX4_init F v106 v111 v5 v15 x3 x4) fun _ => x_bd (x_rR r0 8 1) fun v129 => x_bd (x_cV v129 0 (mX0_feeOf F v129 x3)) fun v133 => x_bd (x_wI v106 4 5 v133) fun _ => x_bd (x_rR r0 8 2) fun v140 => x_bd (x_rI r0 8 4) fun v144 => x_bd (x_sQ 4 4 v140 v144 v106) fun _ => x_bd (x_rI r0 8 4) fun v152 => x_bd (x_wI r0 8 4 (v152 + (1 : Int32))) fun _ => x_bd (x_rI v5 1 3) fun v163 => x_bd (x_rI v106 4 5) fun v169 => x_bd (x_wI v5 1 3 (v163 + (x3 + v169))) fun _ => x_bd (x_rI v5 1 5) fun v180 => x_bd (x_rI v106 4 5) fun v185 => x_bd (x_wI v5 1 5 (v180 + v185)) fun _ => x_bd (x_cV r0 8 (mX8_write F r0 (0 : Int32) v106)) fun _ => x_bd (x_rI v106 4 0) fun v201 => (x_pr v201))))))))))
def mX8_findOrder (F : Nat) (r0 : Option Nat) (x1 : Int32) : PM (Option Nat) := (if x1 < 0 then (x_pr (none : Option Nat)) else x_bd (x_rI r0 8 4) fun v6 => (if v6 ≤ x1 then (x_pr (none : Option Nat)) else x_bd (x_rR r0 8 2) fun v14 => x_bd (x_aL 4 v14) fun v17 => (if v17 ≤ x1 then (x_pr (none : Option Nat)) else x_bd (x_rR r0 8 2) fun v22 => x_bd (x_aQ 4 v22 x1) fun v26 => (x_pr v26))))
def mX8_stop (F : Nat) (r0 : Option Nat) (x1 : Int32) : PM (Int32) := x_bd (x_cV r0 8 (mX8_findOrder F r0 x1)) fun v2 => (if v2 = none then (x_pr (-1 : Int32)) else x_bd (x_rI v2 4 10) fun v11 => (if v11 = 0 then x_bd (x_rR r0 8 0) fun v18 => x_bd (x_rR v2 4 1) fun v22 => x_bd (x_rR v2 4 2) fun v26 => x_bd (x_cV v18 3 (mX3_hasWay F v18 v22 v26)) fun v29 => (if v29 = 0 then (x_pr (-1 : Int32)) else x_bd (x_cV r0 8 (mX8_canWrite F r0)) fun v36 => (if v36 = 0 then (x_pr (-1 : Int32)) else x_bd (x_rI r0 8 5) fun v45 => x_bd (x_wZ v2 4 10 (1 : Int32)) fun _ => x_bd (x_cV r0 8 (mX8_write F r0 (1 : Int32) v2)) fun _ => (x_pr v45))) else (x_pr (-1 : Int32))))
def mX8_owe (F : Nat) (r0 : Option Nat) (r1 : Option Nat) (x2 : Int32) : PM (Unit) := x_bd (x_rI r0 1 4) fun v2 => x_bd (x_wI r0 1 4 (v2 - x2)) fun _ => x_bd (x_rI r1 1 4) fun v12 => x_bd (x_wI r1 1 4 (v12 + x2)) fun _ => (x_pr ())
def mX8_payOut (F : Nat) (r0 : Option Nat) (r1 : Option Nat) : PM (Unit) := x_bd (x_wZ r1 4 7 (1 : Int32)) fun _ => x_bd (x_rI r0 8 6) fun v7 => x_bd (x_wI r1 4 11 v7) fun _ => x_bd (x_rR r1 4 2) fun v14 => x_bd (x_rI v14 1 3) fun v18 => x_bd (x_rI r1 4 3) fun v22 => x_bd (x_wI v14 1 3 (v18 - v22)) fun _ => x_bd (x_rR r1 4 1) fun v30 => x_bd (x_rR r1 4 2) fun v34 => x_bd (x_rI r1 4 3) fun v38 => x_bd (mX8_owe F v30 v34 v38) fun _ => x_bd (x_rI r0 8 9) fun v46 => x_bd (x_wI r0 8 9 (v46 + (1 : Int32))) fun _ => (x_pr ())
def mX8_pay (F : Nat) (r0 : Option Nat) (x1 : Int32) (x2 : Int32) : PM (Int32) := x_bd (x_cV r0 8 (mX8_findOrder F r0 x1)) fun v2 => (if v2 = none then (x_pr (1 : Int32)) else x_bd (x_rI v2 4 6) fun v11 => (if v11 = 0 then (x_pr (1 : Int32)) else x_bd (x_rI v2 4 7) fun v20 => (if v20 = 0 then x_bd (x_rI v2 4 8) fun v29 => (if v29 = 0 then x_bd (x_rR v2 4 2) fun v38 => x_bd (x_rI r0 8 6) fun v42 => x_bd (x_cV v38 1 (mX1_isOpen F v38 v42)) fun v45 => (if v45 = 0 then (x_pr (4 : Int32)) else x_bd (x_rI v2 4 4) fun v54 => (if v54 = x2 then x_bd (x_rR v2 4 2) fun v64 => x_bd (x_rI v64 1 3) fun v67 => x_bd (x_rI v2 4 3) fun v71 => (if v71 ≤ v67 then x_bd (x_cV r0 8 (mX8_payOut F r0 v2)) fun _ => (x_pr (0 : Int32)) else (x_pr (6 : Int32))) else (x_pr (5 : Int32)))) else (x_pr (3 : Int32))) else (x_pr (2 : Int32)))))
def mX8_cart (F : Nat) (r0 : Option Nat) (x1 : Int32) (x2 : Int32) (x3 : Int32) : PM (Int32) := x_bd (x_rR r0 8 0) fun v1 => x_bd (x_cV v1 3 (mX3_findCounter F v1 x1)) fun v5 => x_bd (x_rR r0 8 0) fun v11 => x_bd (x_cV v11 3 (mX3_findCounter F v11 x2)) fun v15 => (if v5 = none then (x_pr (0 : Int32)) else (if v15 = none then (x_pr (0 : Int32)) else (if v5 = v15 then (x_pr (0 : Int32)) else x_bd (x_rI v5 1 3) fun v41 => x_bd (mX8_isWithin F x3 (1 : Int32) v41) fun v44 => (if v44 = 0 then (x_pr (0 : Int32)) else x_bd (x_rI v5 1 3) fun v55 => x_bd (x_wI v5 1 3 (v55 - x3)) fun _ => x_bd (x_rI v15 1 3) fun v66 => x_bd (x_wI v15 1 3 (v66 + x3)) fun _ => x_bd (mX8_owe F v15 v5 x3) fun _ => (x_pr (1 : Int32))))))
def mX8_findMessage (F : Nat) (r0 : Option Nat) (x1 : Int32) : PM (Option Nat) := (if x1 < 0 then (x_pr (none : Option Nat)) else x_bd (x_rI r0 8 5) fun v6 => (if v6 ≤ x1 then (x_pr (none : Option Nat)) else x_bd (x_rR r0 8 3) fun v14 => x_bd (x_aL 3 v14) fun v17 => (if v17 ≤ x1 then (x_pr (none : Option Nat)) else x_bd (x_rR r0 8 3) fun v22 => x_bd (x_aQ 3 v22 x1) fun v26 => (x_pr v26))))
def mX8_garble (F : Nat) (r0 : Option Nat) (x1 : Int32) (x2 : Int32) (x3 : Int32) : PM (Int32) := x_bd (x_cV r0 8 (mX8_findMessage F r0 x1)) fun v2 => (if v2 = none then (x_pr (0 : Int32)) else x_bd (x_rR v2 2 4) fun v14 => (if v14 = none then (x_pr (0 : Int32)) else x_bd (x_cV v2 2 (mX2_isRead F v2)) fun v22 => (if v22 = 0 then x_bd (x_rR v2 2 4) fun v32 => x_bd (x_cV v32 6 (mX6_change F v32 x2 x3)) fun v37 => (if v37 = 0 ∨ v37 = 1 then x_pr v37 else x_fl) else (x_pr (0 : Int32)))))
def mX8_readPayment_44 (F : Nat) (y1 : Option Nat) : PM (Unit) := x_bd (x_rR y1 2 1) fun v45 => x_bd (x_rI v45 4 8) fun v48 => (if v48 = 0 then x_bd (x_rR y1 2 1) fun v55 => x_bd (x_wZ v55 4 6 (1 : Int32)) fun _ => (x_pr ()) else (x_pr ()))
def mX8_readPayment (F : Nat) (r0 : Option Nat) (r1 : Option Nat) : PM (Unit) := x_bd (x_rR r1 2 4) fun v1 => (if v1 = none then (mX8_readPayment_44 F r1) else x_bd (x_rR r1 2 4) fun v8 => x_bd (x_cV v8 6 (mX6_fitTest F v8)) fun v11 => (if v11 = 0 then x_bd (x_wZ r1 2 9 (1 : Int32)) fun _ => x_bd (x_rI r0 8 8) fun v24 => x_bd (x_wI r0 8 8 (v24 + (1 : Int32))) fun _ => x_bd (x_rR r1 2 1) fun v35 => x_bd (x_cV r0 8 (mX8_write F r0 (3 : Int32) v35)) fun _ => (x_pr ()) else (mX8_readPayment_44 F r1)))
def mX8_readStop (F : Nat) (r0 : Option Nat) (r1 : Option Nat) : PM (Unit) := x_bd (x_rI r1 4 7) fun v1 => (if v1 = 0 then x_bd (x_wZ r1 4 8 (1 : Int32)) fun _ => x_bd (x_cV r0 8 (mX8_write F r0 (2 : Int32) r1)) fun _ => (x_pr ()) else x_bd (x_rI r0 8 10) fun v9 => x_bd (x_wI r0 8 10 (v9 + (1 : Int32))) fun _ => (x_pr ()))
def mX8_payBack (F : Nat) (r0 : Option Nat) (r1 : Option Nat) : PM (Unit) := x_bd (x_wZ r1 4 9 (1 : Int32)) fun _ => x_bd (x_rR r1 4 1) fun v6 => x_bd (x_rI v6 1 3) fun v10 => x_bd (x_rI r1 4 3) fun v14 => x_bd (x_wI v6 1 3 (v10 - v14)) fun _ => (x_pr ())
def mX8_readRepeat (F : Nat) (r0 : Option Nat) (r1 : Option Nat) : PM (Unit) := x_bd (x_rI r1 4 7) fun v1 => (if v1 = 0 then x_bd (x_rI r1 4 8) fun v8 => (if v8 = 0 then x_bd (x_cV r0 8 (mX8_write F r0 (0 : Int32) r1)) fun _ => (x_pr ()) else (x_pr ())) else (x_pr ()))
def mX8_read (F : Nat) (r0 : Option Nat) (r1 : Option Nat) : PM (Unit) := x_bd (x_rI r0 8 6) fun v2 => x_bd (x_wI r1 2 8 v2) fun _ => x_bd (x_rI r1 2 0) fun v9 => (if v9 = 0 then x_bd (x_cV r0 8 (mX8_readPayment F r0 r1)) fun _ => (x_pr ()) else (if v9 = 1 then x_bd (x_rR r1 2 1) fun v50 => x_bd (x_cV r0 8 (mX8_readStop F r0 v50)) fun _ => (x_pr ()) else (if v9 = 2 then x_bd (x_rR r1 2 1) fun v61 => x_bd (x_cV r0 8 (mX8_payBack F r0 v61)) fun _ => (x_pr ()) else x_bd (x_rR r1 2 1) fun v72 => x_bd (x_cV r0 8 (mX8_readRepeat F r0 v72)) fun _ => (x_pr ()))))
def mX8_takeIn_25 (F : Nat) : Nat → Option Nat → Int32 → Int32 → PM (Unit)
  | 0, _, _, _ => x_fl
  | n + 1, y0, y1, y2 => (if y1 ≤ y2 then (x_pr ()) else x_bd (x_cV y0 8 (mX8_findMessage F y0 y2)) fun v32 => (if v32 = none then x_bd (x_pr (y2 + (1 : Int32))) fun (v107 : Int32) => (mX8_takeIn_25 F n y0 y1 v107) else x_bd (x_rR v32 2 6) fun v41 => (if v41 = none then x_bd (x_pr (y2 + (1 : Int32))) fun (v107 : Int32) => (mX8_takeIn_25 F n y0 y1 v107) else x_bd (x_rI v32 2 7) fun v51 => x_bd (x_rI y0 8 6) fun v55 => (if v51 ≤ v55 then x_bd (x_cV v32 2 (mX2_leaveWire F v32)) fun _ => x_bd (x_rR v32 2 5) fun v84 => x_bd (x_rR v32 2 3) fun v88 => (if v84 = v88 then x_bd (x_cV y0 8 (mX8_read F y0 v32)) fun _ => x_bd (x_pr (y2 + (1 : Int32))) fun (v107 : Int32) => (mX8_takeIn_25 F n y0 y1 v107) else x_bd (x_cV y0 8 (mX8_enqueue F y0 v32)) fun _ => x_bd (x_pr (y2 + (1 : Int32))) fun (v107 : Int32) => (mX8_takeIn_25 F n y0 y1 v107)) else x_bd (x_rI y0 8 7) fun v63 => x_bd (x_rI v32 2 7) fun v67 => x_bd (x_wI y0 8 7 (x_min v63 v67)) fun _ => x_bd (x_pr (y2 + (1 : Int32))) fun (v107 : Int32) => (mX8_takeIn_25 F n y0 y1 v107)))))
def mX8_takeIn (F : Nat) (r0 : Option Nat) : PM (Unit) := x_bd (x_rI r0 8 6) fun v1 => x_bd (x_rI r0 8 7) fun v5 => (if v5 ≤ v1 then x_bd (x_wI r0 8 7 (1000000 : Int32)) fun _ => x_bd (x_rI r0 8 5) fun v19 => (mX8_takeIn_25 F F r0 v19 (0 : Int32)) else (x_pr ()))
def mX8_sendFirst (F : Nat) (r0 : Option Nat) (r1 : Option Nat) (x2 : Int32) : PM (Unit) := x_bd (x_cV r1 5 (mX5_take F r1)) fun v1 => (if v1 = none then (x_pr ()) else x_bd (x_rR r1 5 1) fun v11 => x_bd (x_cV v1 2 (mX2_enterWire F v1 v11 x2)) fun _ => x_bd (x_rI r0 8 7) fun v20 => x_bd (x_wI r0 8 7 (x_min v20 x2)) fun _ => (x_pr ()))
def mX8_sendOut_2 (F : Nat) : Nat → Option Nat → Int32 → PM (Unit)
  | 0, _, _ => x_fl
  | n + 1, y0, y1 => x_bd (x_rR y0 8 0) fun v4 => x_bd (x_rI v4 3 1) fun v7 => (if v7 ≤ y1 then (x_pr ()) else x_bd (x_rR y0 8 0) fun v14 => x_bd (x_cV v14 3 (mX3_findWire F v14 y1)) fun v18 => (if v18 = none then x_bd (x_pr (y1 + (1 : Int32))) fun (v71 : Int32) => (mX8_sendOut_2 F n y0 v71) else x_bd (x_rI y0 8 6) fun v28 => x_bd (x_cV v18 7 (mX7_isDown F v18 v28)) fun v31 => (if v31 = 0 then x_bd (x_rR v18 7 0) fun v39 => x_bd (x_rI y0 8 6) fun v43 => x_bd (x_rI v18 7 2) fun v47 => x_bd (x_cV y0 8 (mX8_sendFirst F y0 v39 (v43 + v47))) fun _ => x_bd (x_rR v18 7 1) fun v56 => x_bd (x_rI y0 8 6) fun v60 => x_bd (x_rI v18 7 2) fun v64 => x_bd (x_cV y0 8 (mX8_sendFirst F y0 v56 (v60 + v64))) fun _ => x_bd (x_pr (y1 + (1 : Int32))) fun (v71 : Int32) => (mX8_sendOut_2 F n y0 v71) else x_bd (x_pr (y1 + (1 : Int32))) fun (v71 : Int32) => (mX8_sendOut_2 F n y0 v71))))
def mX8_sendOut (F : Nat) (r0 : Option Nat) : PM (Unit) := (mX8_sendOut_2 F F r0 (0 : Int32))
def mX8_go_31 (F : Nat) : Nat → Option Nat → Int32 → Int32 → PM (Int32)
  | 0, _, _, _ => x_fl
  | n + 1, y0, y2, y3 => (if y2 ≤ y3 then x_bd (x_rI y0 8 6) fun v58 => (x_pr v58) else x_bd (x_cV y0 8 (mX8_takeIn F y0)) fun _ => x_bd (x_cV y0 8 (mX8_sendOut F y0)) fun _ => x_bd (x_wI y0 8 6 (y3 + (1 : Int32))) fun _ => x_bd (x_pr (y3 + (1 : Int32))) fun (v51 : Int32) => (mX8_go_31 F n y0 y2 v51))
def mX8_go (F : Nat) (r0 : Option Nat) (x1 : Int32) : PM (Int32) := x_bd (mX8_isWithin F x1 (0 : Int32) (2000 : Int32)) fun v5 => (if v5 = 0 then (x_pr (-1 : Int32)) else x_bd (x_rI r0 8 6) fun v14 => x_bd (x_pr (x_min (v14 + x1) (20000 : Int32))) fun (v25 : Int32) => x_bd (x_rI r0 8 6) fun v27 => (mX8_go_31 F F r0 v25 v27))
def mX8_sign (F : Nat) (r0 : Option Nat) (x1 : Int32) (x2 : Int32) : PM (Int32) := x_bd (x_cV r0 8 (mX8_findMessage F r0 x1)) fun v2 => (if v2 = none then (x_pr (-1 : Int32)) else x_bd (x_rR v2 2 4) fun v11 => (if v11 = none then (x_pr (-1 : Int32)) else (if x2 = (13 : Int32) then x_bd (x_rR v2 2 4) fun v26 => x_bd (x_rI v26 6 0) fun v29 => (x_pr v29) else x_bd (x_rR v2 2 4) fun v36 => x_bd (x_cV v36 6 (mX6_digitOf F v36 x2)) fun v40 => (x_pr v40))))
def mX8_oneIf (F : Nat) (x0 : Int32) : PM (Int32) := (if x0 = 0 then (x_pr (0 : Int32)) else (x_pr (1 : Int32)))
def mX8_message (F : Nat) (r0 : Option Nat) (x1 : Int32) (x2 : Int32) : PM (Int32) := x_bd (x_cV r0 8 (mX8_findMessage F r0 x1)) fun v2 => (if v2 = none then (x_pr (-1 : Int32)) else (if x2 = 0 then x_bd (x_rI v2 2 0) fun v57 => (x_pr v57) else (if x2 = 1 then x_bd (x_rR v2 2 1) fun v62 => x_bd (x_rI v62 4 0) fun v65 => (x_pr v65) else (if x2 = 2 then x_bd (x_rR v2 2 2) fun v70 => x_bd (x_rI v70 1 0) fun v73 => (x_pr v73) else (if x2 = 3 then x_bd (x_rR v2 2 3) fun v78 => x_bd (x_rI v78 1 0) fun v81 => (x_pr v81) else (if x2 = 4 then x_bd (x_rR v2 2 5) fun v86 => (if v86 = none then (x_pr (-1 : Int32)) else x_bd (x_rR v2 2 5) fun v97 => x_bd (x_rI v97 1 0) fun v100 => (x_pr v100)) else (if x2 = 5 then x_bd (x_rI v2 2 8) fun v105 => (x_pr v105) else (if x2 = 6 then x_bd (x_rI v2 2 9) fun v110 => x_bd (mX8_oneIf F v110) fun v113 => (x_pr v113) else (x_pr (-1 : Int32))))))))))
def mX8_told (F : Nat) (r0 : Option Nat) (x1 : Int32) (x2 : Int32) : PM (Int32) := x_bd (x_cV r0 8 (mX8_findOrder F r0 x1)) fun v2 => (if v2 = none then (x_pr (-1 : Int32)) else (if x2 = 0 then x_bd (x_rR v2 4 1) fun v69 => x_bd (x_rI v69 1 0) fun v72 => (x_pr v72) else (if x2 = 1 then x_bd (x_rR v2 4 2) fun v77 => x_bd (x_rI v77 1 0) fun v80 => (x_pr v80) else (if x2 = 2 then x_bd (x_rI v2 4 3) fun v85 => (x_pr v85) else (if x2 = 3 then x_bd (x_rI v2 4 5) fun v90 => (x_pr v90) else (if x2 = 4 then x_bd (x_rI v2 4 6) fun v95 => x_bd (mX8_oneIf F v95) fun v98 => (x_pr v98) else (if x2 = 5 then x_bd (x_rI v2 4 7) fun v103 => x_bd (mX8_oneIf F v103) fun v106 => (x_pr v106) else (if x2 = 6 then x_bd (x_rI v2 4 8) fun v111 => x_bd (mX8_oneIf F v111) fun v114 => (x_pr v114) else (if x2 = 7 then x_bd (x_rI v2 4 9) fun v119 => x_bd (mX8_oneIf F v119) fun v122 => (x_pr v122) else (if x2 = 8 then x_bd (x_rI v2 4 11) fun v127 => (x_pr v127) else (if x2 = 9 then x_bd (x_rI v2 4 12) fun v132 => (x_pr v132) else (x_pr (-1 : Int32)))))))))))))
def mX8_awaitedAt_4 (F : Nat) : Nat → Option Nat → Option Nat → Int32 → Int32 → PM (Int32)
  | 0, _, _, _, _ => x_fl
  | n + 1, y0, y1, y2, y3 => x_bd (x_rI y0 8 4) fun v6 => (if v6 ≤ y3 then (x_pr y2) else x_bd (x_cV y0 8 (mX8_findOrder F y0 y3)) fun v14 => (if v14 = none then x_bd (x_pr (y3 + (1 : Int32))) fun (v49 : Int32) => (mX8_awaitedAt_4 F n y0 y1 y2 v49) else x_bd (x_rR v14 4 2) fun v26 => (if v26 = y1 then x_bd (x_cV v14 4 (mX4_isAwaited F v14)) fun v35 => (if v35 = 0 then x_bd (x_pr (y3 + (1 : Int32))) fun (v49 : Int32) => (mX8_awaitedAt_4 F n y0 y1 y2 v49) else x_bd (x_rI v14 4 3) fun v44 => x_bd (x_pr (y2 + v44)) fun (v48 : Int32) => x_bd (x_pr (y3 + (1 : Int32))) fun (v49 : Int32) => (mX8_awaitedAt_4 F n y0 y1 v48 v49)) else x_bd (x_pr (y3 + (1 : Int32))) fun (v49 : Int32) => (mX8_awaitedAt_4 F n y0 y1 y2 v49))))
def mX8_awaitedAt (F : Nat) (r0 : Option Nat) (r1 : Option Nat) : PM (Int32) := (mX8_awaitedAt_4 F F r0 r1 (0 : Int32) (0 : Int32))
def mX8_at (F : Nat) (r0 : Option Nat) (x1 : Int32) (x2 : Int32) : PM (Int32) := x_bd (x_rR r0 8 0) fun v1 => x_bd (x_cV v1 3 (mX3_findCounter F v1 x1)) fun v5 => (if v5 = none then (x_pr (-2147483648 : Int32)) else (if x2 = 0 then x_bd (x_rI v5 1 3) fun v57 => (x_pr v57) else (if x2 = 1 then x_bd (x_rI r0 8 6) fun v63 => x_bd (x_cV v5 1 (mX1_isOpen F v5 v63)) fun v66 => x_bd (mX8_oneIf F v66) fun v69 => (x_pr v69) else (if x2 = 2 then x_bd (x_cV r0 8 (mX8_awaitedAt F r0 v5)) fun v76 => x_bd (x_rI v5 1 3) fun v80 => (x_pr (x_max (0 : Int32) (v76 - v80))) else (if x2 = 3 then x_bd (x_rI v5 1 4) fun v89 => (x_pr v89) else (if x2 = 4 then x_bd (x_rI v5 1 5) fun v94 => (x_pr v94) else (if x2 = 5 then x_bd (x_rR r0 8 0) fun v99 => x_bd (x_cV v99 3 (mX3_queuedAt F v99 v5)) fun v103 => (x_pr v103) else (x_pr (-2147483648 : Int32)))))))))
def mX8_count (F : Nat) (r0 : Option Nat) (x1 : Int32) : PM (Int32) := (if x1 = 0 then x_bd (x_rI r0 8 6) fun v49 => (x_pr v49) else (if x1 = 1 then x_bd (x_rR r0 8 0) fun v54 => x_bd (x_rI v54 3 0) fun v57 => (x_pr v57) else (if x1 = 2 then x_bd (x_rR r0 8 0) fun v62 => x_bd (x_rI v62 3 1) fun v65 => (x_pr v65) else (if x1 = 3 then x_bd (x_rI r0 8 4) fun v70 => (x_pr v70) else (if x1 = 4 then x_bd (x_rI r0 8 5) fun v75 => (x_pr v75) else (if x1 = 5 then x_bd (x_rI r0 8 8) fun v80 => (x_pr v80) else (if x1 = 6 then x_bd (x_rI r0 8 9) fun v85 => (x_pr v85) else (if x1 = 7 then x_bd (x_rI r0 8 10) fun v90 => (x_pr v90) else (x_pr (-1 : Int32))))))))))
def mX9_reckons_J (F : Nat) : Nat → Nat → Option Nat → Int32 → Int32 → Int32 → Int32 → Int32 → PM (Unit)
  | 0, _, _, _, _, _, _, _ => x_fl
  | n + 1, sel, y0, y1, y2, y3, y4, y5 => (if sel = 0 then (if y1 = 0 then (x_pr ()) else (mX9_reckons_J F n 1 y0 (0 : Int32) (0 : Int32) (0 : Int32) (0 : Int32) (0 : Int32))) else (if sel = 1 then x_bd (x_rI y0 9 7) fun v45 => (if v45 ≤ y2 then (mX9_reckons_J F n 0 y0 y1 (0 : Int32) (0 : Int32) (0 : Int32) (0 : Int32)) else (mX9_reckons_J F n 2 y0 y1 y2 (0 : Int32) (0 : Int32) (0 : Int32))) else (if sel = 2 then (if (10 : Int32) ≤ y3 then x_bd (x_pr (y2 + (1 : Int32))) fun (v185 : Int32) => (mX9_reckons_J F n 1 y0 y1 v185 (0 : Int32) (0 : Int32) (0 : Int32)) else x_bd (x_rR y0 9 8) fun v62 => x_bd (x_aI 0 v62 y2) fun v66 => x_bd (x_pr (((10 : Int32) * v66) + y3)) fun (v70 : Int32) => x_bd (x_rR y0 9 9) fun v75 => x_bd (x_aI 0 v75 y2) fun v79 => x_bd (x_pr (((10 : Int32) * v79) + y3)) fun (v83 : Int32) => x_bd (x_rR y0 9 13) fun v86 => x_bd (x_aI 0 v86 v83) fun v91 => x_bd (x_rR y0 9 10) fun v93 => x_bd (x_aI 0 v93 y2) fun v97 => x_bd (x_rR y0 9 13) fun v100 => x_bd (x_aI 0 v100 v70) fun v105 => (if v105 ≤ (v91 + v97) then (mX9_reckons_J F n 3 y0 y1 y2 y3 v70 v83) else x_bd (x_rR y0 9 13) fun v110 => x_bd (x_rR y0 9 13) fun v116 => x_bd (x_aI 0 v116 v83) fun v121 => x_bd (x_rR y0 9 10) fun v123 => x_bd (x_aI 0 v123 y2) fun v127 => x_bd (x_sI v110 v70 (v121 + v127)) fun _ => (mX9_reckons_J F n 3 y0 (1 : Int32) y2 y3 v70 v83))) else (if sel = 3 then x_bd (x_rR y0 9 13) fun v133 => x_bd (x_aI 0 v133 y4) fun v138 => x_bd (x_rR y0 9 10) fun v140 => x_bd (x_aI 0 v140 y2) fun v144 => x_bd (x_rR y0 9 13) fun v147 => x_bd (x_aI 0 v147 y5) fun v152 => (if v152 ≤ (v138 + v144) then x_bd (x_pr (y3 + (1 : Int32))) fun (v179 : Int32) => (mX9_reckons_J F n 2 y0 y1 y2 v179 (0 : Int32) (0 : Int32)) else x_bd (x_rR y0 9 13) fun v157 => x_bd (x_rR y0 9 13) fun v163 => x_bd (x_aI 0 v163 y4) fun v168 => x_bd (x_rR y0 9 10) fun v170 => x_bd (x_aI 0 v170 y2) fun v174 => x_bd (x_sI v157 y5 (v168 + v174)) fun _ => x_bd (x_pr (y3 + (1 : Int32))) fun (v179 : Int32) => (mX9_reckons_J F n 2 y0 (1 : Int32) y2 v179 (0 : Int32) (0 : Int32))) else x_fl))))
def mX9_reckons_2 (F : Nat) : Nat → Option Nat → Int32 → PM (Unit)
  | 0, _, _ => x_fl
  | n + 1, y0, y1 => (if (100 : Int32) ≤ y1 then (mX9_reckons_J F F 0 y0 (1 : Int32) (0 : Int32) (0 : Int32) (0 : Int32) (0 : Int32)) else x_bd (x_rR y0 9 13) fun v9 => (if (x_rem y1 (11 : Int32)) = 0 then x_bd (x_sI v9 y1 (0 : Int32)) fun _ => x_bd (x_pr (y1 + (1 : Int32))) fun (v27 : Int32) => (mX9_reckons_2 F n y0 v27) else x_bd (x_sI v9 y1 (1000000 : Int32)) fun _ => x_bd (x_pr (y1 + (1 : Int32))) fun (v27 : Int32) => (mX9_reckons_2 F n y0 v27)))
def mX9_reckons (F : Nat) (r0 : Option Nat) : PM (Unit) := (mX9_reckons_2 F F r0 (0 : Int32))
def mX9_init (F : Nat) (r0 : Option Nat) : PM (Unit) := x_bd (x_mA 0 (10 : Int32)) fun v7 => x_bd (x_wR r0 9 2 v7) fun _ => x_bd (x_mA 0 (10 : Int32)) fun v15 => x_bd (x_wR r0 9 3 v15) fun _ => x_bd (x_mA 0 (10 : Int32)) fun v23 => x_bd (x_wR r0 9 4 v23) fun _ => x_bd (x_mA 0 (10 : Int32)) fun v31 => x_bd (x_wR r0 9 5 v31) fun _ => x_bd (x_mA 0 (10 : Int32)) fun v39 => x_bd (x_wR r0 9 6 v39) fun _ => x_bd (x_mA 0 (15 : Int32)) fun v47 => x_bd (x_wR r0 9 8 v47) fun _ => x_bd (x_mA 0 (15 : Int32)) fun v55 => x_bd (x_wR r0 9 9 v55) fun _ => x_bd (x_mA 0 (15 : Int32)) fun v63 => x_bd (x_wR r0 9 10 v63) fun _ => x_bd (x_mA 0 (15 : Int32)) fun v71 => x_bd (x_wR r0 9 11 v71) fun _ => x_bd (x_mA 0 (15 : Int32)) fun v79 => x_bd (x_wR r0 9 12 v79) fun _ => x_bd (x_mA 0 (100 : Int32)) fun v87 => x_bd (x_wR r0 9 13 v87) fun _ => x_bd (x_mA 0 (8 : Int32)) fun v95 => x_bd (x_wR r0 9 15 v95) fun _ => x_bd (x_mA 0 (8 : Int32)) fun v103 => x_bd (x_wR r0 9 16 v103) fun _ => x_bd (x_mA 0 (200 : Int32)) fun v112 => x_bd (x_wR r0 9 18 v112) fun _ => x_bd (x_mA 0 (200 : Int32)) fun v121 => x_bd (x_wR r0 9 19 v121) fun _ => x_bd (x_mA 0 (200 : Int32)) fun v130 => x_bd (x_wR r0 9 20 v130) fun _ => x_bd (x_mA 0 (200 : Int32)) fun v139 => x_bd (x_wR r0 9 21 v139) fun _ => x_bd (x_mA 0 (200 : Int32)) fun v148 => x_bd (x_wR r0 9 22 v148) fun _ => x_bd (x_mA 1 (200 : Int32)) fun v157 => x_bd (x_wR r0 9 23 v157) fun _ => x_bd (x_mA 1 (200 : Int32)) fun v166 => x_bd (x_wR r0 9 24 v166) fun _ => x_bd (x_mA 1 (200 : Int32)) fun v175 => x_bd (x_wR r0 9 25 v175) fun _ => x_bd (x_mA 1 (200 : Int32)) fun v184 => x_bd (x_wR r0 9 26 v184) fun _ => x_bd (x_mA 1 (200 : Int32)) fun v193 => x_bd (x_wR r0 9 27 v193) fun _ => x_bd (x_mA 0 (200 : Int32)) fun v202 => x_bd (x_wR r0 9 28 v202) fun _ => x_bd (x_mA 0 (200 : Int32)) fun v211 => x_bd (x_wR r0 9 29 v211) fun _ => x_bd (x_mA 0 (1000 : Int32)) fun v220 => x_bd (x_wR r0 9 31 v220) fun _ => x_bd (x_mA 0 (1000 : Int32)) fun v229 => x_bd (x_wR r0 9 32 v229) fun _ => x_bd (x_mA 0 (1000 : Int32)) fun v238 => x_bd (x_wR r0 9 33 v238) fun _ => x_bd (x_mA 0 (1000 : Int32)) fun v247 => x_bd (x_wR r0 9 34 v247) fun _ => x_bd (x_mA 0 (1000 : Int32)) fun v256 => x_bd (x_wR r0 9 35 v256) fun _ => x_bd (x_mA 0 (1000 : Int32)) fun v265 => x_bd (x_wR r0 9 36 v265) fun _ => x_bd (x_mA 0 (1000 : Int32)) fun v274 => x_bd (x_wR r0 9 37 v274) fun _ => x_bd (x_mA 0 (1000 : Int32)) fun v283 => x_bd (x_wR r0 9 38 v283) fun _ => x_bd (x_mA 0 (1000 : Int32)) fun v292 => x_bd (x_wR r0 9 39 v292) fun _ => x_bd (x_mA 0 (1000 : Int32)) fun v301 => x_bd (x_wR r0 9 40 v301) fun _ => x_bd (x_mA 1 (1000 : Int32)) fun v310 => x_bd (x_wR r0 9 41 v310) fun _ => x_bd (x_mA 1 (1000 : Int32)) fun v319 => x_bd (x_wR r0 9 42 v319) fun _ => x_bd (x_mA 0 (1000 : Int32)) fun v328 => x_bd (x_wR r0 9 43 v328) fun _ => x_bd (x_mA 0 (1000 : Int32)) fun v337 => x_bd (x_wR r0 9 44 v337) fun _ => x_bd (x_mA 0 (13000 : Int32)) fun v346 => x_bd (x_wR r0 9 45 v346) fun _ => x_bd (x_cV r0 9 (mX9_reckons F r0)) fun _ => (x_pr ())
def mX9_in (F : Nat) (x0 : Int32) (x1 : Int32) (x2 : Int32) : PM (Int32) := (if x0 < x1 then (x_pr (0 : Int32)) else (if x2 < x0 then (x_pr (0 : Int32)) else (x_pr (1 : Int32))))
def mX9_isCounter (F : Nat) (r0 : Option Nat) (x1 : Int32) : PM (Int32) := x_bd (x_rI r0 9 1) fun v3 => x_bd (mX9_in F x1 (0 : Int32) (v3 - (1 : Int32))) fun v8 => (if v8 = 0 ∨ v8 = 1 then x_pr v8 else x_fl)
def mX9_isOrder (F : Nat) (r0 : Option Nat) (x1 : Int32) : PM (Int32) := x_bd (x_rI r0 9 17) fun v3 => x_bd (mX9_in F x1 (0 : Int32) (v3 - (1 : Int32))) fun v8 => (if v8 = 0 ∨ v8 = 1 then x_pr v8 else x_fl)
def mX9_counter (F : Nat) (r0 : Option Nat) (x1 : Int32) (x2 : Int32) (x3 : Int32) : PM (Int32) := x_bd (mX9_in F x1 (0 : Int32) (1000000 : Int32)) fun v4 => (if v4 = 0 then (x_pr (-1 : Int32)) else x_bd (mX9_in F x2 (0 : Int32) (1440 : Int32)) fun v15 => (if v15 = 0 then (x_pr (-1 : Int32)) else x_bd (mX9_in F x3 (x2 + (1 : Int32)) (1440 : Int32)) fun v28 => (if v28 = 0 then (x_pr (-1 : Int32)) else x_bd (x_rI r0 9 1) fun v35 => (if v35 = (10 : Int32) then (x_pr (-1 : Int32)) else x_bd (x_rR r0 9 2) fun v46 => x_bd (x_rI r0 9 1) fun v50 => x_bd (x_sI v46 v50 x1) fun _ => x_bd (x_rR r0 9 3) fun v56 => x_bd (x_rI r0 9 1) fun v60 => x_bd (x_sI v56 v60 x2) fun _ => x_bd (x_rR r0 9 4) fun v66 => x_bd (x_rI r0 9 1) fun v70 => x_bd (x_sI v66 v70 x3) fun _ => x_bd (x_rI r0 9 1) fun v77 => x_bd (x_wI r0 9 1 (v77 + (1 : Int32))) fun _ => x_bd (x_rI r0 9 1) fun v86 => (x_pr (v86 - (1 : Int32)))))))
def mX9_isOpen (F : Nat) (r0 : Option Nat) (x1 : Int32) : PM (Int32) := x_bd (x_rI r0 9 0) fun v1 => x_bd (x_rR r0 9 3) fun v9 => x_bd (x_aI 0 v9 x1) fun v13 => x_bd (x_rR r0 9 4) fun v15 => x_bd (x_aI 0 v15 x1) fun v19 => x_bd (mX9_in F (x_rem v1 (1440 : Int32)) v13 (v19 - (1 : Int32))) fun v22 => (if v22 = 0 ∨ v22 = 1 then x_pr v22 else x_fl)
def mX9_wire (F : Nat) (r0 : Option Nat) (x1 : Int32) (x2 : Int32) (x3 : Int32) : PM (Int32) := x_bd (x_cV r0 9 (mX9_isCounter F r0 x1)) fun v2 => (if v2 = 0 then (x_pr (-1 : Int32)) else x_bd (x_cV r0 9 (mX9_isCounter F r0 x2)) fun v10 => (if v10 = 0 then (x_pr (-1 : Int32)) else (if x1 = x2 then (x_pr (-1 : Int32)) else x_bd (mX9_in F x3 (1 : Int32) (60 : Int32)) fun v25 => (if v25 = 0 then (x_pr (-1 : Int32)) else x_bd (x_rI r0 9 7) fun v32 => (if v32 = (15 : Int32) then (x_pr (-1 : Int32)) else x_bd (x_rR r0 9 8) fun v43 => x_bd (x_rI r0 9 7) fun v47 => x_bd (x_sI v43 v47 x1) fun _ => x_bd (x_rR r0 9 9) fun v53 => x_bd (x_rI r0 9 7) fun v57 => x_bd (x_sI v53 v57 x2) fun _ => x_bd (x_rR r0 9 10) fun v63 => x_bd (x_rI r0 9 7) fun v67 => x_bd (x_sI v63 v67 x3) fun _ => x_bd (x_rI r0 9 7) fun v74 => x_bd (x_wI r0 9 7 (v74 + (1 : Int32))) fun _ => x_bd (x_cV r0 9 (mX9_reckons F r0)) fun _ => x_bd (x_rI r0 9 7) fun v87 => (x_pr (v87 - (1 : Int32))))))))
def mX9_down (F : Nat) (r0 : Option Nat) (x1 : Int32) (x2 : Int32) (x3 : Int32) : PM (Int32) := x_bd (x_rI r0 9 7) fun v3 => x_bd (mX9_in F x1 (0 : Int32) (v3 - (1 : Int32))) fun v8 => (if v8 = 0 then (x_pr (0 : Int32)) else x_bd (x_rI r0 9 0) fun v16 => (if x2 < v16 then (x_pr (0 : Int32)) else (if x2 < x3 then x_bd (x_rR r0 9 11) fun v30 => x_bd (x_sI v30 x1 x2) fun _ => x_bd (x_rR r0 9 12) fun v37 => x_bd (x_sI v37 x1 x3) fun _ => (x_pr (1 : Int32)) else (x_pr (0 : Int32)))))
def mX9_least (F : Nat) (r0 : Option Nat) (x1 : Int32) (x2 : Int32) : PM (Int32) := x_bd (x_cV r0 9 (mX9_isCounter F r0 x1)) fun v2 => (if v2 = 0 then (x_pr (-1 : Int32)) else x_bd (x_cV r0 9 (mX9_isCounter F r0 x2)) fun v10 => (if v10 = 0 then (x_pr (-1 : Int32)) else x_bd (x_rR r0 9 13) fun v19 => x_bd (x_aI 0 v19 (((10 : Int32) * x1) + x2)) fun v28 => (if v28 < (1000000 : Int32) then (x_pr v28) else (x_pr (-1 : Int32)))))
def mX9_otherEnd (F : Nat) (r0 : Option Nat) (x1 : Int32) (x2 : Int32) : PM (Int32) := x_bd (x_rR r0 9 8) fun v1 => x_bd (x_aI 0 v1 x1) fun v5 => (if v5 = x2 then x_bd (x_rR r0 9 9) fun v11 => x_bd (x_aI 0 v11 x1) fun v15 => (x_pr v15) else x_bd (x_rR r0 9 9) fun v20 => x_bd (x_aI 0 v20 x1) fun v24 => (if v24 = x2 then x_bd (x_rR r0 9 8) fun v30 => x_bd (x_aI 0 v30 x1) fun v34 => (x_pr v34) else (x_pr (-1 : Int32))))
def mX9_nextWire_5 (F : Nat) : Nat → Option Nat → Int32 → Int32 → Int32 → Int32 → PM (Int32)
  | 0, _, _, _, _, _ => x_fl
  | n + 1, y0, y1, y2, y3, y4 => x_bd (x_rI y0 9 7) fun v8 => (if v8 ≤ y4 then (x_pr y3) else x_bd (x_cV y0 9 (mX9_otherEnd F y0 y4 y1)) fun v18 => (if v18 = (-1 : Int32) then x_bd (x_pr (y4 + (1 : Int32))) fun (v102 : Int32) => (mX9_nextWire_5 F n y0 y1 y2 y3 v102) else x_bd (x_rR y0 9 13) fun v30 => x_bd (x_aI 0 v30 (((10 : Int32) * v18) + y2)) fun v40 => (if (1000000 : Int32) ≤ v40 then x_bd (x_pr (y4 + (1 : Int32))) fun (v102 : Int32) => (mX9_nextWire_5 F n y0 y1 y2 y3 v102) else x_bd (x_rR y0 9 10) fun v47 => x_bd (x_aI 0 v47 y4) fun v52 => x_bd (x_rR y0 9 13) fun v54 => x_bd (x_aI 0 v54 (((10 : Int32) * v18) + y2)) fun v64 => x_bd (x_rR y0 9 13) fun v67 => x_bd (x_aI 0 v67 (((10 : Int32) * y1) + y2)) fun v76 => (if (v52 + v64) = v76 then (if y3 = (-1 : Int32) then x_bd (x_pr (y4 + (1 : Int32))) fun (v102 : Int32) => (mX9_nextWire_5 F n y0 y1 y2 y4 v102) else x_bd (x_cV y0 9 (mX9_otherEnd F y0 y3 y1)) fun v93 => (if v93 ≤ v18 then x_bd (x_pr (y4 + (1 : Int32))) fun (v102 : Int32) => (mX9_nextWire_5 F n y0 y1 y2 y3 v102) else x_bd (x_pr (y4 + (1 : Int32))) fun (v102 : Int32) => (mX9_nextWire_5 F n y0 y1 y2 y4 v102))) else x_bd (x_pr (y4 + (1 : Int32))) fun (v102 : Int32) => (mX9_nextWire_5 F n y0 y1 y2 y3 v102)))))
def mX9_nextWire (F : Nat) (r0 : Option Nat) (x1 : Int32) (x2 : Int32) : PM (Int32) := (mX9_nextWire_5 F F r0 x1 x2 (-1 : Int32) (0 : Int32))
def mX9_band_54 (F : Nat) (y0 : Option Nat) (y1 : Int32) (y2 : Int32) : PM (Int32) := x_bd (x_rR y0 9 15) fun v55 => x_bd (x_rI y0 9 14) fun v59 => x_bd (x_sI v55 v59 y1) fun _ => x_bd (x_rR y0 9 16) fun v65 => x_bd (x_rI y0 9 14) fun v69 => x_bd (x_sI v65 v69 y2) fun _ => x_bd (x_rI y0 9 14) fun v76 => x_bd (x_wI y0 9 14 (v76 + (1 : Int32))) fun _ => (x_pr (1 : Int32))
def mX9_band (F : Nat) (r0 : Option Nat) (x1 : Int32) (x2 : Int32) : PM (Int32) := x_bd (mX9_in F x1 (1 : Int32) (99999 : Int32)) fun v4 => (if v4 = 0 then (x_pr (0 : Int32)) else x_bd (mX9_in F x2 (0 : Int32) (1000 : Int32)) fun v15 => (if v15 = 0 then (x_pr (0 : Int32)) else x_bd (x_rI r0 9 14) fun v22 => (if v22 = (8 : Int32) then (x_pr (0 : Int32)) else x_bd (x_rI r0 9 14) fun v31 => (if v31 ≤ 0 then (mX9_band_54 F r0 x1 x2) else x_bd (x_rR r0 9 15) fun v39 => x_bd (x_rI r0 9 14) fun v43 => x_bd (x_aI 0 v39 (v43 - (1 : Int32))) fun v48 => (if v48 < x1 then (mX9_band_54 F r0 x1 x2) else (x_pr (0 : Int32)))))))
def mX9_fee_14 (F : Nat) : Nat → Option Nat → Int32 → Int32 → PM (Int32)
  | 0, _, _, _ => x_fl
  | n + 1, y0, y1, y2 => x_bd (x_rI y0 9 14) fun v16 => (if v16 ≤ y2 then (if (100 : Int32) ≤ y1 then (x_pr (y1 / (100 : Int32))) else (x_pr (1 : Int32))) else x_bd (x_rR y0 9 15) fun v24 => x_bd (x_aI 0 v24 y2) fun v28 => (if v28 < y1 then x_bd (x_pr (y2 + (1 : Int32))) fun (v39 : Int32) => (mX9_fee_14 F n y0 y1 v39) else x_bd (x_rR y0 9 16) fun v33 => x_bd (x_aI 0 v33 y2) fun v37 => (x_pr v37)))
def mX9_fee (F : Nat) (r0 : Option Nat) (x1 : Int32) : PM (Int32) := x_bd (mX9_in F x1 (1 : Int32) (99999 : Int32)) fun v4 => (if v4 = 0 then (x_pr (-1 : Int32)) else (mX9_fee_14 F F r0 x1 (0 : Int32)))
def mX9_weight (F : Nat) (x0 : Int32) (x1 : Int32) : PM (Int32) := (x_pr ((1 : Int32) + (x_rem (((7 : Int32) * x1) + ((13 : Int32) * x0)) (96 : Int32))))
def mX9_testOf_4 (F : Nat) : Nat → Option Nat → Int32 → Int32 → Int32 → PM (Int32)
  | 0, _, _, _, _ => x_fl
  | n + 1, y0, y1, y2, y3 => (if (13 : Int32) ≤ y3 then (x_pr (x_rem y2 (97 : Int32))) else x_bd (x_rR y0 9 45) fun v12 => x_bd (x_aI 0 v12 (((13 : Int32) * y1) + y3)) fun v21 => x_bd (x_rR y0 9 44) fun v24 => x_bd (x_aI 0 v24 y1) fun v28 => x_bd (mX9_weight F y3 v28) fun v29 => x_bd (x_pr (y2 + (v21 * v29))) fun (v34 : Int32) => x_bd (x_pr (y3 + (1 : Int32))) fun (v35 : Int32) => (mX9_testOf_4 F n y0 y1 v34 v35))
def mX9_testOf (F : Nat) (r0 : Option Nat) (x1 : Int32) : PM (Int32) := (mX9_testOf_4 F F r0 x1 (0 : Int32) (0 : Int32))
def mX9_digit_4 (F : Nat) : Nat → Int32 → Int32 → Int32 → PM (Int32)
  | 0, _, _, _ => x_fl
  | n + 1, y1, y2, y3 => (if y1 ≤ y3 then (x_pr (x_rem y2 (10 : Int32))) else x_bd (x_pr (y2 / (10 : Int32))) fun (v13 : Int32) => x_bd (x_pr (y3 + (1 : Int32))) fun (v14 : Int32) => (mX9_digit_4 F n y1 v13 v14))
def mX9_digit (F : Nat) (x0 : Int32) (x1 : Int32) : PM (Int32) := (mX9_digit_4 F F x1 x0 (0 : Int32))
def mX9_queues (F : Nat) (r0 : Option Nat) (x1 : Int32) (x2 : Int32) : PM (Unit) := x_bd (x_rR r0 9 35) fun v1 => x_bd (x_sI v1 x1 (0 : Int32)) fun _ => x_bd (x_rR r0 9 36) fun v8 => x_bd (x_sI v8 x1 x2) fun _ => x_bd (x_rR r0 9 37) fun v15 => x_bd (x_rR r0 9 34) fun v22 => x_bd (x_aI 0 v22 x1) fun v26 => x_bd (x_cV r0 9 (mX9_nextWire F r0 x2 v26)) fun v27 => x_bd (x_sI v15 x1 v27) fun _ => x_bd (x_rR r0 9 38) fun v32 => x_bd (x_rI r0 9 46) fun v37 => x_bd (x_sI v32 x1 v37) fun _ => x_bd (x_rI r0 9 46) fun v43 => x_bd (x_wI r0 9 46 (v43 + (1 : Int32))) fun _ => (x_pr ())
def mX9_writes_91 (F : Nat) : Nat → Option Nat → Int32 → Int32 → Int32 → Int32 → PM (Int32)
  | 0, _, _, _, _, _ => x_fl
  | n + 1, y0, y2, y3, y5, y6 => (if (13 : Int32) ≤ y6 then x_bd (x_rR y0 9 43) fun v173 => x_bd (x_cV y0 9 (mX9_testOf F y0 y5)) fun v181 => x_bd (x_sI v173 y5 v181) fun _ => x_bd (x_rR y0 9 29) fun v186 => x_bd (x_aI 0 v186 y2) fun v191 => x_bd (x_sI v186 y2 (v191 + (1 : Int32))) fun _ => x_bd (x_cV y0 9 (mX9_queues F y0 y5 y3)) fun _ => (x_pr y5) else x_bd (x_rR y0 9 45) fun v99 => (if (4 : Int32) ≤ y6 then (if (9 : Int32) ≤ y6 then x_bd (x_rR y0 9 21) fun v152 => x_bd (x_aI 0 v152 y2) fun v156 => x_bd (mX9_digit F v156 ((12 : Int32) - y6)) fun v162 => x_bd (x_sI v99 (((13 : Int32) * y5) + y6) v162) fun _ => x_bd (x_pr (y6 + (1 : Int32))) fun (v166 : Int32) => (mX9_writes_91 F n y0 y2 y3 y5 v166) else x_bd (x_rR y0 9 20) fun v135 => x_bd (x_aI 0 v135 y2) fun v139 => x_bd (mX9_digit F v139 ((8 : Int32) - y6)) fun v145 => x_bd (x_sI v99 (((13 : Int32) * y5) + y6) v145) fun _ => x_bd (x_pr (y6 + (1 : Int32))) fun (v166 : Int32) => (mX9_writes_91 F n y0 y2 y3 y5 v166)) else x_bd (mX9_digit F y2 ((3 : Int32) - y6)) fun v121 => x_bd (x_sI v99 (((13 : Int32) * y5) + y6) v121) fun _ => x_bd (x_pr (y6 + (1 : Int32))) fun (v166 : Int32) => (mX9_writes_91 F n y0 y2 y3 y5 v166)))
def mX9_writes (F : Nat) (r0 : Option Nat) (x1 : Int32) (x2 : Int32) (x3 : Int32) (x4 : Int32) : PM (Int32) := x_bd (x_rI r0 9 30) fun v1 => (if v1 = (1000 : Int32) then (x_pr (-1 : Int32)) else x_bd (x_rI r0 9 30) fun v13 => x_bd (x_rR r0 9 31) fun v19 => x_bd (x_sI v19 v13 x1) fun _ => x_bd (x_rR r0 9 32) fun v27 => x_bd (x_sI v27 v13 x2) fun _ => x_bd (x_rR r0 9 33) fun v35 => x_bd (x_sI v35 v13 x3) fun _ => x_bd (x_rR r0 9 34) fun v43 => x_bd (x_sI v43 v13 x4) fun _ => x_bd (x_rR r0 9 40) fun v52 => x_bd (x_sI v52 v13 (-1 : Int32)) fun _ => x_bd (x_rI r0 9 30) fun v61 => x_bd (x_wI r0 9 30 (v61 + (1 : Int32))) fun _ => (if x1 = 0 then x_bd (x_rR r0 9 44) fun v74 => x_bd (x_rI r0 9 0) fun v80 => x_bd (x_sI v74 v13 (v80 / (1440 : Int32))) fun _ => (mX9_writes_91 F F r0 x2 x3 v13 (0 : Int32)) else x_bd (x_cV r0 9 (mX9_queues F r0 v13 x3)) fun _ => (x_pr v13)))
def mX9_order (F : Nat) (r0 : Option Nat) (x1 : Int32) (x2 : Int32) (x3 : Int32) (x4 : Int32) : PM (Int32) := x_bd (x_cV r0 9 (mX9_isCounter F r0 x1)) fun v2 => (if v2 = 0 then (x_pr (-1 : Int32)) else x_bd (x_cV r0 9 (mX9_isCounter F r0 x2)) fun v10 => (if v10 = 0 then (x_pr (-1 : Int32)) else (if x1 = x2 then (x_pr (-1 : Int32)) else x_bd (x_cV r0 9 (mX9_least F r0 x1 x2)) fun v24 => (if v24 = (-1 : Int32) then (x_pr (-1 : Int32)) else x_bd (mX9_in F x3 (1 : Int32) (99999 : Int32)) fun v35 => (if v35 = 0 then (x_pr (-1 : Int32)) else x_bd (mX9_in F x4 (0 : Int32) (9999 : Int32)) fun v47 => (if v47 = 0 then (x_pr (-1 : Int32)) else x_bd (x_cV r0 9 (mX9_isOpen F r0 x1)) fun v57 => (if v57 = 0 then (x_pr (-1 : Int32)) else x_bd (x_rI r0 9 17) fun v64 => (if v64 = (200 : Int32) then (x_pr (-1 : Int32)) else x_bd (x_rI r0 9 30) fun v74 => (if v74 = (1000 : Int32) then (x_pr (-1 : Int32)) else x_bd (x_rI r0 9 17) fun v86 => x_bd (x_rR r0 9 18) fun v92 => x_bd (x_sI v92 v86 x1) fun _ => x_bd (x_rR r0 9 19) fun v100 => x_bd (x_sI v100 v86 x2) fun _ => x_bd (x_rR r0 9 20) fun v108 => x_bd (x_sI v108 v86 x3) fun _ => x_bd (x_rR r0 9 21) fun v116 => x_bd (x_sI v116 v86 x4) fun _ => x_bd (x_rR r0 9 22) fun v125 => x_bd (x_cV r0 9 (mX9_fee F r0 x3)) fun v132 => x_bd (x_sI v125 v86 v132) fun _ => x_bd (x_rR r0 9 28) fun v137 => x_bd (x_sI v137 v86 (-1 : Int32)) fun _ => x_bd (x_rI r0 9 17) fun v146 => x_bd (x_wI r0 9 17 (v146 + (1 : Int32))) fun _ => x_bd (x_rR r0 9 2) fun v155 => x_bd (x_aI 0 v155 x1) fun v160 => x_bd (x_rR r0 9 22) fun v163 => x_bd (x_aI 0 v163 v86) fun v168 => x_bd (x_sI v155 x1 (v160 + (x3 + v168))) fun _ => x_bd (x_rR r0 9 5) fun v173 => x_bd (x_aI 0 v173 x1) fun v178 => x_bd (x_rR r0 9 22) fun v180 => x_bd (x_aI 0 v180 v86) fun v185 => x_bd (x_sI v173 x1 (v178 + v185)) fun _ => x_bd (x_cV r0 9 (mX9_writes F r0 (0 : Int32) v86 x1 x2)) fun v194 => (x_pr v86))))))))))
def mX9_stop (F : Nat) (r0 : Option Nat) (x1 : Int32) : PM (Int32) := x_bd (x_cV r0 9 (mX9_isOrder F r0 x1)) fun v2 => (if v2 = 0 then (x_pr (-1 : Int32)) else x_bd (x_rR r0 9 27) fun v9 => x_bd (x_aI 1 v9 x1) fun v13 => (if v13 = 0 then x_bd (x_rI r0 9 30) fun v18 => (if v18 = (1000 : Int32) then (x_pr (-1 : Int32)) else x_bd (x_rR r0 9 27) fun v30 => x_bd (x_sZ v30 x1 (1 : Int32)) fun _ => x_bd (x_rR r0 9 18) fun v40 => x_bd (x_aI 0 v40 x1) fun v44 => x_bd (x_rR r0 9 19) fun v46 => x_bd (x_aI 0 v46 x1) fun v50 => x_bd (x_cV r0 9 (mX9_writes F r0 (1 : Int32) x1 v44 v50)) fun v51 => (x_pr v51)) else (x_pr (-1 : Int32))))
def mX9_pay (F : Nat) (r0 : Option Nat) (x1 : Int32) (x2 : Int32) : PM (Int32) := x_bd (x_cV r0 9 (mX9_isOrder F r0 x1)) fun v2 => (if v2 = 0 then (x_pr (1 : Int32)) else x_bd (x_rR r0 9 23) fun v9 => x_bd (x_aI 1 v9 x1) fun v13 => (if v13 = 0 then (x_pr (1 : Int32)) else x_bd (x_rR r0 9 24) fun v20 => x_bd (x_aI 1 v20 x1) fun v24 => (if v24 = 0 then x_bd (x_rR r0 9 25) fun v31 => x_bd (x_aI 1 v31 x1) fun v35 => (if v35 = 0 then x_bd (x_rR r0 9 19) fun v43 => x_bd (x_aI 0 v43 x1) fun v47 => x_bd (x_cV r0 9 (mX9_isOpen F r0 v47)) fun v48 => (if v48 = 0 then (x_pr (4 : Int32)) else x_bd (x_rR r0 9 21) fun v57 => x_bd (x_aI 0 v57 x1) fun v61 => (if v61 = x2 then x_bd (x_rR r0 9 2) fun v69 => x_bd (x_rR r0 9 19) fun v73 => x_bd (x_aI 0 v73 x1) fun v77 => x_bd (x_aI 0 v69 v77) fun v78 => x_bd (x_rR r0 9 20) fun v80 => x_bd (x_aI 0 v80 x1) fun v84 => (if v84 ≤ v78 then x_bd (x_rR r0 9 2) fun v92 => x_bd (x_rR r0 9 19) fun v96 => x_bd (x_aI 0 v96 x1) fun v100 => x_bd (x_aI 0 v92 v100) fun v102 => x_bd (x_rR r0 9 20) fun v104 => x_bd (x_aI 0 v104 x1) fun v108 => x_bd (x_sI v92 v100 (v102 - v108)) fun _ => x_bd (x_rR r0 9 6) fun v112 => x_bd (x_rR r0 9 19) fun v116 => x_bd (x_aI 0 v116 x1) fun v120 => x_bd (x_aI 0 v112 v120) fun v122 => x_bd (x_rR r0 9 20) fun v124 => x_bd (x_aI 0 v124 x1) fun v128 => x_bd (x_sI v112 v120 (v122 + v128)) fun _ => x_bd (x_rR r0 9 6) fun v132 => x_bd (x_rR r0 9 18) fun v136 => x_bd (x_aI 0 v136 x1) fun v140 => x_bd (x_aI 0 v132 v140) fun v142 => x_bd (x_rR r0 9 20) fun v144 => x_bd (x_aI 0 v144 x1) fun v148 => x_bd (x_sI v132 v140 (v142 - v148)) fun _ => x_bd (x_rR r0 9 24) fun v152 => x_bd (x_sZ v152 x1 (1 : Int32)) fun _ => x_bd (x_rR r0 9 28) fun v159 => x_bd (x_rI r0 9 0) fun v164 => x_bd (x_sI v159 x1 v164) fun _ => x_bd (x_rI r0 9 48) fun v170 => x_bd (x_wI r0 9 48 (v170 + (1 : Int32))) fun _ => (x_pr (0 : Int32)) else (x_pr (6 : Int32))) else (x_pr (5 : Int32)))) else (x_pr (3 : Int32))) else (x_pr (2 : Int32)))))
def mX9_cart (F : Nat) (r0 : Option Nat) (x1 : Int32) (x2 : Int32) (x3 : Int32) : PM (Int32) := x_bd (x_cV r0 9 (mX9_isCounter F r0 x1)) fun v2 => (if v2 = 0 then (x_pr (0 : Int32)) else x_bd (x_cV r0 9 (mX9_isCounter F r0 x2)) fun v10 => (if v10 = 0 then (x_pr (0 : Int32)) else (if x1 = x2 then (x_pr (0 : Int32)) else x_bd (x_rR r0 9 2) fun v24 => x_bd (x_aI 0 v24 x1) fun v28 => x_bd (mX9_in F x3 (1 : Int32) v28) fun v29 => (if v29 = 0 then (x_pr (0 : Int32)) else x_bd (x_rR r0 9 2) fun v38 => x_bd (x_aI 0 v38 x1) fun v43 => x_bd (x_sI v38 x1 (v43 - x3)) fun _ => x_bd (x_rR r0 9 2) fun v48 => x_bd (x_aI 0 v48 x2) fun v53 => x_bd (x_sI v48 x2 (v53 + x3)) fun _ => x_bd (x_rR r0 9 6) fun v58 => x_bd (x_aI 0 v58 x1) fun v63 => x_bd (x_sI v58 x1 (v63 + x3)) fun _ => x_bd (x_rR r0 9 6) fun v68 => x_bd (x_aI 0 v68 x2) fun v73 => x_bd (x_sI v68 x2 (v73 - x3)) fun _ => (x_pr (1 : Int32))))))
def mX9_isPayment (F : Nat) (r0 : Option Nat) (x1 : Int32) : PM (Int32) := x_bd (x_rI r0 9 30) fun v3 => x_bd (mX9_in F x1 (0 : Int32) (v3 - (1 : Int32))) fun v8 => (if v8 = 0 then (x_pr (0 : Int32)) else x_bd (x_rR r0 9 31) fun v15 => x_bd (x_aI 0 v15 x1) fun v19 => (if v19 = 0 then (x_pr (1 : Int32)) else (x_pr (0 : Int32))))
def mX9_garble (F : Nat) (r0 : Option Nat) (x1 : Int32) (x2 : Int32) (x3 : Int32) : PM (Int32) := x_bd (x_cV r0 9 (mX9_isPayment F r0 x1)) fun v2 => (if v2 = 0 then (x_pr (0 : Int32)) else x_bd (x_rR r0 9 35) fun v9 => x_bd (x_aI 0 v9 x1) fun v13 => (if v13 = (2 : Int32) then (x_pr (0 : Int32)) else x_bd (x_rR r0 9 42) fun v19 => x_bd (x_aI 1 v19 x1) fun v23 => (if v23 = 0 then x_bd (mX9_in F x2 (0 : Int32) (12 : Int32)) fun v31 => (if v31 = 0 then (x_pr (0 : Int32)) else x_bd (mX9_in F x3 (0 : Int32) (9 : Int32)) fun v41 => (if v41 = 0 then (x_pr (0 : Int32)) else x_bd (x_rR r0 9 45) fun v50 => x_bd (x_aI 0 v50 (((13 : Int32) * x1) + x2)) fun v59 => (if v59 = x3 then (x_pr (0 : Int32)) else x_bd (x_rR r0 9 45) fun v67 => x_bd (x_sI v67 (((13 : Int32) * x1) + x2) x3) fun _ => x_bd (x_rR r0 9 42) fun v79 => x_bd (x_sZ v79 x1 (1 : Int32)) fun _ => (x_pr (1 : Int32))))) else (x_pr (0 : Int32)))))
def mX9_reads (F : Nat) (r0 : Option Nat) (x1 : Int32) : PM (Unit) := x_bd (x_rR r0 9 32) fun v1 => x_bd (x_aI 0 v1 x1) fun v5 => x_bd (x_rR r0 9 35) fun v8 => x_bd (x_sI v8 x1 (2 : Int32)) fun _ => x_bd (x_rR r0 9 36) fun v15 => x_bd (x_rR r0 9 34) fun v20 => x_bd (x_aI 0 v20 x1) fun v24 => x_bd (x_sI v15 x1 v24) fun _ => x_bd (x_rR r0 9 40) fun v27 => x_bd (x_rI r0 9 0) fun v32 => x_bd (x_sI v27 x1 v32) fun _ => x_bd (x_rR r0 9 31) fun v37 => x_bd (x_aI 0 v37 x1) fun v41 => (if v41 = 0 then x_bd (x_cV r0 9 (mX9_testOf F r0 x1)) fun v47 => x_bd (x_rR r0 9 43) fun v51 => x_bd (x_aI 0 v51 x1) fun v55 => (if v47 = v55 then x_bd (x_rR r0 9 25) fun v99 => x_bd (x_aI 1 v99 v5) fun v103 => (if v103 = 0 then x_bd (x_rR r0 9 23) fun v108 => x_bd (x_sZ v108 v5 (1 : Int32)) fun _ => (x_pr ()) else (x_pr ())) else x_bd (x_rR r0 9 41) fun v60 => x_bd (x_sZ v60 x1 (1 : Int32)) fun _ => x_bd (x_rI r0 9 47) fun v68 => x_bd (x_wI r0 9 47 (v68 + (1 : Int32))) fun _ => x_bd (x_rR r0 9 19) fun v80 => x_bd (x_aI 0 v80 v5) fun v84 => x_bd (x_rR r0 9 18) fun v86 => x_bd (x_aI 0 v86 v5) fun v90 => x_bd (x_cV r0 9 (mX9_writes F r0 (3 : Int32) v5 v84 v90)) fun v91 => (x_pr ())) else x_bd (x_rR r0 9 31) fun v118 => x_bd (x_aI 0 v118 x1) fun v122 => (if v122 = (3 : Int32) then x_bd (x_rR r0 9 24) fun v128 => x_bd (x_aI 1 v128 v5) fun v132 => (if v132 = 0 then x_bd (x_rR r0 9 25) fun v137 => x_bd (x_aI 1 v137 v5) fun v141 => (if v141 = 0 then x_bd (x_rR r0 9 18) fun v149 => x_bd (x_aI 0 v149 v5) fun v153 => x_bd (x_rR r0 9 19) fun v155 => x_bd (x_aI 0 v155 v5) fun v159 => x_bd (x_cV r0 9 (mX9_writes F r0 (0 : Int32) v5 v153 v159)) fun v160 => (x_pr ()) else (x_pr ())) else (x_pr ())) else x_bd (x_rR r0 9 31) fun v168 => x_bd (x_aI 0 v168 x1) fun v172 => (if v172 = (1 : Int32) then x_bd (x_rR r0 9 24) fun v178 => x_bd (x_aI 1 v178 v5) fun v182 => (if v182 = 0 then x_bd (x_rR r0 9 25) fun v200 => x_bd (x_sZ v200 v5 (1 : Int32)) fun _ => x_bd (x_rR r0 9 19) fun v210 => x_bd (x_aI 0 v210 v5) fun v214 => x_bd (x_rR r0 9 18) fun v216 => x_bd (x_aI 0 v216 v5) fun v220 => x_bd (x_cV r0 9 (mX9_writes F r0 (2 : Int32) v5 v214 v220)) fun v221 => (x_pr ()) else x_bd (x_rI r0 9 49) fun v188 => x_bd (x_wI r0 9 49 (v188 + (1 : Int32))) fun _ => (x_pr ())) else x_bd (x_rR r0 9 2) fun v229 => x_bd (x_rR r0 9 18) fun v233 => x_bd (x_aI 0 v233 v5) fun v237 => x_bd (x_aI 0 v229 v237) fun v239 => x_bd (x_rR r0 9 20) fun v241 => x_bd (x_aI 0 v241 v5) fun v245 => x_bd (x_sI v229 v237 (v239 - v245)) fun _ => x_bd (x_rR r0 9 26) fun v249 => x_bd (x_sZ v249 v5 (1 : Int32)) fun _ => (x_pr ()))))
def mX9_firstOf_5 (F : Nat) : Nat → Option Nat → Int32 → Int32 → Int32 → Int32 → PM (Int32)
  | 0, _, _, _, _, _ => x_fl
  | n + 1, y0, y1, y2, y3, y4 => x_bd (x_rI y0 9 30) fun v8 => (if v8 ≤ y4 then (x_pr y3) else x_bd (x_rR y0 9 35) fun v15 => x_bd (x_aI 0 v15 y4) fun v20 => (if v20 = 0 then x_bd (x_rR y0 9 37) fun v25 => x_bd (x_aI 0 v25 y4) fun v30 => (if v30 = y1 then x_bd (x_rR y0 9 36) fun v36 => x_bd (x_aI 0 v36 y4) fun v41 => (if v41 = y2 then (if y3 = (-1 : Int32) then x_bd (x_pr (y4 + (1 : Int32))) fun (v73 : Int32) => (mX9_firstOf_5 F n y0 y1 y2 y4 v73) else x_bd (x_rR y0 9 38) fun v55 => x_bd (x_aI 0 v55 y4) fun v60 => x_bd (x_rR y0 9 38) fun v62 => x_bd (x_aI 0 v62 y3) fun v66 => (if v66 ≤ v60 then x_bd (x_pr (y4 + (1 : Int32))) fun (v73 : Int32) => (mX9_firstOf_5 F n y0 y1 y2 y3 v73) else x_bd (x_pr (y4 + (1 : Int32))) fun (v73 : Int32) => (mX9_firstOf_5 F n y0 y1 y2 y4 v73))) else x_bd (x_pr (y4 + (1 : Int32))) fun (v73 : Int32) => (mX9_firstOf_5 F n y0 y1 y2 y3 v73)) else x_bd (x_pr (y4 + (1 : Int32))) fun (v73 : Int32) => (mX9_firstOf_5 F n y0 y1 y2 y3 v73)) else x_bd (x_pr (y4 + (1 : Int32))) fun (v73 : Int32) => (mX9_firstOf_5 F n y0 y1 y2 y3 v73)))
def mX9_firstOf (F : Nat) (r0 : Option Nat) (x1 : Int32) (x2 : Int32) : PM (Int32) := (mX9_firstOf_5 F F r0 x1 x2 (-1 : Int32) (0 : Int32))
def mX9_setsOut (F : Nat) (r0 : Option Nat) (x1 : Int32) (x2 : Int32) : PM (Unit) := x_bd (x_cV r0 9 (mX9_firstOf F r0 x1 x2)) fun v3 => (if v3 = (-1 : Int32) then (x_pr ()) else x_bd (x_rR r0 9 35) fun v14 => x_bd (x_sI v14 v3 (1 : Int32)) fun _ => x_bd (x_rR r0 9 39) fun v21 => x_bd (x_rI r0 9 0) fun v26 => x_bd (x_rR r0 9 10) fun v30 => x_bd (x_aI 0 v30 x1) fun v34 => x_bd (x_sI v21 v3 (v26 + v34)) fun _ => x_bd (x_rR r0 9 36) fun v38 => x_bd (x_cV r0 9 (mX9_otherEnd F r0 x1 x2)) fun v45 => x_bd (x_sI v38 v3 v45) fun _ => (x_pr ()))
def mX9_minute_80 (F : Nat) : Nat → Option Nat → Int32 → PM (Unit)
  | 0, _, _ => x_fl
  | n + 1, y0, y2 => x_bd (x_rI y0 9 7) fun v82 => (if v82 ≤ y2 then x_bd (x_rI y0 9 0) fun v145 => x_bd (x_wI y0 9 0 (v145 + (1 : Int32))) fun _ => (x_pr ()) else x_bd (x_rI y0 9 0) fun v89 => x_bd (x_rR y0 9 11) fun v93 => x_bd (x_aI 0 v93 y2) fun v97 => x_bd (x_rR y0 9 12) fun v99 => x_bd (x_aI 0 v99 y2) fun v103 => x_bd (mX9_in F v89 v97 (v103 - (1 : Int32))) fun v106 => (if v106 = 0 then x_bd (x_rR y0 9 8) fun v118 => x_bd (x_aI 0 v118 y2) fun v122 => x_bd (x_cV y0 9 (mX9_setsOut F y0 y2 v122)) fun _ => x_bd (x_rR y0 9 9) fun v129 => x_bd (x_aI 0 v129 y2) fun v133 => x_bd (x_cV y0 9 (mX9_setsOut F y0 y2 v133)) fun _ => x_bd (x_pr (y2 + (1 : Int32))) fun (v137 : Int32) => (mX9_minute_80 F n y0 v137) else x_bd (x_pr (y2 + (1 : Int32))) fun (v137 : Int32) => (mX9_minute_80 F n y0 v137)))
def mX9_minute_7 (F : Nat) : Nat → Option Nat → Int32 → Int32 → PM (Unit)
  | 0, _, _, _ => x_fl
  | n + 1, y0, y1, y2 => (if y1 ≤ y2 then (mX9_minute_80 F F y0 (0 : Int32)) else x_bd (x_rR y0 9 35) fun v13 => x_bd (x_aI 0 v13 y2) fun v17 => (if v17 = (1 : Int32) then x_bd (x_rR y0 9 39) fun v23 => x_bd (x_aI 0 v23 y2) fun v27 => x_bd (x_rI y0 9 0) fun v29 => (if v27 = v29 then x_bd (x_rR y0 9 36) fun v39 => x_bd (x_aI 0 v39 y2) fun v43 => x_bd (x_rR y0 9 34) fun v45 => x_bd (x_aI 0 v45 y2) fun v49 => (if v43 = v49 then x_bd (x_cV y0 9 (mX9_reads F y0 y2)) fun _ => x_bd (x_pr (y2 + (1 : Int32))) fun (v72 : Int32) => (mX9_minute_7 F n y0 y1 v72) else x_bd (x_rR y0 9 36) fun v64 => x_bd (x_aI 0 v64 y2) fun v68 => x_bd (x_cV y0 9 (mX9_queues F y0 y2 v68)) fun _ => x_bd (x_pr (y2 + (1 : Int32))) fun (v72 : Int32) => (mX9_minute_7 F n y0 y1 v72)) else x_bd (x_pr (y2 + (1 : Int32))) fun (v72 : Int32) => (mX9_minute_7 F n y0 y1 v72)) else x_bd (x_pr (y2 + (1 : Int32))) fun (v72 : Int32) => (mX9_minute_7 F n y0 y1 v72)))
def mX9_minute (F : Nat) (r0 : Option Nat) : PM (Unit) := x_bd (x_rI r0 9 30) fun v1 => (mX9_minute_7 F F r0 v1 (0 : Int32))
def mX9_go_15 (F : Nat) : Nat → Option Nat → Int32 → Int32 → PM (Int32)
  | 0, _, _, _ => x_fl
  | n + 1, y0, y1, y2 => (if y1 ≤ y2 then x_bd (x_rI y0 9 0) fun v41 => (x_pr v41) else x_bd (x_rI y0 9 0) fun v21 => (if (20000 : Int32) ≤ v21 then x_bd (x_rI y0 9 0) fun v41 => (x_pr v41) else x_bd (x_cV y0 9 (mX9_minute F y0)) fun _ => x_bd (x_pr (y2 + (1 : Int32))) fun (v34 : Int32) => (mX9_go_15 F n y0 y1 v34)))
def mX9_go (F : Nat) (r0 : Option Nat) (x1 : Int32) : PM (Int32) := x_bd (mX9_in F x1 (0 : Int32) (2000 : Int32)) fun v5 => (if v5 = 0 then (x_pr (-1 : Int32)) else (mX9_go_15 F F r0 x1 (0 : Int32)))
def mX9_sign (F : Nat) (r0 : Option Nat) (x1 : Int32) (x2 : Int32) : PM (Int32) := x_bd (x_cV r0 9 (mX9_isPayment F r0 x1)) fun v2 => (if v2 = 0 then (x_pr (-1 : Int32)) else x_bd (mX9_in F x2 (0 : Int32) (13 : Int32)) fun v12 => (if v12 = 0 then (x_pr (-1 : Int32)) else (if x2 = (13 : Int32) then x_bd (x_rR r0 9 43) fun v27 => x_bd (x_aI 0 v27 x1) fun v31 => (x_pr v31) else x_bd (x_rR r0 9 45) fun v36 => x_bd (x_aI 0 v36 (((13 : Int32) * x1) + x2)) fun v45 => (x_pr v45))))
def mX9_message (F : Nat) (r0 : Option Nat) (x1 : Int32) (x2 : Int32) : PM (Int32) := x_bd (x_rI r0 9 30) fun v3 => x_bd (mX9_in F x1 (0 : Int32) (v3 - (1 : Int32))) fun v8 => (if v8 = 0 then (x_pr (-1 : Int32)) else (if x2 = 0 then x_bd (x_rR r0 9 31) fun v61 => x_bd (x_aI 0 v61 x1) fun v65 => (x_pr v65) else (if x2 = 1 then x_bd (x_rR r0 9 32) fun v68 => x_bd (x_aI 0 v68 x1) fun v72 => (x_pr v72) else (if x2 = 2 then x_bd (x_rR r0 9 33) fun v75 => x_bd (x_aI 0 v75 x1) fun v79 => (x_pr v79) else (if x2 = 3 then x_bd (x_rR r0 9 34) fun v82 => x_bd (x_aI 0 v82 x1) fun v86 => (x_pr v86) else (if x2 = 4 then x_bd (x_rR r0 9 35) fun v89 => x_bd (x_aI 0 v89 x1) fun v93 => (if v93 = (1 : Int32) then (x_pr (-1 : Int32)) else x_bd (x_rR r0 9 36) fun v103 => x_bd (x_aI 0 v103 x1) fun v107 => (x_pr v107)) else (if x2 = 5 then x_bd (x_rR r0 9 40) fun v110 => x_bd (x_aI 0 v110 x1) fun v114 => (x_pr v114) else (if x2 = 6 then x_bd (x_rR r0 9 41) fun v117 => x_bd (x_aI 1 v117 x1) fun v121 => (if v121 = 0 then (x_pr (0 : Int32)) else (x_pr (1 : Int32))) else (x_pr (-1 : Int32))))))))))
def mX9_told (F : Nat) (r0 : Option Nat) (x1 : Int32) (x2 : Int32) : PM (Int32) := x_bd (x_cV r0 9 (mX9_isOrder F r0 x1)) fun v2 => (if v2 = 0 then (x_pr (-1 : Int32)) else (if x2 = 0 then x_bd (x_rR r0 9 18) fun v65 => x_bd (x_aI 0 v65 x1) fun v69 => (x_pr v69) else (if x2 = 1 then x_bd (x_rR r0 9 19) fun v72 => x_bd (x_aI 0 v72 x1) fun v76 => (x_pr v76) else (if x2 = 2 then x_bd (x_rR r0 9 20) fun v79 => x_bd (x_aI 0 v79 x1) fun v83 => (x_pr v83) else (if x2 = 3 then x_bd (x_rR r0 9 22) fun v86 => x_bd (x_aI 0 v86 x1) fun v90 => (x_pr v90) else (if x2 = 4 then x_bd (x_rR r0 9 23) fun v93 => x_bd (x_aI 1 v93 x1) fun v97 => (if v97 = 0 then (x_pr (0 : Int32)) else (x_pr (1 : Int32))) else (if x2 = 5 then x_bd (x_rR r0 9 24) fun v108 => x_bd (x_aI 1 v108 x1) fun v112 => (if v112 = 0 then (x_pr (0 : Int32)) else (x_pr (1 : Int32))) else (if x2 = 6 then x_bd (x_rR r0 9 25) fun v123 => x_bd (x_aI 1 v123 x1) fun v127 => (if v127 = 0 then (x_pr (0 : Int32)) else (x_pr (1 : Int32))) else (if x2 = 7 then x_bd (x_rR r0 9 26) fun v138 => x_bd (x_aI 1 v138 x1) fun v142 => (if v142 = 0 then (x_pr (0 : Int32)) else (x_pr (1 : Int32))) else (if x2 = 8 then x_bd (x_rR r0 9 28) fun v153 => x_bd (x_aI 0 v153 x1) fun v157 => (x_pr v157) else (if x2 = 9 then x_bd (x_rR r0 9 29) fun v160 => x_bd (x_aI 0 v160 x1) fun v164 => (x_pr v164) else (x_pr (-1 : Int32)))))))))))))
def mX9_lack_10 (F : Nat) : Nat → Option Nat → Int32 → Int32 → Int32 → PM (Int32)
  | 0, _, _, _, _ => x_fl
  | n + 1, y0, y1, y2, y3 => x_bd (x_rI y0 9 17) fun v12 => (if v12 ≤ y3 then (if y2 ≤ 0 then (x_pr (0 : Int32)) else (x_pr y2)) else x_bd (x_rR y0 9 19) fun v20 => x_bd (x_aI 0 v20 y3) fun v24 => (if v24 = y1 then x_bd (x_rR y0 9 23) fun v30 => x_bd (x_aI 1 v30 y3) fun v34 => (if v34 = 0 then x_bd (x_pr (y2 + (0 : Int32))) fun (v67 : Int32) => x_bd (x_pr (y3 + (1 : Int32))) fun (v68 : Int32) => (mX9_lack_10 F n y0 y1 v67 v68) else x_bd (x_rR y0 9 24) fun v39 => x_bd (x_aI 1 v39 y3) fun v43 => (if v43 = 0 then x_bd (x_rR y0 9 25) fun v48 => x_bd (x_aI 1 v48 y3) fun v52 => (if v52 = 0 then x_bd (x_rR y0 9 20) fun v57 => x_bd (x_aI 0 v57 y3) fun v61 => x_bd (x_pr (y2 + v61)) fun (v67 : Int32) => x_bd (x_pr (y3 + (1 : Int32))) fun (v68 : Int32) => (mX9_lack_10 F n y0 y1 v67 v68) else x_bd (x_pr (y2 + (0 : Int32))) fun (v67 : Int32) => x_bd (x_pr (y3 + (1 : Int32))) fun (v68 : Int32) => (mX9_lack_10 F n y0 y1 v67 v68)) else x_bd (x_pr (y2 + (0 : Int32))) fun (v67 : Int32) => x_bd (x_pr (y3 + (1 : Int32))) fun (v68 : Int32) => (mX9_lack_10 F n y0 y1 v67 v68))) else x_bd (x_pr (y2 + (0 : Int32))) fun (v67 : Int32) => x_bd (x_pr (y3 + (1 : Int32))) fun (v68 : Int32) => (mX9_lack_10 F n y0 y1 v67 v68)))
def mX9_lack (F : Nat) (r0 : Option Nat) (x1 : Int32) : PM (Int32) := x_bd (x_rR r0 9 2) fun v1 => x_bd (x_aI 0 v1 x1) fun v5 => x_bd (x_pr (-v5)) fun (v7 : Int32) => (mX9_lack_10 F F r0 x1 v7 (0 : Int32))
def mX9_at_96 (F : Nat) : Nat → Option Nat → Int32 → Int32 → Int32 → PM (Int32)
  | 0, _, _, _, _ => x_fl
  | n + 1, y0, y1, y3, y4 => x_bd (x_rI y0 9 30) fun v99 => (if v99 ≤ y4 then (x_pr y3) else x_bd (x_rR y0 9 35) fun v107 => x_bd (x_aI 0 v107 y4) fun v112 => (if v112 = 0 then x_bd (x_rR y0 9 36) fun v117 => x_bd (x_aI 0 v117 y4) fun v122 => (if v122 = y1 then x_bd (x_pr (y3 + (1 : Int32))) fun (v133 : Int32) => x_bd (x_pr (y4 + (1 : Int32))) fun (v134 : Int32) => (mX9_at_96 F n y0 y1 v133 v134) else x_bd (x_pr (y3 + (0 : Int32))) fun (v133 : Int32) => x_bd (x_pr (y4 + (1 : Int32))) fun (v134 : Int32) => (mX9_at_96 F n y0 y1 v133 v134)) else x_bd (x_pr (y3 + (0 : Int32))) fun (v133 : Int32) => x_bd (x_pr (y4 + (1 : Int32))) fun (v134 : Int32) => (mX9_at_96 F n y0 y1 v133 v134)))
def mX9_at (F : Nat) (r0 : Option Nat) (x1 : Int32) (x2 : Int32) : PM (Int32) := x_bd (x_cV r0 9 (mX9_isCounter F r0 x1)) fun v2 => (if v2 = 0 then (x_pr (-2147483648 : Int32)) else (if x2 = 0 then x_bd (x_rR r0 9 2) fun v53 => x_bd (x_aI 0 v53 x1) fun v57 => (x_pr v57) else (if x2 = 1 then x_bd (x_cV r0 9 (mX9_isOpen F r0 x1)) fun v61 => (if v61 = 0 then (x_pr (0 : Int32)) else (x_pr (1 : Int32))) else (if x2 = 2 then x_bd (x_cV r0 9 (mX9_lack F r0 x1)) fun v75 => (x_pr v75) else (if x2 = 3 then x_bd (x_rR r0 9 6) fun v80 => x_bd (x_aI 0 v80 x1) fun v84 => (x_pr v84) else (if x2 = 4 then x_bd (x_rR r0 9 5) fun v87 => x_bd (x_aI 0 v87 x1) fun v91 => (x_pr v91) else (if x2 = 5 then (mX9_at_96 F F r0 x1 (0 : Int32) (0 : Int32)) else (x_pr (-2147483648 : Int32)))))))))
def mX9_count (F : Nat) (r0 : Option Nat) (x1 : Int32) : PM (Int32) := (if x1 = 0 then x_bd (x_rI r0 9 0) fun v49 => (x_pr v49) else (if x1 = 1 then x_bd (x_rI r0 9 1) fun v54 => (x_pr v54) else (if x1 = 2 then x_bd (x_rI r0 9 7) fun v59 => (x_pr v59) else (if x1 = 3 then x_bd (x_rI r0 9 17) fun v64 => (x_pr v64) else (if x1 = 4 then x_bd (x_rI r0 9 30) fun v69 => (x_pr v69) else (if x1 = 5 then x_bd (x_rI r0 9 47) fun v74 => (x_pr v74) else (if x1 = 6 then x_bd (x_rI r0 9 48) fun v79 => (x_pr v79) else (if x1 = 7 then x_bd (x_rI r0 9 49) fun v84 => (x_pr v84) else (x_pr (-1 : Int32))))))))))
end
section
theorem dX0_init_0 : decode cX0_init 0 = .ok (.aload_n 0, 1) := by decide +kernel
theorem dX0_init_1 : decode cX0_init 1 = .ok (.invokespecial 3, 3) := by decide +kernel
theorem dX0_init_4 : decode cX0_init 4 = .ok (.aload_n 0, 1) := by decide +kernel
theorem dX0_init_5 : decode cX0_init 5 = .ok (.bipush 8, 2) := by decide +kernel
theorem dX0_init_7 : decode cX0_init 7 = .ok (.newarray .int, 2) := by decide +kernel
theorem dX0_init_9 : decode cX0_init 9 = .ok (.putfield 9, 3) := by decide +kernel
theorem dX0_init_12 : decode cX0_init 12 = .ok (.aload_n 0, 1) := by decide +kernel
theorem dX0_init_13 : decode cX0_init 13 = .ok (.bipush 8, 2) := by decide +kernel
theorem dX0_init_15 : decode cX0_init 15 = .ok (.newarray .int, 2) := by decide +kernel
theorem dX0_init_17 : decode cX0_init 17 = .ok (.putfield 15, 3) := by decide +kernel
theorem dX0_init_20 : decode cX0_init 20 = .ok (.return_, 1) := by decide +kernel
theorem mcX0_init : x_mc yX0_init cX0_init 1 none 0 := ⟨wd_60, wd_3, by decide +kernel⟩
set_option maxHeartbeats 4000000 in
set_option maxRecDepth 100000 in
theorem kX0_init (l : Launch) (base : Nat) (D : va_G) (dA : Nat → ClassId) (F : Nat) (r0 : Nat) : x_Met l base D dA yX0_init cX0_init 1 none 1 21 [va_rf (some r0)] (mX0_init F (some r0)) (fun _ => none) := by
  refine x_Met.of [(0, .inr (.inl (some r0)))] (by decide) (Nat.le_of_ble_eq_true rfl) rfl rfl ?_
  intro p e R s m args below meth c σ a τ ls hfr hlo E hr hk hn S hM hl
  have E : x_E p s m args c cX0_init 1 "WireMoney$Bands" D dA := E
  unfold mX0_init at hM
  refine w_aload_n E hl 0 dX0_init_0 rfl ?_
  refine w_obj E hl ⟨wd_61, wd_18, wd_19⟩ (by rw [hfr, hlo]; decide) (Nat.le_of_ble_eq_true rfl) dX0_init_1 ?_
  refine w_aload_n E hl 0 dX0_init_4 rfl ?_
  refine lv_bipush (v := (8 : Int32)) E.1 E.2.1 dX0_init_5 (by decide) ?_
  refine w_newa (atype := .int) E S hM ⟨by decide, rfl, wd_55⟩ dX0_init_7 (fun v7 σ H S hM => ?_)
  refine w_wR E S hM lk_0_9 rfl (Or.inr ⟨hn, rfl, rfl⟩) dX0_init_9 (fun σ H locs S hM => ?_)
  refine w_aload_n E hl 0 dX0_init_12 rfl ?_
  refine lv_bipush (v := (8 : Int32)) E.1 E.2.1 dX0_init_13 (by decide) ?_
  refine w_newa (atype := .int) E S hM ⟨by decide, rfl, wd_55⟩ dX0_init_15 (fun v15 σ H S hM => ?_)
  refine w_wR E S hM lk_0_15 rfl (Or.inr ⟨hn, rfl, rfl⟩) dX0_init_17 (fun σ H locs S hM => ?_)
  exact w_vret E S hM hr hk dX0_init_20
theorem dX0_highestBound_0 : decode cX0_highestBound 0 = .ok (.aload_n 0, 1) := by decide +kernel
theorem dX0_highestBound_1 : decode cX0_highestBound 1 = .ok (.getfield 18, 3) := by decide +kernel
theorem dX0_highestBound_4 : decode cX0_highestBound 4 = .ok (.ifCond .le 26, 3) := by decide +kernel
theorem dX0_highestBound_7 : decode cX0_highestBound 7 = .ok (.aload_n 0, 1) := by decide +kernel
theorem dX0_highestBound_8 : decode cX0_highestBound 8 = .ok (.getfield 18, 3) := by decide +kernel
theorem dX0_highestBound_11 : decode cX0_highestBound 11 = .ok (.bipush 8, 2) := by decide +kernel
theorem dX0_highestBound_13 : decode cX0_highestBound 13 = .ok (.if_icmp .gt 17, 3) := by decide +kernel
theorem dX0_highestBound_16 : decode cX0_highestBound 16 = .ok (.aload_n 0, 1) := by decide +kernel
theorem dX0_highestBound_17 : decode cX0_highestBound 17 = .ok (.getfield 9, 3) := by decide +kernel
theorem dX0_highestBound_20 : decode cX0_highestBound 20 = .ok (.aload_n 0, 1) := by decide +kernel
theorem dX0_highestBound_21 : decode cX0_highestBound 21 = .ok (.getfield 18, 3) := by decide +kernel
theorem dX0_highestBound_24 : decode cX0_highestBound 24 = .ok (.iconst 1, 1) := by decide +kernel
theorem dX0_highestBound_25 : decode cX0_highestBound 25 = .ok (.isub, 1) := by decide +kernel
theorem dX0_highestBound_26 : decode cX0_highestBound 26 = .ok (.iaload, 1) := by decide +kernel
theorem dX0_highestBound_27 : decode cX0_highestBound 27 = .ok (.goto 4, 3) := by decide +kernel
theorem dX0_highestBound_30 : decode cX0_highestBound 30 = .ok (.iconst 0, 1) := by decide +kernel
theorem dX0_highestBound_31 : decode cX0_highestBound 31 = .ok (.ireturn, 1) := by decide +kernel
theorem mcX0_highestBound : x_mc yX0_highestBound cX0_highestBound 1 (some .int) 0 := ⟨wd_275, wd_3, by decide +kernel⟩
set_option maxHeartbeats 4000000 in
set_option maxRecDepth 100000 in
theorem kX0_highestBound (l : Launch) (base : Nat) (D : va_G) (dA : Nat → ClassId) (F : Nat) (r0 : Option Nat) : x_Met l base D dA yX0_highestBound cX0_highestBound 1 (some .int) 0 0 [va_rf r0] (mX0_highestBound F r0) (fun x => some (.int x)) := by
  refine x_Met.of [(0, .inr (.inl r0))] (by decide) (Nat.le_of_ble_eq_true rfl) rfl rfl ?_
  intro p e R s m args below meth c σ a τ ls hfr hlo E hr hk hn S hM hl
  have E : x_E p s m args c cX0_highestBound 1 "WireMoney$Bands" D dA := E
  unfold mX0_highestBound at hM
  refine w_aload_n E hl 0 dX0_highestBound_0 rfl ?_
  refine w_rI E S hM lk_0_18 rfl dX0_highestBound_1 (fun v1 hM => ?_)
  refine lv_if_le (tgt := 30) E.1 E.2.1 dX0_highestBound_4 (by decide) (fun c4 => ?_) (fun c4 => ?_)
  · replace hM := x_okT hM c4
    refine lv_iconst (v := (0 : Int32)) E.1 E.2.1 dX0_highestBound_30 (by decide) ?_
    exact w_iret E S hM hr hk dX0_highestBound_31
  · replace hM := x_okF hM c4
    refine w_aload_n E hl 0 dX0_highestBound_7 rfl ?_
    refine w_rI E S hM lk_0_18 rfl dX0_highestBound_8 (fun v8 hM => ?_)
    refine lv_bipush (v := (8 : Int32)) E.1 E.2.1 dX0_highestBound_11 (by decide) ?_
    refine lv_icmp_gt (tgt := 30) E.1 E.2.1 dX0_highestBound_13 (by decide) (fun c13 => ?_) (fun c13 => ?_)
    · replace hM := x_okT hM c13
      refine lv_iconst (v := (0 : Int32)) E.1 E.2.1 dX0_highestBound_30 (by decide) ?_
      exact w_iret E S hM hr hk dX0_highestBound_31
    · replace hM := x_okF hM c13
      refine w_aload_n E hl 0 dX0_highestBound_16 rfl ?_
      refine w_rR E S hM lk_0_9 rfl dX0_highestBound_17 (fun v17 hM => ?_)
      refine w_aload_n E hl 0 dX0_highestBound_20 rfl ?_
      refine w_rI E S hM lk_0_18 rfl dX0_highestBound_21 (fun v21 hM => ?_)
      refine lv_iconst (v := (1 : Int32)) E.1 E.2.1 dX0_highestBound_24 (by decide) ?_
      refine lv_isub E.1 E.2.1 dX0_highestBound_25 ?_
      refine w_aI E S hM dX0_highestBound_26 (fun v26 hM => ?_)
      refine lv_goto (tgt := 31) E.1 E.2.1 dX0_highestBound_27 (by decide) ?_
      exact w_iret E S hM hr hk dX0_highestBound_31
theorem dX0_add_0 : decode cX0_add 0 = .ok (.aload_n 0, 1) := by decide +kernel
theorem dX0_add_1 : decode cX0_add 1 = .ok (.getfield 18, 3) := by decide +kernel
theorem dX0_add_4 : decode cX0_add 4 = .ok (.bipush 8, 2) := by decide +kernel
theorem dX0_add_6 : decode cX0_add 6 = .ok (.if_icmp .ge 11, 3) := by decide +kernel
theorem dX0_add_9 : decode cX0_add 9 = .ok (.iload_n 1, 1) := by decide +kernel
theorem dX0_add_10 : decode cX0_add 10 = .ok (.aload_n 0, 1) := by decide +kernel
theorem dX0_add_11 : decode cX0_add 11 = .ok (.invokevirtual 22, 3) := by decide +kernel
theorem dX0_add_14 : decode cX0_add 14 = .ok (.if_icmp .gt 5, 3) := by decide +kernel
theorem dX0_add_17 : decode cX0_add 17 = .ok (.iconst 0, 1) := by decide +kernel
theorem dX0_add_18 : decode cX0_add 18 = .ok (.ireturn, 1) := by decide +kernel
theorem dX0_add_19 : decode cX0_add 19 = .ok (.aload_n 0, 1) := by decide +kernel
theorem dX0_add_20 : decode cX0_add 20 = .ok (.getfield 9, 3) := by decide +kernel
theorem dX0_add_23 : decode cX0_add 23 = .ok (.aload_n 0, 1) := by decide +kernel
theorem dX0_add_24 : decode cX0_add 24 = .ok (.getfield 18, 3) := by decide +kernel
theorem dX0_add_27 : decode cX0_add 27 = .ok (.iload_n 1, 1) := by decide +kernel
theorem dX0_add_28 : decode cX0_add 28 = .ok (.iastore, 1) := by decide +kernel
theorem dX0_add_29 : decode cX0_add 29 = .ok (.aload_n 0, 1) := by decide +kernel
theorem dX0_add_30 : decode cX0_add 30 = .ok (.getfield 15, 3) := by decide +kernel
theorem dX0_add_33 : decode cX0_add 33 = .ok (.aload_n 0, 1) := by decide +kernel
theorem dX0_add_34 : decode cX0_add 34 = .ok (.getfield 18, 3) := by decide +kernel
theorem dX0_add_37 : decode cX0_add 37 = .ok (.iload_n 2, 1) := by decide +kernel
theorem dX0_add_38 : decode cX0_add 38 = .ok (.iastore, 1) := by decide +kernel
theorem dX0_add_39 : decode cX0_add 39 = .ok (.aload_n 0, 1) := by decide +kernel
theorem dX0_add_40 : decode cX0_add 40 = .ok (.dup, 1) := by decide +kernel
theorem dX0_add_41 : decode cX0_add 41 = .ok (.getfield 18, 3) := by decide +kernel
theorem dX0_add_44 : decode cX0_add 44 = .ok (.iconst 1, 1) := by decide +kernel
theorem dX0_add_45 : decode cX0_add 45 = .ok (.iadd, 1) := by decide +kernel
theorem dX0_add_46 : decode cX0_add 46 = .ok (.putfield 18, 3) := by decide +kernel
theorem dX0_add_49 : decode cX0_add 49 = .ok (.iconst 1, 1) := by decide +kernel
theorem dX0_add_50 : decode cX0_add 50 = .ok (.ireturn, 1) := by decide +kernel
theorem mcX0_add : x_mc yX0_add cX0_add 3 (some .boolean) 2 := ⟨wd_271, wd_3, by decide +kernel⟩
set_option maxHeartbeats 4000000 in
set_option maxRecDepth 100000 in
theorem kX0_add (l : Launch) (base : Nat) (D : va_G) (dA : Nat → ClassId) (F : Nat) (r0 : Option Nat) (x1 : Int32) (x2 : Int32) : x_Met l base D dA yX0_add cX0_add 3 (some .boolean) 1 20 [va_rf r0, .int x1, .int x2] (mX0_add F r0 x1 x2) (fun x => some (.int x)) := by
  refine x_Met.of [(0, .inr (.inl r0)), (1, .inl x1), (2, .inl x2)] (by decide) (Nat.le_of_ble_eq_true rfl) rfl rfl ?_
  intro p e R s m args below meth c σ a τ ls hfr hlo E hr hk hn S hM hl
  have E : x_E p s m args c cX0_add 3 "WireMoney$Bands" D dA := E
  unfold mX0_add at hM
  refine w_aload_n E hl 0 dX0_add_0 rfl ?_
  refine w_rI E S hM lk_0_18 rfl dX0_add_1 (fun v1 hM => ?_)
  refine lv_bipush (v := (8 : Int32)) E.1 E.2.1 dX0_add_4 (by decide) ?_
  refine lv_icmp_ge (tgt := 17) E.1 E.2.1 dX0_add_6 (by decide) (fun c6 => ?_) (fun c6 => ?_)
  · replace hM := x_okT hM c6
    refine lv_iconst (v := (0 : Int32)) E.1 E.2.1 dX0_add_17 (by decide) ?_
    exact w_zretc E S hM (by decide) hr hk dX0_add_18
  · replace hM := x_okF hM c6
    refine w_iload_n E hl 1 dX0_add_9 rfl ?_
    refine w_aload_n E hl 0 dX0_add_10 rfl ?_
    refine w_cVi (rest := [.int x1]) E S hl hM (kX0_highestBound l base D dA F r0) mcX0_highestBound ⟨by decide, rfl, wd_272, wd_274, wp_5⟩ hfr hlo (by decide) rfl (Nat.le_of_ble_eq_true rfl) dX0_add_11 rfl (fun v11 σ H locs S hM => ?_)
    refine lv_icmp_gt (tgt := 19) E.1 E.2.1 dX0_add_14 (by decide) (fun c14 => ?_) (fun c14 => ?_)
    · replace hM := x_okT hM c14
      refine w_aload_n E hl 0 dX0_add_19 rfl ?_
      refine w_rR E S hM lk_0_9 rfl dX0_add_20 (fun v20 hM => ?_)
      refine w_aload_n E hl 0 dX0_add_23 rfl ?_
      refine w_rI E S hM lk_0_18 rfl dX0_add_24 (fun v24 hM => ?_)
      refine w_iload_n E hl 1 dX0_add_27 rfl ?_
      refine w_sI E S hM dX0_add_28 (fun σ H locs S hM => ?_)
      refine w_aload_n E hl 0 dX0_add_29 rfl ?_
      refine w_rR E S hM lk_0_15 rfl dX0_add_30 (fun v30 hM => ?_)
      refine w_aload_n E hl 0 dX0_add_33 rfl ?_
      refine w_rI E S hM lk_0_18 rfl dX0_add_34 (fun v34 hM => ?_)
      refine w_iload_n E hl 2 dX0_add_37 rfl ?_
      refine w_sI E S hM dX0_add_38 (fun σ H locs S hM => ?_)
      refine w_aload_n E hl 0 dX0_add_39 rfl ?_
      refine lv_dup E.1 E.2.1 dX0_add_40 (x_cat _) ?_
      refine w_rI E S hM lk_0_18 rfl dX0_add_41 (fun v41 hM => ?_)
      refine lv_iconst (v := (1 : Int32)) E.1 E.2.1 dX0_add_44 (by decide) ?_
      refine lv_iadd E.1 E.2.1 dX0_add_45 ?_
      refine w_wI E S hM lk_0_18 rfl (Or.inl rfl) dX0_add_46 (fun σ H locs S hM => ?_)
      refine lv_iconst (v := (1 : Int32)) E.1 E.2.1 dX0_add_49 (by decide) ?_
      exact w_zretc E S hM (by decide) hr hk dX0_add_50
    · replace hM := x_okF hM c14
      refine lv_iconst (v := (0 : Int32)) E.1 E.2.1 dX0_add_17 (by decide) ?_
      exact w_zretc E S hM (by decide) hr hk dX0_add_18
theorem dX0_feeOf_0 : decode cX0_feeOf 0 = .ok (.iconst 0, 1) := by decide +kernel
theorem dX0_feeOf_1 : decode cX0_feeOf 1 = .ok (.istore_n 2, 1) := by decide +kernel
theorem dX0_feeOf_2 : decode cX0_feeOf 2 = .ok (.iload_n 2, 1) := by decide +kernel
theorem dX0_feeOf_3 : decode cX0_feeOf 3 = .ok (.aload_n 0, 1) := by decide +kernel
theorem dX0_feeOf_4 : decode cX0_feeOf 4 = .ok (.getfield 18, 3) := by decide +kernel
theorem dX0_feeOf_7 : decode cX0_feeOf 7 = .ok (.if_icmp .ge 32, 3) := by decide +kernel
theorem dX0_feeOf_10 : decode cX0_feeOf 10 = .ok (.iload_n 2, 1) := by decide +kernel
theorem dX0_feeOf_11 : decode cX0_feeOf 11 = .ok (.bipush 8, 2) := by decide +kernel
theorem dX0_feeOf_13 : decode cX0_feeOf 13 = .ok (.if_icmp .ge 26, 3) := by decide +kernel
theorem dX0_feeOf_16 : decode cX0_feeOf 16 = .ok (.aload_n 0, 1) := by decide +kernel
theorem dX0_feeOf_17 : decode cX0_feeOf 17 = .ok (.getfield 9, 3) := by decide +kernel
theorem dX0_feeOf_20 : decode cX0_feeOf 20 = .ok (.iload_n 2, 1) := by decide +kernel
theorem dX0_feeOf_21 : decode cX0_feeOf 21 = .ok (.iaload, 1) := by decide +kernel
theorem dX0_feeOf_22 : decode cX0_feeOf 22 = .ok (.iload_n 1, 1) := by decide +kernel
theorem dX0_feeOf_23 : decode cX0_feeOf 23 = .ok (.if_icmp .lt 10, 3) := by decide +kernel
theorem dX0_feeOf_26 : decode cX0_feeOf 26 = .ok (.aload_n 0, 1) := by decide +kernel
theorem dX0_feeOf_27 : decode cX0_feeOf 27 = .ok (.getfield 15, 3) := by decide +kernel
theorem dX0_feeOf_30 : decode cX0_feeOf 30 = .ok (.iload_n 2, 1) := by decide +kernel
theorem dX0_feeOf_31 : decode cX0_feeOf 31 = .ok (.iaload, 1) := by decide +kernel
theorem dX0_feeOf_32 : decode cX0_feeOf 32 = .ok (.ireturn, 1) := by decide +kernel
theorem dX0_feeOf_33 : decode cX0_feeOf 33 = .ok (.iinc 2 1, 3) := by decide +kernel
theorem dX0_feeOf_36 : decode cX0_feeOf 36 = .ok (.goto (-34), 3) := by decide +kernel
theorem dX0_feeOf_39 : decode cX0_feeOf 39 = .ok (.iconst 1, 1) := by decide +kernel
theorem dX0_feeOf_40 : decode cX0_feeOf 40 = .ok (.iload_n 1, 1) := by decide +kernel
theorem dX0_feeOf_41 : decode cX0_feeOf 41 = .ok (.bipush 100, 2) := by decide +kernel
theorem dX0_feeOf_43 : decode cX0_feeOf 43 = .ok (.idiv, 1) := by decide +kernel
theorem dX0_feeOf_44 : decode cX0_feeOf 44 = .ok (.invokestatic 26, 3) := by decide +kernel
theorem dX0_feeOf_47 : decode cX0_feeOf 47 = .ok (.ireturn, 1) := by decide +kernel
set_option maxHeartbeats 4000000 in
set_option maxRecDepth 100000 in
theorem bX0_feeOf_2 {p : Program} {l : Launch} {e : Env} {R : Room} {s : State} {m : MethodId} {args : Array Value} {below : List Frame} {meth : Method} {c : Code} {base : Nat} {D : va_G} {dA : Nat → ClassId} {σ0 : PH} {z : Int32 × PH} {F : Nat} (E : x_E p s m args c cX0_feeOf 3 "WireMoney$Bands" D dA) (hr : meth.sig.returnType = (some .int)) (hk : meth.locks = false) (hfr : R.frames = 1) (hlo : R.locals = 21) : ∀ (n : Nat) (y0 : Option Nat) (y1 : Int32) (y2 : Int32) (σ : PH) (H : Heap) (locs : List Loc) (ls : Array Slot), x_S base D dA R s σ0 z.2 σ H locs → x_rn (mX0_feeOf_2 F n y0 y1 y2) σ = some z → x_lv ls 3 [(0, .inr (.inl y0)), (1, .inl y1), (2, .inl y2)] → W p l e R s m args below meth c H locs (x_N σ - x_N σ0) (x_U σ - x_U σ0) (x_end below args s base D dA (fun x => some (.int x)) σ0 z) (F0 m 2 ls []) := by
  intro n
  induction n with
  | zero =>
    intro y0 y1 y2 σ H locs ls S hM hl
    cases hM
  | succ n ih =>
    intro y0 y1 y2 σ H locs ls S hM hl
    rw [mX0_feeOf_2] at hM
    refine w_iload_n E hl 2 dX0_feeOf_2 rfl ?_
    refine w_aload_n E hl 0 dX0_feeOf_3 rfl ?_
    refine w_rI E S hM lk_0_18 rfl dX0_feeOf_4 (fun v4 hM => ?_)
    refine lv_icmp_ge (tgt := 39) E.1 E.2.1 dX0_feeOf_7 (by decide) (fun c7 => ?_) (fun c7 => ?_)
    · replace hM := x_okT hM c7
      refine lv_iconst (v := (1 : Int32)) E.1 E.2.1 dX0_feeOf_39 (by decide) ?_
      refine w_iload_n E hl 1 dX0_feeOf_40 rfl ?_
      refine lv_bipush (v := (100 : Int32)) E.1 E.2.1 dX0_feeOf_41 (by decide) ?_
      refine lv_idiv E.1 E.2.1 dX0_feeOf_43 (by decide) ?_
      refine w_mmax E S hl ⟨wd_284, wd_285, wd_8, wd_286⟩ (by rw [hfr, hlo]; decide) (Nat.le_of_ble_eq_true rfl) dX0_feeOf_44 ?_
      exact w_iret E S hM hr hk dX0_feeOf_47
    · replace hM := x_okF hM c7
      refine w_iload_n E hl 2 dX0_feeOf_10 rfl ?_
      refine lv_bipush (v := (8 : Int32)) E.1 E.2.1 dX0_feeOf_11 (by decide) ?_
      refine lv_icmp_ge (tgt := 39) E.1 E.2.1 dX0_feeOf_13 (by decide) (fun c13 => ?_) (fun c13 => ?_)
      · replace hM := x_okT hM c13
        refine lv_iconst (v := (1 : Int32)) E.1 E.2.1 dX0_feeOf_39 (by decide) ?_
        refine w_iload_n E hl 1 dX0_feeOf_40 rfl ?_
        refine lv_bipush (v := (100 : Int32)) E.1 E.2.1 dX0_feeOf_41 (by decide) ?_
        refine lv_idiv E.1 E.2.1 dX0_feeOf_43 (by decide) ?_
        refine w_mmax E S hl ⟨wd_284, wd_285, wd_8, wd_286⟩ (by rw [hfr, hlo]; decide) (Nat.le_of_ble_eq_true rfl) dX0_feeOf_44 ?_
        exact w_iret E S hM hr hk dX0_feeOf_47
      · replace hM := x_okF hM c13
        refine w_aload_n E hl 0 dX0_feeOf_16 rfl ?_
        refine w_rR E S hM lk_0_9 rfl dX0_feeOf_17 (fun v17 hM => ?_)
        refine w_iload_n E hl 2 dX0_feeOf_20 rfl ?_
        refine w_aI E S hM dX0_feeOf_21 (fun v21 hM => ?_)
        refine w_iload_n E hl 1 dX0_feeOf_22 rfl ?_
        refine lv_icmp_lt (tgt := 33) E.1 E.2.1 dX0_feeOf_23 (by decide) (fun c23 => ?_) (fun c23 => ?_)
        · replace hM := x_okT hM c23
          refine w_iincN (ltf := fun v33 => [(2, .inl v33), (0, .inr (.inl y0)), (1, .inl y1)]) E hl 2 hM dX0_feeOf_33 rfl (by decide) (by decide) (fun _ => rfl) (fun v33 ls hM hl => ?_)
          refine lv_goto (tgt := 2) E.1 E.2.1 dX0_feeOf_36 (by decide) ?_
          exact ih y0 y1 v33 _ _ _ _ S hM (x_lv_sub hl [1, 2, 0] rfl)
        · replace hM := x_okF hM c23
          refine w_aload_n E hl 0 dX0_feeOf_26 rfl ?_
          refine w_rR E S hM lk_0_15 rfl dX0_feeOf_27 (fun v27 hM => ?_)
          refine w_iload_n E hl 2 dX0_feeOf_30 rfl ?_
          refine w_aI E S hM dX0_feeOf_31 (fun v31 hM => ?_)
          exact w_iret E S hM hr hk dX0_feeOf_32
theorem mcX0_feeOf : x_mc yX0_feeOf cX0_feeOf 3 (some .int) 1 := ⟨wd_283, wd_3, by decide +kernel⟩
set_option maxHeartbeats 4000000 in
set_option maxRecDepth 100000 in
theorem kX0_feeOf (l : Launch) (base : Nat) (D : va_G) (dA : Nat → ClassId) (F : Nat) (r0 : Option Nat) (x1 : Int32) : x_Met l base D dA yX0_feeOf cX0_feeOf 3 (some .int) 1 21 [va_rf r0, .int x1] (mX0_feeOf F r0 x1) (fun x => some (.int x)) := by
  refine x_Met.of [(0, .inr (.inl r0)), (1, .inl x1)] (by decide) (Nat.le_of_ble_eq_true rfl) rfl rfl ?_
  intro p e R s m args below meth c σ a τ ls hfr hlo E hr hk hn S hM hl
  have E : x_E p s m args c cX0_feeOf 3 "WireMoney$Bands" D dA := E
  unfold mX0_feeOf at hM
  refine lv_iconst (v := (0 : Int32)) E.1 E.2.1 dX0_feeOf_0 (by decide) ?_
  refine w_istore_n (lt' := [(2, .inl (0 : Int32)), (0, .inr (.inl r0)), (1, .inl x1)]) E hl dX0_feeOf_1 (by decide) rfl (fun ls hl => ?_)
  exact bX0_feeOf_2 E hr hk hfr hlo F r0 x1 (0 : Int32) _ _ _ _ S hM (x_lv_sub hl [1, 2, 0] rfl)
theorem dX1_init_0 : decode cX1_init 0 = .ok (.aload_n 0, 1) := by decide +kernel
theorem dX1_init_1 : decode cX1_init 1 = .ok (.invokespecial 3, 3) := by decide +kernel
theorem dX1_init_4 : decode cX1_init 4 = .ok (.aload_n 0, 1) := by decide +kernel
theorem dX1_init_5 : decode cX1_init 5 = .ok (.iload_n 1, 1) := by decide +kernel
theorem dX1_init_6 : decode cX1_init 6 = .ok (.putfield 9, 3) := by decide +kernel
theorem dX1_init_9 : decode cX1_init 9 = .ok (.aload_n 0, 1) := by decide +kernel
theorem dX1_init_10 : decode cX1_init 10 = .ok (.iload_n 2, 1) := by decide +kernel
theorem dX1_init_11 : decode cX1_init 11 = .ok (.putfield 15, 3) := by decide +kernel
theorem dX1_init_14 : decode cX1_init 14 = .ok (.aload_n 0, 1) := by decide +kernel
theorem dX1_init_15 : decode cX1_init 15 = .ok (.iload_n 3, 1) := by decide +kernel
theorem dX1_init_16 : decode cX1_init 16 = .ok (.putfield 18, 3) := by decide +kernel
theorem dX1_init_19 : decode cX1_init 19 = .ok (.aload_n 0, 1) := by decide +kernel
theorem dX1_init_20 : decode cX1_init 20 = .ok (.iload 4, 2) := by decide +kernel
theorem dX1_init_22 : decode cX1_init 22 = .ok (.putfield 21, 3) := by decide +kernel
theorem dX1_init_25 : decode cX1_init 25 = .ok (.return_, 1) := by decide +kernel
theorem mcX1_init : x_mc yX1_init cX1_init 5 none 4 := ⟨wd_125, wd_5, by decide +kernel⟩
set_option maxHeartbeats 4000000 in
set_option maxRecDepth 100000 in
theorem kX1_init (l : Launch) (base : Nat) (D : va_G) (dA : Nat → ClassId) (F : Nat) (r0 : Nat) (x1 : Int32) (x2 : Int32) (x3 : Int32) (x4 : Int32) : x_Met l base D dA yX1_init cX1_init 5 none 1 21 [va_rf (some r0), .int x1, .int x2, .int x3, .int x4] (mX1_init F (some r0) x1 x2 x3 x4) (fun _ => none) := by
  refine x_Met.of [(0, .inr (.inl (some r0))), (1, .inl x1), (2, .inl x2), (3, .inl x3), (4, .inl x4)] (by decide) (Nat.le_of_ble_eq_true rfl) rfl rfl ?_
  intro p e R s m args below meth c σ a τ ls hfr hlo E hr hk hn S hM hl
  have E : x_E p s m args c cX1_init 5 "WireMoney$Counter" D dA := E
  unfold mX1_init at hM
  refine w_aload_n E hl 0 dX1_init_0 rfl ?_
  refine w_obj E hl ⟨wd_126, wd_18, wd_19⟩ (by rw [hfr, hlo]; decide) (Nat.le_of_ble_eq_true rfl) dX1_init_1 ?_
  refine w_aload_n E hl 0 dX1_init_4 rfl ?_
  refine w_iload_n E hl 1 dX1_init_5 rfl ?_
  refine w_wI E S hM lk_1_9 rfl (Or.inr ⟨hn, rfl, rfl⟩) dX1_init_6 (fun σ H locs S hM => ?_)
  refine w_aload_n E hl 0 dX1_init_9 rfl ?_
  refine w_iload_n E hl 2 dX1_init_10 rfl ?_
  refine w_wI E S hM lk_1_15 rfl (Or.inl rfl) dX1_init_11 (fun σ H locs S hM => ?_)
  refine w_aload_n E hl 0 dX1_init_14 rfl ?_
  refine w_iload_n E hl 3 dX1_init_15 rfl ?_
  refine w_wI E S hM lk_1_18 rfl (Or.inr ⟨hn, rfl, rfl⟩) dX1_init_16 (fun σ H locs S hM => ?_)
  refine w_aload_n E hl 0 dX1_init_19 rfl ?_
  refine w_iload E hl 4 dX1_init_20 rfl ?_
  refine w_wI E S hM lk_1_21 rfl (Or.inr ⟨hn, rfl, rfl⟩) dX1_init_22 (fun σ H locs S hM => ?_)
  exact w_vret E S hM hr hk dX1_init_25
theorem dX1_isOpen_0 : decode cX1_isOpen 0 = .ok (.iload_n 1, 1) := by decide +kernel
theorem dX1_isOpen_1 : decode cX1_isOpen 1 = .ok (.sipush 1440, 3) := by decide +kernel
theorem dX1_isOpen_4 : decode cX1_isOpen 4 = .ok (.irem, 1) := by decide +kernel
theorem dX1_isOpen_5 : decode cX1_isOpen 5 = .ok (.istore_n 2, 1) := by decide +kernel
theorem dX1_isOpen_6 : decode cX1_isOpen 6 = .ok (.iload_n 2, 1) := by decide +kernel
theorem dX1_isOpen_7 : decode cX1_isOpen 7 = .ok (.aload_n 0, 1) := by decide +kernel
theorem dX1_isOpen_8 : decode cX1_isOpen 8 = .ok (.getfield 18, 3) := by decide +kernel
theorem dX1_isOpen_11 : decode cX1_isOpen 11 = .ok (.if_icmp .lt 15, 3) := by decide +kernel
theorem dX1_isOpen_14 : decode cX1_isOpen 14 = .ok (.iload_n 2, 1) := by decide +kernel
theorem dX1_isOpen_15 : decode cX1_isOpen 15 = .ok (.aload_n 0, 1) := by decide +kernel
theorem dX1_isOpen_16 : decode cX1_isOpen 16 = .ok (.getfield 21, 3) := by decide +kernel
theorem dX1_isOpen_19 : decode cX1_isOpen 19 = .ok (.if_icmp .ge 7, 3) := by decide +kernel
theorem dX1_isOpen_22 : decode cX1_isOpen 22 = .ok (.iconst 1, 1) := by decide +kernel
theorem dX1_isOpen_23 : decode cX1_isOpen 23 = .ok (.goto 4, 3) := by decide +kernel
theorem dX1_isOpen_26 : decode cX1_isOpen 26 = .ok (.iconst 0, 1) := by decide +kernel
theorem dX1_isOpen_27 : decode cX1_isOpen 27 = .ok (.ireturn, 1) := by decide +kernel
theorem mcX1_isOpen : x_mc yX1_isOpen cX1_isOpen 3 (some .boolean) 1 := ⟨wd_294, wd_5, by decide +kernel⟩
set_option maxHeartbeats 4000000 in
set_option maxRecDepth 100000 in
theorem kX1_isOpen (l : Launch) (base : Nat) (D : va_G) (dA : Nat → ClassId) (F : Nat) (r0 : Option Nat) (x1 : Int32) : x_Met l base D dA yX1_isOpen cX1_isOpen 3 (some .boolean) 0 0 [va_rf r0, .int x1] (mX1_isOpen F r0 x1) (fun x => some (.int x)) := by
  refine x_Met.of [(0, .inr (.inl r0)), (1, .inl x1)] (by decide) (Nat.le_of_ble_eq_true rfl) rfl rfl ?_
  intro p e R s m args below meth c σ a τ ls hfr hlo E hr hk hn S hM hl
  have E : x_E p s m args c cX1_isOpen 3 "WireMoney$Counter" D dA := E
  unfold mX1_isOpen at hM
  refine w_iload_n E hl 1 dX1_isOpen_0 rfl ?_
  refine lv_sipush (v := (1440 : Int32)) E.1 E.2.1 dX1_isOpen_1 (by decide) ?_
  refine w_irem E dX1_isOpen_4 (by decide) ?_
  refine w_nm hM (fun v5 hM => ?_)
  refine w_istore_n (lt' := [(2, .inl v5), (0, .inr (.inl r0)), (1, .inl x1)]) E hl dX1_isOpen_5 (by decide) rfl (fun ls hl => ?_)
  refine w_iload_n E hl 0 dX1_isOpen_6 rfl ?_
  refine w_aload_n E hl 1 dX1_isOpen_7 rfl ?_
  refine w_rI E S hM lk_1_18 rfl dX1_isOpen_8 (fun v8 hM => ?_)
  refine lv_icmp_lt (tgt := 26) E.1 E.2.1 dX1_isOpen_11 (by decide) (fun c11 => ?_) (fun c11 => ?_)
  · replace hM := x_okT hM c11
    refine lv_iconst (v := (0 : Int32)) E.1 E.2.1 dX1_isOpen_26 (by decide) ?_
    exact w_zretc E S hM (by decide) hr hk dX1_isOpen_27
  · replace hM := x_okF hM c11
    refine w_iload_n E hl 0 dX1_isOpen_14 rfl ?_
    refine w_aload_n E hl 1 dX1_isOpen_15 rfl ?_
    refine w_rI E S hM lk_1_21 rfl dX1_isOpen_16 (fun v16 hM => ?_)
    refine lv_icmp_ge (tgt := 26) E.1 E.2.1 dX1_isOpen_19 (by decide) (fun c19 => ?_) (fun c19 => ?_)
    · replace hM := x_okT hM c19
      refine lv_iconst (v := (0 : Int32)) E.1 E.2.1 dX1_isOpen_26 (by decide) ?_
      exact w_zretc E S hM (by decide) hr hk dX1_isOpen_27
    · replace hM := x_okF hM c19
      refine lv_iconst (v := (1 : Int32)) E.1 E.2.1 dX1_isOpen_22 (by decide) ?_
      refine lv_goto (tgt := 27) E.1 E.2.1 dX1_isOpen_23 (by decide) ?_
      exact w_zretc E S hM (by decide) hr hk dX1_isOpen_27
theorem dX2_init_0 : decode cX2_init 0 = .ok (.aload_n 0, 1) := by decide +kernel
theorem dX2_init_1 : decode cX2_init 1 = .ok (.invokespecial 3, 3) := by decide +kernel
theorem dX2_init_4 : decode cX2_init 4 = .ok (.aload_n 0, 1) := by decide +kernel
theorem dX2_init_5 : decode cX2_init 5 = .ok (.iload_n 1, 1) := by decide +kernel
theorem dX2_init_6 : decode cX2_init 6 = .ok (.putfield 9, 3) := by decide +kernel
theorem dX2_init_9 : decode cX2_init 9 = .ok (.aload_n 0, 1) := by decide +kernel
theorem dX2_init_10 : decode cX2_init 10 = .ok (.aload_n 2, 1) := by decide +kernel
theorem dX2_init_11 : decode cX2_init 11 = .ok (.putfield 15, 3) := by decide +kernel
theorem dX2_init_14 : decode cX2_init 14 = .ok (.aload_n 0, 1) := by decide +kernel
theorem dX2_init_15 : decode cX2_init 15 = .ok (.iload_n 3, 1) := by decide +kernel
theorem dX2_init_16 : decode cX2_init 16 = .ok (.ifCond .eq 10, 3) := by decide +kernel
theorem dX2_init_19 : decode cX2_init 19 = .ok (.aload_n 2, 1) := by decide +kernel
theorem dX2_init_20 : decode cX2_init 20 = .ok (.getfield 19, 3) := by decide +kernel
theorem dX2_init_23 : decode cX2_init 23 = .ok (.goto 7, 3) := by decide +kernel
theorem dX2_init_26 : decode cX2_init 26 = .ok (.aload_n 2, 1) := by decide +kernel
theorem dX2_init_27 : decode cX2_init 27 = .ok (.getfield 25, 3) := by decide +kernel
theorem dX2_init_30 : decode cX2_init 30 = .ok (.putfield 28, 3) := by decide +kernel
theorem dX2_init_33 : decode cX2_init 33 = .ok (.aload_n 0, 1) := by decide +kernel
theorem dX2_init_34 : decode cX2_init 34 = .ok (.iload_n 3, 1) := by decide +kernel
theorem dX2_init_35 : decode cX2_init 35 = .ok (.ifCond .eq 10, 3) := by decide +kernel
theorem dX2_init_38 : decode cX2_init 38 = .ok (.aload_n 2, 1) := by decide +kernel
theorem dX2_init_39 : decode cX2_init 39 = .ok (.getfield 25, 3) := by decide +kernel
theorem dX2_init_42 : decode cX2_init 42 = .ok (.goto 7, 3) := by decide +kernel
theorem dX2_init_45 : decode cX2_init 45 = .ok (.aload_n 2, 1) := by decide +kernel
theorem dX2_init_46 : decode cX2_init 46 = .ok (.getfield 19, 3) := by decide +kernel
theorem dX2_init_49 : decode cX2_init 49 = .ok (.putfield 29, 3) := by decide +kernel
theorem dX2_init_52 : decode cX2_init 52 = .ok (.aload_n 0, 1) := by decide +kernel
theorem dX2_init_53 : decode cX2_init 53 = .ok (.aload 4, 2) := by decide +kernel
theorem dX2_init_55 : decode cX2_init 55 = .ok (.putfield 30, 3) := by decide +kernel
theorem dX2_init_58 : decode cX2_init 58 = .ok (.aload_n 0, 1) := by decide +kernel
theorem dX2_init_59 : decode cX2_init 59 = .ok (.aload_n 0, 1) := by decide +kernel
theorem dX2_init_60 : decode cX2_init 60 = .ok (.getfield 28, 3) := by decide +kernel
theorem dX2_init_63 : decode cX2_init 63 = .ok (.putfield 34, 3) := by decide +kernel
theorem dX2_init_66 : decode cX2_init 66 = .ok (.aload_n 0, 1) := by decide +kernel
theorem dX2_init_67 : decode cX2_init 67 = .ok (.iconst (-1), 1) := by decide +kernel
theorem dX2_init_68 : decode cX2_init 68 = .ok (.putfield 37, 3) := by decide +kernel
theorem dX2_init_71 : decode cX2_init 71 = .ok (.aload_n 0, 1) := by decide +kernel
theorem dX2_init_72 : decode cX2_init 72 = .ok (.iconst (-1), 1) := by decide +kernel
theorem dX2_init_73 : decode cX2_init 73 = .ok (.putfield 40, 3) := by decide +kernel
theorem dX2_init_76 : decode cX2_init 76 = .ok (.return_, 1) := by decide +kernel
set_option maxHeartbeats 4000000 in
set_option maxRecDepth 100000 in
theorem bX2_init_49 {p : Program} {l : Launch} {e : Env} {R : Room} {s : State} {m : MethodId} {args : Array Value} {below : List Frame} {meth : Method} {c : Code} {base : Nat} {D : va_G} {dA : Nat → ClassId} {σ0 : PH} {z : Unit × PH} {F : Nat} (E : x_E p s m args c cX2_init 5 "WireMoney$Message" D dA) (hr : meth.sig.returnType = none) (hk : meth.locks = false) (hn : meth.name = "<init>") (hfr : R.frames = 1) (hlo : R.locals = 21) : ∀ (y0 : Nat) (y4 : Option Nat) (t0 : Option Nat) (t1 : Option Nat) (σ : PH) (H : Heap) (locs : List Loc) (ls : Array Slot), x_S base D dA R s σ0 z.2 σ H locs → x_rn (mX2_init_49 F (some y0) y4 t0 t1) σ = some z → x_lv ls 5 [(0, .inr (.inl (some y0))), (4, .inr (.inl y4))] → W p l e R s m args below meth c H locs (x_N σ - x_N σ0) (x_U σ - x_U σ0) (x_end below args s base D dA (fun _ => none) σ0 z) (F0 m 49 ls [va_rf t0, va_rf t1]) := by
  intro y0 y4 t0 t1 σ H locs ls S hM hl
  unfold mX2_init_49 at hM
  refine w_wR E S hM lk_2_29 rfl (Or.inr ⟨hn, rfl, rfl⟩) dX2_init_49 (fun σ H locs S hM => ?_)
  refine w_aload_n E hl 0 dX2_init_52 rfl ?_
  refine w_aload E hl 1 dX2_init_53 rfl ?_
  refine w_wR E S hM lk_2_30 rfl (Or.inr ⟨hn, rfl, rfl⟩) dX2_init_55 (fun σ H locs S hM => ?_)
  refine w_aload_n E hl 0 dX2_init_58 rfl ?_
  refine w_aload_n E hl 0 dX2_init_59 rfl ?_
  refine w_rR E S hM lk_2_28 rfl dX2_init_60 (fun v60 hM => ?_)
  refine w_wR E S hM lk_2_34 rfl (Or.inl rfl) dX2_init_63 (fun σ H locs S hM => ?_)
  refine w_aload_n E hl 0 dX2_init_66 rfl ?_
  refine lv_iconst (v := (-1 : Int32)) E.1 E.2.1 dX2_init_67 (by decide) ?_
  refine w_wI E S hM lk_2_37 rfl (Or.inl rfl) dX2_init_68 (fun σ H locs S hM => ?_)
  refine w_aload_n E hl 0 dX2_init_71 rfl ?_
  refine lv_iconst (v := (-1 : Int32)) E.1 E.2.1 dX2_init_72 (by decide) ?_
  refine w_wI E S hM lk_2_40 rfl (Or.inl rfl) dX2_init_73 (fun σ H locs S hM => ?_)
  exact w_vret E S hM hr hk dX2_init_76
set_option maxHeartbeats 4000000 in
set_option maxRecDepth 100000 in
theorem bX2_init_30 {p : Program} {l : Launch} {e : Env} {R : Room} {s : State} {m : MethodId} {args : Array Value} {below : List Frame} {meth : Method} {c : Code} {base : Nat} {D : va_G} {dA : Nat → ClassId} {σ0 : PH} {z : Unit × PH} {F : Nat} (E : x_E p s m args c cX2_init 5 "WireMoney$Message" D dA) (hr : meth.sig.returnType = none) (hk : meth.locks = false) (hn : meth.name = "<init>") (hfr : R.frames = 1) (hlo : R.locals = 21) : ∀ (y0 : Nat) (y2 : Option Nat) (y3 : Int32) (y4 : Option Nat) (t0 : Option Nat) (t1 : Option Nat) (σ : PH) (H : Heap) (locs : List Loc) (ls : Array Slot), x_S base D dA R s σ0 z.2 σ H locs → x_rn (mX2_init_30 F (some y0) y2 y3 y4 t0 t1) σ = some z → x_lv ls 5 [(0, .inr (.inl (some y0))), (2, .inr (.inl y2)), (3, .inl y3), (4, .inr (.inl y4))] → W p l e R s m args below meth c H locs (x_N σ - x_N σ0) (x_U σ - x_U σ0) (x_end below args s base D dA (fun _ => none) σ0 z) (F0 m 30 ls [va_rf t0, va_rf t1]) := by
  intro y0 y2 y3 y4 t0 t1 σ H locs ls S hM hl
  unfold mX2_init_30 at hM
  refine w_wR E S hM lk_2_28 rfl (Or.inr ⟨hn, rfl, rfl⟩) dX2_init_30 (fun σ H locs S hM => ?_)
  refine w_aload_n E hl 0 dX2_init_33 rfl ?_
  refine w_iload_n E hl 2 dX2_init_34 rfl ?_
  refine lv_if_eq (tgt := 45) E.1 E.2.1 dX2_init_35 (by decide) (fun c35 => ?_) (fun c35 => ?_)
  · replace hM := x_okT hM c35
    refine w_aload_n E hl 1 dX2_init_45 rfl ?_
    refine w_rR E S hM lk_2_19 rfl dX2_init_46 (fun v46 hM => ?_)
    exact bX2_init_49 E hr hk hn hfr hlo y0 y4 v46 (some y0) _ _ _ _ S hM (x_lv_sub hl [0, 3] rfl)
  · replace hM := x_okF hM c35
    refine w_aload_n E hl 1 dX2_init_38 rfl ?_
    refine w_rR E S hM lk_2_25 rfl dX2_init_39 (fun v39 hM => ?_)
    refine lv_goto (tgt := 49) E.1 E.2.1 dX2_init_42 (by decide) ?_
    exact bX2_init_49 E hr hk hn hfr hlo y0 y4 v39 (some y0) _ _ _ _ S hM (x_lv_sub hl [0, 3] rfl)
theorem mcX2_init : x_mc yX2_init cX2_init 5 none 4 := ⟨wd_391, wd_11, by decide +kernel⟩
set_option maxHeartbeats 4000000 in
set_option maxRecDepth 100000 in
theorem kX2_init (l : Launch) (base : Nat) (D : va_G) (dA : Nat → ClassId) (F : Nat) (r0 : Nat) (x1 : Int32) (r2 : Option Nat) (x3 : Int32) (r4 : Option Nat) : x_Met l base D dA yX2_init cX2_init 5 none 1 21 [va_rf (some r0), .int x1, va_rf r2, .int x3, va_rf r4] (mX2_init F (some r0) x1 r2 x3 r4) (fun _ => none) := by
  refine x_Met.of [(0, .inr (.inl (some r0))), (1, .inl x1), (2, .inr (.inl r2)), (3, .inl x3), (4, .inr (.inl r4))] (by decide) (Nat.le_of_ble_eq_true rfl) rfl rfl ?_
  intro p e R s m args below meth c σ a τ ls hfr hlo E hr hk hn S hM hl
  have E : x_E p s m args c cX2_init 5 "WireMoney$Message" D dA := E
  unfold mX2_init at hM
  refine w_aload_n E hl 0 dX2_init_0 rfl ?_
  refine w_obj E hl ⟨wd_392, wd_18, wd_19⟩ (by rw [hfr, hlo]; decide) (Nat.le_of_ble_eq_true rfl) dX2_init_1 ?_
  refine w_aload_n E hl 0 dX2_init_4 rfl ?_
  refine w_iload_n E hl 1 dX2_init_5 rfl ?_
  refine w_wI E S hM lk_2_9 rfl (Or.inr ⟨hn, rfl, rfl⟩) dX2_init_6 (fun σ H locs S hM => ?_)
  refine w_aload_n E hl 0 dX2_init_9 rfl ?_
  refine w_aload_n E hl 2 dX2_init_10 rfl ?_
  refine w_wR E S hM lk_2_15 rfl (Or.inr ⟨hn, rfl, rfl⟩) dX2_init_11 (fun σ H locs S hM => ?_)
  refine w_aload_n E hl 0 dX2_init_14 rfl ?_
  refine w_iload_n E hl 3 dX2_init_15 rfl ?_
  refine lv_if_eq (tgt := 26) E.1 E.2.1 dX2_init_16 (by decide) (fun c16 => ?_) (fun c16 => ?_)
  · replace hM := x_okT hM c16
    refine w_aload_n E hl 2 dX2_init_26 rfl ?_
    refine w_rR E S hM lk_2_25 rfl dX2_init_27 (fun v27 hM => ?_)
    exact bX2_init_30 E hr hk hn hfr hlo r0 r2 x3 r4 v27 (some r0) _ _ _ _ S hM (x_lv_sub hl [0, 2, 3, 4] rfl)
  · replace hM := x_okF hM c16
    refine w_aload_n E hl 2 dX2_init_19 rfl ?_
    refine w_rR E S hM lk_2_19 rfl dX2_init_20 (fun v20 hM => ?_)
    refine lv_goto (tgt := 30) E.1 E.2.1 dX2_init_23 (by decide) ?_
    exact bX2_init_30 E hr hk hn hfr hlo r0 r2 x3 r4 v20 (some r0) _ _ _ _ S hM (x_lv_sub hl [0, 2, 3, 4] rfl)
theorem dX2_isRead_0 : decode cX2_isRead 0 = .ok (.aload_n 0, 1) := by decide +kernel
theorem dX2_isRead_1 : decode cX2_isRead 1 = .ok (.getfield 40, 3) := by decide +kernel
theorem dX2_isRead_4 : decode cX2_isRead 4 = .ok (.iconst (-1), 1) := by decide +kernel
theorem dX2_isRead_5 : decode cX2_isRead 5 = .ok (.if_icmp .eq 7, 3) := by decide +kernel
theorem dX2_isRead_8 : decode cX2_isRead 8 = .ok (.iconst 1, 1) := by decide +kernel
theorem dX2_isRead_9 : decode cX2_isRead 9 = .ok (.goto 4, 3) := by decide +kernel
theorem dX2_isRead_12 : decode cX2_isRead 12 = .ok (.iconst 0, 1) := by decide +kernel
theorem dX2_isRead_13 : decode cX2_isRead 13 = .ok (.ireturn, 1) := by decide +kernel
theorem mcX2_isRead : x_mc yX2_isRead cX2_isRead 1 (some .boolean) 0 := ⟨wd_486, wd_11, by decide +kernel⟩
set_option maxHeartbeats 4000000 in
set_option maxRecDepth 100000 in
theorem kX2_isRead (l : Launch) (base : Nat) (D : va_G) (dA : Nat → ClassId) (F : Nat) (r0 : Option Nat) : x_Met l base D dA yX2_isRead cX2_isRead 1 (some .boolean) 0 0 [va_rf r0] (mX2_isRead F r0) (fun x => some (.int x)) := by
  refine x_Met.of [(0, .inr (.inl r0))] (by decide) (Nat.le_of_ble_eq_true rfl) rfl rfl ?_
  intro p e R s m args below meth c σ a τ ls hfr hlo E hr hk hn S hM hl
  have E : x_E p s m args c cX2_isRead 1 "WireMoney$Message" D dA := E
  unfold mX2_isRead at hM
  refine w_aload_n E hl 0 dX2_isRead_0 rfl ?_
  refine w_rI E S hM lk_2_40 rfl dX2_isRead_1 (fun v1 hM => ?_)
  refine lv_iconst (v := (-1 : Int32)) E.1 E.2.1 dX2_isRead_4 (by decide) ?_
  refine lv_icmp_eq (tgt := 12) E.1 E.2.1 dX2_isRead_5 (by decide) (fun c5 => ?_) (fun c5 => ?_)
  · replace hM := x_okT hM c5
    refine lv_iconst (v := (0 : Int32)) E.1 E.2.1 dX2_isRead_12 (by decide) ?_
    exact w_zretc E S hM (by decide) hr hk dX2_isRead_13
  · replace hM := x_okF hM c5
    refine lv_iconst (v := (1 : Int32)) E.1 E.2.1 dX2_isRead_8 (by decide) ?_
    refine lv_goto (tgt := 13) E.1 E.2.1 dX2_isRead_9 (by decide) ?_
    exact w_zretc E S hM (by decide) hr hk dX2_isRead_13
theorem dX2_enterWire_0 : decode cX2_enterWire 0 = .ok (.aload_n 0, 1) := by decide +kernel
theorem dX2_enterWire_1 : decode cX2_enterWire 1 = .ok (.aconst_null, 1) := by decide +kernel
theorem dX2_enterWire_2 : decode cX2_enterWire 2 = .ok (.putfield 34, 3) := by decide +kernel
theorem dX2_enterWire_5 : decode cX2_enterWire 5 = .ok (.aload_n 0, 1) := by decide +kernel
theorem dX2_enterWire_6 : decode cX2_enterWire 6 = .ok (.aload_n 1, 1) := by decide +kernel
theorem dX2_enterWire_7 : decode cX2_enterWire 7 = .ok (.putfield 43, 3) := by decide +kernel
theorem dX2_enterWire_10 : decode cX2_enterWire 10 = .ok (.aload_n 0, 1) := by decide +kernel
theorem dX2_enterWire_11 : decode cX2_enterWire 11 = .ok (.iload_n 2, 1) := by decide +kernel
theorem dX2_enterWire_12 : decode cX2_enterWire 12 = .ok (.putfield 37, 3) := by decide +kernel
theorem dX2_enterWire_15 : decode cX2_enterWire 15 = .ok (.return_, 1) := by decide +kernel
theorem mcX2_enterWire : x_mc yX2_enterWire cX2_enterWire 3 none 2 := ⟨wd_547, wd_11, by decide +kernel⟩
set_option maxHeartbeats 4000000 in
set_option maxRecDepth 100000 in
theorem kX2_enterWire (l : Launch) (base : Nat) (D : va_G) (dA : Nat → ClassId) (F : Nat) (r0 : Option Nat) (r1 : Option Nat) (x2 : Int32) : x_Met l base D dA yX2_enterWire cX2_enterWire 3 none 0 0 [va_rf r0, va_rf r1, .int x2] (mX2_enterWire F r0 r1 x2) (fun _ => none) := by
  refine x_Met.of [(0, .inr (.inl r0)), (1, .inr (.inl r1)), (2, .inl x2)] (by decide) (Nat.le_of_ble_eq_true rfl) rfl rfl ?_
  intro p e R s m args below meth c σ a τ ls hfr hlo E hr hk hn S hM hl
  have E : x_E p s m args c cX2_enterWire 3 "WireMoney$Message" D dA := E
  unfold mX2_enterWire at hM
  refine w_aload_n E hl 0 dX2_enterWire_0 rfl ?_
  refine w_null E dX2_enterWire_1 ?_
  refine w_wR E S hM lk_2_34 rfl (Or.inl rfl) dX2_enterWire_2 (fun σ H locs S hM => ?_)
  refine w_aload_n E hl 0 dX2_enterWire_5 rfl ?_
  refine w_aload_n E hl 1 dX2_enterWire_6 rfl ?_
  refine w_wR E S hM lk_2_43 rfl (Or.inl rfl) dX2_enterWire_7 (fun σ H locs S hM => ?_)
  refine w_aload_n E hl 0 dX2_enterWire_10 rfl ?_
  refine w_iload_n E hl 2 dX2_enterWire_11 rfl ?_
  refine w_wI E S hM lk_2_37 rfl (Or.inl rfl) dX2_enterWire_12 (fun σ H locs S hM => ?_)
  exact w_vret E S hM hr hk dX2_enterWire_15
theorem dX2_leaveWire_0 : decode cX2_leaveWire 0 = .ok (.aload_n 0, 1) := by decide +kernel
theorem dX2_leaveWire_1 : decode cX2_leaveWire 1 = .ok (.aload_n 0, 1) := by decide +kernel
theorem dX2_leaveWire_2 : decode cX2_leaveWire 2 = .ok (.getfield 43, 3) := by decide +kernel
theorem dX2_leaveWire_5 : decode cX2_leaveWire 5 = .ok (.putfield 34, 3) := by decide +kernel
theorem dX2_leaveWire_8 : decode cX2_leaveWire 8 = .ok (.aload_n 0, 1) := by decide +kernel
theorem dX2_leaveWire_9 : decode cX2_leaveWire 9 = .ok (.aconst_null, 1) := by decide +kernel
theorem dX2_leaveWire_10 : decode cX2_leaveWire 10 = .ok (.putfield 43, 3) := by decide +kernel
theorem dX2_leaveWire_13 : decode cX2_leaveWire 13 = .ok (.aload_n 0, 1) := by decide +kernel
theorem dX2_leaveWire_14 : decode cX2_leaveWire 14 = .ok (.iconst (-1), 1) := by decide +kernel
theorem dX2_leaveWire_15 : decode cX2_leaveWire 15 = .ok (.putfield 37, 3) := by decide +kernel
theorem dX2_leaveWire_18 : decode cX2_leaveWire 18 = .ok (.return_, 1) := by decide +kernel
theorem mcX2_leaveWire : x_mc yX2_leaveWire cX2_leaveWire 1 none 0 := ⟨wd_503, wd_11, by decide +kernel⟩
set_option maxHeartbeats 4000000 in
set_option maxRecDepth 100000 in
theorem kX2_leaveWire (l : Launch) (base : Nat) (D : va_G) (dA : Nat → ClassId) (F : Nat) (r0 : Option Nat) : x_Met l base D dA yX2_leaveWire cX2_leaveWire 1 none 0 0 [va_rf r0] (mX2_leaveWire F r0) (fun _ => none) := by
  refine x_Met.of [(0, .inr (.inl r0))] (by decide) (Nat.le_of_ble_eq_true rfl) rfl rfl ?_
  intro p e R s m args below meth c σ a τ ls hfr hlo E hr hk hn S hM hl
  have E : x_E p s m args c cX2_leaveWire 1 "WireMoney$Message" D dA := E
  unfold mX2_leaveWire at hM
  refine w_aload_n E hl 0 dX2_leaveWire_0 rfl ?_
  refine w_aload_n E hl 0 dX2_leaveWire_1 rfl ?_
  refine w_rR E S hM lk_2_43 rfl dX2_leaveWire_2 (fun v2 hM => ?_)
  refine w_wR E S hM lk_2_34 rfl (Or.inl rfl) dX2_leaveWire_5 (fun σ H locs S hM => ?_)
  refine w_aload_n E hl 0 dX2_leaveWire_8 rfl ?_
  refine w_null E dX2_leaveWire_9 ?_
  refine w_wR E S hM lk_2_43 rfl (Or.inl rfl) dX2_leaveWire_10 (fun σ H locs S hM => ?_)
  refine w_aload_n E hl 0 dX2_leaveWire_13 rfl ?_
  refine lv_iconst (v := (-1 : Int32)) E.1 E.2.1 dX2_leaveWire_14 (by decide) ?_
  refine w_wI E S hM lk_2_37 rfl (Or.inl rfl) dX2_leaveWire_15 (fun σ H locs S hM => ?_)
  exact w_vret E S hM hr hk dX2_leaveWire_18
theorem dX3_init_0 : decode cX3_init 0 = .ok (.aload_n 0, 1) := by decide +kernel
theorem dX3_init_1 : decode cX3_init 1 = .ok (.invokespecial 3, 3) := by decide +kernel
theorem dX3_init_4 : decode cX3_init 4 = .ok (.aload_n 0, 1) := by decide +kernel
theorem dX3_init_5 : decode cX3_init 5 = .ok (.bipush 10, 2) := by decide +kernel
theorem dX3_init_7 : decode cX3_init 7 = .ok (.anewarray 9, 3) := by decide +kernel
theorem dX3_init_10 : decode cX3_init 10 = .ok (.putfield 11, 3) := by decide +kernel
theorem dX3_init_13 : decode cX3_init 13 = .ok (.aload_n 0, 1) := by decide +kernel
theorem dX3_init_14 : decode cX3_init 14 = .ok (.bipush 15, 2) := by decide +kernel
theorem dX3_init_16 : decode cX3_init 16 = .ok (.anewarray 17, 3) := by decide +kernel
theorem dX3_init_19 : decode cX3_init 19 = .ok (.putfield 19, 3) := by decide +kernel
theorem dX3_init_22 : decode cX3_init 22 = .ok (.aload_n 0, 1) := by decide +kernel
theorem dX3_init_23 : decode cX3_init 23 = .ok (.bipush 100, 2) := by decide +kernel
theorem dX3_init_25 : decode cX3_init 25 = .ok (.newarray .int, 2) := by decide +kernel
theorem dX3_init_27 : decode cX3_init 27 = .ok (.putfield 23, 3) := by decide +kernel
theorem dX3_init_30 : decode cX3_init 30 = .ok (.aload_n 0, 1) := by decide +kernel
theorem dX3_init_31 : decode cX3_init 31 = .ok (.bipush 100, 2) := by decide +kernel
theorem dX3_init_33 : decode cX3_init 33 = .ok (.anewarray 17, 3) := by decide +kernel
theorem dX3_init_36 : decode cX3_init 36 = .ok (.putfield 27, 3) := by decide +kernel
theorem dX3_init_39 : decode cX3_init 39 = .ok (.aload_n 0, 1) := by decide +kernel
theorem dX3_init_40 : decode cX3_init 40 = .ok (.bipush 100, 2) := by decide +kernel
theorem dX3_init_42 : decode cX3_init 42 = .ok (.anewarray 17, 3) := by decide +kernel
theorem dX3_init_45 : decode cX3_init 45 = .ok (.putfield 30, 3) := by decide +kernel
theorem dX3_init_48 : decode cX3_init 48 = .ok (.iconst 0, 1) := by decide +kernel
theorem dX3_init_49 : decode cX3_init 49 = .ok (.istore_n 1, 1) := by decide +kernel
theorem dX3_init_50 : decode cX3_init 50 = .ok (.iload_n 1, 1) := by decide +kernel
theorem dX3_init_51 : decode cX3_init 51 = .ok (.aload_n 0, 1) := by decide +kernel
theorem dX3_init_52 : decode cX3_init 52 = .ok (.getfield 23, 3) := by decide +kernel
theorem dX3_init_55 : decode cX3_init 55 = .ok (.arraylength, 1) := by decide +kernel
theorem dX3_init_56 : decode cX3_init 56 = .ok (.if_icmp .ge 42, 3) := by decide +kernel
theorem dX3_init_59 : decode cX3_init 59 = .ok (.iload_n 1, 1) := by decide +kernel
theorem dX3_init_60 : decode cX3_init 60 = .ok (.bipush 10, 2) := by decide +kernel
theorem dX3_init_62 : decode cX3_init 62 = .ok (.idiv, 1) := by decide +kernel
theorem dX3_init_63 : decode cX3_init 63 = .ok (.iload_n 1, 1) := by decide +kernel
theorem dX3_init_64 : decode cX3_init 64 = .ok (.bipush 10, 2) := by decide +kernel
theorem dX3_init_66 : decode cX3_init 66 = .ok (.irem, 1) := by decide +kernel
theorem dX3_init_67 : decode cX3_init 67 = .ok (.if_icmp .ne 7, 3) := by decide +kernel
theorem dX3_init_70 : decode cX3_init 70 = .ok (.iconst 1, 1) := by decide +kernel
theorem dX3_init_71 : decode cX3_init 71 = .ok (.goto 4, 3) := by decide +kernel
theorem dX3_init_74 : decode cX3_init 74 = .ok (.iconst 0, 1) := by decide +kernel
theorem dX3_init_75 : decode cX3_init 75 = .ok (.istore_n 2, 1) := by decide +kernel
theorem dX3_init_76 : decode cX3_init 76 = .ok (.aload_n 0, 1) := by decide +kernel
theorem dX3_init_77 : decode cX3_init 77 = .ok (.getfield 23, 3) := by decide +kernel
theorem dX3_init_80 : decode cX3_init 80 = .ok (.iload_n 1, 1) := by decide +kernel
theorem dX3_init_81 : decode cX3_init 81 = .ok (.iload_n 2, 1) := by decide +kernel
theorem dX3_init_82 : decode cX3_init 82 = .ok (.ifCond .eq 7, 3) := by decide +kernel
theorem dX3_init_85 : decode cX3_init 85 = .ok (.iconst 0, 1) := by decide +kernel
theorem dX3_init_86 : decode cX3_init 86 = .ok (.goto 5, 3) := by decide +kernel
theorem dX3_init_89 : decode cX3_init 89 = .ok (.ldc 33, 2) := by decide +kernel
theorem dX3_init_91 : decode cX3_init 91 = .ok (.iastore, 1) := by decide +kernel
theorem dX3_init_92 : decode cX3_init 92 = .ok (.iinc 1 1, 3) := by decide +kernel
theorem dX3_init_95 : decode cX3_init 95 = .ok (.goto (-45), 3) := by decide +kernel
theorem dX3_init_98 : decode cX3_init 98 = .ok (.return_, 1) := by decide +kernel
set_option maxHeartbeats 4000000 in
set_option maxRecDepth 100000 in
theorem bX3_init_50 {p : Program} {l : Launch} {e : Env} {R : Room} {s : State} {m : MethodId} {args : Array Value} {below : List Frame} {meth : Method} {c : Code} {base : Nat} {D : va_G} {dA : Nat → ClassId} {σ0 : PH} {z : Unit × PH} {F : Nat} (E : x_E p s m args c cX3_init 3 "WireMoney$Net" D dA) (hr : meth.sig.returnType = none) (hk : meth.locks = false) (hn : meth.name = "<init>") (hfr : R.frames = 1) (hlo : R.locals = 21) : ∀ (n : Nat) (y0 : Nat) (y1 : Int32) (σ : PH) (H : Heap) (locs : List Loc) (ls : Array Slot), x_S base D dA R s σ0 z.2 σ H locs → x_rn (mX3_init_50 F n (some y0) y1) σ = some z → x_lv ls 3 [(0, .inr (.inl (some y0))), (1, .inl y1)] → W p l e R s m args below meth c H locs (x_N σ - x_N σ0) (x_U σ - x_U σ0) (x_end below args s base D dA (fun _ => none) σ0 z) (F0 m 50 ls []) := by
  intro n
  induction n with
  | zero =>
    intro y0 y1 σ H locs ls S hM hl
    cases hM
  | succ n ih =>
    intro y0 y1 σ H locs ls S hM hl
    rw [mX3_init_50] at hM
    refine w_iload_n E hl 1 dX3_init_50 rfl ?_
    refine w_aload_n E hl 0 dX3_init_51 rfl ?_
    refine w_rR E S hM lk_3_23 rfl dX3_init_52 (fun v52 hM => ?_)
    refine w_aL E S hM (by decide) dX3_init_55 (fun v55 hM => ?_)
    refine lv_icmp_ge (tgt := 98) E.1 E.2.1 dX3_init_56 (by decide) (fun c56 => ?_) (fun c56 => ?_)
    · replace hM := x_okT hM c56
      exact w_vret E S hM hr hk dX3_init_98
    · replace hM := x_okF hM c56
      refine w_iload_n E hl 1 dX3_init_59 rfl ?_
      refine lv_bipush (v := (10 : Int32)) E.1 E.2.1 dX3_init_60 (by decide) ?_
      refine lv_idiv E.1 E.2.1 dX3_init_62 (by decide) ?_
      refine w_iload_n E hl 1 dX3_init_63 rfl ?_
      refine lv_bipush (v := (10 : Int32)) E.1 E.2.1 dX3_init_64 (by decide) ?_
      refine w_irem E dX3_init_66 (by decide) ?_
      refine lv_icmp_ne (tgt := 74) E.1 E.2.1 dX3_init_67 (by decide) (fun c67 => ?_) (fun c67 => ?_)
      · replace hM := x_okF hM c67
        refine lv_iconst (v := (0 : Int32)) E.1 E.2.1 dX3_init_74 (by decide) ?_
        refine w_istore_n (lt' := [(2, .inl (0 : Int32)), (0, .inr (.inl (some y0))), (1, .inl y1)]) E hl dX3_init_75 (by decide) rfl (fun ls hl => ?_)
        refine w_aload_n E hl 1 dX3_init_76 rfl ?_
        refine w_rR E S hM lk_3_23 rfl dX3_init_77 (fun v77 hM => ?_)
        refine w_iload_n E hl 2 dX3_init_80 rfl ?_
        refine w_iload_n E hl 0 dX3_init_81 rfl ?_
        refine lv_if_eq (tgt := 89) E.1 E.2.1 dX3_init_82 (by decide) (fun c82 => ?_) (fun c82 => ?_)
        · replace hM := x_okT hM c82
          refine w_ldc (v := (1000000 : Int32)) E wd_30 dX3_init_89 ?_
          refine w_sI E S hM dX3_init_91 (fun σ H locs S hM => ?_)
          refine w_iincN (ltf := fun v92 => [(1, .inl v92), (2, .inl (0 : Int32)), (0, .inr (.inl (some y0)))]) E hl 2 hM dX3_init_92 rfl (by decide) (by decide) (fun _ => rfl) (fun v92 ls hM hl => ?_)
          refine lv_goto (tgt := 50) E.1 E.2.1 dX3_init_95 (by decide) ?_
          exact ih y0 v92 _ _ _ _ S hM (x_lv_sub hl [2, 0] rfl)
        · replace hM := x_okF hM c82
          refine lv_iconst (v := (0 : Int32)) E.1 E.2.1 dX3_init_85 (by decide) ?_
          refine lv_goto (tgt := 91) E.1 E.2.1 dX3_init_86 (by decide) ?_
          refine w_sI E S hM dX3_init_91 (fun σ H locs S hM => ?_)
          refine w_iincN (ltf := fun v92 => [(1, .inl v92), (2, .inl (0 : Int32)), (0, .inr (.inl (some y0)))]) E hl 2 hM dX3_init_92 rfl (by decide) (by decide) (fun _ => rfl) (fun v92 ls hM hl => ?_)
          refine lv_goto (tgt := 50) E.1 E.2.1 dX3_init_95 (by decide) ?_
          exact ih y0 v92 _ _ _ _ S hM (x_lv_sub hl [2, 0] rfl)
      · replace hM := x_okT hM c67
        refine lv_iconst (v := (1 : Int32)) E.1 E.2.1 dX3_init_70 (by decide) ?_
        refine lv_goto (tgt := 75) E.1 E.2.1 dX3_init_71 (by decide) ?_
        refine w_istore_n (lt' := [(2, .inl (1 : Int32)), (0, .inr (.inl (some y0))), (1, .inl y1)]) E hl dX3_init_75 (by decide) rfl (fun ls hl => ?_)
        refine w_aload_n E hl 1 dX3_init_76 rfl ?_
        refine w_rR E S hM lk_3_23 rfl dX3_init_77 (fun v77 hM => ?_)
        refine w_iload_n E hl 2 dX3_init_80 rfl ?_
        refine w_iload_n E hl 0 dX3_init_81 rfl ?_
        refine lv_if_eq (tgt := 89) E.1 E.2.1 dX3_init_82 (by decide) (fun c82 => ?_) (fun c82 => ?_)
        · replace hM := x_okT hM c82
          refine w_ldc (v := (1000000 : Int32)) E wd_30 dX3_init_89 ?_
          refine w_sI E S hM dX3_init_91 (fun σ H locs S hM => ?_)
          refine w_iincN (ltf := fun v92 => [(1, .inl v92), (2, .inl (1 : Int32)), (0, .inr (.inl (some y0)))]) E hl 2 hM dX3_init_92 rfl (by decide) (by decide) (fun _ => rfl) (fun v92 ls hM hl => ?_)
          refine lv_goto (tgt := 50) E.1 E.2.1 dX3_init_95 (by decide) ?_
          exact ih y0 v92 _ _ _ _ S hM (x_lv_sub hl [2, 0] rfl)
        · replace hM := x_okF hM c82
          refine lv_iconst (v := (0 : Int32)) E.1 E.2.1 dX3_init_85 (by decide) ?_
          refine lv_goto (tgt := 91) E.1 E.2.1 dX3_init_86 (by decide) ?_
          refine w_sI E S hM dX3_init_91 (fun σ H locs S hM => ?_)
          refine w_iincN (ltf := fun v92 => [(1, .inl v92), (2, .inl (1 : Int32)), (0, .inr (.inl (some y0)))]) E hl 2 hM dX3_init_92 rfl (by decide) (by decide) (fun _ => rfl) (fun v92 ls hM hl => ?_)
          refine lv_goto (tgt := 50) E.1 E.2.1 dX3_init_95 (by decide) ?_
          exact ih y0 v92 _ _ _ _ S hM (x_lv_sub hl [2, 0] rfl)
theorem mcX3_init : x_mc yX3_init cX3_init 3 none 0 := ⟨wd_24, wd_2, by decide +kernel⟩
set_option maxHeartbeats 4000000 in
set_option maxRecDepth 100000 in
theorem kX3_init (l : Launch) (base : Nat) (D : va_G) (dA : Nat → ClassId) (F : Nat) (r0 : Nat) : x_Met l base D dA yX3_init cX3_init 3 none 1 21 [va_rf (some r0)] (mX3_init F (some r0)) (fun _ => none) := by
  refine x_Met.of [(0, .inr (.inl (some r0)))] (by decide) (Nat.le_of_ble_eq_true rfl) rfl rfl ?_
  intro p e R s m args below meth c σ a τ ls hfr hlo E hr hk hn S hM hl
  have E : x_E p s m args c cX3_init 3 "WireMoney$Net" D dA := E
  unfold mX3_init at hM
  refine w_aload_n E hl 0 dX3_init_0 rfl ?_
  refine w_obj E hl ⟨wd_25, wd_18, wd_19⟩ (by rw [hfr, hlo]; decide) (Nat.le_of_ble_eq_true rfl) dX3_init_1 ?_
  refine w_aload_n E hl 0 dX3_init_4 rfl ?_
  refine lv_bipush (v := (10 : Int32)) E.1 E.2.1 dX3_init_5 (by decide) ?_
  refine w_newq E S hM (by decide) wd_26 dX3_init_7 (fun v7 σ H S hM => ?_)
  refine w_wR E S hM lk_3_11 rfl (Or.inr ⟨hn, rfl, rfl⟩) dX3_init_10 (fun σ H locs S hM => ?_)
  refine w_aload_n E hl 0 dX3_init_13 rfl ?_
  refine lv_bipush (v := (15 : Int32)) E.1 E.2.1 dX3_init_14 (by decide) ?_
  refine w_newq E S hM (by decide) wd_28 dX3_init_16 (fun v16 σ H S hM => ?_)
  refine w_wR E S hM lk_3_19 rfl (Or.inr ⟨hn, rfl, rfl⟩) dX3_init_19 (fun σ H locs S hM => ?_)
  refine w_aload_n E hl 0 dX3_init_22 rfl ?_
  refine lv_bipush (v := (100 : Int32)) E.1 E.2.1 dX3_init_23 (by decide) ?_
  refine w_newa (atype := .int) E S hM ⟨by decide, rfl, wd_55⟩ dX3_init_25 (fun v25 σ H S hM => ?_)
  refine w_wR E S hM lk_3_23 rfl (Or.inr ⟨hn, rfl, rfl⟩) dX3_init_27 (fun σ H locs S hM => ?_)
  refine w_aload_n E hl 0 dX3_init_30 rfl ?_
  refine lv_bipush (v := (100 : Int32)) E.1 E.2.1 dX3_init_31 (by decide) ?_
  refine w_newq E S hM (by decide) wd_28 dX3_init_33 (fun v33 σ H S hM => ?_)
  refine w_wR E S hM lk_3_27 rfl (Or.inr ⟨hn, rfl, rfl⟩) dX3_init_36 (fun σ H locs S hM => ?_)
  refine w_aload_n E hl 0 dX3_init_39 rfl ?_
  refine lv_bipush (v := (100 : Int32)) E.1 E.2.1 dX3_init_40 (by decide) ?_
  refine w_newq E S hM (by decide) wd_28 dX3_init_42 (fun v42 σ H S hM => ?_)
  refine w_wR E S hM lk_3_30 rfl (Or.inr ⟨hn, rfl, rfl⟩) dX3_init_45 (fun σ H locs S hM => ?_)
  refine lv_iconst (v := (0 : Int32)) E.1 E.2.1 dX3_init_48 (by decide) ?_
  refine w_istore_n (lt' := [(1, .inl (0 : Int32)), (0, .inr (.inl (some r0)))]) E hl dX3_init_49 (by decide) rfl (fun ls hl => ?_)
  exact bX3_init_50 E hr hk hn hfr hlo F r0 (0 : Int32) _ _ _ _ S hM (x_lv_sub hl [1, 0] rfl)
theorem dX3_findCounter_0 : decode cX3_findCounter 0 = .ok (.iload_n 1, 1) := by decide +kernel
theorem dX3_findCounter_1 : decode cX3_findCounter 1 = .ok (.ifCond .lt 29, 3) := by decide +kernel
theorem dX3_findCounter_4 : decode cX3_findCounter 4 = .ok (.iload_n 1, 1) := by decide +kernel
theorem dX3_findCounter_5 : decode cX3_findCounter 5 = .ok (.aload_n 0, 1) := by decide +kernel
theorem dX3_findCounter_6 : decode cX3_findCounter 6 = .ok (.getfield 34, 3) := by decide +kernel
theorem dX3_findCounter_9 : decode cX3_findCounter 9 = .ok (.if_icmp .ge 21, 3) := by decide +kernel
theorem dX3_findCounter_12 : decode cX3_findCounter 12 = .ok (.iload_n 1, 1) := by decide +kernel
theorem dX3_findCounter_13 : decode cX3_findCounter 13 = .ok (.aload_n 0, 1) := by decide +kernel
theorem dX3_findCounter_14 : decode cX3_findCounter 14 = .ok (.getfield 11, 3) := by decide +kernel
theorem dX3_findCounter_17 : decode cX3_findCounter 17 = .ok (.arraylength, 1) := by decide +kernel
theorem dX3_findCounter_18 : decode cX3_findCounter 18 = .ok (.if_icmp .ge 12, 3) := by decide +kernel
theorem dX3_findCounter_21 : decode cX3_findCounter 21 = .ok (.aload_n 0, 1) := by decide +kernel
theorem dX3_findCounter_22 : decode cX3_findCounter 22 = .ok (.getfield 11, 3) := by decide +kernel
theorem dX3_findCounter_25 : decode cX3_findCounter 25 = .ok (.iload_n 1, 1) := by decide +kernel
theorem dX3_findCounter_26 : decode cX3_findCounter 26 = .ok (.aaload, 1) := by decide +kernel
theorem dX3_findCounter_27 : decode cX3_findCounter 27 = .ok (.goto 4, 3) := by decide +kernel
theorem dX3_findCounter_30 : decode cX3_findCounter 30 = .ok (.aconst_null, 1) := by decide +kernel
theorem dX3_findCounter_31 : decode cX3_findCounter 31 = .ok (.areturn, 1) := by decide +kernel
theorem mcX3_findCounter : x_mc yX3_findCounter cX3_findCounter 2 (some (.object "WireMoney$Counter")) 1 := ⟨wd_156, wd_2, by decide +kernel⟩
set_option maxHeartbeats 4000000 in
set_option maxRecDepth 100000 in
theorem kX3_findCounter (l : Launch) (base : Nat) (D : va_G) (dA : Nat → ClassId) (F : Nat) (r0 : Option Nat) (x1 : Int32) : x_Met l base D dA yX3_findCounter cX3_findCounter 2 (some (.object "WireMoney$Counter")) 0 0 [va_rf r0, .int x1] (mX3_findCounter F r0 x1) (fun x => some (va_rf x)) := by
  refine x_Met.of [(0, .inr (.inl r0)), (1, .inl x1)] (by decide) (Nat.le_of_ble_eq_true rfl) rfl rfl ?_
  intro p e R s m args below meth c σ a τ ls hfr hlo E hr hk hn S hM hl
  have E : x_E p s m args c cX3_findCounter 2 "WireMoney$Net" D dA := E
  unfold mX3_findCounter at hM
  refine w_iload_n E hl 1 dX3_findCounter_0 rfl ?_
  refine lv_if_lt (tgt := 30) E.1 E.2.1 dX3_findCounter_1 (by decide) (fun c1 => ?_) (fun c1 => ?_)
  · replace hM := x_okT hM c1
    refine w_null E dX3_findCounter_30 ?_
    exact w_aret E S hM hr hk dX3_findCounter_31
  · replace hM := x_okF hM c1
    refine w_iload_n E hl 1 dX3_findCounter_4 rfl ?_
    refine w_aload_n E hl 0 dX3_findCounter_5 rfl ?_
    refine w_rI E S hM lk_3_34 rfl dX3_findCounter_6 (fun v6 hM => ?_)
    refine lv_icmp_ge (tgt := 30) E.1 E.2.1 dX3_findCounter_9 (by decide) (fun c9 => ?_) (fun c9 => ?_)
    · replace hM := x_okT hM c9
      refine w_null E dX3_findCounter_30 ?_
      exact w_aret E S hM hr hk dX3_findCounter_31
    · replace hM := x_okF hM c9
      refine w_iload_n E hl 1 dX3_findCounter_12 rfl ?_
      refine w_aload_n E hl 0 dX3_findCounter_13 rfl ?_
      refine w_rR E S hM lk_3_11 rfl dX3_findCounter_14 (fun v14 hM => ?_)
      refine w_aL E S hM (by decide) dX3_findCounter_17 (fun v17 hM => ?_)
      refine lv_icmp_ge (tgt := 30) E.1 E.2.1 dX3_findCounter_18 (by decide) (fun c18 => ?_) (fun c18 => ?_)
      · replace hM := x_okT hM c18
        refine w_null E dX3_findCounter_30 ?_
        exact w_aret E S hM hr hk dX3_findCounter_31
      · replace hM := x_okF hM c18
        refine w_aload_n E hl 0 dX3_findCounter_21 rfl ?_
        refine w_rR E S hM lk_3_11 rfl dX3_findCounter_22 (fun v22 hM => ?_)
        refine w_iload_n E hl 1 dX3_findCounter_25 rfl ?_
        refine w_aQ E S hM (by decide) dX3_findCounter_26 (fun v26 hM => ?_)
        refine lv_goto (tgt := 31) E.1 E.2.1 dX3_findCounter_27 (by decide) ?_
        exact w_aret E S hM hr hk dX3_findCounter_31
theorem dX3_findWire_0 : decode cX3_findWire 0 = .ok (.iload_n 1, 1) := by decide +kernel
theorem dX3_findWire_1 : decode cX3_findWire 1 = .ok (.ifCond .lt 29, 3) := by decide +kernel
theorem dX3_findWire_4 : decode cX3_findWire 4 = .ok (.iload_n 1, 1) := by decide +kernel
theorem dX3_findWire_5 : decode cX3_findWire 5 = .ok (.aload_n 0, 1) := by decide +kernel
theorem dX3_findWire_6 : decode cX3_findWire 6 = .ok (.getfield 38, 3) := by decide +kernel
theorem dX3_findWire_9 : decode cX3_findWire 9 = .ok (.if_icmp .ge 21, 3) := by decide +kernel
theorem dX3_findWire_12 : decode cX3_findWire 12 = .ok (.iload_n 1, 1) := by decide +kernel
theorem dX3_findWire_13 : decode cX3_findWire 13 = .ok (.aload_n 0, 1) := by decide +kernel
theorem dX3_findWire_14 : decode cX3_findWire 14 = .ok (.getfield 19, 3) := by decide +kernel
theorem dX3_findWire_17 : decode cX3_findWire 17 = .ok (.arraylength, 1) := by decide +kernel
theorem dX3_findWire_18 : decode cX3_findWire 18 = .ok (.if_icmp .ge 12, 3) := by decide +kernel
theorem dX3_findWire_21 : decode cX3_findWire 21 = .ok (.aload_n 0, 1) := by decide +kernel
theorem dX3_findWire_22 : decode cX3_findWire 22 = .ok (.getfield 19, 3) := by decide +kernel
theorem dX3_findWire_25 : decode cX3_findWire 25 = .ok (.iload_n 1, 1) := by decide +kernel
theorem dX3_findWire_26 : decode cX3_findWire 26 = .ok (.aaload, 1) := by decide +kernel
theorem dX3_findWire_27 : decode cX3_findWire 27 = .ok (.goto 4, 3) := by decide +kernel
theorem dX3_findWire_30 : decode cX3_findWire 30 = .ok (.aconst_null, 1) := by decide +kernel
theorem dX3_findWire_31 : decode cX3_findWire 31 = .ok (.areturn, 1) := by decide +kernel
theorem mcX3_findWire : x_mc yX3_findWire cX3_findWire 2 (some (.object "WireMoney$Wire")) 1 := ⟨wd_249, wd_2, by decide +kernel⟩
set_option maxHeartbeats 4000000 in
set_option maxRecDepth 100000 in
theorem kX3_findWire (l : Launch) (base : Nat) (D : va_G) (dA : Nat → ClassId) (F : Nat) (r0 : Option Nat) (x1 : Int32) : x_Met l base D dA yX3_findWire cX3_findWire 2 (some (.object "WireMoney$Wire")) 0 0 [va_rf r0, .int x1] (mX3_findWire F r0 x1) (fun x => some (va_rf x)) := by
  refine x_Met.of [(0, .inr (.inl r0)), (1, .inl x1)] (by decide) (Nat.le_of_ble_eq_true rfl) rfl rfl ?_
  intro p e R s m args below meth c σ a τ ls hfr hlo E hr hk hn S hM hl
  have E : x_E p s m args c cX3_findWire 2 "WireMoney$Net" D dA := E
  unfold mX3_findWire at hM
  refine w_iload_n E hl 1 dX3_findWire_0 rfl ?_
  refine lv_if_lt (tgt := 30) E.1 E.2.1 dX3_findWire_1 (by decide) (fun c1 => ?_) (fun c1 => ?_)
  · replace hM := x_okT hM c1
    refine w_null E dX3_findWire_30 ?_
    exact w_aret E S hM hr hk dX3_findWire_31
  · replace hM := x_okF hM c1
    refine w_iload_n E hl 1 dX3_findWire_4 rfl ?_
    refine w_aload_n E hl 0 dX3_findWire_5 rfl ?_
    refine w_rI E S hM lk_3_38 rfl dX3_findWire_6 (fun v6 hM => ?_)
    refine lv_icmp_ge (tgt := 30) E.1 E.2.1 dX3_findWire_9 (by decide) (fun c9 => ?_) (fun c9 => ?_)
    · replace hM := x_okT hM c9
      refine w_null E dX3_findWire_30 ?_
      exact w_aret E S hM hr hk dX3_findWire_31
    · replace hM := x_okF hM c9
      refine w_iload_n E hl 1 dX3_findWire_12 rfl ?_
      refine w_aload_n E hl 0 dX3_findWire_13 rfl ?_
      refine w_rR E S hM lk_3_19 rfl dX3_findWire_14 (fun v14 hM => ?_)
      refine w_aL E S hM (by decide) dX3_findWire_17 (fun v17 hM => ?_)
      refine lv_icmp_ge (tgt := 30) E.1 E.2.1 dX3_findWire_18 (by decide) (fun c18 => ?_) (fun c18 => ?_)
      · replace hM := x_okT hM c18
        refine w_null E dX3_findWire_30 ?_
        exact w_aret E S hM hr hk dX3_findWire_31
      · replace hM := x_okF hM c18
        refine w_aload_n E hl 0 dX3_findWire_21 rfl ?_
        refine w_rR E S hM lk_3_19 rfl dX3_findWire_22 (fun v22 hM => ?_)
        refine w_iload_n E hl 1 dX3_findWire_25 rfl ?_
        refine w_aQ E S hM (by decide) dX3_findWire_26 (fun v26 hM => ?_)
        refine lv_goto (tgt := 31) E.1 E.2.1 dX3_findWire_27 (by decide) ?_
        exact w_aret E S hM hr hk dX3_findWire_31
theorem dX3_addCounter_0 : decode cX3_addCounter 0 = .ok (.aload_n 0, 1) := by decide +kernel
theorem dX3_addCounter_1 : decode cX3_addCounter 1 = .ok (.getfield 34, 3) := by decide +kernel
theorem dX3_addCounter_4 : decode cX3_addCounter 4 = .ok (.istore 4, 2) := by decide +kernel
theorem dX3_addCounter_6 : decode cX3_addCounter 6 = .ok (.iload 4, 2) := by decide +kernel
theorem dX3_addCounter_8 : decode cX3_addCounter 8 = .ok (.aload_n 0, 1) := by decide +kernel
theorem dX3_addCounter_9 : decode cX3_addCounter 9 = .ok (.getfield 11, 3) := by decide +kernel
theorem dX3_addCounter_12 : decode cX3_addCounter 12 = .ok (.arraylength, 1) := by decide +kernel
theorem dX3_addCounter_13 : decode cX3_addCounter 13 = .ok (.if_icmp .lt 5, 3) := by decide +kernel
theorem dX3_addCounter_16 : decode cX3_addCounter 16 = .ok (.iconst (-1), 1) := by decide +kernel
theorem dX3_addCounter_17 : decode cX3_addCounter 17 = .ok (.ireturn, 1) := by decide +kernel
theorem dX3_addCounter_18 : decode cX3_addCounter 18 = .ok (.aload_n 0, 1) := by decide +kernel
theorem dX3_addCounter_19 : decode cX3_addCounter 19 = .ok (.getfield 11, 3) := by decide +kernel
theorem dX3_addCounter_22 : decode cX3_addCounter 22 = .ok (.iload 4, 2) := by decide +kernel
theorem dX3_addCounter_24 : decode cX3_addCounter 24 = .ok (.new 9, 3) := by decide +kernel
theorem dX3_addCounter_27 : decode cX3_addCounter 27 = .ok (.dup, 1) := by decide +kernel
theorem dX3_addCounter_28 : decode cX3_addCounter 28 = .ok (.iload 4, 2) := by decide +kernel
theorem dX3_addCounter_30 : decode cX3_addCounter 30 = .ok (.iload_n 1, 1) := by decide +kernel
theorem dX3_addCounter_31 : decode cX3_addCounter 31 = .ok (.iload_n 2, 1) := by decide +kernel
theorem dX3_addCounter_32 : decode cX3_addCounter 32 = .ok (.iload_n 3, 1) := by decide +kernel
theorem dX3_addCounter_33 : decode cX3_addCounter 33 = .ok (.invokespecial 41, 3) := by decide +kernel
theorem dX3_addCounter_36 : decode cX3_addCounter 36 = .ok (.aastore, 1) := by decide +kernel
theorem dX3_addCounter_37 : decode cX3_addCounter 37 = .ok (.aload_n 0, 1) := by decide +kernel
theorem dX3_addCounter_38 : decode cX3_addCounter 38 = .ok (.dup, 1) := by decide +kernel
theorem dX3_addCounter_39 : decode cX3_addCounter 39 = .ok (.getfield 34, 3) := by decide +kernel
theorem dX3_addCounter_42 : decode cX3_addCounter 42 = .ok (.iconst 1, 1) := by decide +kernel
theorem dX3_addCounter_43 : decode cX3_addCounter 43 = .ok (.iadd, 1) := by decide +kernel
theorem dX3_addCounter_44 : decode cX3_addCounter 44 = .ok (.putfield 34, 3) := by decide +kernel
theorem dX3_addCounter_47 : decode cX3_addCounter 47 = .ok (.iload 4, 2) := by decide +kernel
theorem dX3_addCounter_49 : decode cX3_addCounter 49 = .ok (.ireturn, 1) := by decide +kernel
theorem mcX3_addCounter : x_mc yX3_addCounter cX3_addCounter 5 (some .int) 3 := ⟨wd_121, wd_2, by decide +kernel⟩
set_option maxHeartbeats 4000000 in
set_option maxRecDepth 100000 in
theorem kX3_addCounter (l : Launch) (base : Nat) (D : va_G) (dA : Nat → ClassId) (F : Nat) (r0 : Option Nat) (x1 : Int32) (x2 : Int32) (x3 : Int32) : x_Met l base D dA yX3_addCounter cX3_addCounter 5 (some .int) 2 45 [va_rf r0, .int x1, .int x2, .int x3] (mX3_addCounter F r0 x1 x2 x3) (fun x => some (.int x)) := by
  refine x_Met.of [(0, .inr (.inl r0)), (1, .inl x1), (2, .inl x2), (3, .inl x3)] (by decide) (Nat.le_of_ble_eq_true rfl) rfl rfl ?_
  intro p e R s m args below meth c σ a τ ls hfr hlo E hr hk hn S hM hl
  have E : x_E p s m args c cX3_addCounter 5 "WireMoney$Net" D dA := E
  unfold mX3_addCounter at hM
  refine w_aload_n E hl 0 dX3_addCounter_0 rfl ?_
  refine w_rI E S hM lk_3_34 rfl dX3_addCounter_1 (fun v1 hM => ?_)
  refine w_istore (lt' := [(4, .inl v1), (0, .inr (.inl r0)), (1, .inl x1), (2, .inl x2), (3, .inl x3)]) E hl dX3_addCounter_4 (by decide) rfl (fun ls hl => ?_)
  refine w_iload E hl 0 dX3_addCounter_6 rfl ?_
  refine w_aload_n E hl 1 dX3_addCounter_8 rfl ?_
  refine w_rR E S hM lk_3_11 rfl dX3_addCounter_9 (fun v9 hM => ?_)
  refine w_aL E S hM (by decide) dX3_addCounter_12 (fun v12 hM => ?_)
  refine lv_icmp_lt (tgt := 18) E.1 E.2.1 dX3_addCounter_13 (by decide) (fun c13 => ?_) (fun c13 => ?_)
  · replace hM := x_okT hM c13
    refine w_aload_n E hl 1 dX3_addCounter_18 rfl ?_
    refine w_rR E S hM lk_3_11 rfl dX3_addCounter_19 (fun v19 hM => ?_)
    refine w_iload E hl 0 dX3_addCounter_22 rfl ?_
    refine w_new E S hM ⟨by decide, wd_26⟩ dX3_addCounter_24 (fun v24 σ H S hM => ?_)
    refine lv_dup E.1 E.2.1 dX3_addCounter_27 (x_cat _) ?_
    refine w_iload E hl 0 dX3_addCounter_28 rfl ?_
    refine w_iload_n E hl 2 dX3_addCounter_30 rfl ?_
    refine w_iload_n E hl 3 dX3_addCounter_31 rfl ?_
    refine w_iload_n E hl 4 dX3_addCounter_32 rfl ?_
    refine w_cI (rest := [va_rf (some v24), .int v1, va_rf v19]) E S hl hM (kX1_init l base D dA F v24 v1 x1 x2 x3) mcX1_init ⟨wd_123, wd_124, rfl⟩ (by rw [hfr, hlo]; decide) rfl (Nat.le_of_ble_eq_true rfl) dX3_addCounter_33 rfl (fun σ H locs S hM => ?_)
    refine w_sQ E S hM ⟨by decide, by decide, by decide, rfl⟩ dX3_addCounter_36 (fun σ H locs S hM => ?_)
    refine w_aload_n E hl 1 dX3_addCounter_37 rfl ?_
    refine lv_dup E.1 E.2.1 dX3_addCounter_38 (x_cat _) ?_
    refine w_rI E S hM lk_3_34 rfl dX3_addCounter_39 (fun v39 hM => ?_)
    refine lv_iconst (v := (1 : Int32)) E.1 E.2.1 dX3_addCounter_42 (by decide) ?_
    refine lv_iadd E.1 E.2.1 dX3_addCounter_43 ?_
    refine w_wI E S hM lk_3_34 rfl (Or.inl rfl) dX3_addCounter_44 (fun σ H locs S hM => ?_)
    refine w_iload E hl 0 dX3_addCounter_47 rfl ?_
    exact w_iret E S hM hr hk dX3_addCounter_49
  · replace hM := x_okF hM c13
    refine lv_iconst (v := (-1 : Int32)) E.1 E.2.1 dX3_addCounter_16 (by decide) ?_
    exact w_iret E S hM hr hk dX3_addCounter_17
theorem dX5_init_0 : decode cX5_init 0 = .ok (.aload_n 0, 1) := by decide +kernel
theorem dX5_init_1 : decode cX5_init 1 = .ok (.invokespecial 1, 3) := by decide +kernel
theorem dX5_init_4 : decode cX5_init 4 = .ok (.aload_n 0, 1) := by decide +kernel
theorem dX5_init_5 : decode cX5_init 5 = .ok (.aload_n 1, 1) := by decide +kernel
theorem dX5_init_6 : decode cX5_init 6 = .ok (.putfield 7, 3) := by decide +kernel
theorem dX5_init_9 : decode cX5_init 9 = .ok (.aload_n 0, 1) := by decide +kernel
theorem dX5_init_10 : decode cX5_init 10 = .ok (.aload_n 2, 1) := by decide +kernel
theorem dX5_init_11 : decode cX5_init 11 = .ok (.putfield 13, 3) := by decide +kernel
theorem dX5_init_14 : decode cX5_init 14 = .ok (.return_, 1) := by decide +kernel
theorem mcX5_init : x_mc yX5_init cX5_init 3 none 2 := ⟨wd_170, wd_7, by decide +kernel⟩
set_option maxHeartbeats 4000000 in
set_option maxRecDepth 100000 in
theorem kX5_init (l : Launch) (base : Nat) (D : va_G) (dA : Nat → ClassId) (F : Nat) (r0 : Nat) (r1 : Option Nat) (r2 : Option Nat) : x_Met l base D dA yX5_init cX5_init 3 none 1 21 [va_rf (some r0), va_rf r1, va_rf r2] (mX5_init F (some r0) r1 r2) (fun _ => none) := by
  refine x_Met.of [(0, .inr (.inl (some r0))), (1, .inr (.inl r1)), (2, .inr (.inl r2))] (by decide) (Nat.le_of_ble_eq_true rfl) rfl rfl ?_
  intro p e R s m args below meth c σ a τ ls hfr hlo E hr hk hn S hM hl
  have E : x_E p s m args c cX5_init 3 "WireMoney$Queue" D dA := E
  unfold mX5_init at hM
  refine w_aload_n E hl 0 dX5_init_0 rfl ?_
  refine w_obj E hl ⟨wd_171, wd_18, wd_19⟩ (by rw [hfr, hlo]; decide) (Nat.le_of_ble_eq_true rfl) dX5_init_1 ?_
  refine w_aload_n E hl 0 dX5_init_4 rfl ?_
  refine w_aload_n E hl 1 dX5_init_5 rfl ?_
  refine w_wR E S hM lk_5_7 rfl (Or.inr ⟨hn, rfl, rfl⟩) dX5_init_6 (fun σ H locs S hM => ?_)
  refine w_aload_n E hl 0 dX5_init_9 rfl ?_
  refine w_aload_n E hl 2 dX5_init_10 rfl ?_
  refine w_wR E S hM lk_5_13 rfl (Or.inr ⟨hn, rfl, rfl⟩) dX5_init_11 (fun σ H locs S hM => ?_)
  exact w_vret E S hM hr hk dX5_init_14
theorem dX7_init_0 : decode cX7_init 0 = .ok (.aload_n 0, 1) := by decide +kernel
theorem dX7_init_1 : decode cX7_init 1 = .ok (.invokespecial 1, 3) := by decide +kernel
theorem dX7_init_4 : decode cX7_init 4 = .ok (.aload_n 0, 1) := by decide +kernel
theorem dX7_init_5 : decode cX7_init 5 = .ok (.new 7, 3) := by decide +kernel
theorem dX7_init_8 : decode cX7_init 8 = .ok (.dup, 1) := by decide +kernel
theorem dX7_init_9 : decode cX7_init 9 = .ok (.aload_n 1, 1) := by decide +kernel
theorem dX7_init_10 : decode cX7_init 10 = .ok (.aload_n 2, 1) := by decide +kernel
theorem dX7_init_11 : decode cX7_init 11 = .ok (.invokespecial 9, 3) := by decide +kernel
theorem dX7_init_14 : decode cX7_init 14 = .ok (.putfield 12, 3) := by decide +kernel
theorem dX7_init_17 : decode cX7_init 17 = .ok (.aload_n 0, 1) := by decide +kernel
theorem dX7_init_18 : decode cX7_init 18 = .ok (.new 7, 3) := by decide +kernel
theorem dX7_init_21 : decode cX7_init 21 = .ok (.dup, 1) := by decide +kernel
theorem dX7_init_22 : decode cX7_init 22 = .ok (.aload_n 2, 1) := by decide +kernel
theorem dX7_init_23 : decode cX7_init 23 = .ok (.aload_n 1, 1) := by decide +kernel
theorem dX7_init_24 : decode cX7_init 24 = .ok (.invokespecial 9, 3) := by decide +kernel
theorem dX7_init_27 : decode cX7_init 27 = .ok (.putfield 18, 3) := by decide +kernel
theorem dX7_init_30 : decode cX7_init 30 = .ok (.aload_n 0, 1) := by decide +kernel
theorem dX7_init_31 : decode cX7_init 31 = .ok (.iload_n 3, 1) := by decide +kernel
theorem dX7_init_32 : decode cX7_init 32 = .ok (.putfield 21, 3) := by decide +kernel
theorem dX7_init_35 : decode cX7_init 35 = .ok (.return_, 1) := by decide +kernel
theorem mcX7_init : x_mc yX7_init cX7_init 4 none 3 := ⟨wd_164, wd_6, by decide +kernel⟩
set_option maxHeartbeats 4000000 in
set_option maxRecDepth 100000 in
theorem kX7_init (l : Launch) (base : Nat) (D : va_G) (dA : Nat → ClassId) (F : Nat) (r0 : Nat) (r1 : Option Nat) (r2 : Option Nat) (x3 : Int32) : x_Met l base D dA yX7_init cX7_init 4 none 2 43 [va_rf (some r0), va_rf r1, va_rf r2, .int x3] (mX7_init F (some r0) r1 r2 x3) (fun _ => none) := by
  refine x_Met.of [(0, .inr (.inl (some r0))), (1, .inr (.inl r1)), (2, .inr (.inl r2)), (3, .inl x3)] (by decide) (Nat.le_of_ble_eq_true rfl) rfl rfl ?_
  intro p e R s m args below meth c σ a τ ls hfr hlo E hr hk hn S hM hl
  have E : x_E p s m args c cX7_init 4 "WireMoney$Wire" D dA := E
  unfold mX7_init at hM
  refine w_aload_n E hl 0 dX7_init_0 rfl ?_
  refine w_obj E hl ⟨wd_165, wd_18, wd_19⟩ (by rw [hfr, hlo]; decide) (Nat.le_of_ble_eq_true rfl) dX7_init_1 ?_
  refine w_aload_n E hl 0 dX7_init_4 rfl ?_
  refine w_new E S hM ⟨by decide, wd_166⟩ dX7_init_5 (fun v5 σ H S hM => ?_)
  refine lv_dup E.1 E.2.1 dX7_init_8 (x_cat _) ?_
  refine w_aload_n E hl 1 dX7_init_9 rfl ?_
  refine w_aload_n E hl 2 dX7_init_10 rfl ?_
  refine w_cI (rest := [va_rf (some v5), va_rf (some r0)]) E S hl hM (kX5_init l base D dA F v5 r1 r2) mcX5_init ⟨wd_168, wd_169, rfl⟩ (by rw [hfr, hlo]; decide) rfl (Nat.le_of_ble_eq_true rfl) dX7_init_11 rfl (fun σ H locs S hM => ?_)
  refine w_wR E S hM lk_7_12 rfl (Or.inr ⟨hn, rfl, rfl⟩) dX7_init_14 (fun σ H locs S hM => ?_)
  refine w_aload_n E hl 0 dX7_init_17 rfl ?_
  refine w_new E S hM ⟨by decide, wd_166⟩ dX7_init_18 (fun v18 σ H S hM => ?_)
  refine lv_dup E.1 E.2.1 dX7_init_21 (x_cat _) ?_
  refine w_aload_n E hl 2 dX7_init_22 rfl ?_
  refine w_aload_n E hl 1 dX7_init_23 rfl ?_
  refine w_cI (rest := [va_rf (some v18), va_rf (some r0)]) E S hl hM (kX5_init l base D dA F v18 r2 r1) mcX5_init ⟨wd_168, wd_169, rfl⟩ (by rw [hfr, hlo]; decide) rfl (Nat.le_of_ble_eq_true rfl) dX7_init_24 rfl (fun σ H locs S hM => ?_)
  refine w_wR E S hM lk_7_18 rfl (Or.inr ⟨hn, rfl, rfl⟩) dX7_init_27 (fun σ H locs S hM => ?_)
  refine w_aload_n E hl 0 dX7_init_30 rfl ?_
  refine w_iload_n E hl 3 dX7_init_31 rfl ?_
  refine w_wI E S hM lk_7_21 rfl (Or.inr ⟨hn, rfl, rfl⟩) dX7_init_32 (fun σ H locs S hM => ?_)
  exact w_vret E S hM hr hk dX7_init_35
theorem dX3_cell_0 : decode cX3_cell 0 = .ok (.iload_n 0, 1) := by decide +kernel
theorem dX3_cell_1 : decode cX3_cell 1 = .ok (.bipush 10, 2) := by decide +kernel
theorem dX3_cell_3 : decode cX3_cell 3 = .ok (.imul, 1) := by decide +kernel
theorem dX3_cell_4 : decode cX3_cell 4 = .ok (.iload_n 1, 1) := by decide +kernel
theorem dX3_cell_5 : decode cX3_cell 5 = .ok (.iadd, 1) := by decide +kernel
theorem dX3_cell_6 : decode cX3_cell 6 = .ok (.ireturn, 1) := by decide +kernel
theorem mcX3_cell : x_mc yX3_cell cX3_cell 2 (some .int) 2 := ⟨wd_215, wd_2, by decide +kernel⟩
set_option maxHeartbeats 4000000 in
set_option maxRecDepth 100000 in
theorem kX3_cell (l : Launch) (base : Nat) (D : va_G) (dA : Nat → ClassId) (F : Nat) (x0 : Int32) (x1 : Int32) : x_Met l base D dA yX3_cell cX3_cell 2 (some .int) 0 0 [.int x0, .int x1] (mX3_cell F x0 x1) (fun x => some (.int x)) := by
  refine x_Met.of [(0, .inl x0), (1, .inl x1)] (by decide) (Nat.le_of_ble_eq_true rfl) rfl rfl ?_
  intro p e R s m args below meth c σ a τ ls hfr hlo E hr hk hn S hM hl
  have E : x_E p s m args c cX3_cell 2 "WireMoney$Net" D dA := E
  unfold mX3_cell at hM
  refine w_iload_n E hl 0 dX3_cell_0 rfl ?_
  refine lv_bipush (v := (10 : Int32)) E.1 E.2.1 dX3_cell_1 (by decide) ?_
  refine lv_imul E.1 E.2.1 dX3_cell_3 ?_
  refine w_iload_n E hl 1 dX3_cell_4 rfl ?_
  refine lv_iadd E.1 E.2.1 dX3_cell_5 ?_
  exact w_iret E S hM hr hk dX3_cell_6
theorem dX3_isCell_0 : decode cX3_isCell 0 = .ok (.iload_n 0, 1) := by decide +kernel
theorem dX3_isCell_1 : decode cX3_isCell 1 = .ok (.ifCond .lt 13, 3) := by decide +kernel
theorem dX3_isCell_4 : decode cX3_isCell 4 = .ok (.iload_n 0, 1) := by decide +kernel
theorem dX3_isCell_5 : decode cX3_isCell 5 = .ok (.bipush 100, 2) := by decide +kernel
theorem dX3_isCell_7 : decode cX3_isCell 7 = .ok (.if_icmp .ge 7, 3) := by decide +kernel
theorem dX3_isCell_10 : decode cX3_isCell 10 = .ok (.iconst 1, 1) := by decide +kernel
theorem dX3_isCell_11 : decode cX3_isCell 11 = .ok (.goto 4, 3) := by decide +kernel
theorem dX3_isCell_14 : decode cX3_isCell 14 = .ok (.iconst 0, 1) := by decide +kernel
theorem dX3_isCell_15 : decode cX3_isCell 15 = .ok (.ireturn, 1) := by decide +kernel
theorem mcX3_isCell : x_mc yX3_isCell cX3_isCell 1 (some .boolean) 1 := ⟨wd_222, wd_2, by decide +kernel⟩
set_option maxHeartbeats 4000000 in
set_option maxRecDepth 100000 in
theorem kX3_isCell (l : Launch) (base : Nat) (D : va_G) (dA : Nat → ClassId) (F : Nat) (x0 : Int32) : x_Met l base D dA yX3_isCell cX3_isCell 1 (some .boolean) 0 0 [.int x0] (mX3_isCell F x0) (fun x => some (.int x)) := by
  refine x_Met.of [(0, .inl x0)] (by decide) (Nat.le_of_ble_eq_true rfl) rfl rfl ?_
  intro p e R s m args below meth c σ a τ ls hfr hlo E hr hk hn S hM hl
  have E : x_E p s m args c cX3_isCell 1 "WireMoney$Net" D dA := E
  unfold mX3_isCell at hM
  refine w_iload_n E hl 0 dX3_isCell_0 rfl ?_
  refine lv_if_lt (tgt := 14) E.1 E.2.1 dX3_isCell_1 (by decide) (fun c1 => ?_) (fun c1 => ?_)
  · replace hM := x_okT hM c1
    refine lv_iconst (v := (0 : Int32)) E.1 E.2.1 dX3_isCell_14 (by decide) ?_
    exact w_zretc E S hM (by decide) hr hk dX3_isCell_15
  · replace hM := x_okF hM c1
    refine w_iload_n E hl 0 dX3_isCell_4 rfl ?_
    refine lv_bipush (v := (100 : Int32)) E.1 E.2.1 dX3_isCell_5 (by decide) ?_
    refine lv_icmp_ge (tgt := 14) E.1 E.2.1 dX3_isCell_7 (by decide) (fun c7 => ?_) (fun c7 => ?_)
    · replace hM := x_okT hM c7
      refine lv_iconst (v := (0 : Int32)) E.1 E.2.1 dX3_isCell_14 (by decide) ?_
      exact w_zretc E S hM (by decide) hr hk dX3_isCell_15
    · replace hM := x_okF hM c7
      refine lv_iconst (v := (1 : Int32)) E.1 E.2.1 dX3_isCell_10 (by decide) ?_
      refine lv_goto (tgt := 15) E.1 E.2.1 dX3_isCell_11 (by decide) ?_
      exact w_zretc E S hM (by decide) hr hk dX3_isCell_15
theorem dX3_noteStraight_0 : decode cX3_noteStraight 0 = .ok (.iload_n 1, 1) := by decide +kernel
theorem dX3_noteStraight_1 : decode cX3_noteStraight 1 = .ok (.invokestatic 89, 3) := by decide +kernel
theorem dX3_noteStraight_4 : decode cX3_noteStraight 4 = .ok (.ifCond .ne 4, 3) := by decide +kernel
theorem dX3_noteStraight_7 : decode cX3_noteStraight 7 = .ok (.return_, 1) := by decide +kernel
theorem dX3_noteStraight_8 : decode cX3_noteStraight 8 = .ok (.aload_n 0, 1) := by decide +kernel
theorem dX3_noteStraight_9 : decode cX3_noteStraight 9 = .ok (.getfield 27, 3) := by decide +kernel
theorem dX3_noteStraight_12 : decode cX3_noteStraight 12 = .ok (.iload_n 1, 1) := by decide +kernel
theorem dX3_noteStraight_13 : decode cX3_noteStraight 13 = .ok (.aaload, 1) := by decide +kernel
theorem dX3_noteStraight_14 : decode cX3_noteStraight 14 = .ok (.astore_n 3, 1) := by decide +kernel
theorem dX3_noteStraight_15 : decode cX3_noteStraight 15 = .ok (.aload_n 3, 1) := by decide +kernel
theorem dX3_noteStraight_16 : decode cX3_noteStraight 16 = .ok (.ifnull 14, 3) := by decide +kernel
theorem dX3_noteStraight_19 : decode cX3_noteStraight 19 = .ok (.aload_n 2, 1) := by decide +kernel
theorem dX3_noteStraight_20 : decode cX3_noteStraight 20 = .ok (.getfield 93, 3) := by decide +kernel
theorem dX3_noteStraight_23 : decode cX3_noteStraight 23 = .ok (.aload_n 3, 1) := by decide +kernel
theorem dX3_noteStraight_24 : decode cX3_noteStraight 24 = .ok (.getfield 93, 3) := by decide +kernel
theorem dX3_noteStraight_27 : decode cX3_noteStraight 27 = .ok (.if_icmp .ge 10, 3) := by decide +kernel
theorem dX3_noteStraight_30 : decode cX3_noteStraight 30 = .ok (.aload_n 0, 1) := by decide +kernel
theorem dX3_noteStraight_31 : decode cX3_noteStraight 31 = .ok (.getfield 27, 3) := by decide +kernel
theorem dX3_noteStraight_34 : decode cX3_noteStraight 34 = .ok (.iload_n 1, 1) := by decide +kernel
theorem dX3_noteStraight_35 : decode cX3_noteStraight 35 = .ok (.aload_n 2, 1) := by decide +kernel
theorem dX3_noteStraight_36 : decode cX3_noteStraight 36 = .ok (.aastore, 1) := by decide +kernel
theorem dX3_noteStraight_37 : decode cX3_noteStraight 37 = .ok (.return_, 1) := by decide +kernel
theorem mcX3_noteStraight : x_mc yX3_noteStraight cX3_noteStraight 4 none 2 := ⟨wd_219, wd_2, by decide +kernel⟩
set_option maxHeartbeats 4000000 in
set_option maxRecDepth 100000 in
theorem kX3_noteStraight (l : Launch) (base : Nat) (D : va_G) (dA : Nat → ClassId) (F : Nat) (r0 : Option Nat) (x1 : Int32) (r2 : Option Nat) : x_Met l base D dA yX3_noteStraight cX3_noteStraight 4 none 1 20 [va_rf r0, .int x1, va_rf r2] (mX3_noteStraight F r0 x1 r2) (fun _ => none) := by
  refine x_Met.of [(0, .inr (.inl r0)), (1, .inl x1), (2, .inr (.inl r2))] (by decide) (Nat.le_of_ble_eq_true rfl) rfl rfl ?_
  intro p e R s m args below meth c σ a τ ls hfr hlo E hr hk hn S hM hl
  have E : x_E p s m args c cX3_noteStraight 4 "WireMoney$Net" D dA := E
  unfold mX3_noteStraight at hM
  refine w_iload_n E hl 1 dX3_noteStraight_0 rfl ?_
  refine w_cSi (rest := []) E S hl hM (kX3_isCell l base D dA F x1) mcX3_isCell ⟨wd_220, wd_221⟩ hfr hlo (by decide) rfl (Nat.le_of_ble_eq_true rfl) dX3_noteStraight_1 rfl (fun v1 σ H locs S hM => ?_)
  refine lv_if_ne (tgt := 8) E.1 E.2.1 dX3_noteStraight_4 (by decide) (fun c4 => ?_) (fun c4 => ?_)
  · replace hM := x_okF hM c4
    refine w_aload_n E hl 0 dX3_noteStraight_8 rfl ?_
    refine w_rR E S hM lk_3_27 rfl dX3_noteStraight_9 (fun v9 hM => ?_)
    refine w_iload_n E hl 1 dX3_noteStraight_12 rfl ?_
    refine w_aQ E S hM (by decide) dX3_noteStraight_13 (fun v13 hM => ?_)
    refine w_astore_n (lt' := [(3, .inr (.inl v13)), (0, .inr (.inl r0)), (1, .inl x1), (2, .inr (.inl r2))]) E hl dX3_noteStraight_14 (by decide) rfl (fun ls hl => ?_)
    refine w_aload_n E hl 0 dX3_noteStraight_15 rfl ?_
    refine w_ifnull (tgt := 30) E hM dX3_noteStraight_16 (by decide) (fun c16 hM => ?_) (fun a16 c16 hM => ?_)
    · skip
      refine w_aload_n E hl 1 dX3_noteStraight_30 rfl ?_
      refine w_rR E S hM lk_3_27 rfl dX3_noteStraight_31 (fun v31 hM => ?_)
      refine w_iload_n E hl 2 dX3_noteStraight_34 rfl ?_
      refine w_aload_n E hl 3 dX3_noteStraight_35 rfl ?_
      refine w_sQ E S hM ⟨by decide, by decide, by decide, rfl⟩ dX3_noteStraight_36 (fun σ H locs S hM => ?_)
      exact w_vret E S hM hr hk dX3_noteStraight_37
    · skip
      refine w_aload_n E hl 3 dX3_noteStraight_19 rfl ?_
      refine w_rI E S hM lk_3_93 rfl dX3_noteStraight_20 (fun v20 hM => ?_)
      refine w_aload_n E hl 0 dX3_noteStraight_23 rfl ?_
      refine w_rI E S hM lk_3_93 rfl dX3_noteStraight_24 (fun v24 hM => ?_)
      refine lv_icmp_ge (tgt := 37) E.1 E.2.1 dX3_noteStraight_27 (by decide) (fun c27 => ?_) (fun c27 => ?_)
      · replace hM := x_okT hM c27
        exact w_vret E S hM hr hk dX3_noteStraight_37
      · replace hM := x_okF hM c27
        refine w_aload_n E hl 1 dX3_noteStraight_30 rfl ?_
        refine w_rR E S hM lk_3_27 rfl dX3_noteStraight_31 (fun v31 hM => ?_)
        refine w_iload_n E hl 2 dX3_noteStraight_34 rfl ?_
        refine w_aload_n E hl 3 dX3_noteStraight_35 rfl ?_
        refine w_sQ E S hM ⟨by decide, by decide, by decide, rfl⟩ dX3_noteStraight_36 (fun σ H locs S hM => ?_)
        exact w_vret E S hM hr hk dX3_noteStraight_37
  · replace hM := x_okT hM c4
    exact w_vret E S hM hr hk dX3_noteStraight_7
theorem dX3_leastOf_0 : decode cX3_leastOf 0 = .ok (.iload_n 1, 1) := by decide +kernel
theorem dX3_leastOf_1 : decode cX3_leastOf 1 = .ok (.iload_n 2, 1) := by decide +kernel
theorem dX3_leastOf_2 : decode cX3_leastOf 2 = .ok (.invokestatic 50, 3) := by decide +kernel
theorem dX3_leastOf_5 : decode cX3_leastOf 5 = .ok (.istore_n 3, 1) := by decide +kernel
theorem dX3_leastOf_6 : decode cX3_leastOf 6 = .ok (.iload_n 3, 1) := by decide +kernel
theorem dX3_leastOf_7 : decode cX3_leastOf 7 = .ok (.invokestatic 89, 3) := by decide +kernel
theorem dX3_leastOf_10 : decode cX3_leastOf 10 = .ok (.ifCond .eq 12, 3) := by decide +kernel
theorem dX3_leastOf_13 : decode cX3_leastOf 13 = .ok (.aload_n 0, 1) := by decide +kernel
theorem dX3_leastOf_14 : decode cX3_leastOf 14 = .ok (.getfield 23, 3) := by decide +kernel
theorem dX3_leastOf_17 : decode cX3_leastOf 17 = .ok (.iload_n 3, 1) := by decide +kernel
theorem dX3_leastOf_18 : decode cX3_leastOf 18 = .ok (.iaload, 1) := by decide +kernel
theorem dX3_leastOf_19 : decode cX3_leastOf 19 = .ok (.goto 5, 3) := by decide +kernel
theorem dX3_leastOf_22 : decode cX3_leastOf 22 = .ok (.ldc 33, 2) := by decide +kernel
theorem dX3_leastOf_24 : decode cX3_leastOf 24 = .ok (.ireturn, 1) := by decide +kernel
theorem mcX3_leastOf : x_mc yX3_leastOf cX3_leastOf 4 (some .int) 2 := ⟨wd_230, wd_2, by decide +kernel⟩
set_option maxHeartbeats 4000000 in
set_option maxRecDepth 100000 in
theorem kX3_leastOf (l : Launch) (base : Nat) (D : va_G) (dA : Nat → ClassId) (F : Nat) (r0 : Option Nat) (x1 : Int32) (x2 : Int32) : x_Met l base D dA yX3_leastOf cX3_leastOf 4 (some .int) 1 21 [va_rf r0, .int x1, .int x2] (mX3_leastOf F r0 x1 x2) (fun x => some (.int x)) := by
  refine x_Met.of [(0, .inr (.inl r0)), (1, .inl x1), (2, .inl x2)] (by decide) (Nat.le_of_ble_eq_true rfl) rfl rfl ?_
  intro p e R s m args below meth c σ a τ ls hfr hlo E hr hk hn S hM hl
  have E : x_E p s m args c cX3_leastOf 4 "WireMoney$Net" D dA := E
  unfold mX3_leastOf at hM
  refine w_iload_n E hl 1 dX3_leastOf_0 rfl ?_
  refine w_iload_n E hl 2 dX3_leastOf_1 rfl ?_
  refine w_cSi (rest := []) E S hl hM (kX3_cell l base D dA F x1 x2) mcX3_cell ⟨wd_213, wd_214⟩ hfr hlo (by decide) rfl (Nat.le_of_ble_eq_true rfl) dX3_leastOf_2 rfl (fun v2 σ H locs S hM => ?_)
  refine w_istore_n (lt' := [(3, .inl v2), (0, .inr (.inl r0)), (1, .inl x1), (2, .inl x2)]) E hl dX3_leastOf_5 (by decide) rfl (fun ls hl => ?_)
  refine w_iload_n E hl 0 dX3_leastOf_6 rfl ?_
  refine w_cSi (rest := []) E S hl hM (kX3_isCell l base D dA F v2) mcX3_isCell ⟨wd_220, wd_221⟩ hfr hlo (by decide) rfl (Nat.le_of_ble_eq_true rfl) dX3_leastOf_7 rfl (fun v7 σ H locs S hM => ?_)
  refine lv_if_eq (tgt := 22) E.1 E.2.1 dX3_leastOf_10 (by decide) (fun c10 => ?_) (fun c10 => ?_)
  · replace hM := x_okT hM c10
    refine w_ldc (v := (1000000 : Int32)) E wd_30 dX3_leastOf_22 ?_
    exact w_iret E S hM hr hk dX3_leastOf_24
  · replace hM := x_okF hM c10
    refine w_aload_n E hl 1 dX3_leastOf_13 rfl ?_
    refine w_rR E S hM lk_3_23 rfl dX3_leastOf_14 (fun v14 hM => ?_)
    refine w_iload_n E hl 0 dX3_leastOf_17 rfl ?_
    refine w_aI E S hM dX3_leastOf_18 (fun v18 hM => ?_)
    refine lv_goto (tgt := 24) E.1 E.2.1 dX3_leastOf_19 (by decide) ?_
    exact w_iret E S hM hr hk dX3_leastOf_24
end
