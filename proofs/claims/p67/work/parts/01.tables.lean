-- ===== PART A: goes FIRST, ahead of the names: the tables' words, and 'selects' of the private methods out of them =====
/-- a private method of a class that the tables say can be made, by its rows of tables_1 -/
def lw_okq (q : MethodName × Nat) : Prop := (q.1.cls ≠ "java/lang/invoke/MethodHandle" ∧ q.1.cls ≠ "java/lang/invoke/VarHandle") ∧ Cond.instantiable q.1.cls q.2 ∈ tables_1 ∧ Cond.privateMethod q.1 ∈ tables_1 ∧ Cond.instanceMethod q.1 ∈ tables_1
theorem lw_p0 : lw_okq (⟨"EchoMarket$Text", "behindSpaces", "(I)I"⟩, 9) := ⟨⟨by decide +kernel, by decide +kernel⟩, List.mem_of_getElem? (i := 42) (by decide +kernel), List.mem_of_getElem? (i := 453) (by decide +kernel), List.mem_of_getElem? (i := 454) (by decide +kernel)⟩
theorem lw_p1 : lw_okq (⟨"EchoMarket$Text", "behindToken", "(I)I"⟩, 9) := ⟨⟨by decide +kernel, by decide +kernel⟩, List.mem_of_getElem? (i := 42) (by decide +kernel), List.mem_of_getElem? (i := 457) (by decide +kernel), List.mem_of_getElem? (i := 458) (by decide +kernel)⟩
theorem lw_p2 : lw_okq (⟨"EchoMarket$Text", "behindWord", "(I)I"⟩, 9) := ⟨⟨by decide +kernel, by decide +kernel⟩, List.mem_of_getElem? (i := 42) (by decide +kernel), List.mem_of_getElem? (i := 464) (by decide +kernel), List.mem_of_getElem? (i := 465) (by decide +kernel)⟩
theorem lw_p3 : lw_okq (⟨"EchoMarket$Text", "nameIn", "(II)J"⟩, 9) := ⟨⟨by decide +kernel, by decide +kernel⟩, List.mem_of_getElem? (i := 42) (by decide +kernel), List.mem_of_getElem? (i := 468) (by decide +kernel), List.mem_of_getElem? (i := 469) (by decide +kernel)⟩
theorem lw_p4 : lw_okq (⟨"EchoMarket$Text", "behindNumber", "(I)I"⟩, 9) := ⟨⟨by decide +kernel, by decide +kernel⟩, List.mem_of_getElem? (i := 42) (by decide +kernel), List.mem_of_getElem? (i := 478) (by decide +kernel), List.mem_of_getElem? (i := 479) (by decide +kernel)⟩
theorem lw_p5 : lw_okq (⟨"EchoMarket$Description", "readStatement", "(LEchoMarket$Text;LEchoMarket$Market;)V"⟩, 1) := ⟨⟨by decide +kernel, by decide +kernel⟩, List.mem_of_getElem? (i := 284) (by decide +kernel), List.mem_of_getElem? (i := 574) (by decide +kernel), List.mem_of_getElem? (i := 575) (by decide +kernel)⟩
theorem lw_p6 : lw_okq (⟨"EchoMarket$Description", "readValley", "(LEchoMarket$Text;LEchoMarket$Market;)V"⟩, 1) := ⟨⟨by decide +kernel, by decide +kernel⟩, List.mem_of_getElem? (i := 284) (by decide +kernel), List.mem_of_getElem? (i := 590) (by decide +kernel), List.mem_of_getElem? (i := 591) (by decide +kernel)⟩
theorem lw_p7 : lw_okq (⟨"EchoMarket$Description", "readCustomer", "(LEchoMarket$Text;LEchoMarket$Market;)V"⟩, 1) := ⟨⟨by decide +kernel, by decide +kernel⟩, List.mem_of_getElem? (i := 284) (by decide +kernel), List.mem_of_getElem? (i := 619) (by decide +kernel), List.mem_of_getElem? (i := 620) (by decide +kernel)⟩
theorem lw_p8 : lw_okq (⟨"EchoMarket$Description", "readShout", "(LEchoMarket$Text;LEchoMarket$Market;)V"⟩, 1) := ⟨⟨by decide +kernel, by decide +kernel⟩, List.mem_of_getElem? (i := 284) (by decide +kernel), List.mem_of_getElem? (i := 627) (by decide +kernel), List.mem_of_getElem? (i := 628) (by decide +kernel)⟩
theorem lw_p9 : lw_okq (⟨"EchoMarket$Text", "takeKnownName", "(I)V"⟩, 9) := ⟨⟨by decide +kernel, by decide +kernel⟩, List.mem_of_getElem? (i := 42) (by decide +kernel), List.mem_of_getElem? (i := 636) (by decide +kernel), List.mem_of_getElem? (i := 637) (by decide +kernel)⟩
theorem lw_p10 : lw_okq (⟨"EchoMarket$Market", "hasOpenShout", "(II)Z"⟩, 13) := ⟨⟨by decide +kernel, by decide +kernel⟩, List.mem_of_getElem? (i := 80) (by decide +kernel), List.mem_of_getElem? (i := 654) (by decide +kernel), List.mem_of_getElem? (i := 655) (by decide +kernel)⟩
theorem lw_p11 : lw_okq (⟨"EchoMarket$Description", "readPass", "(LEchoMarket$Text;LEchoMarket$Market;)V"⟩, 1) := ⟨⟨by decide +kernel, by decide +kernel⟩, List.mem_of_getElem? (i := 284) (by decide +kernel), List.mem_of_getElem? (i := 666) (by decide +kernel), List.mem_of_getElem? (i := 667) (by decide +kernel)⟩
theorem lw_p12 : lw_okq (⟨"EchoMarket$Description", "readFake", "(LEchoMarket$Text;LEchoMarket$Market;)V"⟩, 1) := ⟨⟨by decide +kernel, by decide +kernel⟩, List.mem_of_getElem? (i := 284) (by decide +kernel), List.mem_of_getElem? (i := 684) (by decide +kernel), List.mem_of_getElem? (i := 685) (by decide +kernel)⟩
theorem lw_p13 : lw_okq (⟨"EchoMarket$Market", "returnDueEchoes", "()I"⟩, 13) := ⟨⟨by decide +kernel, by decide +kernel⟩, List.mem_of_getElem? (i := 80) (by decide +kernel), List.mem_of_getElem? (i := 751) (by decide +kernel), List.mem_of_getElem? (i := 752) (by decide +kernel)⟩
theorem lw_p14 : lw_okq (⟨"EchoMarket$Market", "isHeardFrom", "(LEchoMarket$Shout;I)Z"⟩, 13) := ⟨⟨by decide +kernel, by decide +kernel⟩, List.mem_of_getElem? (i := 80) (by decide +kernel), List.mem_of_getElem? (i := 755) (by decide +kernel), List.mem_of_getElem? (i := 756) (by decide +kernel)⟩
theorem lw_p15 : lw_okq (⟨"EchoMarket$Market", "echo", "(LEchoMarket$Shout;Z)V"⟩, 13) := ⟨⟨by decide +kernel, by decide +kernel⟩, List.mem_of_getElem? (i := 80) (by decide +kernel), List.mem_of_getElem? (i := 763) (by decide +kernel), List.mem_of_getElem? (i := 764) (by decide +kernel)⟩
def lw_privs_1 : List (MethodName × Nat) := [(⟨"EchoMarket$Text", "behindSpaces", "(I)I"⟩, 9), (⟨"EchoMarket$Text", "behindToken", "(I)I"⟩, 9), (⟨"EchoMarket$Text", "behindWord", "(I)I"⟩, 9), (⟨"EchoMarket$Text", "nameIn", "(II)J"⟩, 9), (⟨"EchoMarket$Text", "behindNumber", "(I)I"⟩, 9), (⟨"EchoMarket$Description", "readStatement", "(LEchoMarket$Text;LEchoMarket$Market;)V"⟩, 1), (⟨"EchoMarket$Description", "readValley", "(LEchoMarket$Text;LEchoMarket$Market;)V"⟩, 1), (⟨"EchoMarket$Description", "readCustomer", "(LEchoMarket$Text;LEchoMarket$Market;)V"⟩, 1), (⟨"EchoMarket$Description", "readShout", "(LEchoMarket$Text;LEchoMarket$Market;)V"⟩, 1), (⟨"EchoMarket$Text", "takeKnownName", "(I)V"⟩, 9), (⟨"EchoMarket$Market", "hasOpenShout", "(II)Z"⟩, 13), (⟨"EchoMarket$Description", "readPass", "(LEchoMarket$Text;LEchoMarket$Market;)V"⟩, 1), (⟨"EchoMarket$Description", "readFake", "(LEchoMarket$Text;LEchoMarket$Market;)V"⟩, 1), (⟨"EchoMarket$Market", "returnDueEchoes", "()I"⟩, 13), (⟨"EchoMarket$Market", "isHeardFrom", "(LEchoMarket$Shout;I)Z"⟩, 13), (⟨"EchoMarket$Market", "echo", "(LEchoMarket$Shout;Z)V"⟩, 13)]
theorem lw_r1 : ∀ q ∈ lw_privs_1, lw_okq q := List.forall_mem_cons.mpr ⟨lw_p0, List.forall_mem_cons.mpr ⟨lw_p1, List.forall_mem_cons.mpr ⟨lw_p2, List.forall_mem_cons.mpr ⟨lw_p3, List.forall_mem_cons.mpr ⟨lw_p4, List.forall_mem_cons.mpr ⟨lw_p5, List.forall_mem_cons.mpr ⟨lw_p6, List.forall_mem_cons.mpr ⟨lw_p7, List.forall_mem_cons.mpr ⟨lw_p8, List.forall_mem_cons.mpr ⟨lw_p9, List.forall_mem_cons.mpr ⟨lw_p10, List.forall_mem_cons.mpr ⟨lw_p11, List.forall_mem_cons.mpr ⟨lw_p12, List.forall_mem_cons.mpr ⟨lw_p13, List.forall_mem_cons.mpr ⟨lw_p14, List.forall_mem_cons.mpr ⟨lw_p15, fun _ h => absurd h List.not_mem_nil⟩⟩⟩⟩⟩⟩⟩⟩⟩⟩⟩⟩⟩⟩⟩⟩
theorem lw_p16 : lw_okq (⟨"EchoMarket$Market", "earn", "(LEchoMarket$Shout;)V"⟩, 13) := ⟨⟨by decide +kernel, by decide +kernel⟩, List.mem_of_getElem? (i := 80) (by decide +kernel), List.mem_of_getElem? (i := 767) (by decide +kernel), List.mem_of_getElem? (i := 768) (by decide +kernel)⟩
theorem lw_p17 : lw_okq (⟨"EchoMarket$Market", "refund", "(LEchoMarket$Shout;I)V"⟩, 13) := ⟨⟨by decide +kernel, by decide +kernel⟩, List.mem_of_getElem? (i := 80) (by decide +kernel), List.mem_of_getElem? (i := 771) (by decide +kernel), List.mem_of_getElem? (i := 772) (by decide +kernel)⟩
theorem lw_p18 : lw_okq (⟨"EchoMarket$Market", "losePatience", "()V"⟩, 13) := ⟨⟨by decide +kernel, by decide +kernel⟩, List.mem_of_getElem? (i := 80) (by decide +kernel), List.mem_of_getElem? (i := 778) (by decide +kernel), List.mem_of_getElem? (i := 779) (by decide +kernel)⟩
theorem lw_p19 : lw_okq (⟨"EchoMarket$Market", "callOffAll", "(I)V"⟩, 13) := ⟨⟨by decide +kernel, by decide +kernel⟩, List.mem_of_getElem? (i := 80) (by decide +kernel), List.mem_of_getElem? (i := 794) (by decide +kernel), List.mem_of_getElem? (i := 795) (by decide +kernel)⟩
theorem lw_p20 : lw_okq (⟨"java/lang/Throwable", "fillInStackTrace", "(I)Ljava/lang/Throwable;"⟩, 6) := ⟨⟨by decide +kernel, by decide +kernel⟩, List.mem_of_getElem? (i := 840) (by decide +kernel), List.mem_of_getElem? (i := 838) (by decide +kernel), List.mem_of_getElem? (i := 839) (by decide +kernel)⟩
theorem lw_p21 : lw_okq (⟨"EchoMarket", "shoutAt", "(I)LEchoMarket$Shout;"⟩, 9) := ⟨⟨by decide +kernel, by decide +kernel⟩, List.mem_of_getElem? (i := 34) (by decide +kernel), List.mem_of_getElem? (i := 909) (by decide +kernel), List.mem_of_getElem? (i := 910) (by decide +kernel)⟩
theorem lw_p22 : lw_okq (⟨"EchoMarket", "valleyAt", "(I)LEchoMarket$Valley;"⟩, 9) := ⟨⟨by decide +kernel, by decide +kernel⟩, List.mem_of_getElem? (i := 34) (by decide +kernel), List.mem_of_getElem? (i := 1321) (by decide +kernel), List.mem_of_getElem? (i := 1322) (by decide +kernel)⟩
theorem lw_p23 : lw_okq (⟨"EchoMarket", "customerAt", "(I)LEchoMarket$Customer;"⟩, 9) := ⟨⟨by decide +kernel, by decide +kernel⟩, List.mem_of_getElem? (i := 34) (by decide +kernel), List.mem_of_getElem? (i := 1354) (by decide +kernel), List.mem_of_getElem? (i := 1355) (by decide +kernel)⟩
def lw_privs_2 : List (MethodName × Nat) := [(⟨"EchoMarket$Market", "earn", "(LEchoMarket$Shout;)V"⟩, 13), (⟨"EchoMarket$Market", "refund", "(LEchoMarket$Shout;I)V"⟩, 13), (⟨"EchoMarket$Market", "losePatience", "()V"⟩, 13), (⟨"EchoMarket$Market", "callOffAll", "(I)V"⟩, 13), (⟨"java/lang/Throwable", "fillInStackTrace", "(I)Ljava/lang/Throwable;"⟩, 6), (⟨"EchoMarket", "shoutAt", "(I)LEchoMarket$Shout;"⟩, 9), (⟨"EchoMarket", "valleyAt", "(I)LEchoMarket$Valley;"⟩, 9), (⟨"EchoMarket", "customerAt", "(I)LEchoMarket$Customer;"⟩, 9)]
theorem lw_r2 : ∀ q ∈ lw_privs_2, lw_okq q := List.forall_mem_cons.mpr ⟨lw_p16, List.forall_mem_cons.mpr ⟨lw_p17, List.forall_mem_cons.mpr ⟨lw_p18, List.forall_mem_cons.mpr ⟨lw_p19, List.forall_mem_cons.mpr ⟨lw_p20, List.forall_mem_cons.mpr ⟨lw_p21, List.forall_mem_cons.mpr ⟨lw_p22, List.forall_mem_cons.mpr ⟨lw_p23, fun _ h => absurd h List.not_mem_nil⟩⟩⟩⟩⟩⟩⟩⟩
def lw_privs : List (MethodName × Nat) := lw_privs_1 ++ (lw_privs_2)
def lw_tbl : List Cond := k2_sels lw_privs ++ tables_1
theorem lw_privs_ok : ∀ q ∈ lw_privs, lw_okq q := by
  show ∀ q ∈ lw_privs_1 ++ (lw_privs_2), lw_okq q
  exact List.forall_mem_append.mpr ⟨lw_r1, lw_r2⟩
-- ===== end of PART A; then your names; then what follows =====
/-! ===== BEGIN words of one list among another's, by their places ===== -/
theorem goodIn_r {big : List Cond} (ws : List Cond) (ps : List Nat) (hp : ws = ps.filterMap (fun i => big[i]?)) (h : ws.all goodWord = true) : GoodIn big ws := by
  intro w hw
  have h1 := List.all_eq_true.mp h w hw
  rw [hp] at hw
  obtain ⟨i, -, hi⟩ := List.mem_filterMap.mp hw
  have hm : w ∈ big := by first | exact List.mem_of_getElem? hi | exact List.getElem?_mem hi
  exact ⟨hm, good_of_word h1⟩
theorem goodIn_app {big a b : List Cond} (ha : GoodIn big a) (hb : GoodIn big b) : GoodIn big (a ++ b) := fun w h => (List.mem_append.mp h).elim (ha w) (hb w)
theorem goodIn_ca {big a b : List Cond} {c : Cond} (ha : GoodIn big (c :: a)) (hb : GoodIn big b) : GoodIn big (c :: (a ++ b)) := fun w h => (List.mem_cons.mp h).elim (fun e => ha w (List.mem_cons.mpr (Or.inl e))) (fun h => (List.mem_append.mp h).elim (fun h => ha w (List.mem_cons.mpr (Or.inr h))) (hb w))
theorem goodIn_sub {big ws : List Cond} (hm : ∀ w ∈ ws, w ∈ big) (h : ws.all goodWord = true) : GoodIn big ws := fun w hw => ⟨hm w hw, good_of_word (List.all_eq_true.mp h w hw)⟩
/-! ===== END ===== -/


def RX0 : String := "EchoMarket$1"
def TX0 : u_T := fun k => match k with
  | _ => ("", "", "", false)
def tyX0 : Nat → FieldType := fun k => match k with
  | _ => .int
abbrev wsX00 : List Cond := u_ws RX0 TX0 0
theorem nmX0 : ∀ a, a < 0 → ∀ b, b < 0 → a ≠ b → (TX0 a).2.1 ≠ (TX0 b).2.1 := by decide +kernel
theorem tyX0_ok : ∀ k, k < 0 → parseFieldDescriptor (TX0 k).2.2.1 = some (tyX0 k) := by decide +kernel
def RX1 : String := "EchoMarket$Change"
def TX1 : u_T := fun k => match k with
  | 0 => ("EchoMarket$Change", "verb", "LEchoMarket$Verb;", false)
  | 1 => ("EchoMarket$Change", "name", "J", false)
  | 2 => ("EchoMarket$Change", "customer", "I", false)
  | 3 => ("EchoMarket$Change", "valley", "I", false)
  | 4 => ("EchoMarket$Change", "first", "I", false)
  | 5 => ("EchoMarket$Change", "second", "I", false)
  | _ => ("EchoMarket$Change", "third", "I", false)
def tyX1 : Nat → FieldType := fun k => match k with
  | 0 => .object "EchoMarket$Verb"
  | 1 => .long
  | 2 => .int
  | 3 => .int
  | 4 => .int
  | 5 => .int
  | _ => .int
abbrev wsX10 : List Cond := u_ws RX1 TX1 7
theorem nmX1 : ∀ a, a < 7 → ∀ b, b < 7 → a ≠ b → (TX1 a).2.1 ≠ (TX1 b).2.1 := by decide +kernel
theorem tyX1_ok : ∀ k, k < 7 → parseFieldDescriptor (TX1 k).2.2.1 = some (tyX1 k) := by decide +kernel
abbrev cX1_init : ByteArray := prog_3_method_1_code
def yX1_init : MethodName := ⟨RX1, "<init>", "()V"⟩
abbrev cX1_applyTo : ByteArray := prog_3_method_3_code
def yX1_applyTo : MethodName := ⟨RX1, "applyTo", "(LEchoMarket$Market;)V"⟩
def RX2 : String := "EchoMarket$Customer"
def TX2 : u_T := fun k => match k with
  | 0 => ("EchoMarket$Customer", "name", "J", false)
  | 1 => ("EchoMarket$Customer", "patience", "I", false)
  | 2 => ("EchoMarket$Customer", "firstMoney", "I", false)
  | 3 => ("EchoMarket$Customer", "money", "I", false)
  | 4 => ("EchoMarket$Customer", "suspicion", "I", false)
  | 5 => ("EchoMarket$Customer", "holdings", "I", false)
  | _ => ("EchoMarket$Customer", "heard", "I", false)
def tyX2 : Nat → FieldType := fun k => match k with
  | 0 => .long
  | 1 => .int
  | 2 => .int
  | 3 => .int
  | 4 => .int
  | 5 => .int
  | _ => .int
abbrev wsX20 : List Cond := u_ws RX2 TX2 7
theorem nmX2 : ∀ a, a < 7 → ∀ b, b < 7 → a ≠ b → (TX2 a).2.1 ≠ (TX2 b).2.1 := by decide +kernel
theorem tyX2_ok : ∀ k, k < 7 → parseFieldDescriptor (TX2 k).2.2.1 = some (tyX2 k) := by decide +kernel
abbrev cX2_init : ByteArray := prog_4_method_1_code
def yX2_init : MethodName := ⟨RX2, "<init>", "()V"⟩
abbrev cX2_copyFrom : ByteArray := prog_4_method_2_code
def yX2_copyFrom : MethodName := ⟨RX2, "copyFrom", "(LEchoMarket$Customer;)V"⟩
abbrev cX2_hasAnger : ByteArray := prog_4_method_3_code
def yX2_hasAnger : MethodName := ⟨RX2, "hasAnger", "()Z"⟩
def RX3 : String := "EchoMarket$Description"
def TX3 : u_T := fun k => match k with
  | _ => ("EchoMarket$Description", "change", "LEchoMarket$Change;", true)
def tyX3 : Nat → FieldType := fun k => match k with
  | _ => .object "EchoMarket$Change"
abbrev wsX30 : List Cond := u_ws RX3 TX3 1
theorem nmX3 : ∀ a, a < 1 → ∀ b, b < 1 → a ≠ b → (TX3 a).2.1 ≠ (TX3 b).2.1 := by decide +kernel
theorem tyX3_ok : ∀ k, k < 1 → parseFieldDescriptor (TX3 k).2.2.1 = some (tyX3 k) := by decide +kernel
abbrev cX3_init : ByteArray := prog_5_method_1_code
def yX3_init : MethodName := ⟨RX3, "<init>", "()V"⟩
abbrev cX3_read : ByteArray := prog_5_method_2_code
def yX3_read : MethodName := ⟨RX3, "read", "(LEchoMarket$Text;LEchoMarket$Market;)Z"⟩
abbrev cX3_readStatement : ByteArray := prog_5_method_3_code
def yX3_readStatement : MethodName := ⟨RX3, "readStatement", "(LEchoMarket$Text;LEchoMarket$Market;)V"⟩
abbrev cX3_readValley : ByteArray := prog_5_method_4_code
def yX3_readValley : MethodName := ⟨RX3, "readValley", "(LEchoMarket$Text;LEchoMarket$Market;)V"⟩
abbrev cX3_readCustomer : ByteArray := prog_5_method_5_code
def yX3_readCustomer : MethodName := ⟨RX3, "readCustomer", "(LEchoMarket$Text;LEchoMarket$Market;)V"⟩
abbrev cX3_readShout : ByteArray := prog_5_method_6_code
def yX3_readShout : MethodName := ⟨RX3, "readShout", "(LEchoMarket$Text;LEchoMarket$Market;)V"⟩
abbrev cX3_readPass : ByteArray := prog_5_method_7_code
def yX3_readPass : MethodName := ⟨RX3, "readPass", "(LEchoMarket$Text;LEchoMarket$Market;)V"⟩
abbrev cX3_readFake : ByteArray := prog_5_method_8_code
def yX3_readFake : MethodName := ⟨RX3, "readFake", "(LEchoMarket$Text;LEchoMarket$Market;)V"⟩
def RX4 : String := "EchoMarket$Fault"
def TX4 : u_T := fun k => match k with
  | _ => ("", "", "", false)
def tyX4 : Nat → FieldType := fun k => match k with
  | _ => .int
abbrev wsX40 : List Cond := u_ws RX4 TX4 0
theorem nmX4 : ∀ a, a < 0 → ∀ b, b < 0 → a ≠ b → (TX4 a).2.1 ≠ (TX4 b).2.1 := by decide +kernel
theorem tyX4_ok : ∀ k, k < 0 → parseFieldDescriptor (TX4 k).2.2.1 = some (tyX4 k) := by decide +kernel
def RX5 : String := "EchoMarket$History"
def TX5 : u_T := fun k => match k with
  | 0 => ("EchoMarket$History", "rows", "[LEchoMarket$Market;", true)
  | 1 => ("EchoMarket$History", "free", "I", false)
  | _ => ("EchoMarket$History", "count", "I", false)
def tyX5 : Nat → FieldType := fun k => match k with
  | 0 => .array (.object "EchoMarket$Market")
  | 1 => .int
  | _ => .int
abbrev wsX50 : List Cond := u_ws RX5 TX5 3
theorem nmX5 : ∀ a, a < 3 → ∀ b, b < 3 → a ≠ b → (TX5 a).2.1 ≠ (TX5 b).2.1 := by decide +kernel
theorem tyX5_ok : ∀ k, k < 3 → parseFieldDescriptor (TX5 k).2.2.1 = some (tyX5 k) := by decide +kernel
abbrev cX5_init : ByteArray := prog_7_method_1_code
def yX5_init : MethodName := ⟨RX5, "<init>", "()V"⟩
abbrev cX5_remember : ByteArray := prog_7_method_2_code
def yX5_remember : MethodName := ⟨RX5, "remember", "(LEchoMarket$Market;)V"⟩
abbrev cX5_forget : ByteArray := prog_7_method_4_code
def yX5_forget : MethodName := ⟨RX5, "forget", "()V"⟩
def RX6 : String := "EchoMarket$Market"
def TX6 : u_T := fun k => match k with
  | 0 => ("EchoMarket$Market", "valleys", "[LEchoMarket$Valley;", true)
  | 1 => ("EchoMarket$Market", "customers", "[LEchoMarket$Customer;", true)
  | 2 => ("EchoMarket$Market", "shouts", "[LEchoMarket$Shout;", true)
  | 3 => ("EchoMarket$Market", "valleyTotal", "I", false)
  | 4 => ("EchoMarket$Market", "customerTotal", "I", false)
  | 5 => ("EchoMarket$Market", "shoutTotal", "I", false)
  | 6 => ("EchoMarket$Market", "now", "I", false)
  | 7 => ("EchoMarket$Market", "depth", "I", false)
  | 8 => ("EchoMarket$Market", "earnings", "I", false)
  | 9 => ("EchoMarket$Market", "refunds", "I", false)
  | 10 => ("EchoMarket$Market", "holdings", "I", false)
  | 11 => ("EchoMarket$Market", "heard", "I", false)
  | _ => ("EchoMarket$Market", "lost", "I", false)
def tyX6 : Nat → FieldType := fun k => match k with
  | 0 => .array (.object "EchoMarket$Valley")
  | 1 => .array (.object "EchoMarket$Customer")
  | 2 => .array (.object "EchoMarket$Shout")
  | 3 => .int
  | 4 => .int
  | 5 => .int
  | 6 => .int
  | 7 => .int
  | 8 => .int
  | 9 => .int
  | 10 => .int
  | 11 => .int
  | _ => .int
abbrev wsX60 : List Cond := u_ws RX6 TX6 13
theorem nmX6 : ∀ a, a < 13 → ∀ b, b < 13 → a ≠ b → (TX6 a).2.1 ≠ (TX6 b).2.1 := by decide +kernel
theorem tyX6_ok : ∀ k, k < 13 → parseFieldDescriptor (TX6 k).2.2.1 = some (tyX6 k) := by decide +kernel
abbrev cX6_init : ByteArray := prog_8_method_1_code
def yX6_init : MethodName := ⟨RX6, "<init>", "()V"⟩
abbrev cX6_clear : ByteArray := prog_8_method_2_code
def yX6_clear : MethodName := ⟨RX6, "clear", "()V"⟩
abbrev cX6_copyFrom : ByteArray := prog_8_method_3_code
def yX6_copyFrom : MethodName := ⟨RX6, "copyFrom", "(LEchoMarket$Market;)V"⟩
abbrev cX6_hasValley : ByteArray := prog_8_method_4_code
def yX6_hasValley : MethodName := ⟨RX6, "hasValley", "(I)Z"⟩
abbrev cX6_hasCustomer : ByteArray := prog_8_method_5_code
def yX6_hasCustomer : MethodName := ⟨RX6, "hasCustomer", "(I)Z"⟩
abbrev cX6_hasShout : ByteArray := prog_8_method_6_code
def yX6_hasShout : MethodName := ⟨RX6, "hasShout", "(I)Z"⟩
abbrev cX6_openInAll : ByteArray := prog_8_method_7_code
def yX6_openInAll : MethodName := ⟨RX6, "openInAll", "()I"⟩
abbrev cX6_brokenInvariants : ByteArray := prog_8_method_10_code
def yX6_brokenInvariants : MethodName := ⟨RX6, "brokenInvariants", "()I"⟩
abbrev cX6_valleyNamed : ByteArray := prog_8_method_11_code
def yX6_valleyNamed : MethodName := ⟨RX6, "valleyNamed", "(J)I"⟩
abbrev cX6_customerNamed : ByteArray := prog_8_method_12_code
def yX6_customerNamed : MethodName := ⟨RX6, "customerNamed", "(J)I"⟩
abbrev cX6_secondOfNextEvent : ByteArray := prog_8_method_20_code
def yX6_secondOfNextEvent : MethodName := ⟨RX6, "secondOfNextEvent", "()I"⟩
abbrev cX6_isHeardFrom : ByteArray := prog_8_method_23_code
def yX6_isHeardFrom : MethodName := ⟨RX6, "isHeardFrom", "(LEchoMarket$Shout;I)Z"⟩
abbrev cX6_letPass : ByteArray := prog_8_method_24_code
def yX6_letPass : MethodName := ⟨RX6, "letPass", "(I)I"⟩
abbrev cX6_returnDueEchoes : ByteArray := prog_8_method_25_code
def yX6_returnDueEchoes : MethodName := ⟨RX6, "returnDueEchoes", "()I"⟩
abbrev cX6_losePatience : ByteArray := prog_8_method_26_code
def yX6_losePatience : MethodName := ⟨RX6, "losePatience", "()V"⟩
abbrev cX6_echo : ByteArray := prog_8_method_27_code
def yX6_echo : MethodName := ⟨RX6, "echo", "(LEchoMarket$Shout;Z)V"⟩
abbrev cX6_earn : ByteArray := prog_8_method_28_code
def yX6_earn : MethodName := ⟨RX6, "earn", "(LEchoMarket$Shout;)V"⟩
abbrev cX6_refund : ByteArray := prog_8_method_29_code
def yX6_refund : MethodName := ⟨RX6, "refund", "(LEchoMarket$Shout;I)V"⟩
abbrev cX6_whyRefused : ByteArray := prog_8_method_30_code
def yX6_whyRefused : MethodName := ⟨RX6, "whyRefused", "(III)I"⟩
abbrev cX6_hasOpenShout : ByteArray := prog_8_method_31_code
def yX6_hasOpenShout : MethodName := ⟨RX6, "hasOpenShout", "(II)Z"⟩
abbrev cX6_faultOfSale : ByteArray := prog_8_method_32_code
def yX6_faultOfSale : MethodName := ⟨RX6, "faultOfSale", "(IIII)LEchoMarket$Fault;"⟩
abbrev cX6_faultOfOpen : ByteArray := prog_8_method_33_code
def yX6_faultOfOpen : MethodName := ⟨RX6, "faultOfOpen", "(I)LEchoMarket$Fault;"⟩
abbrev cX6_faultOfFog : ByteArray := prog_8_method_34_code
def yX6_faultOfFog : MethodName := ⟨RX6, "faultOfFog", "(II)LEchoMarket$Fault;"⟩
abbrev cX6_faultOfPrice : ByteArray := prog_8_method_35_code
def yX6_faultOfPrice : MethodName := ⟨RX6, "faultOfPrice", "(II)LEchoMarket$Fault;"⟩
abbrev cX6_faultOfDepth : ByteArray := prog_8_method_36_code
def yX6_faultOfDepth : MethodName := ⟨RX6, "faultOfDepth", "(I)LEchoMarket$Fault;"⟩
abbrev cX6_faultOfPassing : ByteArray := prog_8_method_37_code
def yX6_faultOfPassing : MethodName := ⟨RX6, "faultOfPassing", "(I)LEchoMarket$Fault;"⟩
abbrev cX6_openValley : ByteArray := prog_8_method_38_code
def yX6_openValley : MethodName := ⟨RX6, "openValley", "(JIII)I"⟩
abbrev cX6_welcome : ByteArray := prog_8_method_39_code
def yX6_welcome : MethodName := ⟨RX6, "welcome", "(JII)I"⟩
abbrev cX6_sell : ByteArray := prog_8_method_40_code
def yX6_sell : MethodName := ⟨RX6, "sell", "(IIII)I"⟩
abbrev cX6_callOff : ByteArray := prog_8_method_41_code
def yX6_callOff : MethodName := ⟨RX6, "callOff", "(I)I"⟩
abbrev cX6_fakeNext : ByteArray := prog_8_method_42_code
def yX6_fakeNext : MethodName := ⟨RX6, "fakeNext", "(I)I"⟩
abbrev cX6_callOffAll : ByteArray := prog_8_method_43_code
def yX6_callOffAll : MethodName := ⟨RX6, "callOffAll", "(I)V"⟩
abbrev cX6_changeFog : ByteArray := prog_8_method_44_code
def yX6_changeFog : MethodName := ⟨RX6, "changeFog", "(II)I"⟩
abbrev cX6_changePrice : ByteArray := prog_8_method_45_code
def yX6_changePrice : MethodName := ⟨RX6, "changePrice", "(II)I"⟩
abbrev cX6_changeDepth : ByteArray := prog_8_method_46_code
def yX6_changeDepth : MethodName := ⟨RX6, "changeDepth", "(I)I"⟩
def RX7 : String := "EchoMarket$Script"
def TX7 : u_T := fun k => match k with
  | 0 => ("EchoMarket$Script", "commands", "[LEchoMarket$Change;", true)
  | 1 => ("EchoMarket$Script", "plan", "[I", true)
  | 2 => ("EchoMarket$Script", "bodyStarts", "[I", true)
  | 3 => ("EchoMarket$Script", "repeats", "[I", true)
  | 4 => ("EchoMarket$Script", "commandTotal", "I", false)
  | 5 => ("EchoMarket$Script", "planned", "I", false)
  | _ => ("EchoMarket$Script", "nesting", "I", false)
def tyX7 : Nat → FieldType := fun k => match k with
  | 0 => .array (.object "EchoMarket$Change")
  | 1 => .array .int
  | 2 => .array .int
  | 3 => .array .int
  | 4 => .int
  | 5 => .int
  | _ => .int
abbrev wsX70 : List Cond := u_ws RX7 TX7 7
theorem nmX7 : ∀ a, a < 7 → ∀ b, b < 7 → a ≠ b → (TX7 a).2.1 ≠ (TX7 b).2.1 := by decide +kernel
theorem tyX7_ok : ∀ k, k < 7 → parseFieldDescriptor (TX7 k).2.2.1 = some (tyX7 k) := by decide +kernel
abbrev cX7_init : ByteArray := prog_9_method_1_code
def yX7_init : MethodName := ⟨RX7, "<init>", "()V"⟩
def RX8 : String := "EchoMarket$Shout"
def TX8 : u_T := fun k => match k with
  | 0 => ("EchoMarket$Shout", "customer", "I", false)
  | 1 => ("EchoMarket$Shout", "valley", "I", false)
  | 2 => ("EchoMarket$Shout", "loudness", "I", false)
  | 3 => ("EchoMarket$Shout", "order", "I", false)
  | 4 => ("EchoMarket$Shout", "price", "I", false)
  | 5 => ("EchoMarket$Shout", "width", "I", false)
  | 6 => ("EchoMarket$Shout", "soldAt", "I", false)
  | 7 => ("EchoMarket$Shout", "patienceEnd", "I", false)
  | 8 => ("EchoMarket$Shout", "state", "I", false)
  | 9 => ("EchoMarket$Shout", "returned", "I", false)
  | _ => ("EchoMarket$Shout", "heardWalls", "I", false)
def tyX8 : Nat → FieldType := fun k => match k with
  | 0 => .int
  | 1 => .int
  | 2 => .int
  | 3 => .int
  | 4 => .int
  | 5 => .int
  | 6 => .int
  | 7 => .int
  | 8 => .int
  | 9 => .int
  | _ => .int
abbrev wsX80 : List Cond := u_ws RX8 TX8 11
theorem nmX8 : ∀ a, a < 11 → ∀ b, b < 11 → a ≠ b → (TX8 a).2.1 ≠ (TX8 b).2.1 := by decide +kernel
theorem tyX8_ok : ∀ k, k < 11 → parseFieldDescriptor (TX8 k).2.2.1 = some (tyX8 k) := by decide +kernel
abbrev cX8_init : ByteArray := prog_10_method_1_code
def yX8_init : MethodName := ⟨RX8, "<init>", "()V"⟩
abbrev cX8_copyFrom : ByteArray := prog_10_method_2_code
def yX8_copyFrom : MethodName := ⟨RX8, "copyFrom", "(LEchoMarket$Shout;)V"⟩
abbrev cX8_isOpen : ByteArray := prog_10_method_3_code
def yX8_isOpen : MethodName := ⟨RX8, "isOpen", "()Z"⟩
abbrev cX8_cost : ByteArray := prog_10_method_4_code
def yX8_cost : MethodName := ⟨RX8, "cost", "()I"⟩
abbrev cX8_earnings : ByteArray := prog_10_method_5_code
def yX8_earnings : MethodName := ⟨RX8, "earnings", "()I"⟩
abbrev cX8_amountToCome : ByteArray := prog_10_method_6_code
def yX8_amountToCome : MethodName := ⟨RX8, "amountToCome", "()I"⟩
abbrev cX8_secondOf : ByteArray := prog_10_method_7_code
def yX8_secondOf : MethodName := ⟨RX8, "secondOf", "(I)I"⟩
abbrev cX8_secondOfNext : ByteArray := prog_10_method_8_code
def yX8_secondOfNext : MethodName := ⟨RX8, "secondOfNext", "()I"⟩
abbrev cX8_stateInTheEnd : ByteArray := prog_10_method_9_code
def yX8_stateInTheEnd : MethodName := ⟨RX8, "stateInTheEnd", "()I"⟩
def RX9 : String := "EchoMarket$Text"
def TX9 : u_T := fun k => match k with
  | 0 => ("EchoMarket$Text", "bytes", "[B", true)
  | 1 => ("EchoMarket$Text", "kinds", "[I", true)
  | 2 => ("EchoMarket$Text", "starts", "[I", true)
  | 3 => ("EchoMarket$Text", "values", "[J", true)
  | 4 => ("EchoMarket$Text", "last", "I", false)
  | 5 => ("EchoMarket$Text", "at", "I", false)
  | 6 => ("EchoMarket$Text", "length", "I", false)
  | 7 => ("EchoMarket$Text", "code", "I", false)
  | _ => ("EchoMarket$Text", "offset", "I", false)
def tyX9 : Nat → FieldType := fun k => match k with
  | 0 => .array .byte
  | 1 => .array .int
  | 2 => .array .int
  | 3 => .array .long
  | 4 => .int
  | 5 => .int
  | 6 => .int
  | 7 => .int
  | _ => .int
abbrev wsX90 : List Cond := u_ws RX9 TX9 9
theorem nmX9 : ∀ a, a < 9 → ∀ b, b < 9 → a ≠ b → (TX9 a).2.1 ≠ (TX9 b).2.1 := by decide +kernel
theorem tyX9_ok : ∀ k, k < 9 → parseFieldDescriptor (TX9 k).2.2.1 = some (tyX9 k) := by decide +kernel
abbrev cX9_init : ByteArray := prog_11_method_1_code
def yX9_init : MethodName := ⟨RX9, "<init>", "()V"⟩
abbrev cX9_append : ByteArray := prog_11_method_2_code
def yX9_append : MethodName := ⟨RX9, "append", "(I)V"⟩
abbrev cX9_wholeName : ByteArray := prog_11_method_3_code
def yX9_wholeName : MethodName := ⟨RX9, "wholeName", "()J"⟩
abbrev cX9_nameIn : ByteArray := prog_11_method_4_code
def yX9_nameIn : MethodName := ⟨RX9, "nameIn", "(II)J"⟩
abbrev cX9_open : ByteArray := prog_11_method_5_code
def yX9_open : MethodName := ⟨RX9, "open", "()V"⟩
abbrev cX9_behindSpaces : ByteArray := prog_11_method_6_code
def yX9_behindSpaces : MethodName := ⟨RX9, "behindSpaces", "(I)I"⟩
abbrev cX9_behindToken : ByteArray := prog_11_method_7_code
def yX9_behindToken : MethodName := ⟨RX9, "behindToken", "(I)I"⟩
abbrev cX9_behindWord : ByteArray := prog_11_method_8_code
def yX9_behindWord : MethodName := ⟨RX9, "behindWord", "(I)I"⟩
abbrev cX9_behindNumber : ByteArray := prog_11_method_9_code
def yX9_behindNumber : MethodName := ⟨RX9, "behindNumber", "(I)I"⟩
abbrev cX9_hasFailed : ByteArray := prog_11_method_10_code
def yX9_hasFailed : MethodName := ⟨RX9, "hasFailed", "()Z"⟩
abbrev cX9_hasMore : ByteArray := prog_11_method_11_code
def yX9_hasMore : MethodName := ⟨RX9, "hasMore", "()Z"⟩
abbrev cX9_isSign : ByteArray := prog_11_method_12_code
def yX9_isSign : MethodName := ⟨RX9, "isSign", "(C)Z"⟩
abbrev cX9_word : ByteArray := prog_11_method_13_code
def yX9_word : MethodName := ⟨RX9, "word", "()J"⟩
abbrev cX9_number : ByteArray := prog_11_method_14_code
def yX9_number : MethodName := ⟨RX9, "number", "()I"⟩
abbrev cX9_verb : ByteArray := prog_11_method_15_code
def yX9_verb : MethodName := ⟨RX9, "verb", "()LEchoMarket$Verb;"⟩
abbrev cX9_failIf : ByteArray := prog_11_method_16_code
def yX9_failIf : MethodName := ⟨RX9, "failIf", "(ZI)V"⟩
abbrev cX9_expectSign : ByteArray := prog_11_method_17_code
def yX9_expectSign : MethodName := ⟨RX9, "expectSign", "(C)V"⟩
abbrev cX9_expectNumber : ByteArray := prog_11_method_18_code
def yX9_expectNumber : MethodName := ⟨RX9, "expectNumber", "(II)V"⟩
abbrev cX9_skip : ByteArray := prog_11_method_19_code
def yX9_skip : MethodName := ⟨RX9, "skip", "()V"⟩
abbrev cX9_takeSign : ByteArray := prog_11_method_20_code
def yX9_takeSign : MethodName := ⟨RX9, "takeSign", "(C)V"⟩
abbrev cX9_takeNumber : ByteArray := prog_11_method_21_code
def yX9_takeNumber : MethodName := ⟨RX9, "takeNumber", "(II)I"⟩
abbrev cX9_takeNewName : ByteArray := prog_11_method_22_code
def yX9_takeNewName : MethodName := ⟨RX9, "takeNewName", "(I)J"⟩
abbrev cX9_takeValley : ByteArray := prog_11_method_23_code
def yX9_takeValley : MethodName := ⟨RX9, "takeValley", "(LEchoMarket$Market;)I"⟩
abbrev cX9_takeCustomer : ByteArray := prog_11_method_24_code
def yX9_takeCustomer : MethodName := ⟨RX9, "takeCustomer", "(LEchoMarket$Market;)I"⟩
abbrev cX9_takeKnownName : ByteArray := prog_11_method_25_code
def yX9_takeKnownName : MethodName := ⟨RX9, "takeKnownName", "(I)V"⟩
def RX10 : String := "EchoMarket$Valley"
def TX10 : u_T := fun k => match k with
  | 0 => ("EchoMarket$Valley", "name", "J", false)
  | 1 => ("EchoMarket$Valley", "width", "I", false)
  | 2 => ("EchoMarket$Valley", "walls", "I", false)
  | 3 => ("EchoMarket$Valley", "price", "I", false)
  | 4 => ("EchoMarket$Valley", "fog", "I", false)
  | 5 => ("EchoMarket$Valley", "rating", "I", false)
  | 6 => ("EchoMarket$Valley", "earnings", "I", false)
  | _ => ("EchoMarket$Valley", "lost", "I", false)
def tyX10 : Nat → FieldType := fun k => match k with
  | 0 => .long
  | 1 => .int
  | 2 => .int
  | 3 => .int
  | 4 => .int
  | 5 => .int
  | 6 => .int
  | _ => .int
abbrev wsX100 : List Cond := u_ws RX10 TX10 8
theorem nmX10 : ∀ a, a < 8 → ∀ b, b < 8 → a ≠ b → (TX10 a).2.1 ≠ (TX10 b).2.1 := by decide +kernel
theorem tyX10_ok : ∀ k, k < 8 → parseFieldDescriptor (TX10 k).2.2.1 = some (tyX10 k) := by decide +kernel
abbrev cX10_init : ByteArray := prog_12_method_1_code
def yX10_init : MethodName := ⟨RX10, "<init>", "()V"⟩
abbrev cX10_copyFrom : ByteArray := prog_12_method_2_code
def yX10_copyFrom : MethodName := ⟨RX10, "copyFrom", "(LEchoMarket$Valley;)V"⟩
abbrev cX10_loudnessNeeded : ByteArray := prog_12_method_3_code
def yX10_loudnessNeeded : MethodName := ⟨RX10, "loudnessNeeded", "(I)I"⟩
def RX11 : String := "EchoMarket$Verb"
def TX11 : u_T := fun k => match k with
  | _ => ("", "", "", false)
def tyX11 : Nat → FieldType := fun k => match k with
  | _ => .int
abbrev wsX110 : List Cond := u_ws RX11 TX11 0
theorem nmX11 : ∀ a, a < 0 → ∀ b, b < 0 → a ≠ b → (TX11 a).2.1 ≠ (TX11 b).2.1 := by decide +kernel
theorem tyX11_ok : ∀ k, k < 0 → parseFieldDescriptor (TX11 k).2.2.1 = some (tyX11 k) := by decide +kernel
abbrev cX11_isSpelled : ByteArray := prog_13_method_4_code
def yX11_isSpelled : MethodName := ⟨RX11, "isSpelled", "(J)Z"⟩
def RX12 : String := "EchoMarket"
def TX12 : u_T := fun k => match k with
  | 0 => ("EchoMarket", "input", "LEchoMarket$Text;", true)
  | 1 => ("EchoMarket", "description", "LEchoMarket$Description;", true)
  | 2 => ("EchoMarket", "script", "LEchoMarket$Script;", true)
  | 3 => ("EchoMarket", "market", "LEchoMarket$Market;", true)
  | 4 => ("EchoMarket", "draft", "LEchoMarket$Market;", true)
  | 5 => ("EchoMarket", "saved", "LEchoMarket$Market;", true)
  | 6 => ("EchoMarket", "history", "LEchoMarket$History;", true)
  | 7 => ("EchoMarket", "output", "Ljava/lang/StringBuilder;", true)
  | _ => ("EchoMarket", "hasSaved", "Z", false)
def tyX12 : Nat → FieldType := fun k => match k with
  | 0 => .object "EchoMarket$Text"
  | 1 => .object "EchoMarket$Description"
  | 2 => .object "EchoMarket$Script"
  | 3 => .object "EchoMarket$Market"
  | 4 => .object "EchoMarket$Market"
  | 5 => .object "EchoMarket$Market"
  | 6 => .object "EchoMarket$History"
  | 7 => .object "java/lang/StringBuilder"
  | _ => .boolean
abbrev wsX120 : List Cond := u_ws RX12 TX12 9
theorem nmX12 : ∀ a, a < 9 → ∀ b, b < 9 → a ≠ b → (TX12 a).2.1 ≠ (TX12 b).2.1 := by decide +kernel
theorem tyX12_ok : ∀ k, k < 9 → parseFieldDescriptor (TX12 k).2.2.1 = some (tyX12 k) := by decide +kernel
abbrev cX12_init : ByteArray := prog_1_method_1_code
def yX12_init : MethodName := ⟨RX12, "<init>", "()V"⟩
abbrev cX12_feed : ByteArray := prog_1_method_2_code
def yX12_feed : MethodName := ⟨RX12, "feed", "(IIIII)I"⟩
abbrev cX12_truncate : ByteArray := prog_1_method_3_code
def yX12_truncate : MethodName := ⟨RX12, "truncate", "(I)I"⟩
abbrev cX12_readText : ByteArray := prog_1_method_4_code
def yX12_readText : MethodName := ⟨RX12, "readText", "()I"⟩
abbrev cX12_valleyCount : ByteArray := prog_1_method_8_code
def yX12_valleyCount : MethodName := ⟨RX12, "valleyCount", "()I"⟩
abbrev cX12_customerCount : ByteArray := prog_1_method_9_code
def yX12_customerCount : MethodName := ⟨RX12, "customerCount", "()I"⟩
abbrev cX12_shoutCount : ByteArray := prog_1_method_10_code
def yX12_shoutCount : MethodName := ⟨RX12, "shoutCount", "()I"⟩
abbrev cX12_time : ByteArray := prog_1_method_11_code
def yX12_time : MethodName := ⟨RX12, "time", "()I"⟩
abbrev cX12_earned : ByteArray := prog_1_method_12_code
def yX12_earned : MethodName := ⟨RX12, "earned", "()I"⟩
abbrev cX12_refunded : ByteArray := prog_1_method_13_code
def yX12_refunded : MethodName := ⟨RX12, "refunded", "()I"⟩
abbrev cX12_held : ByteArray := prog_1_method_14_code
def yX12_held : MethodName := ⟨RX12, "held", "()I"⟩
abbrev cX12_wellDepth : ByteArray := prog_1_method_15_code
def yX12_wellDepth : MethodName := ⟨RX12, "wellDepth", "()I"⟩
abbrev cX12_openShouts : ByteArray := prog_1_method_16_code
def yX12_openShouts : MethodName := ⟨RX12, "openShouts", "()I"⟩
abbrev cX12_valleyByte : ByteArray := prog_1_method_17_code
def yX12_valleyByte : MethodName := ⟨RX12, "valleyByte", "(II)I"⟩
abbrev cX12_width : ByteArray := prog_1_method_19_code
def yX12_width : MethodName := ⟨RX12, "width", "(I)I"⟩
abbrev cX12_walls : ByteArray := prog_1_method_20_code
def yX12_walls : MethodName := ⟨RX12, "walls", "(I)I"⟩
abbrev cX12_price : ByteArray := prog_1_method_21_code
def yX12_price : MethodName := ⟨RX12, "price", "(I)I"⟩
abbrev cX12_rating : ByteArray := prog_1_method_22_code
def yX12_rating : MethodName := ⟨RX12, "rating", "(I)I"⟩
abbrev cX12_echoesLost : ByteArray := prog_1_method_23_code
def yX12_echoesLost : MethodName := ⟨RX12, "echoesLost", "(I)I"⟩
abbrev cX12_money : ByteArray := prog_1_method_28_code
def yX12_money : MethodName := ⟨RX12, "money", "(I)I"⟩
abbrev cX12_patience : ByteArray := prog_1_method_29_code
def yX12_patience : MethodName := ⟨RX12, "patience", "(I)I"⟩
abbrev cX12_suspicion : ByteArray := prog_1_method_30_code
def yX12_suspicion : MethodName := ⟨RX12, "suspicion", "(I)I"⟩
abbrev cX12_isAngry : ByteArray := prog_1_method_31_code
def yX12_isAngry : MethodName := ⟨RX12, "isAngry", "(I)Z"⟩
abbrev cX12_echoesHeard : ByteArray := prog_1_method_32_code
def yX12_echoesHeard : MethodName := ⟨RX12, "echoesHeard", "(I)I"⟩
abbrev cX12_heldFor : ByteArray := prog_1_method_33_code
def yX12_heldFor : MethodName := ⟨RX12, "heldFor", "(I)I"⟩
abbrev cX12_shoutCustomer : ByteArray := prog_1_method_36_code
def yX12_shoutCustomer : MethodName := ⟨RX12, "shoutCustomer", "(I)I"⟩
abbrev cX12_shoutValley : ByteArray := prog_1_method_37_code
def yX12_shoutValley : MethodName := ⟨RX12, "shoutValley", "(I)I"⟩
abbrev cX12_shoutState : ByteArray := prog_1_method_38_code
def yX12_shoutState : MethodName := ⟨RX12, "shoutState", "(I)I"⟩
abbrev cX12_returns : ByteArray := prog_1_method_39_code
def yX12_returns : MethodName := ⟨RX12, "returns", "(I)I"⟩
abbrev cX12_receipt : ByteArray := prog_1_method_40_code
def yX12_receipt : MethodName := ⟨RX12, "receipt", "(I)I"⟩
abbrev cX12_nextReturn : ByteArray := prog_1_method_41_code
def yX12_nextReturn : MethodName := ⟨RX12, "nextReturn", "(I)I"⟩
abbrev cX12_patienceEnds : ByteArray := prog_1_method_42_code
def yX12_patienceEnds : MethodName := ⟨RX12, "patienceEnds", "(I)I"⟩
abbrev cX12_nextEvent : ByteArray := prog_1_method_46_code
def yX12_nextEvent : MethodName := ⟨RX12, "nextEvent", "()I"⟩
abbrev cX12_finalState : ByteArray := prog_1_method_48_code
def yX12_finalState : MethodName := ⟨RX12, "finalState", "(I)I"⟩
abbrev cX12_violations : ByteArray := prog_1_method_49_code
def yX12_violations : MethodName := ⟨RX12, "violations", "()I"⟩
abbrev cX12_addValley : ByteArray := prog_1_method_52_code
def yX12_addValley : MethodName := ⟨RX12, "addValley", "(III)I"⟩
abbrev cX12_addCustomer : ByteArray := prog_1_method_53_code
def yX12_addCustomer : MethodName := ⟨RX12, "addCustomer", "(II)I"⟩
abbrev cX12_shout : ByteArray := prog_1_method_54_code
def yX12_shout : MethodName := ⟨RX12, "shout", "(IIII)I"⟩
abbrev cX12_cancel : ByteArray := prog_1_method_55_code
def yX12_cancel : MethodName := ⟨RX12, "cancel", "(I)I"⟩
abbrev cX12_fake : ByteArray := prog_1_method_56_code
def yX12_fake : MethodName := ⟨RX12, "fake", "(I)I"⟩
abbrev cX12_setFog : ByteArray := prog_1_method_57_code
def yX12_setFog : MethodName := ⟨RX12, "setFog", "(II)I"⟩
abbrev cX12_setPrice : ByteArray := prog_1_method_58_code
def yX12_setPrice : MethodName := ⟨RX12, "setPrice", "(II)I"⟩
abbrev cX12_setWell : ByteArray := prog_1_method_59_code
def yX12_setWell : MethodName := ⟨RX12, "setWell", "(I)I"⟩
abbrev cX12_pass : ByteArray := prog_1_method_60_code
def yX12_pass : MethodName := ⟨RX12, "pass", "(I)I"⟩
abbrev cX12_valleyAt : ByteArray := prog_1_method_66_code
def yX12_valleyAt : MethodName := ⟨RX12, "valleyAt", "(I)LEchoMarket$Valley;"⟩
abbrev cX12_customerAt : ByteArray := prog_1_method_67_code
def yX12_customerAt : MethodName := ⟨RX12, "customerAt", "(I)LEchoMarket$Customer;"⟩
abbrev cX12_shoutAt : ByteArray := prog_1_method_68_code
def yX12_shoutAt : MethodName := ⟨RX12, "shoutAt", "(I)LEchoMarket$Shout;"⟩
abbrev cX12_demand : ByteArray := prog_1_method_70_code
def yX12_demand : MethodName := ⟨RX12, "demand", "(LEchoMarket$Fault;)V"⟩
abbrev cX12_demandIndex : ByteArray := prog_1_method_71_code
def yX12_demandIndex : MethodName := ⟨RX12, "demandIndex", "(Z)V"⟩
abbrev cX12_demandArgument : ByteArray := prog_1_method_72_code
def yX12_demandArgument : MethodName := ⟨RX12, "demandArgument", "(Z)V"⟩
abbrev cX12_demandState : ByteArray := prog_1_method_73_code
def yX12_demandState : MethodName := ⟨RX12, "demandState", "(Z)V"⟩
abbrev cX12_isWithin : ByteArray := prog_1_method_74_code
def yX12_isWithin : MethodName := ⟨RX12, "isWithin", "(III)Z"⟩
abbrev cX12_isLetter : ByteArray := prog_1_method_75_code
def yX12_isLetter : MethodName := ⟨RX12, "isLetter", "(I)Z"⟩
abbrev cX12_isDigit : ByteArray := prog_1_method_76_code
def yX12_isDigit : MethodName := ⟨RX12, "isDigit", "(I)Z"⟩
abbrev cX12_letterOf : ByteArray := prog_1_method_77_code
def yX12_letterOf : MethodName := ⟨RX12, "letterOf", "(JI)I"⟩
def RX13 : String := "EchoMarketLaw$World"
def TX13 : u_T := fun k => match k with
  | 0 => ("EchoMarketLaw$World", "valleys", "I", false)
  | 1 => ("EchoMarketLaw$World", "customers", "I", false)
  | 2 => ("EchoMarketLaw$World", "shouts", "I", false)
  | 3 => ("EchoMarketLaw$World", "time", "I", false)
  | 4 => ("EchoMarketLaw$World", "earned", "I", false)
  | 5 => ("EchoMarketLaw$World", "refunded", "I", false)
  | 6 => ("EchoMarketLaw$World", "well", "I", false)
  | 7 => ("EchoMarketLaw$World", "brought", "I", false)
  | 8 => ("EchoMarketLaw$World", "valley", "[[I", false)
  | 9 => ("EchoMarketLaw$World", "customer", "[[I", false)
  | 10 => ("EchoMarketLaw$World", "shout", "[[I", false)
  | _ => ("EchoMarketLaw$World", "text", "Ljava/lang/StringBuilder;", false)
def tyX13 : Nat → FieldType := fun k => match k with
  | 0 => .int
  | 1 => .int
  | 2 => .int
  | 3 => .int
  | 4 => .int
  | 5 => .int
  | 6 => .int
  | 7 => .int
  | 8 => .array (.array .int)
  | 9 => .array (.array .int)
  | 10 => .array (.array .int)
  | _ => .object "java/lang/StringBuilder"
abbrev wsX130 : List Cond := u_ws RX13 TX13 12
theorem nmX13 : ∀ a, a < 12 → ∀ b, b < 12 → a ≠ b → (TX13 a).2.1 ≠ (TX13 b).2.1 := by decide +kernel
theorem tyX13_ok : ∀ k, k < 12 → parseFieldDescriptor (TX13 k).2.2.1 = some (tyX13 k) := by decide +kernel
abbrev cX13_init : ByteArray := prog_15_method_1_code
def yX13_init : MethodName := ⟨RX13, "<init>", "()V"⟩
abbrev cX13_grown : ByteArray := prog_15_method_2_code
def yX13_grown : MethodName := ⟨RX13, "grown", "([I)LEchoMarketLaw$World;"⟩
abbrev cX13_addValley : ByteArray := prog_15_method_4_code
def yX13_addValley : MethodName := ⟨RX13, "addValley", "(III)I"⟩
abbrev cX13_addCustomer : ByteArray := prog_15_method_5_code
def yX13_addCustomer : MethodName := ⟨RX13, "addCustomer", "(II)I"⟩
abbrev cX13_refusal : ByteArray := prog_15_method_6_code
def yX13_refusal : MethodName := ⟨RX13, "refusal", "(III)I"⟩
abbrev cX13_sell : ByteArray := prog_15_method_7_code
def yX13_sell : MethodName := ⟨RX13, "sell", "(IIII)I"⟩
abbrev cX13_held : ByteArray := prog_15_method_8_code
def yX13_held : MethodName := ⟨RX13, "held", "(I)I"⟩
abbrev cX13_back : ByteArray := prog_15_method_9_code
def yX13_back : MethodName := ⟨RX13, "back", "([IZ)V"⟩
abbrev cX13_cancel : ByteArray := prog_15_method_10_code
def yX13_cancel : MethodName := ⟨RX13, "cancel", "(I)I"⟩
abbrev cX13_fake : ByteArray := prog_15_method_11_code
def yX13_fake : MethodName := ⟨RX13, "fake", "(I)I"⟩
abbrev cX13_due : ByteArray := prog_15_method_12_code
def yX13_due : MethodName := ⟨RX13, "due", "([I)I"⟩
abbrev cX13_end : ByteArray := prog_15_method_13_code
def yX13_end : MethodName := ⟨RX13, "end", "([I)I"⟩
abbrev cX13_pass : ByteArray := prog_15_method_14_code
def yX13_pass : MethodName := ⟨RX13, "pass", "(I)I"⟩
def RX14 : String := "EchoMarketModel"
def TX14 : u_T := fun k => match k with
  | _ => ("", "", "", false)
def tyX14 : Nat → FieldType := fun k => match k with
  | _ => .int
abbrev wsX140 : List Cond := u_ws RX14 TX14 0
theorem nmX14 : ∀ a, a < 0 → ∀ b, b < 0 → a ≠ b → (TX14 a).2.1 ≠ (TX14 b).2.1 := by decide +kernel
theorem tyX14_ok : ∀ k, k < 0 → parseFieldDescriptor (TX14 k).2.2.1 = some (tyX14 k) := by decide +kernel
def RJx145de : String := "java/io/Serializable"
def TJx145de : u_T := fun k => match k with
  | _ => ("", "", "", false)
def tyJx145de : Nat → FieldType := fun k => match k with
  | _ => .int
theorem nmJx145de : ∀ a, a < 0 → ∀ b, b < 0 → a ≠ b → (TJx145de a).2.1 ≠ (TJx145de b).2.1 := by decide +kernel
theorem tyJx145de_ok : ∀ k, k < 0 → parseFieldDescriptor (TJx145de k).2.2.1 = some (tyJx145de k) := by decide +kernel
def RJ5 : String := "java/lang/AbstractStringBuilder"
def TJ5 : u_T := fun k => match k with
  | _ => ("", "", "", false)
def tyJ5 : Nat → FieldType := fun k => match k with
  | _ => .int
abbrev wsJ50 : List Cond := u_ws RJ5 TJ5 0
theorem nmJ5 : ∀ a, a < 0 → ∀ b, b < 0 → a ≠ b → (TJ5 a).2.1 ≠ (TJ5 b).2.1 := by decide +kernel
theorem tyJ5_ok : ∀ k, k < 0 → parseFieldDescriptor (TJ5 k).2.2.1 = some (tyJ5 k) := by decide +kernel
abbrev cJ5_init_d00df : ByteArray := prog_17_method_2_code
def yJ5_init_d00df : MethodName := ⟨RJ5, "<init>", "(I)V"⟩
abbrev cJ5_length_8abf5 : ByteArray := prog_17_method_6_code
def yJ5_length_8abf5 : MethodName := ⟨RJ5, "length", "()I"⟩
abbrev cJ5_ensureCapacityInternal_d00df : ByteArray := prog_17_method_9_code
def yJ5_ensureCapacityInternal_d00df : MethodName := ⟨RJ5, "ensureCapacityInternal", "(I)V"⟩
abbrev cJ5_newCapacity_0f7a4 : ByteArray := prog_17_method_10_code
def yJ5_newCapacity_0f7a4 : MethodName := ⟨RJ5, "newCapacity", "(I)I"⟩
abbrev cJ5_inflate_da8c8 : ByteArray := prog_17_method_11_code
def yJ5_inflate_da8c8 : MethodName := ⟨RJ5, "inflate", "()V"⟩
abbrev cJ5_charAt_5068e : ByteArray := prog_17_method_14_code
def yJ5_charAt_5068e : MethodName := ⟨RJ5, "charAt", "(I)C"⟩
abbrev cJ5_append_cf1ce : ByteArray := prog_17_method_22_code
def yJ5_append_cf1ce : MethodName := ⟨RJ5, "append", "(Ljava/lang/String;)Ljava/lang/AbstractStringBuilder;"⟩
abbrev cJ5_appendNull_278bc : ByteArray := prog_17_method_26_code
def yJ5_appendNull_278bc : MethodName := ⟨RJ5, "appendNull", "()Ljava/lang/AbstractStringBuilder;"⟩
abbrev cJ5_append_3fe6f : ByteArray := prog_17_method_31_code
def yJ5_append_3fe6f : MethodName := ⟨RJ5, "append", "(C)Ljava/lang/AbstractStringBuilder;"⟩
abbrev cJ5_append_c97b9 : ByteArray := prog_17_method_32_code
def yJ5_append_c97b9 : MethodName := ⟨RJ5, "append", "(I)Ljava/lang/AbstractStringBuilder;"⟩
abbrev cJ5_getValue_6d5f1 : ByteArray := prog_17_method_64_code
def yJ5_getValue_6d5f1 : MethodName := ⟨RJ5, "getValue", "()[B"⟩
abbrev cJ5_isLatin1_aae02 : ByteArray := prog_17_method_68_code
def yJ5_isLatin1_aae02 : MethodName := ⟨RJ5, "isLatin1", "()Z"⟩
abbrev cJ5_inflateIfNeededFor_a7421 : ByteArray := prog_17_method_71_code
def yJ5_inflateIfNeededFor_a7421 : MethodName := ⟨RJ5, "inflateIfNeededFor", "(Ljava/lang/String;)V"⟩
abbrev cJ5_putStringAt_47b60 : ByteArray := prog_17_method_73_code
def yJ5_putStringAt_47b60 : MethodName := ⟨RJ5, "putStringAt", "(ILjava/lang/String;)V"⟩
def RJx9f9b0 : String := "java/lang/CharSequence"
def TJx9f9b0 : u_T := fun k => match k with
  | _ => ("", "", "", false)
def tyJx9f9b0 : Nat → FieldType := fun k => match k with
  | _ => .int
theorem nmJx9f9b0 : ∀ a, a < 0 → ∀ b, b < 0 → a ≠ b → (TJx9f9b0 a).2.1 ≠ (TJx9f9b0 b).2.1 := by decide +kernel
theorem tyJx9f9b0_ok : ∀ k, k < 0 → parseFieldDescriptor (TJx9f9b0 k).2.2.1 = some (tyJx9f9b0 k) := by decide +kernel
def RJx8e188 : String := "java/lang/Cloneable"
def TJx8e188 : u_T := fun k => match k with
  | _ => ("", "", "", false)
def tyJx8e188 : Nat → FieldType := fun k => match k with
  | _ => .int
theorem nmJx8e188 : ∀ a, a < 0 → ∀ b, b < 0 → a ≠ b → (TJx8e188 a).2.1 ≠ (TJx8e188 b).2.1 := by decide +kernel
theorem tyJx8e188_ok : ∀ k, k < 0 → parseFieldDescriptor (TJx8e188 k).2.2.1 = some (tyJx8e188 k) := by decide +kernel
def RJxb160c : String := "java/lang/Comparable"
def TJxb160c : u_T := fun k => match k with
  | _ => ("", "", "", false)
def tyJxb160c : Nat → FieldType := fun k => match k with
  | _ => .int
theorem nmJxb160c : ∀ a, a < 0 → ∀ b, b < 0 → a ≠ b → (TJxb160c a).2.1 ≠ (TJxb160c b).2.1 := by decide +kernel
theorem tyJxb160c_ok : ∀ k, k < 0 → parseFieldDescriptor (TJxb160c k).2.2.1 = some (tyJxb160c k) := by decide +kernel
def RJx29ce0 : String := "java/lang/Enum"
def TJx29ce0 : u_T := fun k => match k with
  | _ => ("", "", "", false)
def tyJx29ce0 : Nat → FieldType := fun k => match k with
  | _ => .int
theorem nmJx29ce0 : ∀ a, a < 0 → ∀ b, b < 0 → a ≠ b → (TJx29ce0 a).2.1 ≠ (TJx29ce0 b).2.1 := by decide +kernel
theorem tyJx29ce0_ok : ∀ k, k < 0 → parseFieldDescriptor (TJx29ce0 k).2.2.1 = some (tyJx29ce0 k) := by decide +kernel
abbrev cJx29ce0_ordinal_8abf5 : ByteArray := prog_20_method_2_code
def yJx29ce0_ordinal_8abf5 : MethodName := ⟨RJx29ce0, "ordinal", "()I"⟩
def RJ6 : String := "java/lang/Integer"
def TJ6 : u_T := fun k => match k with
  | _ => ("", "", "", false)
def tyJ6 : Nat → FieldType := fun k => match k with
  | _ => .int
abbrev wsJ60 : List Cond := u_ws RJ6 TJ6 0
theorem nmJ6 : ∀ a, a < 0 → ∀ b, b < 0 → a ≠ b → (TJ6 a).2.1 ≠ (TJ6 b).2.1 := by decide +kernel
theorem tyJ6_ok : ∀ k, k < 0 → parseFieldDescriptor (TJ6 k).2.2.1 = some (tyJ6 k) := by decide +kernel
abbrev cJ6_getChars_ba4f3 : ByteArray := prog_25_method_12_code
def yJ6_getChars_ba4f3 : MethodName := ⟨RJ6, "getChars", "(II[B)I"⟩
abbrev cJ6_stringSize_0f7a4 : ByteArray := prog_25_method_13_code
def yJ6_stringSize_0f7a4 : MethodName := ⟨RJ6, "stringSize", "(I)I"⟩
abbrev cJ6_bitCount_0f7a4 : ByteArray := prog_25_method_49_code
def yJ6_bitCount_0f7a4 : MethodName := ⟨RJ6, "bitCount", "(I)I"⟩
def RJ9 : String := "java/lang/Math"
def TJ9 : u_T := fun k => match k with
  | _ => ("", "", "", false)
def tyJ9 : Nat → FieldType := fun k => match k with
  | _ => .int
abbrev wsJ90 : List Cond := u_ws RJ9 TJ9 0
theorem nmJ9 : ∀ a, a < 0 → ∀ b, b < 0 → a ≠ b → (TJ9 a).2.1 ≠ (TJ9 b).2.1 := by decide +kernel
theorem tyJ9_ok : ∀ k, k < 0 → parseFieldDescriptor (TJ9 k).2.2.1 = some (tyJ9 k) := by decide +kernel
abbrev cJ9_abs_0f7a4 : ByteArray := prog_26_method_59_code
def yJ9_abs_0f7a4 : MethodName := ⟨RJ9, "abs", "(I)I"⟩
abbrev cJ9_max_7cf53 : ByteArray := prog_26_method_65_code
def yJ9_max_7cf53 : MethodName := ⟨RJ9, "max", "(II)I"⟩
abbrev cJ9_min_7cf53 : ByteArray := prog_26_method_69_code
def yJ9_min_7cf53 : MethodName := ⟨RJ9, "min", "(II)I"⟩
def RJ0 : String := "java/lang/String"
def TJ0 : u_T := fun k => match k with
  | 0 => ("java/lang/String", "value", "[B", true)
  | 1 => ("java/lang/String", "coder", "B", true)
  | 2 => ("java/lang/String", "hash", "I", false)
  | _ => ("java/lang/String", "hashIsZero", "Z", false)
def tyJ0 : Nat → FieldType := fun k => match k with
  | 0 => .array .byte
  | 1 => .byte
  | 2 => .int
  | _ => .boolean
abbrev wsJ00 : List Cond := u_ws RJ0 TJ0 4
theorem nmJ0 : ∀ a, a < 4 → ∀ b, b < 4 → a ≠ b → (TJ0 a).2.1 ≠ (TJ0 b).2.1 := by decide +kernel
theorem tyJ0_ok : ∀ k, k < 4 → parseFieldDescriptor (TJ0 k).2.2.1 = some (tyJ0 k) := by decide +kernel
abbrev cJ0_init_81219 : ByteArray := prog_28_method_53_code
def yJ0_init_81219 : MethodName := ⟨RJ0, "<init>", "(Ljava/lang/StringBuilder;)V"⟩
abbrev cJ0_length_8abf5 : ByteArray := prog_28_method_54_code
def yJ0_length_8abf5 : MethodName := ⟨RJ0, "length", "()I"⟩
abbrev cJ0_charAt_5068e : ByteArray := prog_28_method_56_code
def yJ0_charAt_5068e : MethodName := ⟨RJ0, "charAt", "(I)C"⟩
abbrev cJ0_getBytes_840e7 : ByteArray := prog_28_method_147_code
def yJ0_getBytes_840e7 : MethodName := ⟨RJ0, "getBytes", "([BIB)V"⟩
abbrev cJ0_init_db425 : ByteArray := prog_28_method_150_code
def yJ0_init_db425 : MethodName := ⟨RJ0, "<init>", "(Ljava/lang/AbstractStringBuilder;Ljava/lang/Void;)V"⟩
abbrev cJ0_coder_7d493 : ByteArray := prog_28_method_152_code
def yJ0_coder_7d493 : MethodName := ⟨RJ0, "coder", "()B"⟩
abbrev cJ0_isLatin1_aae02 : ByteArray := prog_28_method_154_code
def yJ0_isLatin1_aae02 : MethodName := ⟨RJ0, "isLatin1", "()Z"⟩
abbrev cJ0_checkIndex_df160 : ByteArray := prog_28_method_155_code
def yJ0_checkIndex_df160 : MethodName := ⟨RJ0, "checkIndex", "(II)V"⟩
abbrev cJ0_checkBoundsOffCount_cabcc : ByteArray := prog_28_method_157_code
def yJ0_checkBoundsOffCount_cabcc : MethodName := ⟨RJ0, "checkBoundsOffCount", "(III)I"⟩
abbrev cJ0_checkBoundsBeginEnd_23922 : ByteArray := prog_28_method_158_code
def yJ0_checkBoundsBeginEnd_23922 : MethodName := ⟨RJ0, "checkBoundsBeginEnd", "(III)V"⟩
def RJ4 : String := "java/lang/StringBuilder"
def TJ4 : u_T := fun k => match k with
  | 0 => ("java/lang/AbstractStringBuilder", "value", "[B", false)
  | 1 => ("java/lang/AbstractStringBuilder", "coder", "B", false)
  | 2 => ("java/lang/AbstractStringBuilder", "maybeLatin1", "Z", false)
  | _ => ("java/lang/AbstractStringBuilder", "count", "I", false)
def tyJ4 : Nat → FieldType := fun k => match k with
  | 0 => .array .byte
  | 1 => .byte
  | 2 => .boolean
  | _ => .int
abbrev wsJ40 : List Cond := u_ws RJ4 TJ4 4
theorem nmJ4 : ∀ a, a < 4 → ∀ b, b < 4 → a ≠ b → (TJ4 a).2.1 ≠ (TJ4 b).2.1 := by decide +kernel
theorem tyJ4_ok : ∀ k, k < 4 → parseFieldDescriptor (TJ4 k).2.2.1 = some (tyJ4 k) := by decide +kernel
abbrev cJ4_init_da8c8 : ByteArray := prog_29_method_1_code
def yJ4_init_da8c8 : MethodName := ⟨RJ4, "<init>", "()V"⟩
abbrev cJ4_append_15ec4 : ByteArray := prog_29_method_7_code
def yJ4_append_15ec4 : MethodName := ⟨RJ4, "append", "(Ljava/lang/String;)Ljava/lang/StringBuilder;"⟩
abbrev cJ4_append_cf468 : ByteArray := prog_29_method_14_code
def yJ4_append_cf468 : MethodName := ⟨RJ4, "append", "(C)Ljava/lang/StringBuilder;"⟩
abbrev cJ4_append_bf812 : ByteArray := prog_29_method_15_code
def yJ4_append_bf812 : MethodName := ⟨RJ4, "append", "(I)Ljava/lang/StringBuilder;"⟩
abbrev cJ4_toString_0e30d : ByteArray := prog_29_method_42_code
def yJ4_toString_0e30d : MethodName := ⟨RJ4, "toString", "()Ljava/lang/String;"⟩
abbrev cJ4_charAt_5068e : ByteArray := prog_29_method_88_code
def yJ4_charAt_5068e : MethodName := ⟨RJ4, "charAt", "(I)C"⟩
abbrev cJ4_length_8abf5 : ByteArray := prog_29_method_93_code
def yJ4_length_8abf5 : MethodName := ⟨RJ4, "length", "()I"⟩
def RJ1 : String := "java/lang/StringLatin1"
def TJ1 : u_T := fun k => match k with
  | _ => ("", "", "", false)
def tyJ1 : Nat → FieldType := fun k => match k with
  | _ => .int
abbrev wsJ10 : List Cond := u_ws RJ1 TJ1 0
theorem nmJ1 : ∀ a, a < 0 → ∀ b, b < 0 → a ≠ b → (TJ1 a).2.1 ≠ (TJ1 b).2.1 := by decide +kernel
theorem tyJ1_ok : ∀ k, k < 0 → parseFieldDescriptor (TJ1 k).2.2.1 = some (tyJ1 k) := by decide +kernel
abbrev cJ1_charAt_3b067 : ByteArray := prog_30_method_2_code
def yJ1_charAt_3b067 : MethodName := ⟨RJ1, "charAt", "([BI)C"⟩
abbrev cJ1_canEncode_fc78d : ByteArray := prog_30_method_3_code
def yJ1_canEncode_fc78d : MethodName := ⟨RJ1, "canEncode", "(C)Z"⟩
abbrev cJ1_inflate_0e8fd : ByteArray := prog_30_method_50_code
def yJ1_inflate_0e8fd : MethodName := ⟨RJ1, "inflate", "([BI[BII)V"⟩
def RJ2 : String := "java/lang/StringUTF16"
def TJ2 : u_T := fun k => match k with
  | _ => ("", "", "", false)
def tyJ2 : Nat → FieldType := fun k => match k with
  | _ => .int
abbrev wsJ20 : List Cond := u_ws RJ2 TJ2 0
theorem nmJ2 : ∀ a, a < 0 → ∀ b, b < 0 → a ≠ b → (TJ2 a).2.1 ≠ (TJ2 b).2.1 := by decide +kernel
theorem tyJ2_ok : ∀ k, k < 0 → parseFieldDescriptor (TJ2 k).2.2.1 = some (tyJ2 k) := by decide +kernel
abbrev cJ2_newBytesFor_77867 : ByteArray := prog_31_method_2_code
def yJ2_newBytesFor_77867 : MethodName := ⟨RJ2, "newBytesFor", "(I)[B"⟩
abbrev cJ2_newBytesLength_0f7a4 : ByteArray := prog_31_method_3_code
def yJ2_newBytesLength_0f7a4 : MethodName := ⟨RJ2, "newBytesLength", "(I)I"⟩
abbrev cJ2_putChar_b72d1 : ByteArray := prog_31_method_4_code
def yJ2_putChar_b72d1 : MethodName := ⟨RJ2, "putChar", "([BII)V"⟩
abbrev cJ2_getChar_3b067 : ByteArray := prog_31_method_5_code
def yJ2_getChar_3b067 : MethodName := ⟨RJ2, "getChar", "([BI)C"⟩
abbrev cJ2_length_9d52b : ByteArray := prog_31_method_6_code
def yJ2_length_9d52b : MethodName := ⟨RJ2, "length", "([B)I"⟩
abbrev cJ2_coderFromArrayLen_85cad : ByteArray := prog_31_method_15_code
def yJ2_coderFromArrayLen_85cad : MethodName := ⟨RJ2, "coderFromArrayLen", "([BI)B"⟩
abbrev cJ2_compress_39247 : ByteArray := prog_31_method_17_code
def yJ2_compress_39247 : MethodName := ⟨RJ2, "compress", "([BII)[B"⟩
abbrev cJ2_compress_5af95 : ByteArray := prog_31_method_22_code
def yJ2_compress_5af95 : MethodName := ⟨RJ2, "compress", "([BI[BII)I"⟩
abbrev cJ2_putCharSB_b72d1 : ByteArray := prog_31_method_71_code
def yJ2_putCharSB_b72d1 : MethodName := ⟨RJ2, "putCharSB", "([BII)V"⟩
abbrev cJ2_getChars_46870 : ByteArray := prog_31_method_77_code
def yJ2_getChars_46870 : MethodName := ⟨RJ2, "getChars", "(III[B)I"⟩
abbrev cJ2_putCharsAt_cd4e5 : ByteArray := prog_31_method_81_code
def yJ2_putCharsAt_cd4e5 : MethodName := ⟨RJ2, "putCharsAt", "([BICCCC)I"⟩
abbrev cJ2_charAt_3b067 : ByteArray := prog_31_method_83_code
def yJ2_charAt_3b067 : MethodName := ⟨RJ2, "charAt", "([BI)C"⟩
abbrev cJ2_inflate_0e8fd : ByteArray := prog_31_method_86_code
def yJ2_inflate_0e8fd : MethodName := ⟨RJ2, "inflate", "([BI[BII)V"⟩
abbrev cJ2_getChars_ba4f3 : ByteArray := prog_31_method_89_code
def yJ2_getChars_ba4f3 : MethodName := ⟨RJ2, "getChars", "(II[B)I"⟩
abbrev cJ2_checkIndex_2214a : ByteArray := prog_31_method_91_code
def yJ2_checkIndex_2214a : MethodName := ⟨RJ2, "checkIndex", "(I[B)V"⟩
abbrev cJ2_checkBoundsBeginEnd_d044e : ByteArray := prog_31_method_93_code
def yJ2_checkBoundsBeginEnd_d044e : MethodName := ⟨RJ2, "checkBoundsBeginEnd", "(II[B)V"⟩
abbrev cJ2_checkBoundsOffCount_d044e : ByteArray := prog_31_method_94_code
def yJ2_checkBoundsOffCount_d044e : MethodName := ⟨RJ2, "checkBoundsOffCount", "(II[B)V"⟩
def RJ10 : String := "java/lang/System"
def TJ10 : u_T := fun k => match k with
  | _ => ("", "", "", false)
def tyJ10 : Nat → FieldType := fun k => match k with
  | _ => .int
abbrev wsJ100 : List Cond := u_ws RJ10 TJ10 0
theorem nmJ10 : ∀ a, a < 0 → ∀ b, b < 0 → a ≠ b → (TJ10 a).2.1 ≠ (TJ10 b).2.1 := by decide +kernel
theorem tyJ10_ok : ∀ k, k < 0 → parseFieldDescriptor (TJ10 k).2.2.1 = some (tyJ10 k) := by decide +kernel
def RJxfd54e : String := "java/lang/constant/Constable"
def TJxfd54e : u_T := fun k => match k with
  | _ => ("", "", "", false)
def tyJxfd54e : Nat → FieldType := fun k => match k with
  | _ => .int
theorem nmJxfd54e : ∀ a, a < 0 → ∀ b, b < 0 → a ≠ b → (TJxfd54e a).2.1 ≠ (TJxfd54e b).2.1 := by decide +kernel
theorem tyJxfd54e_ok : ∀ k, k < 0 → parseFieldDescriptor (TJxfd54e k).2.2.1 = some (tyJxfd54e k) := by decide +kernel
def RJx3cf43 : String := "java/lang/constant/ConstantDesc"
def TJx3cf43 : u_T := fun k => match k with
  | _ => ("", "", "", false)
def tyJx3cf43 : Nat → FieldType := fun k => match k with
  | _ => .int
theorem nmJx3cf43 : ∀ a, a < 0 → ∀ b, b < 0 → a ≠ b → (TJx3cf43 a).2.1 ≠ (TJx3cf43 b).2.1 := by decide +kernel
theorem tyJx3cf43_ok : ∀ k, k < 0 → parseFieldDescriptor (TJx3cf43 k).2.2.1 = some (tyJx3cf43 k) := by decide +kernel
def RJ7 : String := "java/util/Arrays"
def TJ7 : u_T := fun k => match k with
  | _ => ("", "", "", false)
def tyJ7 : Nat → FieldType := fun k => match k with
  | _ => .int
abbrev wsJ70 : List Cond := u_ws RJ7 TJ7 0
theorem nmJ7 : ∀ a, a < 0 → ∀ b, b < 0 → a ≠ b → (TJ7 a).2.1 ≠ (TJ7 b).2.1 := by decide +kernel
theorem tyJ7_ok : ∀ k, k < 0 → parseFieldDescriptor (TJ7 k).2.2.1 = some (tyJ7 k) := by decide +kernel
abbrev cJ7_copyOf_9075b : ByteArray := prog_34_method_121_code
def yJ7_copyOf_9075b : MethodName := ⟨RJ7, "copyOf", "([BI)[B"⟩
abbrev cJ7_checkLength_df160 : ByteArray := prog_34_method_131_code
def yJ7_checkLength_df160 : MethodName := ⟨RJ7, "checkLength", "(II)V"⟩
abbrev cJ7_copyOfRange_39247 : ByteArray := prog_34_method_132_code
def yJ7_copyOfRange_39247 : MethodName := ⟨RJ7, "copyOfRange", "([BII)[B"⟩
abbrev cJ7_copyOfRangeByte_39247 : ByteArray := prog_34_method_133_code
def yJ7_copyOfRangeByte_39247 : MethodName := ⟨RJ7, "copyOfRangeByte", "([BII)[B"⟩
def RJ8 : String := "jdk/internal/util/ArraysSupport"
def TJ8 : u_T := fun k => match k with
  | _ => ("", "", "", false)
def tyJ8 : Nat → FieldType := fun k => match k with
  | _ => .int
abbrev wsJ80 : List Cond := u_ws RJ8 TJ8 0
theorem nmJ8 : ∀ a, a < 0 → ∀ b, b < 0 → a ≠ b → (TJ8 a).2.1 ≠ (TJ8 b).2.1 := by decide +kernel
theorem tyJ8_ok : ∀ k, k < 0 → parseFieldDescriptor (TJ8 k).2.2.1 = some (tyJ8 k) := by decide +kernel
abbrev cJ8_newLength_cabcc : ByteArray := prog_35_method_27_code
def yJ8_newLength_cabcc : MethodName := ⟨RJ8, "newLength", "(III)I"⟩
abbrev cJ8_hugeLength_7cf53 : ByteArray := prog_35_method_28_code
def yJ8_hugeLength_7cf53 : MethodName := ⟨RJ8, "hugeLength", "(II)I"⟩
def RJ3 : String := "jdk/internal/util/Preconditions"
def TJ3 : u_T := fun k => match k with
  | _ => ("", "", "", false)
def tyJ3 : Nat → FieldType := fun k => match k with
  | _ => .int
abbrev wsJ30 : List Cond := u_ws RJ3 TJ3 0
theorem nmJ3 : ∀ a, a < 0 → ∀ b, b < 0 → a ≠ b → (TJ3 a).2.1 ≠ (TJ3 b).2.1 := by decide +kernel
theorem tyJ3_ok : ∀ k, k < 0 → parseFieldDescriptor (TJ3 k).2.2.1 = some (tyJ3 k) := by decide +kernel
abbrev cJ3_checkIndex_8e157 : ByteArray := prog_36_method_11_code
def yJ3_checkIndex_8e157 : MethodName := ⟨RJ3, "checkIndex", "(IILjava/util/function/BiFunction;)I"⟩
abbrev cJ3_checkFromToIndex_8c36e : ByteArray := prog_36_method_12_code
def yJ3_checkFromToIndex_8c36e : MethodName := ⟨RJ3, "checkFromToIndex", "(IIILjava/util/function/BiFunction;)I"⟩
abbrev cJ3_checkFromIndexSize_8c36e : ByteArray := prog_36_method_13_code
def yJ3_checkFromIndexSize_8c36e : MethodName := ⟨RJ3, "checkFromIndexSize", "(IIILjava/util/function/BiFunction;)I"⟩
def RL : String := "EchoMarketLaw"
abbrev cL_cell : ByteArray := method_2_code
def yL_cell : MethodName := ⟨RL, "cell", "([II)I"⟩
abbrev cL_pick : ByteArray := method_3_code
def yL_pick : MethodName := ⟨RL, "pick", "([III)I"⟩
abbrev cL_feeds : ByteArray := method_4_code
def yL_feeds : MethodName := ⟨RL, "feeds", "(LEchoMarket;Ljava/lang/CharSequence;)Z"⟩
abbrev cL_alike : ByteArray := method_5_code
def yL_alike : MethodName := ⟨RL, "alike", "(LEchoMarket;LEchoMarketLaw$World;)Z"⟩
abbrev cL_adds : ByteArray := method_6_code
def yL_adds : MethodName := ⟨RL, "adds", "(LEchoMarket;LEchoMarketLaw$World;I)Z"⟩
abbrev cL_openOne : ByteArray := method_7_code
def yL_openOne : MethodName := ⟨RL, "openOne", "(LEchoMarketLaw$World;I)I"⟩
abbrev cL_acts : ByteArray := method_8_code
def yL_acts : MethodName := ⟨RL, "acts", "(LEchoMarket;LEchoMarketLaw$World;[II)Z"⟩
abbrev cL_holds : ByteArray := method_9_code
def yL_holds : MethodName := ⟨RL, "holds", "(LEchoMarket;)Z"⟩
abbrev cL_law : ByteArray := code
def yL_law : MethodName := ⟨RL, "law", "([I)Z"⟩
