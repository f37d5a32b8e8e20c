-- PART 01: the tables' words, the names, and each word's place in wsL_law (by gen/mk12.py out of the printed names)
-- ===== PART A: goes FIRST, ahead of the names: the tables' words, and 'selects' of the private methods out of them =====
/-- a private method of a class that the tables say can be made, by its rows of tables_1 -/
def lw_okq (q : MethodName × Nat) : Prop := (q.1.cls ≠ "java/lang/invoke/MethodHandle" ∧ q.1.cls ≠ "java/lang/invoke/VarHandle") ∧ Cond.instantiable q.1.cls q.2 ∈ tables_1 ∧ Cond.privateMethod q.1 ∈ tables_1 ∧ Cond.instanceMethod q.1 ∈ tables_1
theorem lw_p0 : lw_okq (⟨"RingOffices$Scanner", "skipWhiteSpace", "()V"⟩, 5) := ⟨⟨by decide +kernel, by decide +kernel⟩, List.mem_of_getElem? (i := 229) (by decide +kernel), List.mem_of_getElem? (i := 349) (by decide +kernel), List.mem_of_getElem? (i := 350) (by decide +kernel)⟩
theorem lw_p1 : lw_okq (⟨"RingOffices$Scanner", "readNumeral", "()V"⟩, 5) := ⟨⟨by decide +kernel, by decide +kernel⟩, List.mem_of_getElem? (i := 229) (by decide +kernel), List.mem_of_getElem? (i := 363) (by decide +kernel), List.mem_of_getElem? (i := 364) (by decide +kernel)⟩
theorem lw_p2 : lw_okq (⟨"RingOffices$Scanner", "readWord", "()V"⟩, 5) := ⟨⟨by decide +kernel, by decide +kernel⟩, List.mem_of_getElem? (i := 229) (by decide +kernel), List.mem_of_getElem? (i := 370) (by decide +kernel), List.mem_of_getElem? (i := 371) (by decide +kernel)⟩
theorem lw_p3 : lw_okq (⟨"RingOffices$Scanner", "readOther", "(I)V"⟩, 5) := ⟨⟨by decide +kernel, by decide +kernel⟩, List.mem_of_getElem? (i := 229) (by decide +kernel), List.mem_of_getElem? (i := 436) (by decide +kernel), List.mem_of_getElem? (i := 437) (by decide +kernel)⟩
theorem lw_p4 : lw_okq (⟨"RingOffices$SetupParser", "parseRule", "(II)Z"⟩, 3) := ⟨⟨by decide +kernel, by decide +kernel⟩, List.mem_of_getElem? (i := 223) (by decide +kernel), List.mem_of_getElem? (i := 440) (by decide +kernel), List.mem_of_getElem? (i := 441) (by decide +kernel)⟩
theorem lw_p5 : lw_okq (⟨"RingOffices$SetupParser", "take", "(I)Z"⟩, 3) := ⟨⟨by decide +kernel, by decide +kernel⟩, List.mem_of_getElem? (i := 223) (by decide +kernel), List.mem_of_getElem? (i := 444) (by decide +kernel), List.mem_of_getElem? (i := 445) (by decide +kernel)⟩
theorem lw_p6 : lw_okq (⟨"RingOffices$SetupParser", "takeNumber", "(II)Z"⟩, 3) := ⟨⟨by decide +kernel, by decide +kernel⟩, List.mem_of_getElem? (i := 223) (by decide +kernel), List.mem_of_getElem? (i := 452) (by decide +kernel), List.mem_of_getElem? (i := 453) (by decide +kernel)⟩
theorem lw_p7 : lw_okq (⟨"RingOffices$SetupParser", "parseOffices", "()Z"⟩, 3) := ⟨⟨by decide +kernel, by decide +kernel⟩, List.mem_of_getElem? (i := 223) (by decide +kernel), List.mem_of_getElem? (i := 460) (by decide +kernel), List.mem_of_getElem? (i := 461) (by decide +kernel)⟩
theorem lw_p8 : lw_okq (⟨"RingOffices$SetupParser", "parseLetters", "()Z"⟩, 3) := ⟨⟨by decide +kernel, by decide +kernel⟩, List.mem_of_getElem? (i := 223) (by decide +kernel), List.mem_of_getElem? (i := 472) (by decide +kernel), List.mem_of_getElem? (i := 473) (by decide +kernel)⟩
theorem lw_p9 : lw_okq (⟨"RingOffices$SetupParser", "parseToken", "()Z"⟩, 3) := ⟨⟨by decide +kernel, by decide +kernel⟩, List.mem_of_getElem? (i := 223) (by decide +kernel), List.mem_of_getElem? (i := 484) (by decide +kernel), List.mem_of_getElem? (i := 485) (by decide +kernel)⟩
theorem lw_p10 : lw_okq (⟨"RingOffices$State", "comeNearer", "(I)V"⟩, 7) := ⟨⟨by decide +kernel, by decide +kernel⟩, List.mem_of_getElem? (i := 31) (by decide +kernel), List.mem_of_getElem? (i := 607) (by decide +kernel), List.mem_of_getElem? (i := 608) (by decide +kernel)⟩
theorem lw_p11 : lw_okq (⟨"RingOffices$State", "leave", "(II)V"⟩, 7) := ⟨⟨by decide +kernel, by decide +kernel⟩, List.mem_of_getElem? (i := 31) (by decide +kernel), List.mem_of_getElem? (i := 612) (by decide +kernel), List.mem_of_getElem? (i := 613) (by decide +kernel)⟩
theorem lw_p12 : lw_okq (⟨"RingOffices$State", "readOn", "(I)V"⟩, 7) := ⟨⟨by decide +kernel, by decide +kernel⟩, List.mem_of_getElem? (i := 31) (by decide +kernel), List.mem_of_getElem? (i := 624) (by decide +kernel), List.mem_of_getElem? (i := 625) (by decide +kernel)⟩
theorem lw_p13 : lw_okq (⟨"RingOffices$State", "endLetter", "(I)V"⟩, 7) := ⟨⟨by decide +kernel, by decide +kernel⟩, List.mem_of_getElem? (i := 31) (by decide +kernel), List.mem_of_getElem? (i := 629) (by decide +kernel), List.mem_of_getElem? (i := 630) (by decide +kernel)⟩
theorem lw_p14 : lw_okq (⟨"RingOffices$State", "beginOrSetOut", "(I)V"⟩, 7) := ⟨⟨by decide +kernel, by decide +kernel⟩, List.mem_of_getElem? (i := 31) (by decide +kernel), List.mem_of_getElem? (i := 650) (by decide +kernel), List.mem_of_getElem? (i := 651) (by decide +kernel)⟩
theorem lw_p15 : lw_okq (⟨"RingOffices$State", "stayWithoutToken", "()V"⟩, 7) := ⟨⟨by decide +kernel, by decide +kernel⟩, List.mem_of_getElem? (i := 31) (by decide +kernel), List.mem_of_getElem? (i := 683) (by decide +kernel), List.mem_of_getElem? (i := 684) (by decide +kernel)⟩
def lw_privs_1 : List (MethodName × Nat) := [(⟨"RingOffices$Scanner", "skipWhiteSpace", "()V"⟩, 5), (⟨"RingOffices$Scanner", "readNumeral", "()V"⟩, 5), (⟨"RingOffices$Scanner", "readWord", "()V"⟩, 5), (⟨"RingOffices$Scanner", "readOther", "(I)V"⟩, 5), (⟨"RingOffices$SetupParser", "parseRule", "(II)Z"⟩, 3), (⟨"RingOffices$SetupParser", "take", "(I)Z"⟩, 3), (⟨"RingOffices$SetupParser", "takeNumber", "(II)Z"⟩, 3), (⟨"RingOffices$SetupParser", "parseOffices", "()Z"⟩, 3), (⟨"RingOffices$SetupParser", "parseLetters", "()Z"⟩, 3), (⟨"RingOffices$SetupParser", "parseToken", "()Z"⟩, 3), (⟨"RingOffices$State", "comeNearer", "(I)V"⟩, 7), (⟨"RingOffices$State", "leave", "(II)V"⟩, 7), (⟨"RingOffices$State", "readOn", "(I)V"⟩, 7), (⟨"RingOffices$State", "endLetter", "(I)V"⟩, 7), (⟨"RingOffices$State", "beginOrSetOut", "(I)V"⟩, 7), (⟨"RingOffices$State", "stayWithoutToken", "()V"⟩, 7)]
theorem lw_r1 : ∀ q ∈ lw_privs_1, lw_okq q := List.forall_mem_cons.mpr ⟨lw_p0, List.forall_mem_cons.mpr ⟨lw_p1, List.forall_mem_cons.mpr ⟨lw_p2, List.forall_mem_cons.mpr ⟨lw_p3, List.forall_mem_cons.mpr ⟨lw_p4, List.forall_mem_cons.mpr ⟨lw_p5, List.forall_mem_cons.mpr ⟨lw_p6, List.forall_mem_cons.mpr ⟨lw_p7, List.forall_mem_cons.mpr ⟨lw_p8, List.forall_mem_cons.mpr ⟨lw_p9, List.forall_mem_cons.mpr ⟨lw_p10, List.forall_mem_cons.mpr ⟨lw_p11, List.forall_mem_cons.mpr ⟨lw_p12, List.forall_mem_cons.mpr ⟨lw_p13, List.forall_mem_cons.mpr ⟨lw_p14, List.forall_mem_cons.mpr ⟨lw_p15, fun _ h => absurd h List.not_mem_nil⟩⟩⟩⟩⟩⟩⟩⟩⟩⟩⟩⟩⟩⟩⟩⟩
theorem lw_p16 : lw_okq (⟨"RingOffices", "triedUntilDone", "(I)I"⟩, 8) := ⟨⟨by decide +kernel, by decide +kernel⟩, List.mem_of_getElem? (i := 23) (by decide +kernel), List.mem_of_getElem? (i := 692) (by decide +kernel), List.mem_of_getElem? (i := 693) (by decide +kernel)⟩
theorem lw_p17 : lw_okq (⟨"RingOffices", "writeSetup", "()V"⟩, 8) := ⟨⟨by decide +kernel, by decide +kernel⟩, List.mem_of_getElem? (i := 23) (by decide +kernel), List.mem_of_getElem? (i := 700) (by decide +kernel), List.mem_of_getElem? (i := 701) (by decide +kernel)⟩
theorem lw_p18 : lw_okq (⟨"RingOffices", "writeSetupOffice", "(I)V"⟩, 8) := ⟨⟨by decide +kernel, by decide +kernel⟩, List.mem_of_getElem? (i := 23) (by decide +kernel), List.mem_of_getElem? (i := 721) (by decide +kernel), List.mem_of_getElem? (i := 722) (by decide +kernel)⟩
theorem lw_p19 : lw_okq (⟨"RingOffices", "writeSetupLetters", "(I)V"⟩, 8) := ⟨⟨by decide +kernel, by decide +kernel⟩, List.mem_of_getElem? (i := 23) (by decide +kernel), List.mem_of_getElem? (i := 728) (by decide +kernel), List.mem_of_getElem? (i := 729) (by decide +kernel)⟩
theorem lw_p20 : lw_okq (⟨"RingOffices$History", "copyTo", "(LRingOffices$State;)V"⟩, 3) := ⟨⟨by decide +kernel, by decide +kernel⟩, List.mem_of_getElem? (i := 187) (by decide +kernel), List.mem_of_getElem? (i := 1065) (by decide +kernel), List.mem_of_getElem? (i := 1066) (by decide +kernel)⟩
theorem lw_p21 : lw_okq (⟨"RingOffices", "triedMinutes", "(II)I"⟩, 8) := ⟨⟨by decide +kernel, by decide +kernel⟩, List.mem_of_getElem? (i := 23) (by decide +kernel), List.mem_of_getElem? (i := 1090) (by decide +kernel), List.mem_of_getElem? (i := 1091) (by decide +kernel)⟩
def lw_privs_2 : List (MethodName × Nat) := [(⟨"RingOffices", "triedUntilDone", "(I)I"⟩, 8), (⟨"RingOffices", "writeSetup", "()V"⟩, 8), (⟨"RingOffices", "writeSetupOffice", "(I)V"⟩, 8), (⟨"RingOffices", "writeSetupLetters", "(I)V"⟩, 8), (⟨"RingOffices$History", "copyTo", "(LRingOffices$State;)V"⟩, 3), (⟨"RingOffices", "triedMinutes", "(II)I"⟩, 8)]
theorem lw_r2 : ∀ q ∈ lw_privs_2, lw_okq q := List.forall_mem_cons.mpr ⟨lw_p16, List.forall_mem_cons.mpr ⟨lw_p17, List.forall_mem_cons.mpr ⟨lw_p18, List.forall_mem_cons.mpr ⟨lw_p19, List.forall_mem_cons.mpr ⟨lw_p20, List.forall_mem_cons.mpr ⟨lw_p21, fun _ h => absurd h List.not_mem_nil⟩⟩⟩⟩⟩⟩
def lw_privs : List (MethodName × Nat) := lw_privs_1 ++ (lw_privs_2)
def lw_tbl : List Cond := k2_sels lw_privs ++ tables_1
theorem lw_privs_ok : ∀ q ∈ lw_privs, lw_okq q := by
  show ∀ q ∈ lw_privs_1 ++ (lw_privs_2), lw_okq q
  exact List.forall_mem_append.mpr ⟨lw_r1, lw_r2⟩
/-- the streams that the claim lets the run draw from -/
abbrev lw_cs : List Choice := [Jvm.Choice.named "NaN.bits"]
theorem lw_bits : nanBits ∈ lw_cs := by first | decide | exact List.mem_cons_self | simp [lw_cs, nanBits]

/-! ===== BEGIN words of one list among another's, by their places ===== -/
theorem goodIn_r {big : List Cond} (ws : List Cond) (ps : List Nat) (hp : ws = ps.filterMap (fun i => big[i]?)) (h : ws.all goodWord = true) : GoodIn big ws := by
  intro w hw
  have h1 := List.all_eq_true.mp h w hw
  rw [hp] at hw
  obtain ⟨i, -, hi⟩ := List.mem_filterMap.mp hw
  have hm : w ∈ big := by first | exact List.mem_of_getElem? hi | exact List.getElem?_mem hi
  exact ⟨hm, good_of_word h1⟩
theorem goodIn_app {big a b : List Cond} (ha : GoodIn big a) (hb : GoodIn big b) : GoodIn big (a ++ b) := fun w h => (List.mem_append.mp h).elim (ha w) (hb w)
theorem goodIn_ca {big a b : List Cond} {c : Cond} (ha : GoodIn big (c :: a)) (hb : GoodIn big b) : GoodIn big (c :: (a ++ b)) := fun w h => (List.mem_cons.mp h).elim (fun e => ha w (List.mem_cons.mpr (Or.inl e))) (fun h => (List.mem_append.mp h).elim (fun h => ha w (List.mem_cons.mpr (Or.inr h))) (hb w))
theorem goodIn_sub {big ws : List Cond} (hm : ∀ w ∈ ws, w ∈ big) (h : ws.all goodWord = true) : GoodIn big ws := fun w hw => ⟨hm w hw, good_of_word (List.all_eq_true.mp h w hw)⟩
/-! ===== END ===== -/

/-! ===== BEGIN printed: names, fields, word lists, decode rows ===== -/
def RX0 : String := "RingOffices$History"
def TX0 : u_T := fun k => match k with
  | 0 => ("RingOffices$History", "states", "[LRingOffices$State;", true)
  | 1 => ("RingOffices$History", "next", "I", false)
  | _ => ("RingOffices$History", "count", "I", false)
def tyX0 : Nat → FieldType := fun k => match k with
  | 0 => .array (.object "RingOffices$State")
  | 1 => .int
  | _ => .int
abbrev wsX00 : List Cond := u_ws RX0 TX0 3
theorem nmX0 : ∀ a, a < 3 → ∀ b, b < 3 → a ≠ b → (TX0 a).2.1 ≠ (TX0 b).2.1 := by decide +kernel
theorem tyX0_ok : ∀ k, k < 3 → parseFieldDescriptor (TX0 k).2.2.1 = some (tyX0 k) := by decide +kernel
abbrev cX0_init : ByteArray := prog_2_method_1_code
def yX0_init : MethodName := ⟨RX0, "<init>", "()V"⟩
abbrev cX0_forget : ByteArray := prog_2_method_2_code
def yX0_forget : MethodName := ⟨RX0, "forget", "()V"⟩
abbrev cX0_remember : ByteArray := prog_2_method_3_code
def yX0_remember : MethodName := ⟨RX0, "remember", "(LRingOffices$State;)V"⟩
abbrev cX0_copyTo : ByteArray := prog_2_method_4_code
def yX0_copyTo : MethodName := ⟨RX0, "copyTo", "(LRingOffices$State;)V"⟩
abbrev cX0_takeBack : ByteArray := prog_2_method_5_code
def yX0_takeBack : MethodName := ⟨RX0, "takeBack", "(LRingOffices$State;)V"⟩
def RX1 : String := "RingOffices$Log"
def TX1 : u_T := fun k => match k with
  | 0 => ("RingOffices$Log", "kind", "[I", true)
  | 1 => ("RingOffices$Log", "first", "[I", true)
  | 2 => ("RingOffices$Log", "second", "[I", true)
  | 3 => ("RingOffices$Log", "oldest", "I", false)
  | _ => ("RingOffices$Log", "count", "I", false)
def tyX1 : Nat → FieldType := fun k => match k with
  | 0 => .array .int
  | 1 => .array .int
  | 2 => .array .int
  | 3 => .int
  | _ => .int
abbrev wsX10 : List Cond := u_ws RX1 TX1 5
theorem nmX1 : ∀ a, a < 5 → ∀ b, b < 5 → a ≠ b → (TX1 a).2.1 ≠ (TX1 b).2.1 := by decide +kernel
theorem tyX1_ok : ∀ k, k < 5 → parseFieldDescriptor (TX1 k).2.2.1 = some (tyX1 k) := by decide +kernel
abbrev cX1_init : ByteArray := prog_3_method_1_code
def yX1_init : MethodName := ⟨RX1, "<init>", "()V"⟩
abbrev cX1_copyFrom : ByteArray := prog_3_method_2_code
def yX1_copyFrom : MethodName := ⟨RX1, "copyFrom", "(LRingOffices$Log;)V"⟩
abbrev cX1_add : ByteArray := prog_3_method_3_code
def yX1_add : MethodName := ⟨RX1, "add", "(III)V"⟩
def RX2 : String := "RingOffices$Offices"
def TX2 : u_T := fun k => match k with
  | 0 => ("RingOffices$Offices", "way", "[I", true)
  | 1 => ("RingOffices$Offices", "name", "[I", true)
  | 2 => ("RingOffices$Offices", "open", "[I", true)
  | 3 => ("RingOffices$Offices", "spokenToday", "[I", true)
  | 4 => ("RingOffices$Offices", "readTo", "[I", true)
  | 5 => ("RingOffices$Offices", "waiting", "[I", true)
  | 6 => ("RingOffices$Offices", "letterTo", "[I", true)
  | 7 => ("RingOffices$Offices", "letterLength", "[I", true)
  | _ => ("RingOffices$Offices", "count", "I", false)
def tyX2 : Nat → FieldType := fun k => match k with
  | 0 => .array .int
  | 1 => .array .int
  | 2 => .array .int
  | 3 => .array .int
  | 4 => .array .int
  | 5 => .array .int
  | 6 => .array .int
  | 7 => .array .int
  | _ => .int
abbrev wsX20 : List Cond := u_ws RX2 TX2 9
theorem nmX2 : ∀ a, a < 9 → ∀ b, b < 9 → a ≠ b → (TX2 a).2.1 ≠ (TX2 b).2.1 := by decide +kernel
theorem tyX2_ok : ∀ k, k < 9 → parseFieldDescriptor (TX2 k).2.2.1 = some (tyX2 k) := by decide +kernel
abbrev cX2_init : ByteArray := prog_4_method_1_code
def yX2_init : MethodName := ⟨RX2, "<init>", "()V"⟩
abbrev cX2_copyFrom : ByteArray := prog_4_method_2_code
def yX2_copyFrom : MethodName := ⟨RX2, "copyFrom", "(LRingOffices$Offices;)V"⟩
abbrev cX2_add : ByteArray := prog_4_method_3_code
def yX2_add : MethodName := ⟨RX2, "add", "(III)V"⟩
abbrev cX2_has : ByteArray := prog_4_method_4_code
def yX2_has : MethodName := ⟨RX2, "has", "(I)Z"⟩
abbrev cX2_isOpen : ByteArray := prog_4_method_5_code
def yX2_isOpen : MethodName := ⟨RX2, "isOpen", "(I)Z"⟩
abbrev cX2_behind : ByteArray := prog_4_method_6_code
def yX2_behind : MethodName := ⟨RX2, "behind", "(I)I"⟩
abbrev cX2_isNameTaken : ByteArray := prog_4_method_7_code
def yX2_isNameTaken : MethodName := ⟨RX2, "isNameTaken", "(I)Z"⟩
abbrev cX2_openWithGreatestName : ByteArray := prog_4_method_8_code
def yX2_openWithGreatestName : MethodName := ⟨RX2, "openWithGreatestName", "()I"⟩
abbrev cX2_howManyOpen : ByteArray := prog_4_method_9_code
def yX2_howManyOpen : MethodName := ⟨RX2, "howManyOpen", "()I"⟩
abbrev cX2_beginDay : ByteArray := prog_4_method_10_code
def yX2_beginDay : MethodName := ⟨RX2, "beginDay", "()V"⟩
abbrev cX2_toOf : ByteArray := prog_4_method_11_code
def yX2_toOf : MethodName := ⟨RX2, "toOf", "(II)I"⟩
abbrev cX2_lengthOf : ByteArray := prog_4_method_12_code
def yX2_lengthOf : MethodName := ⟨RX2, "lengthOf", "(II)I"⟩
abbrev cX2_addLetter : ByteArray := prog_4_method_13_code
def yX2_addLetter : MethodName := ⟨RX2, "addLetter", "(III)V"⟩
abbrev cX2_removeLetter : ByteArray := prog_4_method_14_code
def yX2_removeLetter : MethodName := ⟨RX2, "removeLetter", "(II)V"⟩
abbrev cX2_lengthInQueue : ByteArray := prog_4_method_15_code
def yX2_lengthInQueue : MethodName := ⟨RX2, "lengthInQueue", "(I)I"⟩
abbrev cX2_lengthInAll : ByteArray := prog_4_method_16_code
def yX2_lengthInAll : MethodName := ⟨RX2, "lengthInAll", "()I"⟩
abbrev cX2_lettersInAll : ByteArray := prog_4_method_17_code
def yX2_lettersInAll : MethodName := ⟨RX2, "lettersInAll", "()I"⟩
abbrev cX2_lettersTo : ByteArray := prog_4_method_18_code
def yX2_lettersTo : MethodName := ⟨RX2, "lettersTo", "(I)I"⟩
def RX3 : String := "RingOffices$Scanner"
def TX3 : u_T := fun k => match k with
  | 0 => ("RingOffices$Scanner", "text", "LRingOffices$Text;", true)
  | 1 => ("RingOffices$Scanner", "start", "I", false)
  | 2 => ("RingOffices$Scanner", "end", "I", false)
  | 3 => ("RingOffices$Scanner", "kind", "I", false)
  | _ => ("RingOffices$Scanner", "number", "I", false)
def tyX3 : Nat → FieldType := fun k => match k with
  | 0 => .object "RingOffices$Text"
  | 1 => .int
  | 2 => .int
  | 3 => .int
  | _ => .int
abbrev wsX30 : List Cond := u_ws RX3 TX3 5
theorem nmX3 : ∀ a, a < 5 → ∀ b, b < 5 → a ≠ b → (TX3 a).2.1 ≠ (TX3 b).2.1 := by decide +kernel
theorem tyX3_ok : ∀ k, k < 5 → parseFieldDescriptor (TX3 k).2.2.1 = some (tyX3 k) := by decide +kernel
abbrev cX3_init : ByteArray := prog_5_method_1_code
def yX3_init : MethodName := ⟨RX3, "<init>", "()V"⟩
abbrev cX3_begin : ByteArray := prog_5_method_2_code
def yX3_begin : MethodName := ⟨RX3, "begin", "()V"⟩
abbrev cX3_advance : ByteArray := prog_5_method_3_code
def yX3_advance : MethodName := ⟨RX3, "advance", "()V"⟩
abbrev cX3_skipWhiteSpace : ByteArray := prog_5_method_4_code
def yX3_skipWhiteSpace : MethodName := ⟨RX3, "skipWhiteSpace", "()V"⟩
abbrev cX3_readNumeral : ByteArray := prog_5_method_5_code
def yX3_readNumeral : MethodName := ⟨RX3, "readNumeral", "()V"⟩
abbrev cX3_readWord : ByteArray := prog_5_method_6_code
def yX3_readWord : MethodName := ⟨RX3, "readWord", "()V"⟩
abbrev cX3_readOther : ByteArray := prog_5_method_7_code
def yX3_readOther : MethodName := ⟨RX3, "readOther", "(I)V"⟩
abbrev cX3_isWhiteSpace : ByteArray := prog_5_method_8_code
def yX3_isWhiteSpace : MethodName := ⟨RX3, "isWhiteSpace", "(I)Z"⟩
abbrev cX3_isDigit : ByteArray := prog_5_method_9_code
def yX3_isDigit : MethodName := ⟨RX3, "isDigit", "(I)Z"⟩
abbrev cX3_isSmallLetter : ByteArray := prog_5_method_10_code
def yX3_isSmallLetter : MethodName := ⟨RX3, "isSmallLetter", "(I)Z"⟩
abbrev cX3_keyword : ByteArray := prog_5_method_11_code
def yX3_keyword : MethodName := ⟨RX3, "keyword", "(I)Ljava/lang/String;"⟩
def RX4 : String := "RingOffices$SetupParser"
def TX4 : u_T := fun k => match k with
  | 0 => ("RingOffices$SetupParser", "scanner", "LRingOffices$Scanner;", true)
  | 1 => ("RingOffices$SetupParser", "draft", "LRingOffices$State;", true)
  | _ => ("RingOffices$SetupParser", "taken", "I", false)
def tyX4 : Nat → FieldType := fun k => match k with
  | 0 => .object "RingOffices$Scanner"
  | 1 => .object "RingOffices$State"
  | _ => .int
abbrev wsX40 : List Cond := u_ws RX4 TX4 3
theorem nmX4 : ∀ a, a < 3 → ∀ b, b < 3 → a ≠ b → (TX4 a).2.1 ≠ (TX4 b).2.1 := by decide +kernel
theorem tyX4_ok : ∀ k, k < 3 → parseFieldDescriptor (TX4 k).2.2.1 = some (tyX4 k) := by decide +kernel
abbrev cX4_init : ByteArray := prog_6_method_1_code
def yX4_init : MethodName := ⟨RX4, "<init>", "()V"⟩
abbrev cX4_parse : ByteArray := prog_6_method_2_code
def yX4_parse : MethodName := ⟨RX4, "parse", "()I"⟩
abbrev cX4_parseRule : ByteArray := prog_6_method_3_code
def yX4_parseRule : MethodName := ⟨RX4, "parseRule", "(II)Z"⟩
abbrev cX4_parseOffices : ByteArray := prog_6_method_4_code
def yX4_parseOffices : MethodName := ⟨RX4, "parseOffices", "()Z"⟩
abbrev cX4_parseLetters : ByteArray := prog_6_method_5_code
def yX4_parseLetters : MethodName := ⟨RX4, "parseLetters", "()Z"⟩
abbrev cX4_parseToken : ByteArray := prog_6_method_6_code
def yX4_parseToken : MethodName := ⟨RX4, "parseToken", "()Z"⟩
abbrev cX4_take : ByteArray := prog_6_method_7_code
def yX4_take : MethodName := ⟨RX4, "take", "(I)Z"⟩
abbrev cX4_takeNumber : ByteArray := prog_6_method_8_code
def yX4_takeNumber : MethodName := ⟨RX4, "takeNumber", "(II)Z"⟩
def RX5 : String := "RingOffices$Slots"
def TX5 : u_T := fun k => match k with
  | 0 => ("RingOffices$Slots", "states", "[LRingOffices$State;", true)
  | _ => ("RingOffices$Slots", "isFull", "[Z", true)
def tyX5 : Nat → FieldType := fun k => match k with
  | 0 => .array (.object "RingOffices$State")
  | _ => .array .boolean
abbrev wsX50 : List Cond := u_ws RX5 TX5 2
theorem nmX5 : ∀ a, a < 2 → ∀ b, b < 2 → a ≠ b → (TX5 a).2.1 ≠ (TX5 b).2.1 := by decide +kernel
theorem tyX5_ok : ∀ k, k < 2 → parseFieldDescriptor (TX5 k).2.2.1 = some (tyX5 k) := by decide +kernel
abbrev cX5_init : ByteArray := prog_7_method_1_code
def yX5_init : MethodName := ⟨RX5, "<init>", "()V"⟩
abbrev cX5_forget : ByteArray := prog_7_method_2_code
def yX5_forget : MethodName := ⟨RX5, "forget", "()V"⟩
abbrev cX5_fill : ByteArray := prog_7_method_3_code
def yX5_fill : MethodName := ⟨RX5, "fill", "(ILRingOffices$State;)V"⟩
abbrev cX5_keptIn : ByteArray := prog_7_method_4_code
def yX5_keptIn : MethodName := ⟨RX5, "keptIn", "(I)LRingOffices$State;"⟩
def RX6 : String := "RingOffices$State"
def TX6 : u_T := fun k => match k with
  | 0 => ("RingOffices$State", "rules", "[I", true)
  | 1 => ("RingOffices$State", "counts", "[I", true)
  | 2 => ("RingOffices$State", "offices", "LRingOffices$Offices;", true)
  | 3 => ("RingOffices$State", "tokens", "LRingOffices$Tokens;", true)
  | 4 => ("RingOffices$State", "log", "LRingOffices$Log;", true)
  | 5 => ("RingOffices$State", "time", "I", false)
  | _ => ("RingOffices$State", "silence", "I", false)
def tyX6 : Nat → FieldType := fun k => match k with
  | 0 => .array .int
  | 1 => .array .int
  | 2 => .object "RingOffices$Offices"
  | 3 => .object "RingOffices$Tokens"
  | 4 => .object "RingOffices$Log"
  | 5 => .int
  | _ => .int
abbrev wsX60 : List Cond := u_ws RX6 TX6 7
theorem nmX6 : ∀ a, a < 7 → ∀ b, b < 7 → a ≠ b → (TX6 a).2.1 ≠ (TX6 b).2.1 := by decide +kernel
theorem tyX6_ok : ∀ k, k < 7 → parseFieldDescriptor (TX6 k).2.2.1 = some (tyX6 k) := by decide +kernel
abbrev cX6_init : ByteArray := prog_8_method_1_code
def yX6_init : MethodName := ⟨RX6, "<init>", "()V"⟩
abbrev cX6_copyFrom : ByteArray := prog_8_method_2_code
def yX6_copyFrom : MethodName := ⟨RX6, "copyFrom", "(LRingOffices$State;)V"⟩
abbrev cX6_beginAsNew : ByteArray := prog_8_method_3_code
def yX6_beginAsNew : MethodName := ⟨RX6, "beginAsNew", "()V"⟩
abbrev cX6_clear : ByteArray := prog_8_method_4_code
def yX6_clear : MethodName := ⟨RX6, "clear", "()V"⟩
abbrev cX6_shutOrOpen : ByteArray := prog_8_method_5_code
def yX6_shutOrOpen : MethodName := ⟨RX6, "shutOrOpen", "(II)V"⟩
abbrev cX6_loseToken : ByteArray := prog_8_method_6_code
def yX6_loseToken : MethodName := ⟨RX6, "loseToken", "(I)V"⟩
abbrev cX6_tearUpWhereTwoMeet : ByteArray := prog_8_method_7_code
def yX6_tearUpWhereTwoMeet : MethodName := ⟨RX6, "tearUpWhereTwoMeet", "()V"⟩
abbrev cX6_passMinute : ByteArray := prog_8_method_8_code
def yX6_passMinute : MethodName := ⟨RX6, "passMinute", "()V"⟩
abbrev cX6_comeNearer : ByteArray := prog_8_method_9_code
def yX6_comeNearer : MethodName := ⟨RX6, "comeNearer", "(I)V"⟩
abbrev cX6_leave : ByteArray := prog_8_method_10_code
def yX6_leave : MethodName := ⟨RX6, "leave", "(II)V"⟩
abbrev cX6_readOn : ByteArray := prog_8_method_11_code
def yX6_readOn : MethodName := ⟨RX6, "readOn", "(I)V"⟩
abbrev cX6_endLetter : ByteArray := prog_8_method_12_code
def yX6_endLetter : MethodName := ⟨RX6, "endLetter", "(I)V"⟩
abbrev cX6_beginOrSetOut : ByteArray := prog_8_method_13_code
def yX6_beginOrSetOut : MethodName := ⟨RX6, "beginOrSetOut", "(I)V"⟩
abbrev cX6_fitsInTurn : ByteArray := prog_8_method_14_code
def yX6_fitsInTurn : MethodName := ⟨RX6, "fitsInTurn", "(II)Z"⟩
abbrev cX6_fitsInDay : ByteArray := prog_8_method_15_code
def yX6_fitsInDay : MethodName := ⟨RX6, "fitsInDay", "(I)Z"⟩
abbrev cX6_stayWithoutToken : ByteArray := prog_8_method_16_code
def yX6_stayWithoutToken : MethodName := ⟨RX6, "stayWithoutToken", "()V"⟩
def RX7 : String := "RingOffices$Text"
def TX7 : u_T := fun k => match k with
  | 0 => ("RingOffices$Text", "bytes", "[B", true)
  | _ => ("RingOffices$Text", "length", "I", false)
def tyX7 : Nat → FieldType := fun k => match k with
  | 0 => .array .byte
  | _ => .int
abbrev wsX70 : List Cond := u_ws RX7 TX7 2
theorem nmX7 : ∀ a, a < 2 → ∀ b, b < 2 → a ≠ b → (TX7 a).2.1 ≠ (TX7 b).2.1 := by decide +kernel
theorem tyX7_ok : ∀ k, k < 2 → parseFieldDescriptor (TX7 k).2.2.1 = some (tyX7 k) := by decide +kernel
abbrev cX7_init : ByteArray := prog_9_method_1_code
def yX7_init : MethodName := ⟨RX7, "<init>", "(I)V"⟩
abbrev cX7_byteAt : ByteArray := prog_9_method_2_code
def yX7_byteAt : MethodName := ⟨RX7, "byteAt", "(I)I"⟩
abbrev cX7_isWord : ByteArray := prog_9_method_3_code
def yX7_isWord : MethodName := ⟨RX7, "isWord", "(Ljava/lang/String;II)Z"⟩
abbrev cX7_add : ByteArray := prog_9_method_4_code
def yX7_add : MethodName := ⟨RX7, "add", "(I)V"⟩
abbrev cX7_addFourBytes : ByteArray := prog_9_method_5_code
def yX7_addFourBytes : MethodName := ⟨RX7, "addFourBytes", "(I)V"⟩
abbrev cX7_addWord : ByteArray := prog_9_method_6_code
def yX7_addWord : MethodName := ⟨RX7, "addWord", "(Ljava/lang/String;)V"⟩
abbrev cX7_addNumber : ByteArray := prog_9_method_7_code
def yX7_addNumber : MethodName := ⟨RX7, "addNumber", "(I)V"⟩
def RX8 : String := "RingOffices$Tokens"
def TX8 : u_T := fun k => match k with
  | 0 => ("RingOffices$Tokens", "number", "[I", true)
  | 1 => ("RingOffices$Tokens", "place", "[I", true)
  | 2 => ("RingOffices$Tokens", "togo", "[I", true)
  | 3 => ("RingOffices$Tokens", "turn", "[I", true)
  | 4 => ("RingOffices$Tokens", "left", "[I", true)
  | 5 => ("RingOffices$Tokens", "count", "I", false)
  | _ => ("RingOffices$Tokens", "lastNumber", "I", false)
def tyX8 : Nat → FieldType := fun k => match k with
  | 0 => .array .int
  | 1 => .array .int
  | 2 => .array .int
  | 3 => .array .int
  | 4 => .array .int
  | 5 => .int
  | _ => .int
abbrev wsX80 : List Cond := u_ws RX8 TX8 7
theorem nmX8 : ∀ a, a < 7 → ∀ b, b < 7 → a ≠ b → (TX8 a).2.1 ≠ (TX8 b).2.1 := by decide +kernel
theorem tyX8_ok : ∀ k, k < 7 → parseFieldDescriptor (TX8 k).2.2.1 = some (tyX8 k) := by decide +kernel
abbrev cX8_init : ByteArray := prog_10_method_1_code
def yX8_init : MethodName := ⟨RX8, "<init>", "()V"⟩
abbrev cX8_copyFrom : ByteArray := prog_10_method_2_code
def yX8_copyFrom : MethodName := ⟨RX8, "copyFrom", "(LRingOffices$Tokens;)V"⟩
abbrev cX8_has : ByteArray := prog_10_method_3_code
def yX8_has : MethodName := ⟨RX8, "has", "(I)Z"⟩
abbrev cX8_add : ByteArray := prog_10_method_4_code
def yX8_add : MethodName := ⟨RX8, "add", "(I)V"⟩
abbrev cX8_remove : ByteArray := prog_10_method_5_code
def yX8_remove : MethodName := ⟨RX8, "remove", "(I)V"⟩
abbrev cX8_setOut : ByteArray := prog_10_method_6_code
def yX8_setOut : MethodName := ⟨RX8, "setOut", "(III)V"⟩
abbrev cX8_isAt : ByteArray := prog_10_method_7_code
def yX8_isAt : MethodName := ⟨RX8, "isAt", "(II)Z"⟩
abbrev cX8_standingAt : ByteArray := prog_10_method_8_code
def yX8_standingAt : MethodName := ⟨RX8, "standingAt", "(I)I"⟩
abbrev cX8_firstStanding : ByteArray := prog_10_method_9_code
def yX8_firstStanding : MethodName := ⟨RX8, "firstStanding", "()I"⟩
abbrev cX8_leftAt : ByteArray := prog_10_method_10_code
def yX8_leftAt : MethodName := ⟨RX8, "leftAt", "(I)I"⟩
abbrev cX8_isFollowedThere : ByteArray := prog_10_method_11_code
def yX8_isFollowedThere : MethodName := ⟨RX8, "isFollowedThere", "(I)Z"⟩
abbrev cX8_howManySpeak : ByteArray := prog_10_method_12_code
def yX8_howManySpeak : MethodName := ⟨RX8, "howManySpeak", "()I"⟩
def RX9 : String := "RingOffices"
def TX9 : u_T := fun k => match k with
  | 0 => ("RingOffices", "now", "LRingOffices$State;", true)
  | 1 => ("RingOffices", "history", "LRingOffices$History;", true)
  | 2 => ("RingOffices", "slots", "LRingOffices$Slots;", true)
  | 3 => ("RingOffices", "parser", "LRingOffices$SetupParser;", true)
  | 4 => ("RingOffices", "tape", "LRingOffices$Text;", true)
  | 5 => ("RingOffices", "scratch", "LRingOffices$State;", true)
  | 6 => ("RingOffices", "page", "LRingOffices$Text;", true)
  | _ => ("RingOffices", "errorAt", "I", false)
def tyX9 : Nat → FieldType := fun k => match k with
  | 0 => .object "RingOffices$State"
  | 1 => .object "RingOffices$History"
  | 2 => .object "RingOffices$Slots"
  | 3 => .object "RingOffices$SetupParser"
  | 4 => .object "RingOffices$Text"
  | 5 => .object "RingOffices$State"
  | 6 => .object "RingOffices$Text"
  | _ => .int
abbrev wsX90 : List Cond := u_ws RX9 TX9 8
theorem nmX9 : ∀ a, a < 8 → ∀ b, b < 8 → a ≠ b → (TX9 a).2.1 ≠ (TX9 b).2.1 := by decide +kernel
theorem tyX9_ok : ∀ k, k < 8 → parseFieldDescriptor (TX9 k).2.2.1 = some (tyX9 k) := by decide +kernel
abbrev cX9_init : ByteArray := prog_1_method_1_code
def yX9_init : MethodName := ⟨RX9, "<init>", "()V"⟩
abbrev cX9_append : ByteArray := prog_1_method_2_code
def yX9_append : MethodName := ⟨RX9, "append", "(IIIII)I"⟩
abbrev cX9_truncate : ByteArray := prog_1_method_3_code
def yX9_truncate : MethodName := ⟨RX9, "truncate", "(I)I"⟩
abbrev cX9_load : ByteArray := prog_1_method_4_code
def yX9_load : MethodName := ⟨RX9, "load", "()I"⟩
abbrev cX9_errorPosition : ByteArray := prog_1_method_5_code
def yX9_errorPosition : MethodName := ⟨RX9, "errorPosition", "()I"⟩
abbrev cX9_letter : ByteArray := prog_1_method_6_code
def yX9_letter : MethodName := ⟨RX9, "letter", "(III)I"⟩
abbrev cX9_cancel : ByteArray := prog_1_method_7_code
def yX9_cancel : MethodName := ⟨RX9, "cancel", "(II)I"⟩
abbrev cX9_shut : ByteArray := prog_1_method_8_code
def yX9_shut : MethodName := ⟨RX9, "shut", "(II)I"⟩
abbrev cX9_lose : ByteArray := prog_1_method_9_code
def yX9_lose : MethodName := ⟨RX9, "lose", "(I)I"⟩
abbrev cX9_stray : ByteArray := prog_1_method_10_code
def yX9_stray : MethodName := ⟨RX9, "stray", "(I)I"⟩
abbrev cX9_minute : ByteArray := prog_1_method_11_code
def yX9_minute : MethodName := ⟨RX9, "minute", "(I)I"⟩
abbrev cX9_set : ByteArray := prog_1_method_12_code
def yX9_set : MethodName := ⟨RX9, "set", "(III)I"⟩
abbrev cX9_rule : ByteArray := prog_1_method_13_code
def yX9_rule : MethodName := ⟨RX9, "rule", "(II)I"⟩
abbrev cX9_keep : ByteArray := prog_1_method_14_code
def yX9_keep : MethodName := ⟨RX9, "keep", "(I)I"⟩
abbrev cX9_restore : ByteArray := prog_1_method_15_code
def yX9_restore : MethodName := ⟨RX9, "restore", "(I)I"⟩
abbrev cX9_undo : ByteArray := prog_1_method_16_code
def yX9_undo : MethodName := ⟨RX9, "undo", "()I"⟩
abbrev cX9_value : ByteArray := prog_1_method_17_code
def yX9_value : MethodName := ⟨RX9, "value", "(I)I"⟩
abbrev cX9_office : ByteArray := prog_1_method_18_code
def yX9_office : MethodName := ⟨RX9, "office", "(II)I"⟩
abbrev cX9_queue : ByteArray := prog_1_method_19_code
def yX9_queue : MethodName := ⟨RX9, "queue", "(III)I"⟩
abbrev cX9_token : ByteArray := prog_1_method_20_code
def yX9_token : MethodName := ⟨RX9, "token", "(II)I"⟩
abbrev cX9_winner : ByteArray := prog_1_method_21_code
def yX9_winner : MethodName := ⟨RX9, "winner", "()I"⟩
abbrev cX9_round : ByteArray := prog_1_method_22_code
def yX9_round : MethodName := ⟨RX9, "round", "()I"⟩
abbrev cX9_busiest : ByteArray := prog_1_method_23_code
def yX9_busiest : MethodName := ⟨RX9, "busiest", "()I"⟩
abbrev cX9_why : ByteArray := prog_1_method_24_code
def yX9_why : MethodName := ⟨RX9, "why", "(I)I"⟩
abbrev cX9_comesIn : ByteArray := prog_1_method_25_code
def yX9_comesIn : MethodName := ⟨RX9, "comesIn", "(I)I"⟩
abbrev cX9_doneIn : ByteArray := prog_1_method_26_code
def yX9_doneIn : MethodName := ⟨RX9, "doneIn", "()I"⟩
abbrev cX9_ifPassed : ByteArray := prog_1_method_27_code
def yX9_ifPassed : MethodName := ⟨RX9, "ifPassed", "(II)I"⟩
abbrev cX9_ifRule : ByteArray := prog_1_method_28_code
def yX9_ifRule : MethodName := ⟨RX9, "ifRule", "(IIII)I"⟩
abbrev cX9_ifShut : ByteArray := prog_1_method_29_code
def yX9_ifShut : MethodName := ⟨RX9, "ifShut", "(III)I"⟩
abbrev cX9_bestSpeak : ByteArray := prog_1_method_30_code
def yX9_bestSpeak : MethodName := ⟨RX9, "bestSpeak", "(I)I"⟩
abbrev cX9_leastQuota : ByteArray := prog_1_method_31_code
def yX9_leastQuota : MethodName := ⟨RX9, "leastQuota", "()I"⟩
abbrev cX9_spoken : ByteArray := prog_1_method_33_code
def yX9_spoken : MethodName := ⟨RX9, "spoken", "()F"⟩
abbrev cX9_meanLength : ByteArray := prog_1_method_34_code
def yX9_meanLength : MethodName := ⟨RX9, "meanLength", "()D"⟩
abbrev cX9_setupLength : ByteArray := prog_1_method_37_code
def yX9_setupLength : MethodName := ⟨RX9, "setupLength", "()I"⟩
abbrev cX9_setupByte : ByteArray := prog_1_method_38_code
def yX9_setupByte : MethodName := ⟨RX9, "setupByte", "(I)I"⟩
abbrev cX9_at : ByteArray := prog_1_method_39_code
def yX9_at : MethodName := ⟨RX9, "at", "([II)I"⟩
abbrev cX9_put : ByteArray := prog_1_method_40_code
def yX9_put : MethodName := ⟨RX9, "put", "([III)V"⟩
abbrev cX9_raise : ByteArray := prog_1_method_41_code
def yX9_raise : MethodName := ⟨RX9, "raise", "([II)V"⟩
abbrev cX9_copyRow : ByteArray := prog_1_method_42_code
def yX9_copyRow : MethodName := ⟨RX9, "copyRow", "([I[I)V"⟩
abbrev cX9_takeOut : ByteArray := prog_1_method_43_code
def yX9_takeOut : MethodName := ⟨RX9, "takeOut", "([III)V"⟩
abbrev cX9_isWithin : ByteArray := prog_1_method_44_code
def yX9_isWithin : MethodName := ⟨RX9, "isWithin", "(III)Z"⟩
abbrev cX9_mostOfRule : ByteArray := prog_1_method_45_code
def yX9_mostOfRule : MethodName := ⟨RX9, "mostOfRule", "(I)I"⟩
abbrev cX9_isRule : ByteArray := prog_1_method_46_code
def yX9_isRule : MethodName := ⟨RX9, "isRule", "(II)Z"⟩
abbrev cX9_isForesight : ByteArray := prog_1_method_47_code
def yX9_isForesight : MethodName := ⟨RX9, "isForesight", "(II)Z"⟩
abbrev cX9_countTold : ByteArray := prog_1_method_48_code
def yX9_countTold : MethodName := ⟨RX9, "countTold", "(I)I"⟩
abbrev cX9_triedMinutes : ByteArray := prog_1_method_49_code
def yX9_triedMinutes : MethodName := ⟨RX9, "triedMinutes", "(II)I"⟩
abbrev cX9_triedUntilDone : ByteArray := prog_1_method_50_code
def yX9_triedUntilDone : MethodName := ⟨RX9, "triedUntilDone", "(I)I"⟩
abbrev cX9_writeSetup : ByteArray := prog_1_method_53_code
def yX9_writeSetup : MethodName := ⟨RX9, "writeSetup", "()V"⟩
abbrev cX9_writeSetupOffice : ByteArray := prog_1_method_54_code
def yX9_writeSetupOffice : MethodName := ⟨RX9, "writeSetupOffice", "(I)V"⟩
abbrev cX9_writeSetupLetters : ByteArray := prog_1_method_55_code
def yX9_writeSetupLetters : MethodName := ⟨RX9, "writeSetupLetters", "(I)V"⟩
def RX10 : String := "RingOfficesModel"
def TX10 : u_T := fun k => match k with
  | _ => ("", "", "", false)
def tyX10 : Nat → FieldType := fun k => match k with
  | _ => .int
abbrev wsX100 : List Cond := u_ws RX10 TX10 0
theorem nmX10 : ∀ a, a < 0 → ∀ b, b < 0 → a ≠ b → (TX10 a).2.1 ≠ (TX10 b).2.1 := by decide +kernel
theorem tyX10_ok : ∀ k, k < 0 → parseFieldDescriptor (TX10 k).2.2.1 = some (tyX10 k) := by decide +kernel
def RJ5 : String := "java/lang/AbstractStringBuilder"
def TJ5 : u_T := fun k => match k with
  | _ => ("", "", "", false)
def tyJ5 : Nat → FieldType := fun k => match k with
  | _ => .int
abbrev wsJ50 : List Cond := u_ws RJ5 TJ5 0
theorem nmJ5 : ∀ a, a < 0 → ∀ b, b < 0 → a ≠ b → (TJ5 a).2.1 ≠ (TJ5 b).2.1 := by decide +kernel
theorem tyJ5_ok : ∀ k, k < 0 → parseFieldDescriptor (TJ5 k).2.2.1 = some (tyJ5 k) := by decide +kernel
abbrev cJ5_init_d00df : ByteArray := prog_13_method_2_code
def yJ5_init_d00df : MethodName := ⟨RJ5, "<init>", "(I)V"⟩
abbrev cJ5_init_a7421 : ByteArray := prog_13_method_3_code
def yJ5_init_a7421 : MethodName := ⟨RJ5, "<init>", "(Ljava/lang/String;)V"⟩
abbrev cJ5_length_8abf5 : ByteArray := prog_13_method_6_code
def yJ5_length_8abf5 : MethodName := ⟨RJ5, "length", "()I"⟩
abbrev cJ5_ensureCapacityInternal_d00df : ByteArray := prog_13_method_9_code
def yJ5_ensureCapacityInternal_d00df : MethodName := ⟨RJ5, "ensureCapacityInternal", "(I)V"⟩
abbrev cJ5_newCapacity_0f7a4 : ByteArray := prog_13_method_10_code
def yJ5_newCapacity_0f7a4 : MethodName := ⟨RJ5, "newCapacity", "(I)I"⟩
abbrev cJ5_inflate_da8c8 : ByteArray := prog_13_method_11_code
def yJ5_inflate_da8c8 : MethodName := ⟨RJ5, "inflate", "()V"⟩
abbrev cJ5_append_cf1ce : ByteArray := prog_13_method_22_code
def yJ5_append_cf1ce : MethodName := ⟨RJ5, "append", "(Ljava/lang/String;)Ljava/lang/AbstractStringBuilder;"⟩
abbrev cJ5_appendNull_278bc : ByteArray := prog_13_method_26_code
def yJ5_appendNull_278bc : MethodName := ⟨RJ5, "appendNull", "()Ljava/lang/AbstractStringBuilder;"⟩
abbrev cJ5_append_3fe6f : ByteArray := prog_13_method_31_code
def yJ5_append_3fe6f : MethodName := ⟨RJ5, "append", "(C)Ljava/lang/AbstractStringBuilder;"⟩
abbrev cJ5_append_c97b9 : ByteArray := prog_13_method_32_code
def yJ5_append_c97b9 : MethodName := ⟨RJ5, "append", "(I)Ljava/lang/AbstractStringBuilder;"⟩
abbrev cJ5_getValue_6d5f1 : ByteArray := prog_13_method_64_code
def yJ5_getValue_6d5f1 : MethodName := ⟨RJ5, "getValue", "()[B"⟩
abbrev cJ5_isLatin1_aae02 : ByteArray := prog_13_method_68_code
def yJ5_isLatin1_aae02 : MethodName := ⟨RJ5, "isLatin1", "()Z"⟩
abbrev cJ5_inflateIfNeededFor_a7421 : ByteArray := prog_13_method_71_code
def yJ5_inflateIfNeededFor_a7421 : MethodName := ⟨RJ5, "inflateIfNeededFor", "(Ljava/lang/String;)V"⟩
abbrev cJ5_putStringAt_47b60 : ByteArray := prog_13_method_73_code
def yJ5_putStringAt_47b60 : MethodName := ⟨RJ5, "putStringAt", "(ILjava/lang/String;)V"⟩
def RJx8e188 : String := "java/lang/Cloneable"
def TJx8e188 : u_T := fun k => match k with
  | _ => ("", "", "", false)
def tyJx8e188 : Nat → FieldType := fun k => match k with
  | _ => .int
abbrev wsJx8e1880 : List Cond := u_ws RJx8e188 TJx8e188 0
theorem nmJx8e188 : ∀ a, a < 0 → ∀ b, b < 0 → a ≠ b → (TJx8e188 a).2.1 ≠ (TJx8e188 b).2.1 := by decide +kernel
theorem tyJx8e188_ok : ∀ k, k < 0 → parseFieldDescriptor (TJx8e188 k).2.2.1 = some (tyJx8e188 k) := by decide +kernel
def RJ6 : String := "java/lang/Integer"
def TJ6 : u_T := fun k => match k with
  | _ => ("", "", "", false)
def tyJ6 : Nat → FieldType := fun k => match k with
  | _ => .int
abbrev wsJ60 : List Cond := u_ws RJ6 TJ6 0
theorem nmJ6 : ∀ a, a < 0 → ∀ b, b < 0 → a ≠ b → (TJ6 a).2.1 ≠ (TJ6 b).2.1 := by decide +kernel
theorem tyJ6_ok : ∀ k, k < 0 → parseFieldDescriptor (TJ6 k).2.2.1 = some (tyJ6 k) := by decide +kernel
abbrev cJ6_getChars_ba4f3 : ByteArray := prog_15_method_12_code
def yJ6_getChars_ba4f3 : MethodName := ⟨RJ6, "getChars", "(II[B)I"⟩
abbrev cJ6_stringSize_0f7a4 : ByteArray := prog_15_method_13_code
def yJ6_stringSize_0f7a4 : MethodName := ⟨RJ6, "stringSize", "(I)I"⟩
def RJ9 : String := "java/lang/Math"
def TJ9 : u_T := fun k => match k with
  | _ => ("", "", "", false)
def tyJ9 : Nat → FieldType := fun k => match k with
  | _ => .int
abbrev wsJ90 : List Cond := u_ws RJ9 TJ9 0
theorem nmJ9 : ∀ a, a < 0 → ∀ b, b < 0 → a ≠ b → (TJ9 a).2.1 ≠ (TJ9 b).2.1 := by decide +kernel
theorem tyJ9_ok : ∀ k, k < 0 → parseFieldDescriptor (TJ9 k).2.2.1 = some (tyJ9 k) := by decide +kernel
abbrev cJ9_max_7cf53 : ByteArray := prog_16_method_65_code
def yJ9_max_7cf53 : MethodName := ⟨RJ9, "max", "(II)I"⟩
abbrev cJ9_min_7cf53 : ByteArray := prog_16_method_69_code
def yJ9_min_7cf53 : MethodName := ⟨RJ9, "min", "(II)I"⟩
def RJ0 : String := "java/lang/String"
def TJ0 : u_T := fun k => match k with
  | 0 => ("java/lang/String", "value", "[B", true)
  | 1 => ("java/lang/String", "coder", "B", true)
  | 2 => ("java/lang/String", "hash", "I", false)
  | _ => ("java/lang/String", "hashIsZero", "Z", false)
def tyJ0 : Nat → FieldType := fun k => match k with
  | 0 => .array .byte
  | 1 => .byte
  | 2 => .int
  | _ => .boolean
abbrev wsJ00 : List Cond := u_ws RJ0 TJ0 4
theorem nmJ0 : ∀ a, a < 4 → ∀ b, b < 4 → a ≠ b → (TJ0 a).2.1 ≠ (TJ0 b).2.1 := by decide +kernel
theorem tyJ0_ok : ∀ k, k < 4 → parseFieldDescriptor (TJ0 k).2.2.1 = some (tyJ0 k) := by decide +kernel
abbrev cJ0_init_81219 : ByteArray := prog_17_method_53_code
def yJ0_init_81219 : MethodName := ⟨RJ0, "<init>", "(Ljava/lang/StringBuilder;)V"⟩
abbrev cJ0_length_8abf5 : ByteArray := prog_17_method_54_code
def yJ0_length_8abf5 : MethodName := ⟨RJ0, "length", "()I"⟩
abbrev cJ0_charAt_5068e : ByteArray := prog_17_method_56_code
def yJ0_charAt_5068e : MethodName := ⟨RJ0, "charAt", "(I)C"⟩
abbrev cJ0_getBytes_840e7 : ByteArray := prog_17_method_147_code
def yJ0_getBytes_840e7 : MethodName := ⟨RJ0, "getBytes", "([BIB)V"⟩
abbrev cJ0_init_db425 : ByteArray := prog_17_method_150_code
def yJ0_init_db425 : MethodName := ⟨RJ0, "<init>", "(Ljava/lang/AbstractStringBuilder;Ljava/lang/Void;)V"⟩
abbrev cJ0_coder_7d493 : ByteArray := prog_17_method_152_code
def yJ0_coder_7d493 : MethodName := ⟨RJ0, "coder", "()B"⟩
abbrev cJ0_isLatin1_aae02 : ByteArray := prog_17_method_154_code
def yJ0_isLatin1_aae02 : MethodName := ⟨RJ0, "isLatin1", "()Z"⟩
abbrev cJ0_checkIndex_df160 : ByteArray := prog_17_method_155_code
def yJ0_checkIndex_df160 : MethodName := ⟨RJ0, "checkIndex", "(II)V"⟩
abbrev cJ0_checkBoundsOffCount_cabcc : ByteArray := prog_17_method_157_code
def yJ0_checkBoundsOffCount_cabcc : MethodName := ⟨RJ0, "checkBoundsOffCount", "(III)I"⟩
abbrev cJ0_checkBoundsBeginEnd_23922 : ByteArray := prog_17_method_158_code
def yJ0_checkBoundsBeginEnd_23922 : MethodName := ⟨RJ0, "checkBoundsBeginEnd", "(III)V"⟩
def RJ4 : String := "java/lang/StringBuilder"
def TJ4 : u_T := fun k => match k with
  | 0 => ("java/lang/AbstractStringBuilder", "value", "[B", false)
  | 1 => ("java/lang/AbstractStringBuilder", "coder", "B", false)
  | 2 => ("java/lang/AbstractStringBuilder", "maybeLatin1", "Z", false)
  | _ => ("java/lang/AbstractStringBuilder", "count", "I", false)
def tyJ4 : Nat → FieldType := fun k => match k with
  | 0 => .array .byte
  | 1 => .byte
  | 2 => .boolean
  | _ => .int
abbrev wsJ40 : List Cond := u_ws RJ4 TJ4 4
theorem nmJ4 : ∀ a, a < 4 → ∀ b, b < 4 → a ≠ b → (TJ4 a).2.1 ≠ (TJ4 b).2.1 := by decide +kernel
theorem tyJ4_ok : ∀ k, k < 4 → parseFieldDescriptor (TJ4 k).2.2.1 = some (tyJ4 k) := by decide +kernel
abbrev cJ4_init_da8c8 : ByteArray := prog_18_method_1_code
def yJ4_init_da8c8 : MethodName := ⟨RJ4, "<init>", "()V"⟩
abbrev cJ4_init_a7421 : ByteArray := prog_18_method_3_code
def yJ4_init_a7421 : MethodName := ⟨RJ4, "<init>", "(Ljava/lang/String;)V"⟩
abbrev cJ4_append_15ec4 : ByteArray := prog_18_method_7_code
def yJ4_append_15ec4 : MethodName := ⟨RJ4, "append", "(Ljava/lang/String;)Ljava/lang/StringBuilder;"⟩
abbrev cJ4_append_cf468 : ByteArray := prog_18_method_14_code
def yJ4_append_cf468 : MethodName := ⟨RJ4, "append", "(C)Ljava/lang/StringBuilder;"⟩
abbrev cJ4_append_bf812 : ByteArray := prog_18_method_15_code
def yJ4_append_bf812 : MethodName := ⟨RJ4, "append", "(I)Ljava/lang/StringBuilder;"⟩
abbrev cJ4_toString_0e30d : ByteArray := prog_18_method_42_code
def yJ4_toString_0e30d : MethodName := ⟨RJ4, "toString", "()Ljava/lang/String;"⟩
abbrev cJ4_append_cf1ce : ByteArray := prog_18_method_80_code
def yJ4_append_cf1ce : MethodName := ⟨RJ4, "append", "(Ljava/lang/String;)Ljava/lang/AbstractStringBuilder;"⟩
abbrev cJ4_length_8abf5 : ByteArray := prog_18_method_93_code
def yJ4_length_8abf5 : MethodName := ⟨RJ4, "length", "()I"⟩
def RJ1 : String := "java/lang/StringLatin1"
def TJ1 : u_T := fun k => match k with
  | _ => ("", "", "", false)
def tyJ1 : Nat → FieldType := fun k => match k with
  | _ => .int
abbrev wsJ10 : List Cond := u_ws RJ1 TJ1 0
theorem nmJ1 : ∀ a, a < 0 → ∀ b, b < 0 → a ≠ b → (TJ1 a).2.1 ≠ (TJ1 b).2.1 := by decide +kernel
theorem tyJ1_ok : ∀ k, k < 0 → parseFieldDescriptor (TJ1 k).2.2.1 = some (tyJ1 k) := by decide +kernel
abbrev cJ1_charAt_3b067 : ByteArray := prog_19_method_2_code
def yJ1_charAt_3b067 : MethodName := ⟨RJ1, "charAt", "([BI)C"⟩
abbrev cJ1_canEncode_fc78d : ByteArray := prog_19_method_3_code
def yJ1_canEncode_fc78d : MethodName := ⟨RJ1, "canEncode", "(C)Z"⟩
abbrev cJ1_inflate_0e8fd : ByteArray := prog_19_method_50_code
def yJ1_inflate_0e8fd : MethodName := ⟨RJ1, "inflate", "([BI[BII)V"⟩
def RJ2 : String := "java/lang/StringUTF16"
def TJ2 : u_T := fun k => match k with
  | _ => ("", "", "", false)
def tyJ2 : Nat → FieldType := fun k => match k with
  | _ => .int
abbrev wsJ20 : List Cond := u_ws RJ2 TJ2 0
theorem nmJ2 : ∀ a, a < 0 → ∀ b, b < 0 → a ≠ b → (TJ2 a).2.1 ≠ (TJ2 b).2.1 := by decide +kernel
theorem tyJ2_ok : ∀ k, k < 0 → parseFieldDescriptor (TJ2 k).2.2.1 = some (tyJ2 k) := by decide +kernel
abbrev cJ2_newBytesFor_77867 : ByteArray := prog_20_method_2_code
def yJ2_newBytesFor_77867 : MethodName := ⟨RJ2, "newBytesFor", "(I)[B"⟩
abbrev cJ2_newBytesLength_0f7a4 : ByteArray := prog_20_method_3_code
def yJ2_newBytesLength_0f7a4 : MethodName := ⟨RJ2, "newBytesLength", "(I)I"⟩
abbrev cJ2_putChar_b72d1 : ByteArray := prog_20_method_4_code
def yJ2_putChar_b72d1 : MethodName := ⟨RJ2, "putChar", "([BII)V"⟩
abbrev cJ2_getChar_3b067 : ByteArray := prog_20_method_5_code
def yJ2_getChar_3b067 : MethodName := ⟨RJ2, "getChar", "([BI)C"⟩
abbrev cJ2_length_9d52b : ByteArray := prog_20_method_6_code
def yJ2_length_9d52b : MethodName := ⟨RJ2, "length", "([B)I"⟩
abbrev cJ2_coderFromArrayLen_85cad : ByteArray := prog_20_method_15_code
def yJ2_coderFromArrayLen_85cad : MethodName := ⟨RJ2, "coderFromArrayLen", "([BI)B"⟩
abbrev cJ2_compress_39247 : ByteArray := prog_20_method_17_code
def yJ2_compress_39247 : MethodName := ⟨RJ2, "compress", "([BII)[B"⟩
abbrev cJ2_compress_5af95 : ByteArray := prog_20_method_22_code
def yJ2_compress_5af95 : MethodName := ⟨RJ2, "compress", "([BI[BII)I"⟩
abbrev cJ2_putCharSB_b72d1 : ByteArray := prog_20_method_71_code
def yJ2_putCharSB_b72d1 : MethodName := ⟨RJ2, "putCharSB", "([BII)V"⟩
abbrev cJ2_getChars_46870 : ByteArray := prog_20_method_77_code
def yJ2_getChars_46870 : MethodName := ⟨RJ2, "getChars", "(III[B)I"⟩
abbrev cJ2_putCharsAt_cd4e5 : ByteArray := prog_20_method_81_code
def yJ2_putCharsAt_cd4e5 : MethodName := ⟨RJ2, "putCharsAt", "([BICCCC)I"⟩
abbrev cJ2_charAt_3b067 : ByteArray := prog_20_method_83_code
def yJ2_charAt_3b067 : MethodName := ⟨RJ2, "charAt", "([BI)C"⟩
abbrev cJ2_inflate_0e8fd : ByteArray := prog_20_method_86_code
def yJ2_inflate_0e8fd : MethodName := ⟨RJ2, "inflate", "([BI[BII)V"⟩
abbrev cJ2_getChars_ba4f3 : ByteArray := prog_20_method_89_code
def yJ2_getChars_ba4f3 : MethodName := ⟨RJ2, "getChars", "(II[B)I"⟩
abbrev cJ2_checkIndex_2214a : ByteArray := prog_20_method_91_code
def yJ2_checkIndex_2214a : MethodName := ⟨RJ2, "checkIndex", "(I[B)V"⟩
abbrev cJ2_checkBoundsBeginEnd_d044e : ByteArray := prog_20_method_93_code
def yJ2_checkBoundsBeginEnd_d044e : MethodName := ⟨RJ2, "checkBoundsBeginEnd", "(II[B)V"⟩
abbrev cJ2_checkBoundsOffCount_d044e : ByteArray := prog_20_method_94_code
def yJ2_checkBoundsOffCount_d044e : MethodName := ⟨RJ2, "checkBoundsOffCount", "(II[B)V"⟩
def RJ10 : String := "java/lang/System"
def TJ10 : u_T := fun k => match k with
  | _ => ("", "", "", false)
def tyJ10 : Nat → FieldType := fun k => match k with
  | _ => .int
abbrev wsJ100 : List Cond := u_ws RJ10 TJ10 0
theorem nmJ10 : ∀ a, a < 0 → ∀ b, b < 0 → a ≠ b → (TJ10 a).2.1 ≠ (TJ10 b).2.1 := by decide +kernel
theorem tyJ10_ok : ∀ k, k < 0 → parseFieldDescriptor (TJ10 k).2.2.1 = some (tyJ10 k) := by decide +kernel
def RJ7 : String := "java/util/Arrays"
def TJ7 : u_T := fun k => match k with
  | _ => ("", "", "", false)
def tyJ7 : Nat → FieldType := fun k => match k with
  | _ => .int
abbrev wsJ70 : List Cond := u_ws RJ7 TJ7 0
theorem nmJ7 : ∀ a, a < 0 → ∀ b, b < 0 → a ≠ b → (TJ7 a).2.1 ≠ (TJ7 b).2.1 := by decide +kernel
theorem tyJ7_ok : ∀ k, k < 0 → parseFieldDescriptor (TJ7 k).2.2.1 = some (tyJ7 k) := by decide +kernel
abbrev cJ7_copyOf_9075b : ByteArray := prog_22_method_121_code
def yJ7_copyOf_9075b : MethodName := ⟨RJ7, "copyOf", "([BI)[B"⟩
abbrev cJ7_checkLength_df160 : ByteArray := prog_22_method_131_code
def yJ7_checkLength_df160 : MethodName := ⟨RJ7, "checkLength", "(II)V"⟩
abbrev cJ7_copyOfRange_39247 : ByteArray := prog_22_method_132_code
def yJ7_copyOfRange_39247 : MethodName := ⟨RJ7, "copyOfRange", "([BII)[B"⟩
abbrev cJ7_copyOfRangeByte_39247 : ByteArray := prog_22_method_133_code
def yJ7_copyOfRangeByte_39247 : MethodName := ⟨RJ7, "copyOfRangeByte", "([BII)[B"⟩
def RJ8 : String := "jdk/internal/util/ArraysSupport"
def TJ8 : u_T := fun k => match k with
  | _ => ("", "", "", false)
def tyJ8 : Nat → FieldType := fun k => match k with
  | _ => .int
abbrev wsJ80 : List Cond := u_ws RJ8 TJ8 0
theorem nmJ8 : ∀ a, a < 0 → ∀ b, b < 0 → a ≠ b → (TJ8 a).2.1 ≠ (TJ8 b).2.1 := by decide +kernel
theorem tyJ8_ok : ∀ k, k < 0 → parseFieldDescriptor (TJ8 k).2.2.1 = some (tyJ8 k) := by decide +kernel
abbrev cJ8_newLength_cabcc : ByteArray := prog_23_method_27_code
def yJ8_newLength_cabcc : MethodName := ⟨RJ8, "newLength", "(III)I"⟩
abbrev cJ8_hugeLength_7cf53 : ByteArray := prog_23_method_28_code
def yJ8_hugeLength_7cf53 : MethodName := ⟨RJ8, "hugeLength", "(II)I"⟩
def RJ3 : String := "jdk/internal/util/Preconditions"
def TJ3 : u_T := fun k => match k with
  | _ => ("", "", "", false)
def tyJ3 : Nat → FieldType := fun k => match k with
  | _ => .int
abbrev wsJ30 : List Cond := u_ws RJ3 TJ3 0
theorem nmJ3 : ∀ a, a < 0 → ∀ b, b < 0 → a ≠ b → (TJ3 a).2.1 ≠ (TJ3 b).2.1 := by decide +kernel
theorem tyJ3_ok : ∀ k, k < 0 → parseFieldDescriptor (TJ3 k).2.2.1 = some (tyJ3 k) := by decide +kernel
abbrev cJ3_checkIndex_8e157 : ByteArray := prog_24_method_11_code
def yJ3_checkIndex_8e157 : MethodName := ⟨RJ3, "checkIndex", "(IILjava/util/function/BiFunction;)I"⟩
abbrev cJ3_checkFromToIndex_8c36e : ByteArray := prog_24_method_12_code
def yJ3_checkFromToIndex_8c36e : MethodName := ⟨RJ3, "checkFromToIndex", "(IIILjava/util/function/BiFunction;)I"⟩
abbrev cJ3_checkFromIndexSize_8c36e : ByteArray := prog_24_method_13_code
def yJ3_checkFromIndexSize_8c36e : MethodName := ⟨RJ3, "checkFromIndexSize", "(IIILjava/util/function/BiFunction;)I"⟩
def RL : String := "RingOfficesLaw"
abbrev cL_feeds : ByteArray := method_2_code
def yL_feeds : MethodName := ⟨RL, "feeds", "(LRingOffices;Ljava/lang/String;)Z"⟩
abbrev cL_ring : ByteArray := method_3_code
def yL_ring : MethodName := ⟨RL, "ring", "(II)Ljava/lang/String;"⟩
abbrev cL_setup : ByteArray := method_4_code
def yL_setup : MethodName := ⟨RL, "setup", "(LRingOffices;)Ljava/lang/String;"⟩
abbrev cL_state : ByteArray := method_5_code
def yL_state : MethodName := ⟨RL, "state", "(LRingOffices;)J"⟩
abbrev cL_offices : ByteArray := method_6_code
def yL_offices : MethodName := ⟨RL, "offices", "(LRingOffices;)Z"⟩
abbrev cL_minutes : ByteArray := method_7_code
def yL_minutes : MethodName := ⟨RL, "minutes", "(LRingOffices;)Z"⟩
abbrev cL_would : ByteArray := method_8_code
def yL_would : MethodName := ⟨RL, "would", "(LRingOffices;II)Z"⟩
abbrev cL_does : ByteArray := method_9_code
def yL_does : MethodName := ⟨RL, "does", "(LRingOffices;II)Z"⟩
abbrev cL_law : ByteArray := code
def yL_law : MethodName := ⟨RL, "law", "([I)Z"⟩
def wsL_law_r1 : List Cond := [Cond.arrayClass .int, Cond.constant RL 174 (2147483647), Cond.classLink RL 18 RX9, Cond.instantiable RX9 8, Cond.initialized RX9, Cond.methodLink RL 175 yX9_init, Cond.instanceMethod yX9_init, Cond.code yX9_init cX9_init 1 none, Cond.methodLink RX9 1 objectInit, Cond.instanceMethod objectInit, Cond.code objectInit ⟨#[0xb1]⟩ 1 none, Cond.classLink RX9 7 RX6, Cond.instantiable RX6 7, Cond.initialized RX6, Cond.fieldLink RX9 10 "RingOffices" "now" "LRingOffices$State;", Cond.classLink RX9 16 RX0, Cond.instantiable RX0 3, Cond.initialized RX0, Cond.fieldLink RX9 19 "RingOffices" "history" "LRingOffices$History;", Cond.classLink RX9 23 RX5, Cond.instantiable RX5 2, Cond.initialized RX5, Cond.fieldLink RX9 26 "RingOffices" "slots" "LRingOffices$Slots;", Cond.classLink RX9 30 RX4]
def wsL_law_r2 : List Cond := [Cond.instantiable RX4 3, Cond.initialized RX4, Cond.fieldLink RX9 33 "RingOffices" "parser" "LRingOffices$SetupParser;", Cond.fieldLink RX9 37 "RingOffices$SetupParser" "scanner" "LRingOffices$Scanner;", Cond.fieldLink RX9 41 "RingOffices$Scanner" "text" "LRingOffices$Text;", Cond.fieldLink RX9 47 "RingOffices" "tape" "LRingOffices$Text;", Cond.fieldLink RX9 50 "RingOffices$SetupParser" "draft" "LRingOffices$State;", Cond.fieldLink RX9 53 "RingOffices" "scratch" "LRingOffices$State;", Cond.classLink RX9 56 RX7, Cond.instantiable RX7 2, Cond.initialized RX7, Cond.fieldLink RX9 61 "RingOffices" "page" "LRingOffices$Text;", Cond.fieldLink RX9 64 "RingOffices" "errorAt" "I", Cond.instanceMethod yX6_init, Cond.code yX6_init cX6_init 1 none, Cond.methodLink RX6 3 objectInit, Cond.fieldLink RX6 9 "RingOffices$State" "rules" "[I", Cond.fieldLink RX6 15 "RingOffices$State" "counts" "[I", Cond.classLink RX6 18 RX2, Cond.instantiable RX2 9, Cond.initialized RX2, Cond.fieldLink RX6 21 "RingOffices$State" "offices" "LRingOffices$Offices;", Cond.classLink RX6 25 RX8, Cond.instantiable RX8 7]
def wsL_law_r3 : List Cond := [Cond.initialized RX8, Cond.fieldLink RX6 28 "RingOffices$State" "tokens" "LRingOffices$Tokens;", Cond.classLink RX6 32 RX1, Cond.instantiable RX1 5, Cond.initialized RX1, Cond.fieldLink RX6 35 "RingOffices$State" "log" "LRingOffices$Log;", Cond.instanceMethod yX2_init, Cond.code yX2_init cX2_init 1 none, Cond.methodLink RX2 3 objectInit, Cond.fieldLink RX2 9 "RingOffices$Offices" "way" "[I", Cond.fieldLink RX2 15 "RingOffices$Offices" "name" "[I", Cond.fieldLink RX2 18 "RingOffices$Offices" "open" "[I", Cond.fieldLink RX2 21 "RingOffices$Offices" "spokenToday" "[I", Cond.fieldLink RX2 24 "RingOffices$Offices" "readTo" "[I", Cond.fieldLink RX2 27 "RingOffices$Offices" "waiting" "[I", Cond.fieldLink RX2 30 "RingOffices$Offices" "letterTo" "[I", Cond.fieldLink RX2 33 "RingOffices$Offices" "letterLength" "[I", Cond.instanceMethod yX8_init, Cond.code yX8_init cX8_init 1 none, Cond.methodLink RX8 3 objectInit, Cond.fieldLink RX8 9 "RingOffices$Tokens" "number" "[I", Cond.fieldLink RX8 15 "RingOffices$Tokens" "place" "[I", Cond.fieldLink RX8 18 "RingOffices$Tokens" "togo" "[I", Cond.fieldLink RX8 21 "RingOffices$Tokens" "turn" "[I"]
def wsL_law_r4 : List Cond := [Cond.fieldLink RX8 24 "RingOffices$Tokens" "left" "[I", Cond.instanceMethod yX1_init, Cond.code yX1_init cX1_init 1 none, Cond.methodLink RX1 3 objectInit, Cond.fieldLink RX1 9 "RingOffices$Log" "kind" "[I", Cond.fieldLink RX1 15 "RingOffices$Log" "first" "[I", Cond.fieldLink RX1 18 "RingOffices$Log" "second" "[I", Cond.methodLink RX9 18 yX0_init, Cond.instanceMethod yX0_init, Cond.code yX0_init cX0_init 2 none, Cond.methodLink RX0 3 objectInit, Cond.classLink RX0 9 RX6, Cond.fieldLink RX0 11 "RingOffices$History" "states" "[LRingOffices$State;", Cond.methodLink RX9 25 yX5_init, Cond.instanceMethod yX5_init, Cond.code yX5_init cX5_init 2 none, Cond.methodLink RX5 3 objectInit, Cond.classLink RX5 9 RX6, Cond.fieldLink RX5 11 "RingOffices$Slots" "states" "[LRingOffices$State;", Cond.arrayClass .boolean, Cond.fieldLink RX5 17 "RingOffices$Slots" "isFull" "[Z", Cond.instanceMethod yX4_init, Cond.code yX4_init cX4_init 1 none, Cond.methodLink RX4 3 objectInit]
def wsL_law_r5 : List Cond := [Cond.classLink RX4 9 RX3, Cond.instantiable RX3 5, Cond.initialized RX3, Cond.fieldLink RX4 12 "RingOffices$SetupParser" "scanner" "LRingOffices$Scanner;", Cond.classLink RX4 18 RX6, Cond.fieldLink RX4 21 "RingOffices$SetupParser" "draft" "LRingOffices$State;", Cond.instanceMethod yX3_init, Cond.code yX3_init cX3_init 1 none, Cond.methodLink RX3 3 objectInit, Cond.classLink RX3 9 RX7, Cond.fieldLink RX3 14 "RingOffices$Scanner" "text" "LRingOffices$Text;", Cond.methodLink RX3 11 yX7_init, Cond.instanceMethod yX7_init, Cond.code yX7_init cX7_init 2 none, Cond.methodLink RX7 3 objectInit, Cond.arrayClass .byte, Cond.fieldLink RX7 9 "RingOffices$Text" "bytes" "[B", Cond.methodLink RX9 58 yX7_init, Cond.methodLink RX9 68 yX6_beginAsNew, Cond.instanceMethod yX6_beginAsNew, Cond.selects RX6 yX6_beginAsNew yX6_beginAsNew, Cond.code yX6_beginAsNew cX6_beginAsNew 1 none, Cond.static yX9_put, Cond.code yX9_put cX9_put 3 none]
def wsL_law_r6 : List Cond := [Cond.methodLink RX6 64 yX2_add, Cond.instanceMethod yX2_add, Cond.selects RX2 yX2_add yX2_add, Cond.code yX2_add cX2_add 4 none, Cond.fieldLink RX2 40 "RingOffices$Offices" "count" "I", Cond.methodLink RX6 68 yX8_add, Cond.instanceMethod yX8_add, Cond.selects RX8 yX8_add yX8_add, Cond.code yX8_add cX8_add 2 none, Cond.fieldLink RX8 31 "RingOffices$Tokens" "count" "I", Cond.fieldLink RX8 35 "RingOffices$Tokens" "lastNumber" "I", Cond.methodLink RL 126 yX9_undo, Cond.instanceMethod yX9_undo, Cond.selects RX9 yX9_undo yX9_undo, Cond.code yX9_undo cX9_undo 1 (some .int), Cond.fieldLink RX9 214 "RingOffices$History" "count" "I", Cond.methodLink RX9 215 yX0_takeBack, Cond.instanceMethod yX0_takeBack, Cond.selects RX0 yX0_takeBack yX0_takeBack, Cond.code yX0_takeBack cX0_takeBack 3 none, Cond.fieldLink RX0 18 "RingOffices$History" "count" "I", Cond.fieldLink RX0 26 "RingOffices$History" "next" "I", Cond.methodLink RX0 29 yX6_copyFrom, Cond.instanceMethod yX6_copyFrom]
def wsL_law_r7 : List Cond := [Cond.selects RX6 yX6_copyFrom yX6_copyFrom, Cond.code yX6_copyFrom cX6_copyFrom 2 none, Cond.fieldLink RX6 53 "RingOffices$State" "time" "I", Cond.fieldLink RX6 57 "RingOffices$State" "silence" "I", Cond.static yX9_copyRow, Cond.code yX9_copyRow cX9_copyRow 2 none, Cond.methodLink RX9 291 Lib.Math.min.name, Cond.static Lib.Math.min.name, Cond.initialized "java/lang/Math", Cond.code Lib.Math.min.name Lib.Math.min.code 2 (some .int), Cond.methodLink RX9 296 arraycopyName, Cond.native arraycopyName, Cond.static arraycopyName, Cond.initialized "java/lang/System", Cond.methodLink RX6 43 yX2_copyFrom, Cond.instanceMethod yX2_copyFrom, Cond.selects RX2 yX2_copyFrom yX2_copyFrom, Cond.code yX2_copyFrom cX2_copyFrom 2 none, Cond.methodLink RX6 47 yX8_copyFrom, Cond.instanceMethod yX8_copyFrom, Cond.selects RX8 yX8_copyFrom yX8_copyFrom, Cond.code yX8_copyFrom cX8_copyFrom 2 none, Cond.methodLink RX6 50 yX1_copyFrom, Cond.instanceMethod yX1_copyFrom]
def wsL_law_r8 : List Cond := [Cond.selects RX1 yX1_copyFrom yX1_copyFrom, Cond.code yX1_copyFrom cX1_copyFrom 2 none, Cond.fieldLink RX1 25 "RingOffices$Log" "oldest" "I", Cond.fieldLink RX1 29 "RingOffices$Log" "count" "I", Cond.methodLink RL 73 yX9_value, Cond.instanceMethod yX9_value, Cond.selects RX9 yX9_value yX9_value, Cond.code yX9_value cX9_value 2 (some .int), Cond.fieldLink RX9 203 "RingOffices$State" "rules" "[I", Cond.fieldLink RX9 121 "RingOffices$State" "counts" "[I", Cond.fieldLink RX9 180 "RingOffices$State" "time" "I", Cond.fieldLink RX9 89 "RingOffices$State" "offices" "LRingOffices$Offices;", Cond.fieldLink RX9 93 "RingOffices$Offices" "count" "I", Cond.fieldLink RX9 137 "RingOffices$State" "tokens" "LRingOffices$Tokens;", Cond.fieldLink RX9 171 "RingOffices$Tokens" "count" "I", Cond.fieldLink RX9 221 "RingOffices$State" "silence" "I", Cond.fieldLink RX9 128 "RingOffices$State" "log" "LRingOffices$Log;", Cond.fieldLink RX9 230 "RingOffices$Log" "count" "I", Cond.methodLink RX9 102 yX9_isWithin, Cond.static yX9_isWithin, Cond.code yX9_isWithin cX9_isWithin 3 (some .boolean), Cond.methodLink RX9 110 yX9_at, Cond.static yX9_at, Cond.code yX9_at cX9_at 2 (some .int)]
def wsL_law_r9 : List Cond := [Cond.methodLink RX9 218 yX2_howManyOpen, Cond.instanceMethod yX2_howManyOpen, Cond.selects RX2 yX2_howManyOpen yX2_howManyOpen, Cond.code yX2_howManyOpen cX2_howManyOpen 3 (some .int), Cond.methodLink RX9 224 yX2_lettersInAll, Cond.instanceMethod yX2_lettersInAll, Cond.selects RX2 yX2_lettersInAll yX2_lettersInAll, Cond.code yX2_lettersInAll cX2_lettersInAll 3 (some .int), Cond.methodLink RX9 227 yX2_lengthInAll, Cond.instanceMethod yX2_lengthInAll, Cond.selects RX2 yX2_lengthInAll yX2_lengthInAll, Cond.code yX2_lengthInAll cX2_lengthInAll 3 (some .int), Cond.methodLink RX2 63 yX2_lengthInQueue, Cond.instanceMethod yX2_lengthInQueue, Cond.selects RX2 yX2_lengthInQueue yX2_lengthInQueue, Cond.code yX2_lengthInQueue cX2_lengthInQueue 4 (some .int), Cond.methodLink RX2 59 yX2_lengthOf, Cond.instanceMethod yX2_lengthOf, Cond.selects RX2 yX2_lengthOf yX2_lengthOf, Cond.code yX2_lengthOf cX2_lengthOf 3 (some .int), Cond.methodLink RL 102 yX9_round, Cond.instanceMethod yX9_round, Cond.selects RX9 yX9_round yX9_round, Cond.code yX9_round cX9_round 3 (some .int)]
def wsL_law_r10 : List Cond := [Cond.fieldLink RX9 186 "RingOffices$Offices" "way" "[I", Cond.methodLink RL 105 yX9_winner, Cond.instanceMethod yX9_winner, Cond.selects RX9 yX9_winner yX9_winner, Cond.code yX9_winner cX9_winner 1 (some .int), Cond.methodLink RX9 261 yX2_openWithGreatestName, Cond.instanceMethod yX2_openWithGreatestName, Cond.selects RX2 yX2_openWithGreatestName yX2_openWithGreatestName, Cond.code yX2_openWithGreatestName cX2_openWithGreatestName 3 (some .int), Cond.methodLink RX2 52 yX2_isOpen, Cond.instanceMethod yX2_isOpen, Cond.selects RX2 yX2_isOpen yX2_isOpen, Cond.code yX2_isOpen cX2_isOpen 2 (some .boolean), Cond.methodLink RL 147 yX9_doneIn, Cond.instanceMethod yX9_doneIn, Cond.selects RX9 yX9_doneIn yX9_doneIn, Cond.code yX9_doneIn cX9_doneIn 1 (some .int), Cond.methodLink RX9 81 yX6_copyFrom, Cond.methodLink RX9 270 yX9_triedUntilDone, Cond.instanceMethod yX9_triedUntilDone, Cond.selects RX9 yX9_triedUntilDone yX9_triedUntilDone, Cond.code yX9_triedUntilDone cX9_triedUntilDone 3 (some .int), Cond.methodLink RX9 183 yX6_passMinute, Cond.instanceMethod yX6_passMinute]
def wsL_law_r11 : List Cond := [Cond.selects RX6 yX6_passMinute yX6_passMinute, Cond.code yX6_passMinute cX6_passMinute 2 none, Cond.fieldLink RX6 74 "RingOffices$Tokens" "count" "I", Cond.fieldLink RX6 117 "RingOffices$Tokens" "togo" "[I", Cond.fieldLink RX6 123 "RingOffices$Tokens" "left" "[I", Cond.methodLink RX6 114 yX2_beginDay, Cond.instanceMethod yX2_beginDay, Cond.selects RX2 yX2_beginDay yX2_beginDay, Cond.code yX2_beginDay cX2_beginDay 2 none, Cond.methodLink RX6 120 yX6_comeNearer, Cond.instanceMethod yX6_comeNearer, Cond.selects RX6 yX6_comeNearer yX6_comeNearer, Cond.code yX6_comeNearer cX6_comeNearer 4 none, Cond.fieldLink RX6 100 "RingOffices$Tokens" "place" "[I", Cond.methodLink RX6 142 yX2_isOpen, Cond.methodLink RX6 145 yX6_leave, Cond.instanceMethod yX6_leave, Cond.selects RX6 yX6_leave yX6_leave, Cond.code yX6_leave cX6_leave 3 none, Cond.fieldLink RX6 152 "RingOffices$Offices" "way" "[I", Cond.methodLink RX6 149 yX2_behind, Cond.instanceMethod yX2_behind, Cond.selects RX2 yX2_behind yX2_behind, Cond.code yX2_behind cX2_behind 2 (some .int)]
def wsL_law_r12 : List Cond := [Cond.methodLink RX6 155 yX8_setOut, Cond.instanceMethod yX8_setOut, Cond.selects RX8 yX8_setOut yX8_setOut, Cond.code yX8_setOut cX8_setOut 4 none, Cond.methodLink RX6 126 yX6_readOn, Cond.instanceMethod yX6_readOn, Cond.selects RX6 yX6_readOn yX6_readOn, Cond.code yX6_readOn cX6_readOn 4 none, Cond.fieldLink RX6 158 "RingOffices$Tokens" "turn" "[I", Cond.fieldLink RX6 161 "RingOffices$Offices" "spokenToday" "[I", Cond.static yX9_raise, Cond.code yX9_raise cX9_raise 2 none, Cond.methodLink RX6 164 yX6_endLetter, Cond.instanceMethod yX6_endLetter, Cond.selects RX6 yX6_endLetter yX6_endLetter, Cond.code yX6_endLetter cX6_endLetter 4 none, Cond.fieldLink RX6 174 "RingOffices$Offices" "readTo" "[I", Cond.methodLink RX6 167 yX2_toOf, Cond.instanceMethod yX2_toOf, Cond.selects RX2 yX2_toOf yX2_toOf, Cond.code yX2_toOf cX2_toOf 3 (some .int), Cond.methodLink RX6 171 yX2_lengthOf, Cond.methodLink RX6 85 yX1_add, Cond.instanceMethod yX1_add]
def wsL_law_r13 : List Cond := [Cond.selects RX1 yX1_add yX1_add, Cond.code yX1_add cX1_add 5 none, Cond.methodLink RX6 177 yX2_removeLetter, Cond.instanceMethod yX2_removeLetter, Cond.selects RX2 yX2_removeLetter yX2_removeLetter, Cond.code yX2_removeLetter cX2_removeLetter 5 none, Cond.static yX9_takeOut, Cond.code yX9_takeOut cX9_takeOut 3 none, Cond.methodLink RX6 129 yX6_beginOrSetOut, Cond.instanceMethod yX6_beginOrSetOut, Cond.selects RX6 yX6_beginOrSetOut yX6_beginOrSetOut, Cond.code yX6_beginOrSetOut cX6_beginOrSetOut 4 none, Cond.fieldLink RX6 180 "RingOffices$Offices" "waiting" "[I", Cond.methodLink RX6 183 yX6_fitsInTurn, Cond.instanceMethod yX6_fitsInTurn, Cond.selects RX6 yX6_fitsInTurn yX6_fitsInTurn, Cond.code yX6_fitsInTurn cX6_fitsInTurn 3 (some .boolean), Cond.methodLink RX6 187 yX6_fitsInDay, Cond.instanceMethod yX6_fitsInDay, Cond.selects RX6 yX6_fitsInDay yX6_fitsInDay, Cond.code yX6_fitsInDay cX6_fitsInDay 2 (some .boolean), Cond.methodLink RX6 132 yX6_tearUpWhereTwoMeet, Cond.instanceMethod yX6_tearUpWhereTwoMeet, Cond.selects RX6 yX6_tearUpWhereTwoMeet yX6_tearUpWhereTwoMeet]
def wsL_law_r14 : List Cond := [Cond.code yX6_tearUpWhereTwoMeet cX6_tearUpWhereTwoMeet 3 none, Cond.fieldLink RX6 93 "RingOffices$Tokens" "number" "[I", Cond.methodLink RX6 110 yX8_isFollowedThere, Cond.instanceMethod yX8_isFollowedThere, Cond.selects RX8 yX8_isFollowedThere yX8_isFollowedThere, Cond.code yX8_isFollowedThere cX8_isFollowedThere 3 (some .boolean), Cond.methodLink RX8 53 yX8_isAt, Cond.instanceMethod yX8_isAt, Cond.selects RX8 yX8_isAt yX8_isAt, Cond.code yX8_isAt cX8_isAt 3 (some .boolean), Cond.methodLink RX6 107 yX8_remove, Cond.instanceMethod yX8_remove, Cond.selects RX8 yX8_remove yX8_remove, Cond.code yX8_remove cX8_remove 2 none, Cond.methodLink RX8 42 yX8_has, Cond.instanceMethod yX8_has, Cond.selects RX8 yX8_has yX8_has, Cond.code yX8_has cX8_has 2 (some .boolean), Cond.methodLink RX6 135 yX8_howManySpeak, Cond.instanceMethod yX8_howManySpeak, Cond.selects RX8 yX8_howManySpeak yX8_howManySpeak, Cond.code yX8_howManySpeak cX8_howManySpeak 3 (some .int), Cond.methodLink RX6 139 yX6_stayWithoutToken, Cond.instanceMethod yX6_stayWithoutToken]
def wsL_law_r15 : List Cond := [Cond.selects RX6 yX6_stayWithoutToken yX6_stayWithoutToken, Cond.code yX6_stayWithoutToken cX6_stayWithoutToken 2 none, Cond.fieldLink RX6 75 "RingOffices$Tokens" "lastNumber" "I", Cond.methodLink RX6 190 yX2_openWithGreatestName, Cond.methodLink RL 144 yX9_comesIn, Cond.instanceMethod yX9_comesIn, Cond.selects RX9 yX9_comesIn yX9_comesIn, Cond.code yX9_comesIn cX9_comesIn 3 (some .int), Cond.methodLink RX9 98 yX2_has, Cond.instanceMethod yX2_has, Cond.selects RX2 yX2_has yX2_has, Cond.code yX2_has cX2_has 2 (some .boolean), Cond.methodLink RX9 237 yX8_standingAt, Cond.instanceMethod yX8_standingAt, Cond.selects RX8 yX8_standingAt yX8_standingAt, Cond.code yX8_standingAt cX8_standingAt 3 (some .int), Cond.methodLink RL 176 yL_offices, Cond.static yL_offices, Cond.initialized RL, Cond.code yL_offices cL_offices 18 (some .boolean), Cond.methodLink RL 93 yX9_busiest, Cond.instanceMethod yX9_busiest, Cond.selects RX9 yX9_busiest yX9_busiest, Cond.code yX9_busiest cX9_busiest 3 (some .int)]
def wsL_law_r16 : List Cond := [Cond.methodLink RX9 234 yX2_lengthInQueue, Cond.methodLink RL 78 yX9_office, Cond.instanceMethod yX9_office, Cond.selects RX9 yX9_office yX9_office, Cond.code yX9_office cX9_office 4 (some .int), Cond.fieldLink RX9 189 "RingOffices$Offices" "name" "[I", Cond.fieldLink RX9 155 "RingOffices$Offices" "open" "[I", Cond.fieldLink RX9 231 "RingOffices$Offices" "spokenToday" "[I", Cond.fieldLink RX9 106 "RingOffices$Offices" "waiting" "[I", Cond.fieldLink RX9 240 "RingOffices$Offices" "readTo" "[I", Cond.methodLink RX9 243 yX2_lettersTo, Cond.instanceMethod yX2_lettersTo, Cond.selects RX2 yX2_lettersTo yX2_lettersTo, Cond.code yX2_lettersTo cX2_lettersTo 5 (some .int), Cond.methodLink RX2 67 yX2_toOf, Cond.methodLink RL 90 yX9_token, Cond.instanceMethod yX9_token, Cond.selects RX9 yX9_token yX9_token, Cond.code yX9_token cX9_token 4 (some .int), Cond.fieldLink RX9 162 "RingOffices$Tokens" "number" "[I", Cond.fieldLink RX9 249 "RingOffices$Tokens" "place" "[I", Cond.fieldLink RX9 252 "RingOffices$Tokens" "togo" "[I", Cond.fieldLink RX9 255 "RingOffices$Tokens" "turn" "[I", Cond.fieldLink RX9 258 "RingOffices$Tokens" "left" "[I"]
def wsL_law_r17 : List Cond := [Cond.methodLink RX9 161 yX8_has, Cond.methodLink RL 82 yX9_queue, Cond.instanceMethod yX9_queue, Cond.selects RX9 yX9_queue yX9_queue, Cond.code yX9_queue cX9_queue 6 (some .int), Cond.methodLink RX9 246 yX2_toOf, Cond.methodLink RX9 141 yX8_leftAt, Cond.instanceMethod yX8_leftAt, Cond.selects RX8 yX8_leftAt yX8_leftAt, Cond.code yX8_leftAt cX8_leftAt 2 (some .int), Cond.methodLink RX8 57 yX8_standingAt, Cond.methodLink RX9 147 yX2_lengthOf, Cond.methodLink RL 96 yX9_why, Cond.instanceMethod yX9_why, Cond.selects RX9 yX9_why yX9_why, Cond.code yX9_why cX9_why 4 (some .int), Cond.methodLink RX9 168 yX2_isOpen, Cond.methodLink RX9 264 yX6_fitsInTurn, Cond.methodLink RX9 267 yX6_fitsInDay, Cond.methodLink RL 99 yX9_cancel, Cond.instanceMethod yX9_cancel, Cond.selects RX9 yX9_cancel yX9_cancel, Cond.code yX9_cancel cX9_cancel 5 (some .int), Cond.methodLink RX9 114 yX0_remember]
def wsL_law_r18 : List Cond := [Cond.instanceMethod yX0_remember, Cond.selects RX0 yX0_remember yX0_remember, Cond.code yX0_remember cX0_remember 2 none, Cond.methodLink RX0 22 yX0_copyTo, Cond.instanceMethod yX0_copyTo, Cond.selects RX0 yX0_copyTo yX0_copyTo, Cond.code yX0_copyTo cX0_copyTo 3 none, Cond.methodLink RX9 151 yX2_removeLetter, Cond.methodLink RX9 124 yX9_raise, Cond.methodLink RX9 132 yX1_add, Cond.methodLink RL 108 yX9_spoken, Cond.instanceMethod yX9_spoken, Cond.selects RX9 yX9_spoken yX9_spoken, Cond.code yX9_spoken cX9_spoken 1 (some .float), Cond.methodLink RL 112 yX9_meanLength, Cond.instanceMethod yX9_meanLength, Cond.selects RX9 yX9_meanLength yX9_meanLength, Cond.code yX9_meanLength cX9_meanLength 2 (some .double), Cond.methodLink RL 180 yL_minutes, Cond.static yL_minutes, Cond.code yL_minutes cL_minutes 17 (some .boolean), Cond.methodLink RL 116 yX9_ifPassed, Cond.instanceMethod yX9_ifPassed, Cond.selects RX9 yX9_ifPassed yX9_ifPassed]
def wsL_law_r19 : List Cond := [Cond.code yX9_ifPassed cX9_ifPassed 3 (some .int), Cond.methodLink RX9 273 yX9_isForesight, Cond.static yX9_isForesight, Cond.code yX9_isForesight cX9_isForesight 2 (some .boolean), Cond.methodLink RX9 276 yX9_triedMinutes, Cond.instanceMethod yX9_triedMinutes, Cond.selects RX9 yX9_triedMinutes yX9_triedMinutes, Cond.code yX9_triedMinutes cX9_triedMinutes 4 (some .int), Cond.methodLink RX9 305 yX9_countTold, Cond.static yX9_countTold, Cond.code yX9_countTold cX9_countTold 1 (some .int), Cond.methodLink RL 119 yX9_ifRule, Cond.instanceMethod yX9_ifRule, Cond.selects RX9 yX9_ifRule yX9_ifRule, Cond.code yX9_ifRule cX9_ifRule 5 (some .int), Cond.methodLink RX9 199 yX9_isRule, Cond.static yX9_isRule, Cond.code yX9_isRule cX9_isRule 2 (some .boolean), Cond.methodLink RX9 302 yX9_mostOfRule, Cond.static yX9_mostOfRule, Cond.code yX9_mostOfRule cX9_mostOfRule 1 (some .int), Cond.methodLink RX9 195 yX9_put, Cond.methodLink RL 123 yX9_minute, Cond.instanceMethod yX9_minute]
def wsL_law_r20 : List Cond := [Cond.selects RX9 yX9_minute yX9_minute, Cond.code yX9_minute cX9_minute 4 (some .int), Cond.methodLink RL 183 yL_ring, Cond.static yL_ring, Cond.code yL_ring cL_ring 9 (some (.object "java/lang/String")), Cond.classLink RL 27 RJ4, Cond.instantiable RJ4 4, Cond.initialized RJ4, Cond.constant RL 47 (1103515245), Cond.methodLink RL 31 yJ4_init_a7421, Cond.instanceMethod yJ4_init_a7421, Cond.code yJ4_init_a7421 cJ4_init_a7421 2 none, Cond.methodLink RJ4 7 yJ5_init_a7421, Cond.instanceMethod yJ5_init_a7421, Cond.initialized RJ5, Cond.code yJ5_init_a7421 cJ5_init_a7421 5 none, Cond.methodLink RJ5 3 objectInit, Cond.constant RJ5 38 (2147483631), Cond.constant RJ5 39 (2147483647), Cond.fieldLink RJ5 22 "java/lang/AbstractStringBuilder" "coder" "B", Cond.fieldLink RJ5 15 "java/lang/AbstractStringBuilder" "value" "[B", Cond.methodLink RJ5 32 yJ0_length_8abf5, Cond.instanceMethod yJ0_length_8abf5, Cond.selects RJ0 yJ0_length_8abf5 yJ0_length_8abf5]
def wsL_law_r21 : List Cond := [Cond.initialized RJ0, Cond.code yJ0_length_8abf5 cJ0_length_8abf5 1 (some .int), Cond.fieldLink RJ0 9 "java/lang/String" "value" "[B", Cond.methodLink RJ0 335 yJ0_coder_7d493, Cond.instanceMethod yJ0_coder_7d493, Cond.selects RJ0 yJ0_coder_7d493 yJ0_coder_7d493, Cond.code yJ0_coder_7d493 cJ0_coder_7d493 1 (some .byte), Cond.fieldLink RJ0 38 "java/lang/String" "COMPACT_STRINGS" "Z", Cond.fieldLink RJ0 15 "java/lang/String" "coder" "B", Cond.methodLink RJ5 40 yJ0_coder_7d493, Cond.methodLink RJ5 26 yJ2_newBytesFor_77867, Cond.static yJ2_newBytesFor_77867, Cond.initialized RJ2, Cond.code yJ2_newBytesFor_77867 cJ2_newBytesFor_77867 1 (some (.array .byte)), Cond.methodLink RJ2 11 yJ2_newBytesLength_0f7a4, Cond.static yJ2_newBytesLength_0f7a4, Cond.code yJ2_newBytesLength_0f7a4 cJ2_newBytesLength_0f7a4 1 (some .int), Cond.constant RJ2 20 (1073741823), Cond.methodLink RJ5 43 ⟨"java/lang/AbstractStringBuilder", "append", "(Ljava/lang/String;)Ljava/lang/AbstractStringBuilder;"⟩, Cond.sameMethod "java/lang/AbstractStringBuilder" "java/lang/AbstractStringBuilder" "append" "(Ljava/lang/String;)Ljava/lang/AbstractStringBuilder;", Cond.instanceMethod ⟨"java/lang/AbstractStringBuilder", "append", "(Ljava/lang/String;)Ljava/lang/AbstractStringBuilder;"⟩, Cond.selects RJ4 ⟨"java/lang/AbstractStringBuilder", "append", "(Ljava/lang/String;)Ljava/lang/AbstractStringBuilder;"⟩ yJ4_append_cf1ce, Cond.instanceMethod yJ4_append_cf1ce, Cond.code yJ4_append_cf1ce cJ4_append_cf1ce 2 (some (.object "java/lang/AbstractStringBuilder"))]
def wsL_law_r22 : List Cond := [Cond.methodLink RJ4 23 yJ4_append_15ec4, Cond.instanceMethod yJ4_append_15ec4, Cond.selects RJ4 yJ4_append_15ec4 yJ4_append_15ec4, Cond.code yJ4_append_15ec4 cJ4_append_15ec4 2 (some (.object "java/lang/StringBuilder")), Cond.methodLink RJ4 29 yJ5_append_cf1ce, Cond.superclass RJ4 RJ5, Cond.instanceMethod yJ5_append_cf1ce, Cond.code yJ5_append_cf1ce cJ5_append_cf1ce 3 (some (.object "java/lang/AbstractStringBuilder")), Cond.fieldLink RJ5 79 "java/lang/AbstractStringBuilder" "count" "I", Cond.methodLink RJ5 204 ⟨"java/lang/AbstractStringBuilder", "appendNull", "()Ljava/lang/AbstractStringBuilder;"⟩, Cond.sameMethod "java/lang/AbstractStringBuilder" "java/lang/AbstractStringBuilder" "appendNull" "()Ljava/lang/AbstractStringBuilder;", Cond.selects RJ4 ⟨"java/lang/AbstractStringBuilder", "appendNull", "()Ljava/lang/AbstractStringBuilder;"⟩ yJ5_appendNull_278bc, Cond.instanceMethod yJ5_appendNull_278bc, Cond.code yJ5_appendNull_278bc cJ5_appendNull_278bc 3 (some (.object "java/lang/AbstractStringBuilder")), Cond.methodLink RJ5 100 ⟨"java/lang/AbstractStringBuilder", "ensureCapacityInternal", "(I)V"⟩, Cond.sameMethod "java/lang/AbstractStringBuilder" "java/lang/AbstractStringBuilder" "ensureCapacityInternal" "(I)V", Cond.selects RJ4 ⟨"java/lang/AbstractStringBuilder", "ensureCapacityInternal", "(I)V"⟩ yJ5_ensureCapacityInternal_d00df, Cond.instanceMethod yJ5_ensureCapacityInternal_d00df, Cond.code yJ5_ensureCapacityInternal_d00df cJ5_ensureCapacityInternal_d00df 3 none, Cond.methodLink RJ5 104 ⟨"java/lang/AbstractStringBuilder", "newCapacity", "(I)I"⟩, Cond.sameMethod "java/lang/AbstractStringBuilder" "java/lang/AbstractStringBuilder" "newCapacity" "(I)I", Cond.selects RJ4 ⟨"java/lang/AbstractStringBuilder", "newCapacity", "(I)I"⟩ yJ5_newCapacity_0f7a4, Cond.instanceMethod yJ5_newCapacity_0f7a4, Cond.code yJ5_newCapacity_0f7a4 cJ5_newCapacity_0f7a4 6 (some .int)]
def wsL_law_r23 : List Cond := [Cond.methodLink RJ5 114 yJ8_newLength_cabcc, Cond.static yJ8_newLength_cabcc, Cond.initialized RJ8, Cond.code yJ8_newLength_cabcc cJ8_newLength_cabcc 4 (some .int), Cond.methodLink RJ8 194 Lib.Math.max.name, Cond.static Lib.Math.max.name, Cond.code Lib.Math.max.name Lib.Math.max.code 2 (some .int), Cond.constant RJ8 200 (2147483639), Cond.methodLink RJ8 201 yJ8_hugeLength_7cf53, Cond.static yJ8_hugeLength_7cf53, Cond.code yJ8_hugeLength_7cf53 cJ8_hugeLength_7cf53 3 (some .int), Cond.methodLink RJ5 108 yJ7_copyOf_9075b, Cond.static yJ7_copyOf_9075b, Cond.initialized RJ7, Cond.code yJ7_copyOf_9075b cJ7_copyOf_9075b 3 (some (.array .byte)), Cond.methodLink RJ7 310 ⟨"[B", "clone", "()Ljava/lang/Object;"⟩, Cond.sameMethod "[B" "java/lang/Object" "clone" "()Ljava/lang/Object;", Cond.native ⟨"java/lang/Object", "clone", "()Ljava/lang/Object;"⟩, Cond.instanceMethod ⟨"java/lang/Object", "clone", "()Ljava/lang/Object;"⟩, Cond.selects "[B" ⟨"[B", "clone", "()Ljava/lang/Object;"⟩ ⟨"java/lang/Object", "clone", "()Ljava/lang/Object;"⟩, Cond.classLink RJ7 311 "[B", Cond.methodLink RJ7 304 Lib.Math.min.name, Cond.methodLink RJ7 150 arraycopyName, Cond.methodLink RJ5 83 ⟨"java/lang/AbstractStringBuilder", "isLatin1", "()Z"⟩]
def wsL_law_r24 : List Cond := [Cond.sameMethod "java/lang/AbstractStringBuilder" "java/lang/AbstractStringBuilder" "isLatin1" "()Z", Cond.selects RJ4 ⟨"java/lang/AbstractStringBuilder", "isLatin1", "()Z"⟩ yJ5_isLatin1_aae02, Cond.instanceMethod yJ5_isLatin1_aae02, Cond.code yJ5_isLatin1_aae02 cJ5_isLatin1_aae02 1 (some .boolean), Cond.fieldLink RJ5 18 "java/lang/String" "COMPACT_STRINGS" "Z", Cond.methodLink RJ5 226 yJ2_putCharsAt_cd4e5, Cond.static yJ2_putCharsAt_cd4e5, Cond.code yJ2_putCharsAt_cd4e5 cJ2_putCharsAt_cd4e5 7 (some .int), Cond.fieldLink RJ2 44 "java/lang/StringUTF16" "$assertionsDisabled" "Z", Cond.methodLink RJ2 96 yJ2_checkBoundsBeginEnd_d044e, Cond.static yJ2_checkBoundsBeginEnd_d044e, Cond.code yJ2_checkBoundsBeginEnd_d044e cJ2_checkBoundsBeginEnd_d044e 3 none, Cond.methodLink RJ2 48 yJ2_length_9d52b, Cond.static yJ2_length_9d52b, Cond.code yJ2_length_9d52b cJ2_length_9d52b 1 (some .int), Cond.methodLink RJ2 241 yJ0_checkBoundsBeginEnd_23922, Cond.static yJ0_checkBoundsBeginEnd_23922, Cond.code yJ0_checkBoundsBeginEnd_23922 cJ0_checkBoundsBeginEnd_23922 3 none, Cond.fieldLink RJ0 1053 "jdk/internal/util/Preconditions" "SIOOBE_FORMATTER" "Ljava/util/function/BiFunction;", Cond.methodLink RJ0 1062 yJ3_checkFromToIndex_8c36e, Cond.static yJ3_checkFromToIndex_8c36e, Cond.initialized RJ3, Cond.code yJ3_checkFromToIndex_8c36e cJ3_checkFromToIndex_8c36e 4 (some .int), Cond.methodLink RJ2 111 yJ2_putChar_b72d1]
def wsL_law_r25 : List Cond := [Cond.static yJ2_putChar_b72d1, Cond.code yJ2_putChar_b72d1 cJ2_putChar_b72d1 3 none, Cond.fieldLink RJ2 59 "java/lang/StringUTF16" "HI_BYTE_SHIFT" "I", Cond.fieldLink RJ2 63 "java/lang/StringUTF16" "LO_BYTE_SHIFT" "I", Cond.methodLink RJ5 208 ⟨"java/lang/AbstractStringBuilder", "putStringAt", "(ILjava/lang/String;)V"⟩, Cond.sameMethod "java/lang/AbstractStringBuilder" "java/lang/AbstractStringBuilder" "putStringAt" "(ILjava/lang/String;)V", Cond.selects RJ4 ⟨"java/lang/AbstractStringBuilder", "putStringAt", "(ILjava/lang/String;)V"⟩ yJ5_putStringAt_47b60, Cond.instanceMethod yJ5_putStringAt_47b60, Cond.code yJ5_putStringAt_47b60 cJ5_putStringAt_47b60 3 none, Cond.methodLink RJ5 397 ⟨"java/lang/AbstractStringBuilder", "inflateIfNeededFor", "(Ljava/lang/String;)V"⟩, Cond.sameMethod "java/lang/AbstractStringBuilder" "java/lang/AbstractStringBuilder" "inflateIfNeededFor" "(Ljava/lang/String;)V", Cond.selects RJ4 ⟨"java/lang/AbstractStringBuilder", "inflateIfNeededFor", "(Ljava/lang/String;)V"⟩ yJ5_inflateIfNeededFor_a7421, Cond.instanceMethod yJ5_inflateIfNeededFor_a7421, Cond.code yJ5_inflateIfNeededFor_a7421 cJ5_inflateIfNeededFor_a7421 2 none, Cond.methodLink RJ5 195 ⟨"java/lang/AbstractStringBuilder", "inflate", "()V"⟩, Cond.sameMethod "java/lang/AbstractStringBuilder" "java/lang/AbstractStringBuilder" "inflate" "()V", Cond.selects RJ4 ⟨"java/lang/AbstractStringBuilder", "inflate", "()V"⟩ yJ5_inflate_da8c8, Cond.instanceMethod yJ5_inflate_da8c8, Cond.code yJ5_inflate_da8c8 cJ5_inflate_da8c8 2 none, Cond.methodLink RJ5 125 yJ1_inflate_0e8fd, Cond.static yJ1_inflate_0e8fd, Cond.initialized RJ1, Cond.code yJ1_inflate_0e8fd cJ1_inflate_0e8fd 5 none, Cond.methodLink RJ1 240 yJ2_inflate_0e8fd]
def wsL_law_r26 : List Cond := [Cond.static yJ2_inflate_0e8fd, Cond.code yJ2_inflate_0e8fd cJ2_inflate_0e8fd 6 none, Cond.methodLink RJ2 173 yJ2_checkBoundsOffCount_d044e, Cond.static yJ2_checkBoundsOffCount_d044e, Cond.code yJ2_checkBoundsOffCount_d044e cJ2_checkBoundsOffCount_d044e 3 none, Cond.methodLink RJ2 419 yJ0_checkBoundsOffCount_cabcc, Cond.static yJ0_checkBoundsOffCount_cabcc, Cond.code yJ0_checkBoundsOffCount_cabcc cJ0_checkBoundsOffCount_cabcc 3 (some .int), Cond.methodLink RJ0 1065 yJ3_checkFromIndexSize_8c36e, Cond.static yJ3_checkFromIndexSize_8c36e, Cond.code yJ3_checkFromIndexSize_8c36e cJ3_checkFromIndexSize_8c36e 4 (some .int), Cond.methodLink RJ5 399 yJ0_getBytes_840e7, Cond.instanceMethod yJ0_getBytes_840e7, Cond.selects RJ0 yJ0_getBytes_840e7 yJ0_getBytes_840e7, Cond.code yJ0_getBytes_840e7 cJ0_getBytes_840e7 4 none, Cond.methodLink RJ0 212 arraycopyName, Cond.methodLink RJ0 106 yJ1_inflate_0e8fd, Cond.methodLink RL 34 yJ4_append_bf812, Cond.instanceMethod yJ4_append_bf812, Cond.selects RJ4 yJ4_append_bf812 yJ4_append_bf812, Cond.code yJ4_append_bf812 cJ4_append_bf812 2 (some (.object "java/lang/StringBuilder")), Cond.methodLink RJ4 53 yJ5_append_c97b9, Cond.sameMethod "java/lang/AbstractStringBuilder" "java/lang/AbstractStringBuilder" "append" "(I)Ljava/lang/AbstractStringBuilder;", Cond.instanceMethod yJ5_append_c97b9]
def wsL_law_r27 : List Cond := [Cond.code yJ5_append_c97b9 cJ5_append_c97b9 4 (some (.object "java/lang/AbstractStringBuilder")), Cond.methodLink RJ5 245 yJ6_stringSize_0f7a4, Cond.static yJ6_stringSize_0f7a4, Cond.initialized RJ6, Cond.code yJ6_stringSize_0f7a4 cJ6_stringSize_0f7a4 4 (some .int), Cond.methodLink RJ5 248 yJ6_getChars_ba4f3, Cond.static yJ6_getChars_ba4f3, Cond.code yJ6_getChars_ba4f3 cJ6_getChars_ba4f3 7 (some .int), Cond.fieldLink RJ6 83 "java/lang/Integer" "DigitOnes" "[B", Cond.fieldLink RJ6 87 "java/lang/Integer" "DigitTens" "[B", Cond.methodLink RJ5 251 yJ2_getChars_46870, Cond.static yJ2_getChars_46870, Cond.code yJ2_getChars_46870 cJ2_getChars_46870 5 (some .int), Cond.methodLink RJ2 393 yJ2_getChars_ba4f3, Cond.static yJ2_getChars_ba4f3, Cond.code yJ2_getChars_ba4f3 cJ2_getChars_ba4f3 7 (some .int), Cond.fieldLink RJ2 403 "java/lang/Integer" "DigitOnes" "[B", Cond.fieldLink RJ2 407 "java/lang/Integer" "DigitTens" "[B", Cond.methodLink RL 39 yJ4_append_15ec4, Cond.methodLink RL 44 yJ4_append_cf468, Cond.instanceMethod yJ4_append_cf468, Cond.selects RJ4 yJ4_append_cf468 yJ4_append_cf468, Cond.code yJ4_append_cf468 cJ4_append_cf468 2 (some (.object "java/lang/StringBuilder")), Cond.methodLink RJ4 50 yJ5_append_3fe6f]
def wsL_law_r28 : List Cond := [Cond.sameMethod "java/lang/AbstractStringBuilder" "java/lang/AbstractStringBuilder" "append" "(C)Ljava/lang/AbstractStringBuilder;", Cond.instanceMethod yJ5_append_3fe6f, Cond.code yJ5_append_3fe6f cJ5_append_3fe6f 2 (some (.object "java/lang/AbstractStringBuilder")), Cond.methodLink RJ5 191 yJ1_canEncode_fc78d, Cond.static yJ1_canEncode_fc78d, Cond.code yJ1_canEncode_fc78d cJ1_canEncode_fc78d 1 (some .boolean), Cond.methodLink RJ5 197 yJ2_putCharSB_b72d1, Cond.static yJ2_putCharSB_b72d1, Cond.code yJ2_putCharSB_b72d1 cJ2_putCharSB_b72d1 3 none, Cond.methodLink RJ2 67 yJ2_checkIndex_2214a, Cond.static yJ2_checkIndex_2214a, Cond.code yJ2_checkIndex_2214a cJ2_checkIndex_2214a 2 none, Cond.methodLink RJ2 414 yJ0_checkIndex_df160, Cond.static yJ0_checkIndex_df160, Cond.code yJ0_checkIndex_df160 cJ0_checkIndex_df160 2 none, Cond.methodLink RJ0 1059 yJ3_checkIndex_8e157, Cond.static yJ3_checkIndex_8e157, Cond.code yJ3_checkIndex_8e157 cJ3_checkIndex_8e157 3 (some .int), Cond.methodLink RL 58 yJ4_toString_0e30d, Cond.instanceMethod yJ4_toString_0e30d, Cond.selects RJ4 yJ4_toString_0e30d yJ4_toString_0e30d, Cond.code yJ4_toString_0e30d cJ4_toString_0e30d 1 (some (.object "java/lang/String")), Cond.classLink RJ4 18 RJ0, Cond.instantiable RJ0 4]
def wsL_law_r29 : List Cond := [Cond.methodLink RJ4 137 yJ0_init_81219, Cond.instanceMethod yJ0_init_81219, Cond.code yJ0_init_81219 cJ0_init_81219 2 none, Cond.methodLink RJ0 489 yJ0_init_db425, Cond.instanceMethod yJ0_init_db425, Cond.code yJ0_init_db425 cJ0_init_db425 5 none, Cond.methodLink RJ0 1 objectInit, Cond.fieldLink RJ0 1048 "java/lang/AbstractStringBuilder" "maybeLatin1" "Z", Cond.methodLink RJ0 552 ⟨"java/lang/AbstractStringBuilder", "getValue", "()[B"⟩, Cond.sameMethod "java/lang/AbstractStringBuilder" "java/lang/AbstractStringBuilder" "getValue" "()[B", Cond.selects RJ4 ⟨"java/lang/AbstractStringBuilder", "getValue", "()[B"⟩ yJ5_getValue_6d5f1, Cond.instanceMethod yJ5_getValue_6d5f1, Cond.code yJ5_getValue_6d5f1 cJ5_getValue_6d5f1 1 (some (.array .byte)), Cond.methodLink RJ0 549 ⟨"java/lang/AbstractStringBuilder", "length", "()I"⟩, Cond.sameMethod "java/lang/AbstractStringBuilder" "java/lang/AbstractStringBuilder" "length" "()I", Cond.instanceMethod ⟨"java/lang/AbstractStringBuilder", "length", "()I"⟩, Cond.selects RJ4 ⟨"java/lang/AbstractStringBuilder", "length", "()I"⟩ yJ4_length_8abf5, Cond.instanceMethod yJ4_length_8abf5, Cond.code yJ4_length_8abf5 cJ4_length_8abf5 1 (some .int), Cond.methodLink RJ4 343 yJ5_length_8abf5, Cond.instanceMethod yJ5_length_8abf5, Cond.code yJ5_length_8abf5 cJ5_length_8abf5 1 (some .int), Cond.methodLink RJ0 1047 ⟨"java/lang/AbstractStringBuilder", "isLatin1", "()Z"⟩, Cond.methodLink RJ0 54 yJ7_copyOfRange_39247]
def wsL_law_r30 : List Cond := [Cond.static yJ7_copyOfRange_39247, Cond.code yJ7_copyOfRange_39247 cJ7_copyOfRange_39247 3 (some (.array .byte)), Cond.methodLink RJ7 339 yJ7_copyOfRangeByte_39247, Cond.static yJ7_copyOfRangeByte_39247, Cond.code yJ7_copyOfRangeByte_39247 cJ7_copyOfRangeByte_39247 5 (some (.array .byte)), Cond.methodLink RJ7 343 yJ7_checkLength_df160, Cond.static yJ7_checkLength_df160, Cond.code yJ7_checkLength_df160 cJ7_checkLength_df160 2 none, Cond.methodLink RJ0 1051 yJ2_compress_39247, Cond.static yJ2_compress_39247, Cond.code yJ2_compress_39247 cJ2_compress_39247 6 (some (.array .byte)), Cond.methodLink RJ2 123 yJ2_compress_5af95, Cond.static yJ2_compress_5af95, Cond.code yJ2_compress_5af95 cJ2_compress_5af95 7 (some .int), Cond.methodLink RJ2 71 yJ2_getChar_3b067, Cond.static yJ2_getChar_3b067, Cond.code yJ2_getChar_3b067 cJ2_getChar_3b067 2 (some .char), Cond.methodLink RJ2 126 yJ7_copyOfRange_39247, Cond.methodLink RJ0 47 yJ2_coderFromArrayLen_85cad, Cond.static yJ2_coderFromArrayLen_85cad, Cond.code yJ2_coderFromArrayLen_85cad cJ2_coderFromArrayLen_85cad 2 (some .byte), Cond.methodLink RL 187 yL_feeds, Cond.static yL_feeds, Cond.code yL_feeds cL_feeds 6 (some .boolean)]
def wsL_law_r31 : List Cond := [Cond.methodLink RL 7 yJ0_length_8abf5, Cond.methodLink RL 13 yJ0_charAt_5068e, Cond.instanceMethod yJ0_charAt_5068e, Cond.selects RJ0 yJ0_charAt_5068e yJ0_charAt_5068e, Cond.code yJ0_charAt_5068e cJ0_charAt_5068e 2 (some .char), Cond.methodLink RJ0 492 yJ0_isLatin1_aae02, Cond.instanceMethod yJ0_isLatin1_aae02, Cond.selects RJ0 yJ0_isLatin1_aae02 yJ0_isLatin1_aae02, Cond.code yJ0_isLatin1_aae02 cJ0_isLatin1_aae02 1 (some .boolean), Cond.methodLink RJ0 495 yJ1_charAt_3b067, Cond.static yJ1_charAt_3b067, Cond.code yJ1_charAt_3b067 cJ1_charAt_3b067 2 (some .char), Cond.methodLink RJ1 9 yJ0_checkIndex_df160, Cond.methodLink RJ0 498 yJ2_charAt_3b067, Cond.static yJ2_charAt_3b067, Cond.code yJ2_charAt_3b067 cJ2_charAt_3b067 2 (some .char), Cond.methodLink RL 17 yX9_append, Cond.instanceMethod yX9_append, Cond.selects RX9 yX9_append yX9_append, Cond.code yX9_append cX9_append 6 (some .int), Cond.fieldLink RX9 71 "RingOffices$Text" "length" "I", Cond.methodLink RX9 74 yX7_addFourBytes, Cond.instanceMethod yX7_addFourBytes, Cond.selects RX7 yX7_addFourBytes yX7_addFourBytes]
def wsL_law_r32 : List Cond := [Cond.code yX7_addFourBytes cX7_addFourBytes 2 none, Cond.methodLink RX7 28 yX7_add, Cond.instanceMethod yX7_add, Cond.selects RX7 yX7_add yX7_add, Cond.code yX7_add cX7_add 2 none, Cond.fieldLink RX7 15 "RingOffices$Text" "length" "I", Cond.methodLink RL 23 yX9_truncate, Cond.instanceMethod yX9_truncate, Cond.selects RX9 yX9_truncate yX9_truncate, Cond.code yX9_truncate cX9_truncate 2 (some .int), Cond.methodLink RL 191 yX9_load, Cond.instanceMethod yX9_load, Cond.selects RX9 yX9_load yX9_load, Cond.code yX9_load cX9_load 1 (some .int), Cond.methodLink RX9 77 yX4_parse, Cond.instanceMethod yX4_parse, Cond.selects RX4 yX4_parse yX4_parse, Cond.code yX4_parse cX4_parse 2 (some .int), Cond.fieldLink RX4 49 "RingOffices$Scanner" "kind" "I", Cond.fieldLink RX4 53 "RingOffices$Scanner" "start" "I", Cond.methodLink RX4 25 yX6_clear, Cond.instanceMethod yX6_clear, Cond.selects RX6 yX6_clear yX6_clear, Cond.code yX6_clear cX6_clear 2 none]
def wsL_law_r33 : List Cond := [Cond.fieldLink RX6 71 "RingOffices$Offices" "count" "I", Cond.fieldLink RX6 78 "RingOffices$Log" "oldest" "I", Cond.fieldLink RX6 81 "RingOffices$Log" "count" "I", Cond.methodLink RX4 28 yX3_begin, Cond.instanceMethod yX3_begin, Cond.selects RX3 yX3_begin yX3_begin, Cond.code yX3_begin cX3_begin 1 none, Cond.fieldLink RX3 20 "RingOffices$Scanner" "end" "I", Cond.methodLink RX3 24 yX3_advance, Cond.instanceMethod yX3_advance, Cond.selects RX3 yX3_advance yX3_advance, Cond.code yX3_advance cX3_advance 2 none, Cond.fieldLink RX3 30 "RingOffices$Scanner" "start" "I", Cond.fieldLink RX3 37 "RingOffices$Text" "length" "I", Cond.fieldLink RX3 40 "RingOffices$Scanner" "kind" "I", Cond.methodLink RX3 27 yX3_skipWhiteSpace, Cond.instanceMethod yX3_skipWhiteSpace, Cond.selects RX3 yX3_skipWhiteSpace yX3_skipWhiteSpace, Cond.code yX3_skipWhiteSpace cX3_skipWhiteSpace 1 none, Cond.methodLink RX3 33 yX7_byteAt, Cond.instanceMethod yX7_byteAt, Cond.selects RX7 yX7_byteAt yX7_byteAt, Cond.code yX7_byteAt cX7_byteAt 2 (some .int), Cond.methodLink RX3 59 yX3_isWhiteSpace]
def wsL_law_r34 : List Cond := [Cond.static yX3_isWhiteSpace, Cond.code yX3_isWhiteSpace cX3_isWhiteSpace 1 (some .boolean), Cond.methodLink RX3 43 yX3_isDigit, Cond.static yX3_isDigit, Cond.code yX3_isDigit cX3_isDigit 1 (some .boolean), Cond.methodLink RX3 47 yX3_readNumeral, Cond.instanceMethod yX3_readNumeral, Cond.selects RX3 yX3_readNumeral yX3_readNumeral, Cond.code yX3_readNumeral cX3_readNumeral 1 none, Cond.fieldLink RX3 62 "RingOffices$Scanner" "number" "I", Cond.methodLink RX3 50 yX3_isSmallLetter, Cond.static yX3_isSmallLetter, Cond.code yX3_isSmallLetter cX3_isSmallLetter 1 (some .boolean), Cond.methodLink RX3 53 yX3_readWord, Cond.instanceMethod yX3_readWord, Cond.selects RX3 yX3_readWord yX3_readWord, Cond.code yX3_readWord cX3_readWord 2 none, Cond.methodLink RX3 65 yX3_keyword, Cond.static yX3_keyword, Cond.code yX3_keyword cX3_keyword 1 (some (.object "java/lang/String")), Cond.methodLink RX3 69 yX7_isWord, Cond.instanceMethod yX7_isWord, Cond.selects RX7 yX7_isWord yX7_isWord, Cond.code yX7_isWord cX7_isWord 5 (some .boolean)]
def wsL_law_r35 : List Cond := [Cond.methodLink RX7 19 yJ0_length_8abf5, Cond.methodLink RX7 24 yJ0_charAt_5068e, Cond.methodLink RX3 56 yX3_readOther, Cond.instanceMethod yX3_readOther, Cond.selects RX3 yX3_readOther yX3_readOther, Cond.code yX3_readOther cX3_readOther 2 none, Cond.methodLink RX4 31 yX4_parseRule, Cond.instanceMethod yX4_parseRule, Cond.selects RX4 yX4_parseRule yX4_parseRule, Cond.code yX4_parseRule cX4_parseRule 3 (some .boolean), Cond.fieldLink RX4 63 "RingOffices$State" "rules" "[I", Cond.fieldLink RX4 67 "RingOffices$SetupParser" "taken" "I", Cond.methodLink RX4 35 yX4_take, Cond.instanceMethod yX4_take, Cond.selects RX4 yX4_take yX4_take, Cond.code yX4_take cX4_take 2 (some .boolean), Cond.methodLink RX4 122 yX3_advance, Cond.methodLink RX4 60 yX4_takeNumber, Cond.instanceMethod yX4_takeNumber, Cond.selects RX4 yX4_takeNumber yX4_takeNumber, Cond.code yX4_takeNumber cX4_takeNumber 3 (some .boolean), Cond.fieldLink RX4 78 "RingOffices$Scanner" "number" "I", Cond.methodLink RX4 39 yX4_parseOffices, Cond.instanceMethod yX4_parseOffices]
def wsL_law_r36 : List Cond := [Cond.selects RX4 yX4_parseOffices yX4_parseOffices, Cond.code yX4_parseOffices cX4_parseOffices 5 (some .boolean), Cond.fieldLink RX4 74 "RingOffices$State" "offices" "LRingOffices$Offices;", Cond.fieldLink RX4 90 "RingOffices$Offices" "count" "I", Cond.methodLink RX4 81 yX2_isNameTaken, Cond.instanceMethod yX2_isNameTaken, Cond.selects RX2 yX2_isNameTaken yX2_isNameTaken, Cond.code yX2_isNameTaken cX2_isNameTaken 3 (some .boolean), Cond.methodLink RX4 86 yX2_add, Cond.methodLink RX4 43 yX4_parseLetters, Cond.instanceMethod yX4_parseLetters, Cond.selects RX4 yX4_parseLetters yX4_parseLetters, Cond.code yX4_parseLetters cX4_parseLetters 5 (some .boolean), Cond.fieldLink RX4 93 "RingOffices$Offices" "waiting" "[I", Cond.fieldLink RX4 103 "RingOffices$State" "counts" "[I", Cond.methodLink RX4 100 yX2_addLetter, Cond.instanceMethod yX2_addLetter, Cond.selects RX2 yX2_addLetter yX2_addLetter, Cond.code yX2_addLetter cX2_addLetter 5 none, Cond.methodLink RX4 46 yX4_parseToken, Cond.instanceMethod yX4_parseToken, Cond.selects RX4 yX4_parseToken yX4_parseToken, Cond.code yX4_parseToken cX4_parseToken 1 (some .boolean), Cond.fieldLink RX4 113 "RingOffices$State" "tokens" "LRingOffices$Tokens;"]
def wsL_law_r37 : List Cond := [Cond.methodLink RX4 110 yX2_isOpen, Cond.methodLink RX4 117 yX8_add, Cond.methodLink RX9 85 yX5_forget, Cond.instanceMethod yX5_forget, Cond.selects RX5 yX5_forget yX5_forget, Cond.code yX5_forget cX5_forget 2 none, Cond.methodLink RX9 88 yX0_forget, Cond.instanceMethod yX0_forget, Cond.selects RX0 yX0_forget yX0_forget, Cond.code yX0_forget cX0_forget 1 none, Cond.methodLink RL 194 yX9_errorPosition, Cond.instanceMethod yX9_errorPosition, Cond.selects RX9 yX9_errorPosition yX9_errorPosition, Cond.code yX9_errorPosition cX9_errorPosition 1 (some .int), Cond.methodLink RL 197 yL_does, Cond.static yL_does, Cond.code yL_does cL_does 8 (some .boolean), Cond.methodLink RL 129 yL_state, Cond.static yL_state, Cond.code yL_state cL_state 5 (some .long), Cond.constantLong RL 69 (7), Cond.constantLong RL 71 (31), Cond.constantLong RL 76 (101), Cond.constantLong RL 86 (10)]
def wsL_law_r38 : List Cond := [Cond.constantLong RL 88 (1009), Cond.methodLink RL 159 yX9_letter, Cond.instanceMethod yX9_letter, Cond.selects RX9 yX9_letter yX9_letter, Cond.code yX9_letter cX9_letter 5 (some .int), Cond.methodLink RX9 117 yX2_addLetter, Cond.methodLink RL 141 yX9_shut, Cond.instanceMethod yX9_shut, Cond.selects RX9 yX9_shut yX9_shut, Cond.code yX9_shut cX9_shut 4 (some .int), Cond.methodLink RX9 158 yX6_shutOrOpen, Cond.instanceMethod yX6_shutOrOpen, Cond.selects RX6 yX6_shutOrOpen yX6_shutOrOpen, Cond.code yX6_shutOrOpen cX6_shutOrOpen 4 none, Cond.fieldLink RX6 82 "RingOffices$Offices" "open" "[I", Cond.methodLink RX6 86 yX8_standingAt, Cond.methodLink RX6 90 yX6_loseToken, Cond.instanceMethod yX6_loseToken, Cond.selects RX6 yX6_loseToken yX6_loseToken, Cond.code yX6_loseToken cX6_loseToken 2 none, Cond.methodLink RL 162 yX9_lose, Cond.instanceMethod yX9_lose, Cond.selects RX9 yX9_lose yX9_lose, Cond.code yX9_lose cX9_lose 3 (some .int)]
def wsL_law_r39 : List Cond := [Cond.methodLink RX9 165 yX6_loseToken, Cond.methodLink RL 156 yX9_stray, Cond.instanceMethod yX9_stray, Cond.selects RX9 yX9_stray yX9_stray, Cond.code yX9_stray cX9_stray 3 (some .int), Cond.fieldLink RX9 174 "RingOffices$Tokens" "lastNumber" "I", Cond.methodLink RX9 172 yX8_add, Cond.methodLink RX9 177 yX6_tearUpWhereTwoMeet, Cond.methodLink RL 165 yX9_set, Cond.instanceMethod yX9_set, Cond.selects RX9 yX9_set yX9_set, Cond.code yX9_set cX9_set 6 (some .int), Cond.methodLink RX9 192 yX2_isNameTaken, Cond.methodLink RL 135 yX9_rule, Cond.instanceMethod yX9_rule, Cond.selects RX9 yX9_rule yX9_rule, Cond.code yX9_rule cX9_rule 4 (some .int), Cond.methodLink RL 168 yX9_keep, Cond.instanceMethod yX9_keep, Cond.selects RX9 yX9_keep yX9_keep, Cond.code yX9_keep cX9_keep 2 (some .int), Cond.methodLink RX9 206 yX5_fill, Cond.instanceMethod yX5_fill, Cond.selects RX5 yX5_fill yX5_fill]
def wsL_law_r40 : List Cond := [Cond.code yX5_fill cX5_fill 4 none, Cond.methodLink RX5 22 yX6_copyFrom, Cond.methodLink RL 171 yX9_restore, Cond.instanceMethod yX9_restore, Cond.selects RX9 yX9_restore yX9_restore, Cond.code yX9_restore cX9_restore 3 (some .int), Cond.methodLink RX9 210 yX5_keptIn, Cond.instanceMethod yX5_keptIn, Cond.selects RX5 yX5_keptIn yX5_keptIn, Cond.code yX5_keptIn cX5_keptIn 2 (some (.object "RingOffices$State")), Cond.methodLink RL 201 yL_would, Cond.static yL_would, Cond.code yL_would cL_would 27 (some .boolean), Cond.methodLink RL 138 yX9_ifShut, Cond.instanceMethod yX9_ifShut, Cond.selects RX9 yX9_ifShut yX9_ifShut, Cond.code yX9_ifShut cX9_ifShut 4 (some .int), Cond.methodLink RL 150 yX9_leastQuota, Cond.instanceMethod yX9_leastQuota, Cond.selects RX9 yX9_leastQuota yX9_leastQuota, Cond.code yX9_leastQuota cX9_leastQuota 3 (some .int), Cond.methodLink RL 153 yX9_bestSpeak, Cond.instanceMethod yX9_bestSpeak, Cond.selects RX9 yX9_bestSpeak yX9_bestSpeak]
def wsL_law_r41 : List Cond := [Cond.code yX9_bestSpeak cX9_bestSpeak 6 (some .int), Cond.methodLink RL 204 yL_setup, Cond.static yL_setup, Cond.code yL_setup cL_setup 4 (some (.object "java/lang/String")), Cond.methodLink RL 62 yJ4_init_da8c8, Cond.instanceMethod yJ4_init_da8c8, Cond.code yJ4_init_da8c8 cJ4_init_da8c8 1 none, Cond.methodLink RJ4 1 yJ5_init_d00df, Cond.instanceMethod yJ5_init_d00df, Cond.code yJ5_init_d00df cJ5_init_d00df 2 none, Cond.methodLink RL 63 yX9_setupLength, Cond.instanceMethod yX9_setupLength, Cond.selects RX9 yX9_setupLength yX9_setupLength, Cond.code yX9_setupLength cX9_setupLength 1 (some .int), Cond.methodLink RX9 288 yX9_writeSetup, Cond.instanceMethod yX9_writeSetup, Cond.selects RX9 yX9_writeSetup yX9_writeSetup, Cond.code yX9_writeSetup cX9_writeSetup 2 none, Cond.methodLink RX9 317 yX7_addWord, Cond.instanceMethod yX7_addWord, Cond.selects RX7 yX7_addWord yX7_addWord, Cond.code yX7_addWord cX7_addWord 3 none, Cond.methodLink RX9 311 yX7_addNumber, Cond.instanceMethod yX7_addNumber]
def wsL_law_r42 : List Cond := [Cond.selects RX7 yX7_addNumber yX7_addNumber, Cond.code yX7_addNumber cX7_addNumber 5 none, Cond.constant RX7 32 (1000000000), Cond.methodLink RX9 314 yX7_add, Cond.methodLink RX9 325 yX9_writeSetupOffice, Cond.instanceMethod yX9_writeSetupOffice, Cond.selects RX9 yX9_writeSetupOffice yX9_writeSetupOffice, Cond.code yX9_writeSetupOffice cX9_writeSetupOffice 2 none, Cond.methodLink RX9 328 yX9_writeSetupLetters, Cond.instanceMethod yX9_writeSetupLetters, Cond.selects RX9 yX9_writeSetupLetters yX9_writeSetupLetters, Cond.code yX9_writeSetupLetters cX9_writeSetupLetters 3 none, Cond.methodLink RX9 331 yX8_firstStanding, Cond.instanceMethod yX8_firstStanding, Cond.selects RX8 yX8_firstStanding yX8_firstStanding, Cond.code yX8_firstStanding cX8_firstStanding 2 (some .int), Cond.methodLink RL 66 yX9_setupByte, Cond.instanceMethod yX9_setupByte, Cond.selects RX9 yX9_setupByte yX9_setupByte, Cond.code yX9_setupByte cX9_setupByte 2 (some .int), Cond.methodLink RX9 285 yX7_byteAt]
def wsL_law : List Cond := (wsL_law_r1 ++ (wsL_law_r2 ++ (wsL_law_r3 ++ (wsL_law_r4 ++ (wsL_law_r5 ++ (wsL_law_r6 ++ (wsL_law_r7 ++ (wsL_law_r8 ++ (wsL_law_r9 ++ (wsL_law_r10 ++ (wsL_law_r11 ++ (wsL_law_r12 ++ (wsL_law_r13 ++ (wsL_law_r14 ++ (wsL_law_r15 ++ (wsL_law_r16 ++ (wsL_law_r17 ++ (wsL_law_r18 ++ (wsL_law_r19 ++ (wsL_law_r20 ++ (wsL_law_r21 ++ (wsL_law_r22 ++ (wsL_law_r23 ++ (wsL_law_r24 ++ (wsL_law_r25 ++ (wsL_law_r26 ++ (wsL_law_r27 ++ (wsL_law_r28 ++ (wsL_law_r29 ++ (wsL_law_r30 ++ (wsL_law_r31 ++ (wsL_law_r32 ++ (wsL_law_r33 ++ (wsL_law_r34 ++ (wsL_law_r35 ++ (wsL_law_r36 ++ (wsL_law_r37 ++ (wsL_law_r38 ++ (wsL_law_r39 ++ (wsL_law_r40 ++ (wsL_law_r41 ++ wsL_law_r42))))))))))))))))))))))))))))))))))))))))) ++ wsX90 ++ wsX60 ++ wsX00 ++ wsX50 ++ wsX40 ++ wsX30 ++ wsX70 ++ wsX20 ++ wsX80 ++ wsX10 ++ wsJ40 ++ wsJ00 ++ ([] : List Cond)
theorem inlX0 : ∀ w ∈ wsX00, w ∈ wsL_law := fun _ h => List.mem_append_left _ (List.mem_append_left _ (List.mem_append_left _ (List.mem_append_left _ (List.mem_append_left _ (List.mem_append_left _ (List.mem_append_left _ (List.mem_append_left _ (List.mem_append_left _ (List.mem_append_left _ (List.mem_append_right _ h))))))))))
theorem inlX1 : ∀ w ∈ wsX10, w ∈ wsL_law := fun _ h => List.mem_append_left _ (List.mem_append_left _ (List.mem_append_left _ (List.mem_append_right _ h)))
theorem inlX2 : ∀ w ∈ wsX20, w ∈ wsL_law := fun _ h => List.mem_append_left _ (List.mem_append_left _ (List.mem_append_left _ (List.mem_append_left _ (List.mem_append_left _ (List.mem_append_right _ h)))))
theorem inlX3 : ∀ w ∈ wsX30, w ∈ wsL_law := fun _ h => List.mem_append_left _ (List.mem_append_left _ (List.mem_append_left _ (List.mem_append_left _ (List.mem_append_left _ (List.mem_append_left _ (List.mem_append_left _ (List.mem_append_right _ h)))))))
theorem inlX4 : ∀ w ∈ wsX40, w ∈ wsL_law := fun _ h => List.mem_append_left _ (List.mem_append_left _ (List.mem_append_left _ (List.mem_append_left _ (List.mem_append_left _ (List.mem_append_left _ (List.mem_append_left _ (List.mem_append_left _ (List.mem_append_right _ h))))))))
theorem inlX5 : ∀ w ∈ wsX50, w ∈ wsL_law := fun _ h => List.mem_append_left _ (List.mem_append_left _ (List.mem_append_left _ (List.mem_append_left _ (List.mem_append_left _ (List.mem_append_left _ (List.mem_append_left _ (List.mem_append_left _ (List.mem_append_left _ (List.mem_append_right _ h)))))))))
theorem inlX6 : ∀ w ∈ wsX60, w ∈ wsL_law := fun _ h => List.mem_append_left _ (List.mem_append_left _ (List.mem_append_left _ (List.mem_append_left _ (List.mem_append_left _ (List.mem_append_left _ (List.mem_append_left _ (List.mem_append_left _ (List.mem_append_left _ (List.mem_append_left _ (List.mem_append_left _ (List.mem_append_right _ h)))))))))))
theorem inlX7 : ∀ w ∈ wsX70, w ∈ wsL_law := fun _ h => List.mem_append_left _ (List.mem_append_left _ (List.mem_append_left _ (List.mem_append_left _ (List.mem_append_left _ (List.mem_append_left _ (List.mem_append_right _ h))))))
theorem inlX8 : ∀ w ∈ wsX80, w ∈ wsL_law := fun _ h => List.mem_append_left _ (List.mem_append_left _ (List.mem_append_left _ (List.mem_append_left _ (List.mem_append_right _ h))))
theorem inlX9 : ∀ w ∈ wsX90, w ∈ wsL_law := fun _ h => List.mem_append_left _ (List.mem_append_left _ (List.mem_append_left _ (List.mem_append_left _ (List.mem_append_left _ (List.mem_append_left _ (List.mem_append_left _ (List.mem_append_left _ (List.mem_append_left _ (List.mem_append_left _ (List.mem_append_left _ (List.mem_append_left _ (List.mem_append_right _ h))))))))))))
theorem inlJ0 : ∀ w ∈ wsJ00, w ∈ wsL_law := fun _ h => List.mem_append_left _ (List.mem_append_right _ h)
theorem inlJ4 : ∀ w ∈ wsJ40, w ∈ wsL_law := fun _ h => List.mem_append_left _ (List.mem_append_left _ (List.mem_append_right _ h))
theorem u_r1 (w : Cond) (h : w ∈ wsL_law_r1) : w ∈ wsL_law := List.mem_append_left _ (List.mem_append_left _ (List.mem_append_left _ (List.mem_append_left _ (List.mem_append_left _ (List.mem_append_left _ (List.mem_append_left _ (List.mem_append_left _ (List.mem_append_left _ (List.mem_append_left _ (List.mem_append_left _ (List.mem_append_left _ (List.mem_append_left _ (List.mem_append_left _ h)))))))))))))
theorem u_r2 (w : Cond) (h : w ∈ wsL_law_r2) : w ∈ wsL_law := List.mem_append_left _ (List.mem_append_left _ (List.mem_append_left _ (List.mem_append_left _ (List.mem_append_left _ (List.mem_append_left _ (List.mem_append_left _ (List.mem_append_left _ (List.mem_append_left _ (List.mem_append_left _ (List.mem_append_left _ (List.mem_append_left _ (List.mem_append_left _ (List.mem_append_right _ (List.mem_append_left _ h))))))))))))))
theorem u_r3 (w : Cond) (h : w ∈ wsL_law_r3) : w ∈ wsL_law := List.mem_append_left _ (List.mem_append_left _ (List.mem_append_left _ (List.mem_append_left _ (List.mem_append_left _ (List.mem_append_left _ (List.mem_append_left _ (List.mem_append_left _ (List.mem_append_left _ (List.mem_append_left _ (List.mem_append_left _ (List.mem_append_left _ (List.mem_append_left _ (List.mem_append_right _ (List.mem_append_right _ (List.mem_append_left _ h)))))))))))))))
theorem u_r4 (w : Cond) (h : w ∈ wsL_law_r4) : w ∈ wsL_law := List.mem_append_left _ (List.mem_append_left _ (List.mem_append_left _ (List.mem_append_left _ (List.mem_append_left _ (List.mem_append_left _ (List.mem_append_left _ (List.mem_append_left _ (List.mem_append_left _ (List.mem_append_left _ (List.mem_append_left _ (List.mem_append_left _ (List.mem_append_left _ (List.mem_append_right _ (List.mem_append_right _ (List.mem_append_right _ (List.mem_append_left _ h))))))))))))))))
theorem u_r5 (w : Cond) (h : w ∈ wsL_law_r5) : w ∈ wsL_law := List.mem_append_left _ (List.mem_append_left _ (List.mem_append_left _ (List.mem_append_left _ (List.mem_append_left _ (List.mem_append_left _ (List.mem_append_left _ (List.mem_append_left _ (List.mem_append_left _ (List.mem_append_left _ (List.mem_append_left _ (List.mem_append_left _ (List.mem_append_left _ (List.mem_append_right _ (List.mem_append_right _ (List.mem_append_right _ (List.mem_append_right _ (List.mem_append_left _ h)))))))))))))))))
theorem u_r6 (w : Cond) (h : w ∈ wsL_law_r6) : w ∈ wsL_law := List.mem_append_left _ (List.mem_append_left _ (List.mem_append_left _ (List.mem_append_left _ (List.mem_append_left _ (List.mem_append_left _ (List.mem_append_left _ (List.mem_append_left _ (List.mem_append_left _ (List.mem_append_left _ (List.mem_append_left _ (List.mem_append_left _ (List.mem_append_left _ (List.mem_append_right _ (List.mem_append_right _ (List.mem_append_right _ (List.mem_append_right _ (List.mem_append_right _ (List.mem_append_left _ h))))))))))))))))))
theorem u_r7 (w : Cond) (h : w ∈ wsL_law_r7) : w ∈ wsL_law := List.mem_append_left _ (List.mem_append_left _ (List.mem_append_left _ (List.mem_append_left _ (List.mem_append_left _ (List.mem_append_left _ (List.mem_append_left _ (List.mem_append_left _ (List.mem_append_left _ (List.mem_append_left _ (List.mem_append_left _ (List.mem_append_left _ (List.mem_append_left _ (List.mem_append_right _ (List.mem_append_right _ (List.mem_append_right _ (List.mem_append_right _ (List.mem_append_right _ (List.mem_append_right _ (List.mem_append_left _ h)))))))))))))))))))
theorem u_r8 (w : Cond) (h : w ∈ wsL_law_r8) : w ∈ wsL_law := List.mem_append_left _ (List.mem_append_left _ (List.mem_append_left _ (List.mem_append_left _ (List.mem_append_left _ (List.mem_append_left _ (List.mem_append_left _ (List.mem_append_left _ (List.mem_append_left _ (List.mem_append_left _ (List.mem_append_left _ (List.mem_append_left _ (List.mem_append_left _ (List.mem_append_right _ (List.mem_append_right _ (List.mem_append_right _ (List.mem_append_right _ (List.mem_append_right _ (List.mem_append_right _ (List.mem_append_right _ (List.mem_append_left _ h))))))))))))))))))))
theorem u_r9 (w : Cond) (h : w ∈ wsL_law_r9) : w ∈ wsL_law := List.mem_append_left _ (List.mem_append_left _ (List.mem_append_left _ (List.mem_append_left _ (List.mem_append_left _ (List.mem_append_left _ (List.mem_append_left _ (List.mem_append_left _ (List.mem_append_left _ (List.mem_append_left _ (List.mem_append_left _ (List.mem_append_left _ (List.mem_append_left _ (List.mem_append_right _ (List.mem_append_right _ (List.mem_append_right _ (List.mem_append_right _ (List.mem_append_right _ (List.mem_append_right _ (List.mem_append_right _ (List.mem_append_right _ (List.mem_append_left _ h)))))))))))))))))))))
theorem u_r10 (w : Cond) (h : w ∈ wsL_law_r10) : w ∈ wsL_law := List.mem_append_left _ (List.mem_append_left _ (List.mem_append_left _ (List.mem_append_left _ (List.mem_append_left _ (List.mem_append_left _ (List.mem_append_left _ (List.mem_append_left _ (List.mem_append_left _ (List.mem_append_left _ (List.mem_append_left _ (List.mem_append_left _ (List.mem_append_left _ (List.mem_append_right _ (List.mem_append_right _ (List.mem_append_right _ (List.mem_append_right _ (List.mem_append_right _ (List.mem_append_right _ (List.mem_append_right _ (List.mem_append_right _ (List.mem_append_right _ (List.mem_append_left _ h))))))))))))))))))))))
theorem u_r11 (w : Cond) (h : w ∈ wsL_law_r11) : w ∈ wsL_law := List.mem_append_left _ (List.mem_append_left _ (List.mem_append_left _ (List.mem_append_left _ (List.mem_append_left _ (List.mem_append_left _ (List.mem_append_left _ (List.mem_append_left _ (List.mem_append_left _ (List.mem_append_left _ (List.mem_append_left _ (List.mem_append_left _ (List.mem_append_left _ (List.mem_append_right _ (List.mem_append_right _ (List.mem_append_right _ (List.mem_append_right _ (List.mem_append_right _ (List.mem_append_right _ (List.mem_append_right _ (List.mem_append_right _ (List.mem_append_right _ (List.mem_append_right _ (List.mem_append_left _ h)))))))))))))))))))))))
theorem u_r12 (w : Cond) (h : w ∈ wsL_law_r12) : w ∈ wsL_law := List.mem_append_left _ (List.mem_append_left _ (List.mem_append_left _ (List.mem_append_left _ (List.mem_append_left _ (List.mem_append_left _ (List.mem_append_left _ (List.mem_append_left _ (List.mem_append_left _ (List.mem_append_left _ (List.mem_append_left _ (List.mem_append_left _ (List.mem_append_left _ (List.mem_append_right _ (List.mem_append_right _ (List.mem_append_right _ (List.mem_append_right _ (List.mem_append_right _ (List.mem_append_right _ (List.mem_append_right _ (List.mem_append_right _ (List.mem_append_right _ (List.mem_append_right _ (List.mem_append_right _ (List.mem_append_left _ h))))))))))))))))))))))))
theorem u_r13 (w : Cond) (h : w ∈ wsL_law_r13) : w ∈ wsL_law := List.mem_append_left _ (List.mem_append_left _ (List.mem_append_left _ (List.mem_append_left _ (List.mem_append_left _ (List.mem_append_left _ (List.mem_append_left _ (List.mem_append_left _ (List.mem_append_left _ (List.mem_append_left _ (List.mem_append_left _ (List.mem_append_left _ (List.mem_append_left _ (List.mem_append_right _ (List.mem_append_right _ (List.mem_append_right _ (List.mem_append_right _ (List.mem_append_right _ (List.mem_append_right _ (List.mem_append_right _ (List.mem_append_right _ (List.mem_append_right _ (List.mem_append_right _ (List.mem_append_right _ (List.mem_append_right _ (List.mem_append_left _ h)))))))))))))))))))))))))
theorem u_r14 (w : Cond) (h : w ∈ wsL_law_r14) : w ∈ wsL_law := List.mem_append_left _ (List.mem_append_left _ (List.mem_append_left _ (List.mem_append_left _ (List.mem_append_left _ (List.mem_append_left _ (List.mem_append_left _ (List.mem_append_left _ (List.mem_append_left _ (List.mem_append_left _ (List.mem_append_left _ (List.mem_append_left _ (List.mem_append_left _ (List.mem_append_right _ (List.mem_append_right _ (List.mem_append_right _ (List.mem_append_right _ (List.mem_append_right _ (List.mem_append_right _ (List.mem_append_right _ (List.mem_append_right _ (List.mem_append_right _ (List.mem_append_right _ (List.mem_append_right _ (List.mem_append_right _ (List.mem_append_right _ (List.mem_append_left _ h))))))))))))))))))))))))))
theorem u_r15 (w : Cond) (h : w ∈ wsL_law_r15) : w ∈ wsL_law := List.mem_append_left _ (List.mem_append_left _ (List.mem_append_left _ (List.mem_append_left _ (List.mem_append_left _ (List.mem_append_left _ (List.mem_append_left _ (List.mem_append_left _ (List.mem_append_left _ (List.mem_append_left _ (List.mem_append_left _ (List.mem_append_left _ (List.mem_append_left _ (List.mem_append_right _ (List.mem_append_right _ (List.mem_append_right _ (List.mem_append_right _ (List.mem_append_right _ (List.mem_append_right _ (List.mem_append_right _ (List.mem_append_right _ (List.mem_append_right _ (List.mem_append_right _ (List.mem_append_right _ (List.mem_append_right _ (List.mem_append_right _ (List.mem_append_right _ (List.mem_append_left _ h)))))))))))))))))))))))))))
theorem u_r16 (w : Cond) (h : w ∈ wsL_law_r16) : w ∈ wsL_law := List.mem_append_left _ (List.mem_append_left _ (List.mem_append_left _ (List.mem_append_left _ (List.mem_append_left _ (List.mem_append_left _ (List.mem_append_left _ (List.mem_append_left _ (List.mem_append_left _ (List.mem_append_left _ (List.mem_append_left _ (List.mem_append_left _ (List.mem_append_left _ (List.mem_append_right _ (List.mem_append_right _ (List.mem_append_right _ (List.mem_append_right _ (List.mem_append_right _ (List.mem_append_right _ (List.mem_append_right _ (List.mem_append_right _ (List.mem_append_right _ (List.mem_append_right _ (List.mem_append_right _ (List.mem_append_right _ (List.mem_append_right _ (List.mem_append_right _ (List.mem_append_right _ (List.mem_append_left _ h))))))))))))))))))))))))))))
theorem u_r17 (w : Cond) (h : w ∈ wsL_law_r17) : w ∈ wsL_law := List.mem_append_left _ (List.mem_append_left _ (List.mem_append_left _ (List.mem_append_left _ (List.mem_append_left _ (List.mem_append_left _ (List.mem_append_left _ (List.mem_append_left _ (List.mem_append_left _ (List.mem_append_left _ (List.mem_append_left _ (List.mem_append_left _ (List.mem_append_left _ (List.mem_append_right _ (List.mem_append_right _ (List.mem_append_right _ (List.mem_append_right _ (List.mem_append_right _ (List.mem_append_right _ (List.mem_append_right _ (List.mem_append_right _ (List.mem_append_right _ (List.mem_append_right _ (List.mem_append_right _ (List.mem_append_right _ (List.mem_append_right _ (List.mem_append_right _ (List.mem_append_right _ (List.mem_append_right _ (List.mem_append_left _ h)))))))))))))))))))))))))))))
theorem u_r18 (w : Cond) (h : w ∈ wsL_law_r18) : w ∈ wsL_law := List.mem_append_left _ (List.mem_append_left _ (List.mem_append_left _ (List.mem_append_left _ (List.mem_append_left _ (List.mem_append_left _ (List.mem_append_left _ (List.mem_append_left _ (List.mem_append_left _ (List.mem_append_left _ (List.mem_append_left _ (List.mem_append_left _ (List.mem_append_left _ (List.mem_append_right _ (List.mem_append_right _ (List.mem_append_right _ (List.mem_append_right _ (List.mem_append_right _ (List.mem_append_right _ (List.mem_append_right _ (List.mem_append_right _ (List.mem_append_right _ (List.mem_append_right _ (List.mem_append_right _ (List.mem_append_right _ (List.mem_append_right _ (List.mem_append_right _ (List.mem_append_right _ (List.mem_append_right _ (List.mem_append_right _ (List.mem_append_left _ h))))))))))))))))))))))))))))))
theorem u_r19 (w : Cond) (h : w ∈ wsL_law_r19) : w ∈ wsL_law := List.mem_append_left _ (List.mem_append_left _ (List.mem_append_left _ (List.mem_append_left _ (List.mem_append_left _ (List.mem_append_left _ (List.mem_append_left _ (List.mem_append_left _ (List.mem_append_left _ (List.mem_append_left _ (List.mem_append_left _ (List.mem_append_left _ (List.mem_append_left _ (List.mem_append_right _ (List.mem_append_right _ (List.mem_append_right _ (List.mem_append_right _ (List.mem_append_right _ (List.mem_append_right _ (List.mem_append_right _ (List.mem_append_right _ (List.mem_append_right _ (List.mem_append_right _ (List.mem_append_right _ (List.mem_append_right _ (List.mem_append_right _ (List.mem_append_right _ (List.mem_append_right _ (List.mem_append_right _ (List.mem_append_right _ (List.mem_append_right _ (List.mem_append_left _ h)))))))))))))))))))))))))))))))
theorem u_r20 (w : Cond) (h : w ∈ wsL_law_r20) : w ∈ wsL_law := List.mem_append_left _ (List.mem_append_left _ (List.mem_append_left _ (List.mem_append_left _ (List.mem_append_left _ (List.mem_append_left _ (List.mem_append_left _ (List.mem_append_left _ (List.mem_append_left _ (List.mem_append_left _ (List.mem_append_left _ (List.mem_append_left _ (List.mem_append_left _ (List.mem_append_right _ (List.mem_append_right _ (List.mem_append_right _ (List.mem_append_right _ (List.mem_append_right _ (List.mem_append_right _ (List.mem_append_right _ (List.mem_append_right _ (List.mem_append_right _ (List.mem_append_right _ (List.mem_append_right _ (List.mem_append_right _ (List.mem_append_right _ (List.mem_append_right _ (List.mem_append_right _ (List.mem_append_right _ (List.mem_append_right _ (List.mem_append_right _ (List.mem_append_right _ (List.mem_append_left _ h))))))))))))))))))))))))))))))))
theorem u_r21 (w : Cond) (h : w ∈ wsL_law_r21) : w ∈ wsL_law := List.mem_append_left _ (List.mem_append_left _ (List.mem_append_left _ (List.mem_append_left _ (List.mem_append_left _ (List.mem_append_left _ (List.mem_append_left _ (List.mem_append_left _ (List.mem_append_left _ (List.mem_append_left _ (List.mem_append_left _ (List.mem_append_left _ (List.mem_append_left _ (List.mem_append_right _ (List.mem_append_right _ (List.mem_append_right _ (List.mem_append_right _ (List.mem_append_right _ (List.mem_append_right _ (List.mem_append_right _ (List.mem_append_right _ (List.mem_append_right _ (List.mem_append_right _ (List.mem_append_right _ (List.mem_append_right _ (List.mem_append_right _ (List.mem_append_right _ (List.mem_append_right _ (List.mem_append_right _ (List.mem_append_right _ (List.mem_append_right _ (List.mem_append_right _ (List.mem_append_right _ (List.mem_append_left _ h)))))))))))))))))))))))))))))))))
theorem u_r22 (w : Cond) (h : w ∈ wsL_law_r22) : w ∈ wsL_law := List.mem_append_left _ (List.mem_append_left _ (List.mem_append_left _ (List.mem_append_left _ (List.mem_append_left _ (List.mem_append_left _ (List.mem_append_left _ (List.mem_append_left _ (List.mem_append_left _ (List.mem_append_left _ (List.mem_append_left _ (List.mem_append_left _ (List.mem_append_left _ (List.mem_append_right _ (List.mem_append_right _ (List.mem_append_right _ (List.mem_append_right _ (List.mem_append_right _ (List.mem_append_right _ (List.mem_append_right _ (List.mem_append_right _ (List.mem_append_right _ (List.mem_append_right _ (List.mem_append_right _ (List.mem_append_right _ (List.mem_append_right _ (List.mem_append_right _ (List.mem_append_right _ (List.mem_append_right _ (List.mem_append_right _ (List.mem_append_right _ (List.mem_append_right _ (List.mem_append_right _ (List.mem_append_right _ (List.mem_append_left _ h))))))))))))))))))))))))))))))))))
theorem u_r23 (w : Cond) (h : w ∈ wsL_law_r23) : w ∈ wsL_law := List.mem_append_left _ (List.mem_append_left _ (List.mem_append_left _ (List.mem_append_left _ (List.mem_append_left _ (List.mem_append_left _ (List.mem_append_left _ (List.mem_append_left _ (List.mem_append_left _ (List.mem_append_left _ (List.mem_append_left _ (List.mem_append_left _ (List.mem_append_left _ (List.mem_append_right _ (List.mem_append_right _ (List.mem_append_right _ (List.mem_append_right _ (List.mem_append_right _ (List.mem_append_right _ (List.mem_append_right _ (List.mem_append_right _ (List.mem_append_right _ (List.mem_append_right _ (List.mem_append_right _ (List.mem_append_right _ (List.mem_append_right _ (List.mem_append_right _ (List.mem_append_right _ (List.mem_append_right _ (List.mem_append_right _ (List.mem_append_right _ (List.mem_append_right _ (List.mem_append_right _ (List.mem_append_right _ (List.mem_append_right _ (List.mem_append_left _ h)))))))))))))))))))))))))))))))))))
theorem u_r24 (w : Cond) (h : w ∈ wsL_law_r24) : w ∈ wsL_law := List.mem_append_left _ (List.mem_append_left _ (List.mem_append_left _ (List.mem_append_left _ (List.mem_append_left _ (List.mem_append_left _ (List.mem_append_left _ (List.mem_append_left _ (List.mem_append_left _ (List.mem_append_left _ (List.mem_append_left _ (List.mem_append_left _ (List.mem_append_left _ (List.mem_append_right _ (List.mem_append_right _ (List.mem_append_right _ (List.mem_append_right _ (List.mem_append_right _ (List.mem_append_right _ (List.mem_append_right _ (List.mem_append_right _ (List.mem_append_right _ (List.mem_append_right _ (List.mem_append_right _ (List.mem_append_right _ (List.mem_append_right _ (List.mem_append_right _ (List.mem_append_right _ (List.mem_append_right _ (List.mem_append_right _ (List.mem_append_right _ (List.mem_append_right _ (List.mem_append_right _ (List.mem_append_right _ (List.mem_append_right _ (List.mem_append_right _ (List.mem_append_left _ h))))))))))))))))))))))))))))))))))))
theorem u_r25 (w : Cond) (h : w ∈ wsL_law_r25) : w ∈ wsL_law := List.mem_append_left _ (List.mem_append_left _ (List.mem_append_left _ (List.mem_append_left _ (List.mem_append_left _ (List.mem_append_left _ (List.mem_append_left _ (List.mem_append_left _ (List.mem_append_left _ (List.mem_append_left _ (List.mem_append_left _ (List.mem_append_left _ (List.mem_append_left _ (List.mem_append_right _ (List.mem_append_right _ (List.mem_append_right _ (List.mem_append_right _ (List.mem_append_right _ (List.mem_append_right _ (List.mem_append_right _ (List.mem_append_right _ (List.mem_append_right _ (List.mem_append_right _ (List.mem_append_right _ (List.mem_append_right _ (List.mem_append_right _ (List.mem_append_right _ (List.mem_append_right _ (List.mem_append_right _ (List.mem_append_right _ (List.mem_append_right _ (List.mem_append_right _ (List.mem_append_right _ (List.mem_append_right _ (List.mem_append_right _ (List.mem_append_right _ (List.mem_append_right _ (List.mem_append_left _ h)))))))))))))))))))))))))))))))))))))
theorem u_r26 (w : Cond) (h : w ∈ wsL_law_r26) : w ∈ wsL_law := List.mem_append_left _ (List.mem_append_left _ (List.mem_append_left _ (List.mem_append_left _ (List.mem_append_left _ (List.mem_append_left _ (List.mem_append_left _ (List.mem_append_left _ (List.mem_append_left _ (List.mem_append_left _ (List.mem_append_left _ (List.mem_append_left _ (List.mem_append_left _ (List.mem_append_right _ (List.mem_append_right _ (List.mem_append_right _ (List.mem_append_right _ (List.mem_append_right _ (List.mem_append_right _ (List.mem_append_right _ (List.mem_append_right _ (List.mem_append_right _ (List.mem_append_right _ (List.mem_append_right _ (List.mem_append_right _ (List.mem_append_right _ (List.mem_append_right _ (List.mem_append_right _ (List.mem_append_right _ (List.mem_append_right _ (List.mem_append_right _ (List.mem_append_right _ (List.mem_append_right _ (List.mem_append_right _ (List.mem_append_right _ (List.mem_append_right _ (List.mem_append_right _ (List.mem_append_right _ (List.mem_append_left _ h))))))))))))))))))))))))))))))))))))))
theorem u_r27 (w : Cond) (h : w ∈ wsL_law_r27) : w ∈ wsL_law := List.mem_append_left _ (List.mem_append_left _ (List.mem_append_left _ (List.mem_append_left _ (List.mem_append_left _ (List.mem_append_left _ (List.mem_append_left _ (List.mem_append_left _ (List.mem_append_left _ (List.mem_append_left _ (List.mem_append_left _ (List.mem_append_left _ (List.mem_append_left _ (List.mem_append_right _ (List.mem_append_right _ (List.mem_append_right _ (List.mem_append_right _ (List.mem_append_right _ (List.mem_append_right _ (List.mem_append_right _ (List.mem_append_right _ (List.mem_append_right _ (List.mem_append_right _ (List.mem_append_right _ (List.mem_append_right _ (List.mem_append_right _ (List.mem_append_right _ (List.mem_append_right _ (List.mem_append_right _ (List.mem_append_right _ (List.mem_append_right _ (List.mem_append_right _ (List.mem_append_right _ (List.mem_append_right _ (List.mem_append_right _ (List.mem_append_right _ (List.mem_append_right _ (List.mem_append_right _ (List.mem_append_right _ (List.mem_append_left _ h)))))))))))))))))))))))))))))))))))))))
theorem u_r28 (w : Cond) (h : w ∈ wsL_law_r28) : w ∈ wsL_law := List.mem_append_left _ (List.mem_append_left _ (List.mem_append_left _ (List.mem_append_left _ (List.mem_append_left _ (List.mem_append_left _ (List.mem_append_left _ (List.mem_append_left _ (List.mem_append_left _ (List.mem_append_left _ (List.mem_append_left _ (List.mem_append_left _ (List.mem_append_left _ (List.mem_append_right _ (List.mem_append_right _ (List.mem_append_right _ (List.mem_append_right _ (List.mem_append_right _ (List.mem_append_right _ (List.mem_append_right _ (List.mem_append_right _ (List.mem_append_right _ (List.mem_append_right _ (List.mem_append_right _ (List.mem_append_right _ (List.mem_append_right _ (List.mem_append_right _ (List.mem_append_right _ (List.mem_append_right _ (List.mem_append_right _ (List.mem_append_right _ (List.mem_append_right _ (List.mem_append_right _ (List.mem_append_right _ (List.mem_append_right _ (List.mem_append_right _ (List.mem_append_right _ (List.mem_append_right _ (List.mem_append_right _ (List.mem_append_right _ (List.mem_append_left _ h))))))))))))))))))))))))))))))))))))))))
theorem u_r29 (w : Cond) (h : w ∈ wsL_law_r29) : w ∈ wsL_law := List.mem_append_left _ (List.mem_append_left _ (List.mem_append_left _ (List.mem_append_left _ (List.mem_append_left _ (List.mem_append_left _ (List.mem_append_left _ (List.mem_append_left _ (List.mem_append_left _ (List.mem_append_left _ (List.mem_append_left _ (List.mem_append_left _ (List.mem_append_left _ (List.mem_append_right _ (List.mem_append_right _ (List.mem_append_right _ (List.mem_append_right _ (List.mem_append_right _ (List.mem_append_right _ (List.mem_append_right _ (List.mem_append_right _ (List.mem_append_right _ (List.mem_append_right _ (List.mem_append_right _ (List.mem_append_right _ (List.mem_append_right _ (List.mem_append_right _ (List.mem_append_right _ (List.mem_append_right _ (List.mem_append_right _ (List.mem_append_right _ (List.mem_append_right _ (List.mem_append_right _ (List.mem_append_right _ (List.mem_append_right _ (List.mem_append_right _ (List.mem_append_right _ (List.mem_append_right _ (List.mem_append_right _ (List.mem_append_right _ (List.mem_append_right _ (List.mem_append_left _ h)))))))))))))))))))))))))))))))))))))))))
theorem u_r30 (w : Cond) (h : w ∈ wsL_law_r30) : w ∈ wsL_law := List.mem_append_left _ (List.mem_append_left _ (List.mem_append_left _ (List.mem_append_left _ (List.mem_append_left _ (List.mem_append_left _ (List.mem_append_left _ (List.mem_append_left _ (List.mem_append_left _ (List.mem_append_left _ (List.mem_append_left _ (List.mem_append_left _ (List.mem_append_left _ (List.mem_append_right _ (List.mem_append_right _ (List.mem_append_right _ (List.mem_append_right _ (List.mem_append_right _ (List.mem_append_right _ (List.mem_append_right _ (List.mem_append_right _ (List.mem_append_right _ (List.mem_append_right _ (List.mem_append_right _ (List.mem_append_right _ (List.mem_append_right _ (List.mem_append_right _ (List.mem_append_right _ (List.mem_append_right _ (List.mem_append_right _ (List.mem_append_right _ (List.mem_append_right _ (List.mem_append_right _ (List.mem_append_right _ (List.mem_append_right _ (List.mem_append_right _ (List.mem_append_right _ (List.mem_append_right _ (List.mem_append_right _ (List.mem_append_right _ (List.mem_append_right _ (List.mem_append_right _ (List.mem_append_left _ h))))))))))))))))))))))))))))))))))))))))))
theorem u_r31 (w : Cond) (h : w ∈ wsL_law_r31) : w ∈ wsL_law := List.mem_append_left _ (List.mem_append_left _ (List.mem_append_left _ (List.mem_append_left _ (List.mem_append_left _ (List.mem_append_left _ (List.mem_append_left _ (List.mem_append_left _ (List.mem_append_left _ (List.mem_append_left _ (List.mem_append_left _ (List.mem_append_left _ (List.mem_append_left _ (List.mem_append_right _ (List.mem_append_right _ (List.mem_append_right _ (List.mem_append_right _ (List.mem_append_right _ (List.mem_append_right _ (List.mem_append_right _ (List.mem_append_right _ (List.mem_append_right _ (List.mem_append_right _ (List.mem_append_right _ (List.mem_append_right _ (List.mem_append_right _ (List.mem_append_right _ (List.mem_append_right _ (List.mem_append_right _ (List.mem_append_right _ (List.mem_append_right _ (List.mem_append_right _ (List.mem_append_right _ (List.mem_append_right _ (List.mem_append_right _ (List.mem_append_right _ (List.mem_append_right _ (List.mem_append_right _ (List.mem_append_right _ (List.mem_append_right _ (List.mem_append_right _ (List.mem_append_right _ (List.mem_append_right _ (List.mem_append_left _ h)))))))))))))))))))))))))))))))))))))))))))
theorem u_r32 (w : Cond) (h : w ∈ wsL_law_r32) : w ∈ wsL_law := List.mem_append_left _ (List.mem_append_left _ (List.mem_append_left _ (List.mem_append_left _ (List.mem_append_left _ (List.mem_append_left _ (List.mem_append_left _ (List.mem_append_left _ (List.mem_append_left _ (List.mem_append_left _ (List.mem_append_left _ (List.mem_append_left _ (List.mem_append_left _ (List.mem_append_right _ (List.mem_append_right _ (List.mem_append_right _ (List.mem_append_right _ (List.mem_append_right _ (List.mem_append_right _ (List.mem_append_right _ (List.mem_append_right _ (List.mem_append_right _ (List.mem_append_right _ (List.mem_append_right _ (List.mem_append_right _ (List.mem_append_right _ (List.mem_append_right _ (List.mem_append_right _ (List.mem_append_right _ (List.mem_append_right _ (List.mem_append_right _ (List.mem_append_right _ (List.mem_append_right _ (List.mem_append_right _ (List.mem_append_right _ (List.mem_append_right _ (List.mem_append_right _ (List.mem_append_right _ (List.mem_append_right _ (List.mem_append_right _ (List.mem_append_right _ (List.mem_append_right _ (List.mem_append_right _ (List.mem_append_right _ (List.mem_append_left _ h))))))))))))))))))))))))))))))))))))))))))))
theorem u_r33 (w : Cond) (h : w ∈ wsL_law_r33) : w ∈ wsL_law := List.mem_append_left _ (List.mem_append_left _ (List.mem_append_left _ (List.mem_append_left _ (List.mem_append_left _ (List.mem_append_left _ (List.mem_append_left _ (List.mem_append_left _ (List.mem_append_left _ (List.mem_append_left _ (List.mem_append_left _ (List.mem_append_left _ (List.mem_append_left _ (List.mem_append_right _ (List.mem_append_right _ (List.mem_append_right _ (List.mem_append_right _ (List.mem_append_right _ (List.mem_append_right _ (List.mem_append_right _ (List.mem_append_right _ (List.mem_append_right _ (List.mem_append_right _ (List.mem_append_right _ (List.mem_append_right _ (List.mem_append_right _ (List.mem_append_right _ (List.mem_append_right _ (List.mem_append_right _ (List.mem_append_right _ (List.mem_append_right _ (List.mem_append_right _ (List.mem_append_right _ (List.mem_append_right _ (List.mem_append_right _ (List.mem_append_right _ (List.mem_append_right _ (List.mem_append_right _ (List.mem_append_right _ (List.mem_append_right _ (List.mem_append_right _ (List.mem_append_right _ (List.mem_append_right _ (List.mem_append_right _ (List.mem_append_right _ (List.mem_append_left _ h)))))))))))))))))))))))))))))))))))))))))))))
theorem u_r34 (w : Cond) (h : w ∈ wsL_law_r34) : w ∈ wsL_law := List.mem_append_left _ (List.mem_append_left _ (List.mem_append_left _ (List.mem_append_left _ (List.mem_append_left _ (List.mem_append_left _ (List.mem_append_left _ (List.mem_append_left _ (List.mem_append_left _ (List.mem_append_left _ (List.mem_append_left _ (List.mem_append_left _ (List.mem_append_left _ (List.mem_append_right _ (List.mem_append_right _ (List.mem_append_right _ (List.mem_append_right _ (List.mem_append_right _ (List.mem_append_right _ (List.mem_append_right _ (List.mem_append_right _ (List.mem_append_right _ (List.mem_append_right _ (List.mem_append_right _ (List.mem_append_right _ (List.mem_append_right _ (List.mem_append_right _ (List.mem_append_right _ (List.mem_append_right _ (List.mem_append_right _ (List.mem_append_right _ (List.mem_append_right _ (List.mem_append_right _ (List.mem_append_right _ (List.mem_append_right _ (List.mem_append_right _ (List.mem_append_right _ (List.mem_append_right _ (List.mem_append_right _ (List.mem_append_right _ (List.mem_append_right _ (List.mem_append_right _ (List.mem_append_right _ (List.mem_append_right _ (List.mem_append_right _ (List.mem_append_right _ (List.mem_append_left _ h))))))))))))))))))))))))))))))))))))))))))))))
theorem u_r35 (w : Cond) (h : w ∈ wsL_law_r35) : w ∈ wsL_law := List.mem_append_left _ (List.mem_append_left _ (List.mem_append_left _ (List.mem_append_left _ (List.mem_append_left _ (List.mem_append_left _ (List.mem_append_left _ (List.mem_append_left _ (List.mem_append_left _ (List.mem_append_left _ (List.mem_append_left _ (List.mem_append_left _ (List.mem_append_left _ (List.mem_append_right _ (List.mem_append_right _ (List.mem_append_right _ (List.mem_append_right _ (List.mem_append_right _ (List.mem_append_right _ (List.mem_append_right _ (List.mem_append_right _ (List.mem_append_right _ (List.mem_append_right _ (List.mem_append_right _ (List.mem_append_right _ (List.mem_append_right _ (List.mem_append_right _ (List.mem_append_right _ (List.mem_append_right _ (List.mem_append_right _ (List.mem_append_right _ (List.mem_append_right _ (List.mem_append_right _ (List.mem_append_right _ (List.mem_append_right _ (List.mem_append_right _ (List.mem_append_right _ (List.mem_append_right _ (List.mem_append_right _ (List.mem_append_right _ (List.mem_append_right _ (List.mem_append_right _ (List.mem_append_right _ (List.mem_append_right _ (List.mem_append_right _ (List.mem_append_right _ (List.mem_append_right _ (List.mem_append_left _ h)))))))))))))))))))))))))))))))))))))))))))))))
theorem u_r36 (w : Cond) (h : w ∈ wsL_law_r36) : w ∈ wsL_law := List.mem_append_left _ (List.mem_append_left _ (List.mem_append_left _ (List.mem_append_left _ (List.mem_append_left _ (List.mem_append_left _ (List.mem_append_left _ (List.mem_append_left _ (List.mem_append_left _ (List.mem_append_left _ (List.mem_append_left _ (List.mem_append_left _ (List.mem_append_left _ (List.mem_append_right _ (List.mem_append_right _ (List.mem_append_right _ (List.mem_append_right _ (List.mem_append_right _ (List.mem_append_right _ (List.mem_append_right _ (List.mem_append_right _ (List.mem_append_right _ (List.mem_append_right _ (List.mem_append_right _ (List.mem_append_right _ (List.mem_append_right _ (List.mem_append_right _ (List.mem_append_right _ (List.mem_append_right _ (List.mem_append_right _ (List.mem_append_right _ (List.mem_append_right _ (List.mem_append_right _ (List.mem_append_right _ (List.mem_append_right _ (List.mem_append_right _ (List.mem_append_right _ (List.mem_append_right _ (List.mem_append_right _ (List.mem_append_right _ (List.mem_append_right _ (List.mem_append_right _ (List.mem_append_right _ (List.mem_append_right _ (List.mem_append_right _ (List.mem_append_right _ (List.mem_append_right _ (List.mem_append_right _ (List.mem_append_left _ h))))))))))))))))))))))))))))))))))))))))))))))))
theorem u_r37 (w : Cond) (h : w ∈ wsL_law_r37) : w ∈ wsL_law := List.mem_append_left _ (List.mem_append_left _ (List.mem_append_left _ (List.mem_append_left _ (List.mem_append_left _ (List.mem_append_left _ (List.mem_append_left _ (List.mem_append_left _ (List.mem_append_left _ (List.mem_append_left _ (List.mem_append_left _ (List.mem_append_left _ (List.mem_append_left _ (List.mem_append_right _ (List.mem_append_right _ (List.mem_append_right _ (List.mem_append_right _ (List.mem_append_right _ (List.mem_append_right _ (List.mem_append_right _ (List.mem_append_right _ (List.mem_append_right _ (List.mem_append_right _ (List.mem_append_right _ (List.mem_append_right _ (List.mem_append_right _ (List.mem_append_right _ (List.mem_append_right _ (List.mem_append_right _ (List.mem_append_right _ (List.mem_append_right _ (List.mem_append_right _ (List.mem_append_right _ (List.mem_append_right _ (List.mem_append_right _ (List.mem_append_right _ (List.mem_append_right _ (List.mem_append_right _ (List.mem_append_right _ (List.mem_append_right _ (List.mem_append_right _ (List.mem_append_right _ (List.mem_append_right _ (List.mem_append_right _ (List.mem_append_right _ (List.mem_append_right _ (List.mem_append_right _ (List.mem_append_right _ (List.mem_append_right _ (List.mem_append_left _ h)))))))))))))))))))))))))))))))))))))))))))))))))
theorem u_r38 (w : Cond) (h : w ∈ wsL_law_r38) : w ∈ wsL_law := List.mem_append_left _ (List.mem_append_left _ (List.mem_append_left _ (List.mem_append_left _ (List.mem_append_left _ (List.mem_append_left _ (List.mem_append_left _ (List.mem_append_left _ (List.mem_append_left _ (List.mem_append_left _ (List.mem_append_left _ (List.mem_append_left _ (List.mem_append_left _ (List.mem_append_right _ (List.mem_append_right _ (List.mem_append_right _ (List.mem_append_right _ (List.mem_append_right _ (List.mem_append_right _ (List.mem_append_right _ (List.mem_append_right _ (List.mem_append_right _ (List.mem_append_right _ (List.mem_append_right _ (List.mem_append_right _ (List.mem_append_right _ (List.mem_append_right _ (List.mem_append_right _ (List.mem_append_right _ (List.mem_append_right _ (List.mem_append_right _ (List.mem_append_right _ (List.mem_append_right _ (List.mem_append_right _ (List.mem_append_right _ (List.mem_append_right _ (List.mem_append_right _ (List.mem_append_right _ (List.mem_append_right _ (List.mem_append_right _ (List.mem_append_right _ (List.mem_append_right _ (List.mem_append_right _ (List.mem_append_right _ (List.mem_append_right _ (List.mem_append_right _ (List.mem_append_right _ (List.mem_append_right _ (List.mem_append_right _ (List.mem_append_right _ (List.mem_append_left _ h))))))))))))))))))))))))))))))))))))))))))))))))))
theorem u_r39 (w : Cond) (h : w ∈ wsL_law_r39) : w ∈ wsL_law := List.mem_append_left _ (List.mem_append_left _ (List.mem_append_left _ (List.mem_append_left _ (List.mem_append_left _ (List.mem_append_left _ (List.mem_append_left _ (List.mem_append_left _ (List.mem_append_left _ (List.mem_append_left _ (List.mem_append_left _ (List.mem_append_left _ (List.mem_append_left _ (List.mem_append_right _ (List.mem_append_right _ (List.mem_append_right _ (List.mem_append_right _ (List.mem_append_right _ (List.mem_append_right _ (List.mem_append_right _ (List.mem_append_right _ (List.mem_append_right _ (List.mem_append_right _ (List.mem_append_right _ (List.mem_append_right _ (List.mem_append_right _ (List.mem_append_right _ (List.mem_append_right _ (List.mem_append_right _ (List.mem_append_right _ (List.mem_append_right _ (List.mem_append_right _ (List.mem_append_right _ (List.mem_append_right _ (List.mem_append_right _ (List.mem_append_right _ (List.mem_append_right _ (List.mem_append_right _ (List.mem_append_right _ (List.mem_append_right _ (List.mem_append_right _ (List.mem_append_right _ (List.mem_append_right _ (List.mem_append_right _ (List.mem_append_right _ (List.mem_append_right _ (List.mem_append_right _ (List.mem_append_right _ (List.mem_append_right _ (List.mem_append_right _ (List.mem_append_right _ (List.mem_append_left _ h)))))))))))))))))))))))))))))))))))))))))))))))))))
theorem u_r40 (w : Cond) (h : w ∈ wsL_law_r40) : w ∈ wsL_law := List.mem_append_left _ (List.mem_append_left _ (List.mem_append_left _ (List.mem_append_left _ (List.mem_append_left _ (List.mem_append_left _ (List.mem_append_left _ (List.mem_append_left _ (List.mem_append_left _ (List.mem_append_left _ (List.mem_append_left _ (List.mem_append_left _ (List.mem_append_left _ (List.mem_append_right _ (List.mem_append_right _ (List.mem_append_right _ (List.mem_append_right _ (List.mem_append_right _ (List.mem_append_right _ (List.mem_append_right _ (List.mem_append_right _ (List.mem_append_right _ (List.mem_append_right _ (List.mem_append_right _ (List.mem_append_right _ (List.mem_append_right _ (List.mem_append_right _ (List.mem_append_right _ (List.mem_append_right _ (List.mem_append_right _ (List.mem_append_right _ (List.mem_append_right _ (List.mem_append_right _ (List.mem_append_right _ (List.mem_append_right _ (List.mem_append_right _ (List.mem_append_right _ (List.mem_append_right _ (List.mem_append_right _ (List.mem_append_right _ (List.mem_append_right _ (List.mem_append_right _ (List.mem_append_right _ (List.mem_append_right _ (List.mem_append_right _ (List.mem_append_right _ (List.mem_append_right _ (List.mem_append_right _ (List.mem_append_right _ (List.mem_append_right _ (List.mem_append_right _ (List.mem_append_right _ (List.mem_append_left _ h))))))))))))))))))))))))))))))))))))))))))))))))))))
theorem u_r41 (w : Cond) (h : w ∈ wsL_law_r41) : w ∈ wsL_law := List.mem_append_left _ (List.mem_append_left _ (List.mem_append_left _ (List.mem_append_left _ (List.mem_append_left _ (List.mem_append_left _ (List.mem_append_left _ (List.mem_append_left _ (List.mem_append_left _ (List.mem_append_left _ (List.mem_append_left _ (List.mem_append_left _ (List.mem_append_left _ (List.mem_append_right _ (List.mem_append_right _ (List.mem_append_right _ (List.mem_append_right _ (List.mem_append_right _ (List.mem_append_right _ (List.mem_append_right _ (List.mem_append_right _ (List.mem_append_right _ (List.mem_append_right _ (List.mem_append_right _ (List.mem_append_right _ (List.mem_append_right _ (List.mem_append_right _ (List.mem_append_right _ (List.mem_append_right _ (List.mem_append_right _ (List.mem_append_right _ (List.mem_append_right _ (List.mem_append_right _ (List.mem_append_right _ (List.mem_append_right _ (List.mem_append_right _ (List.mem_append_right _ (List.mem_append_right _ (List.mem_append_right _ (List.mem_append_right _ (List.mem_append_right _ (List.mem_append_right _ (List.mem_append_right _ (List.mem_append_right _ (List.mem_append_right _ (List.mem_append_right _ (List.mem_append_right _ (List.mem_append_right _ (List.mem_append_right _ (List.mem_append_right _ (List.mem_append_right _ (List.mem_append_right _ (List.mem_append_right _ (List.mem_append_left _ h)))))))))))))))))))))))))))))))))))))))))))))))))))))
theorem u_r42 (w : Cond) (h : w ∈ wsL_law_r42) : w ∈ wsL_law := List.mem_append_left _ (List.mem_append_left _ (List.mem_append_left _ (List.mem_append_left _ (List.mem_append_left _ (List.mem_append_left _ (List.mem_append_left _ (List.mem_append_left _ (List.mem_append_left _ (List.mem_append_left _ (List.mem_append_left _ (List.mem_append_left _ (List.mem_append_left _ (List.mem_append_right _ (List.mem_append_right _ (List.mem_append_right _ (List.mem_append_right _ (List.mem_append_right _ (List.mem_append_right _ (List.mem_append_right _ (List.mem_append_right _ (List.mem_append_right _ (List.mem_append_right _ (List.mem_append_right _ (List.mem_append_right _ (List.mem_append_right _ (List.mem_append_right _ (List.mem_append_right _ (List.mem_append_right _ (List.mem_append_right _ (List.mem_append_right _ (List.mem_append_right _ (List.mem_append_right _ (List.mem_append_right _ (List.mem_append_right _ (List.mem_append_right _ (List.mem_append_right _ (List.mem_append_right _ (List.mem_append_right _ (List.mem_append_right _ (List.mem_append_right _ (List.mem_append_right _ (List.mem_append_right _ (List.mem_append_right _ (List.mem_append_right _ (List.mem_append_right _ (List.mem_append_right _ (List.mem_append_right _ (List.mem_append_right _ (List.mem_append_right _ (List.mem_append_right _ (List.mem_append_right _ (List.mem_append_right _ (List.mem_append_right _ h)))))))))))))))))))))))))))))))))))))))))))))))))))))
theorem ur_int : Cond.arrayClass .int ∈ wsL_law := u_r1 _ (List.mem_of_getElem? (i := 0) rfl)
theorem uk_L_174 : Cond.constant RL 174 (2147483647) ∈ wsL_law := u_r1 _ (List.mem_of_getElem? (i := 1) rfl)
theorem ul_L_18 : Cond.classLink RL 18 RX9 ∈ wsL_law := u_r1 _ (List.mem_of_getElem? (i := 2) rfl)
theorem ua_X9 : Cond.instantiable RX9 8 ∈ wsL_law := u_r1 _ (List.mem_of_getElem? (i := 3) rfl)
theorem un_X9 : Cond.initialized RX9 ∈ wsL_law := u_r1 _ (List.mem_of_getElem? (i := 4) rfl)
theorem um_L_175 : Cond.methodLink RL 175 yX9_init ∈ wsL_law := u_r1 _ (List.mem_of_getElem? (i := 5) rfl)
theorem ui_X9_init : Cond.instanceMethod yX9_init ∈ wsL_law := u_r1 _ (List.mem_of_getElem? (i := 6) rfl)
theorem uc_X9_init : Cond.code yX9_init cX9_init 1 none ∈ wsL_law := u_r1 _ (List.mem_of_getElem? (i := 7) rfl)
theorem um_X9_1 : Cond.methodLink RX9 1 objectInit ∈ wsL_law := u_r1 _ (List.mem_of_getElem? (i := 8) rfl)
theorem ui_Jobj : Cond.instanceMethod objectInit ∈ wsL_law := u_r1 _ (List.mem_of_getElem? (i := 9) rfl)
theorem uc_Jobj : Cond.code objectInit ⟨#[0xb1]⟩ 1 none ∈ wsL_law := u_r1 _ (List.mem_of_getElem? (i := 10) rfl)
theorem ul_X9_7 : Cond.classLink RX9 7 RX6 ∈ wsL_law := u_r1 _ (List.mem_of_getElem? (i := 11) rfl)
theorem ua_X6 : Cond.instantiable RX6 7 ∈ wsL_law := u_r1 _ (List.mem_of_getElem? (i := 12) rfl)
theorem un_X6 : Cond.initialized RX6 ∈ wsL_law := u_r1 _ (List.mem_of_getElem? (i := 13) rfl)
theorem uf_X9_10 : Cond.fieldLink RX9 10 "RingOffices" "now" "LRingOffices$State;" ∈ wsL_law := u_r1 _ (List.mem_of_getElem? (i := 14) rfl)
theorem ul_X9_16 : Cond.classLink RX9 16 RX0 ∈ wsL_law := u_r1 _ (List.mem_of_getElem? (i := 15) rfl)
theorem ua_X0 : Cond.instantiable RX0 3 ∈ wsL_law := u_r1 _ (List.mem_of_getElem? (i := 16) rfl)
theorem un_X0 : Cond.initialized RX0 ∈ wsL_law := u_r1 _ (List.mem_of_getElem? (i := 17) rfl)
theorem uf_X9_19 : Cond.fieldLink RX9 19 "RingOffices" "history" "LRingOffices$History;" ∈ wsL_law := u_r1 _ (List.mem_of_getElem? (i := 18) rfl)
theorem ul_X9_23 : Cond.classLink RX9 23 RX5 ∈ wsL_law := u_r1 _ (List.mem_of_getElem? (i := 19) rfl)
theorem ua_X5 : Cond.instantiable RX5 2 ∈ wsL_law := u_r1 _ (List.mem_of_getElem? (i := 20) rfl)
theorem un_X5 : Cond.initialized RX5 ∈ wsL_law := u_r1 _ (List.mem_of_getElem? (i := 21) rfl)
theorem uf_X9_26 : Cond.fieldLink RX9 26 "RingOffices" "slots" "LRingOffices$Slots;" ∈ wsL_law := u_r1 _ (List.mem_of_getElem? (i := 22) rfl)
theorem ul_X9_30 : Cond.classLink RX9 30 RX4 ∈ wsL_law := u_r1 _ (List.mem_of_getElem? (i := 23) rfl)
theorem ua_X4 : Cond.instantiable RX4 3 ∈ wsL_law := u_r2 _ (List.mem_of_getElem? (i := 0) rfl)
theorem un_X4 : Cond.initialized RX4 ∈ wsL_law := u_r2 _ (List.mem_of_getElem? (i := 1) rfl)
theorem uf_X9_33 : Cond.fieldLink RX9 33 "RingOffices" "parser" "LRingOffices$SetupParser;" ∈ wsL_law := u_r2 _ (List.mem_of_getElem? (i := 2) rfl)
theorem uf_X9_37 : Cond.fieldLink RX9 37 "RingOffices$SetupParser" "scanner" "LRingOffices$Scanner;" ∈ wsL_law := u_r2 _ (List.mem_of_getElem? (i := 3) rfl)
theorem uf_X9_41 : Cond.fieldLink RX9 41 "RingOffices$Scanner" "text" "LRingOffices$Text;" ∈ wsL_law := u_r2 _ (List.mem_of_getElem? (i := 4) rfl)
theorem uf_X9_47 : Cond.fieldLink RX9 47 "RingOffices" "tape" "LRingOffices$Text;" ∈ wsL_law := u_r2 _ (List.mem_of_getElem? (i := 5) rfl)
theorem uf_X9_50 : Cond.fieldLink RX9 50 "RingOffices$SetupParser" "draft" "LRingOffices$State;" ∈ wsL_law := u_r2 _ (List.mem_of_getElem? (i := 6) rfl)
theorem uf_X9_53 : Cond.fieldLink RX9 53 "RingOffices" "scratch" "LRingOffices$State;" ∈ wsL_law := u_r2 _ (List.mem_of_getElem? (i := 7) rfl)
theorem ul_X9_56 : Cond.classLink RX9 56 RX7 ∈ wsL_law := u_r2 _ (List.mem_of_getElem? (i := 8) rfl)
theorem ua_X7 : Cond.instantiable RX7 2 ∈ wsL_law := u_r2 _ (List.mem_of_getElem? (i := 9) rfl)
theorem un_X7 : Cond.initialized RX7 ∈ wsL_law := u_r2 _ (List.mem_of_getElem? (i := 10) rfl)
theorem uf_X9_61 : Cond.fieldLink RX9 61 "RingOffices" "page" "LRingOffices$Text;" ∈ wsL_law := u_r2 _ (List.mem_of_getElem? (i := 11) rfl)
theorem uf_X9_64 : Cond.fieldLink RX9 64 "RingOffices" "errorAt" "I" ∈ wsL_law := u_r2 _ (List.mem_of_getElem? (i := 12) rfl)
theorem ui_X6_init : Cond.instanceMethod yX6_init ∈ wsL_law := u_r2 _ (List.mem_of_getElem? (i := 13) rfl)
theorem uc_X6_init : Cond.code yX6_init cX6_init 1 none ∈ wsL_law := u_r2 _ (List.mem_of_getElem? (i := 14) rfl)
theorem um_X6_3 : Cond.methodLink RX6 3 objectInit ∈ wsL_law := u_r2 _ (List.mem_of_getElem? (i := 15) rfl)
theorem uf_X6_9 : Cond.fieldLink RX6 9 "RingOffices$State" "rules" "[I" ∈ wsL_law := u_r2 _ (List.mem_of_getElem? (i := 16) rfl)
theorem uf_X6_15 : Cond.fieldLink RX6 15 "RingOffices$State" "counts" "[I" ∈ wsL_law := u_r2 _ (List.mem_of_getElem? (i := 17) rfl)
theorem ul_X6_18 : Cond.classLink RX6 18 RX2 ∈ wsL_law := u_r2 _ (List.mem_of_getElem? (i := 18) rfl)
theorem ua_X2 : Cond.instantiable RX2 9 ∈ wsL_law := u_r2 _ (List.mem_of_getElem? (i := 19) rfl)
theorem un_X2 : Cond.initialized RX2 ∈ wsL_law := u_r2 _ (List.mem_of_getElem? (i := 20) rfl)
theorem uf_X6_21 : Cond.fieldLink RX6 21 "RingOffices$State" "offices" "LRingOffices$Offices;" ∈ wsL_law := u_r2 _ (List.mem_of_getElem? (i := 21) rfl)
theorem ul_X6_25 : Cond.classLink RX6 25 RX8 ∈ wsL_law := u_r2 _ (List.mem_of_getElem? (i := 22) rfl)
theorem ua_X8 : Cond.instantiable RX8 7 ∈ wsL_law := u_r2 _ (List.mem_of_getElem? (i := 23) rfl)
theorem un_X8 : Cond.initialized RX8 ∈ wsL_law := u_r3 _ (List.mem_of_getElem? (i := 0) rfl)
theorem uf_X6_28 : Cond.fieldLink RX6 28 "RingOffices$State" "tokens" "LRingOffices$Tokens;" ∈ wsL_law := u_r3 _ (List.mem_of_getElem? (i := 1) rfl)
theorem ul_X6_32 : Cond.classLink RX6 32 RX1 ∈ wsL_law := u_r3 _ (List.mem_of_getElem? (i := 2) rfl)
theorem ua_X1 : Cond.instantiable RX1 5 ∈ wsL_law := u_r3 _ (List.mem_of_getElem? (i := 3) rfl)
theorem un_X1 : Cond.initialized RX1 ∈ wsL_law := u_r3 _ (List.mem_of_getElem? (i := 4) rfl)
theorem uf_X6_35 : Cond.fieldLink RX6 35 "RingOffices$State" "log" "LRingOffices$Log;" ∈ wsL_law := u_r3 _ (List.mem_of_getElem? (i := 5) rfl)
theorem ui_X2_init : Cond.instanceMethod yX2_init ∈ wsL_law := u_r3 _ (List.mem_of_getElem? (i := 6) rfl)
theorem uc_X2_init : Cond.code yX2_init cX2_init 1 none ∈ wsL_law := u_r3 _ (List.mem_of_getElem? (i := 7) rfl)
theorem um_X2_3 : Cond.methodLink RX2 3 objectInit ∈ wsL_law := u_r3 _ (List.mem_of_getElem? (i := 8) rfl)
theorem uf_X2_9 : Cond.fieldLink RX2 9 "RingOffices$Offices" "way" "[I" ∈ wsL_law := u_r3 _ (List.mem_of_getElem? (i := 9) rfl)
theorem uf_X2_15 : Cond.fieldLink RX2 15 "RingOffices$Offices" "name" "[I" ∈ wsL_law := u_r3 _ (List.mem_of_getElem? (i := 10) rfl)
theorem uf_X2_18 : Cond.fieldLink RX2 18 "RingOffices$Offices" "open" "[I" ∈ wsL_law := u_r3 _ (List.mem_of_getElem? (i := 11) rfl)
theorem uf_X2_21 : Cond.fieldLink RX2 21 "RingOffices$Offices" "spokenToday" "[I" ∈ wsL_law := u_r3 _ (List.mem_of_getElem? (i := 12) rfl)
theorem uf_X2_24 : Cond.fieldLink RX2 24 "RingOffices$Offices" "readTo" "[I" ∈ wsL_law := u_r3 _ (List.mem_of_getElem? (i := 13) rfl)
theorem uf_X2_27 : Cond.fieldLink RX2 27 "RingOffices$Offices" "waiting" "[I" ∈ wsL_law := u_r3 _ (List.mem_of_getElem? (i := 14) rfl)
theorem uf_X2_30 : Cond.fieldLink RX2 30 "RingOffices$Offices" "letterTo" "[I" ∈ wsL_law := u_r3 _ (List.mem_of_getElem? (i := 15) rfl)
theorem uf_X2_33 : Cond.fieldLink RX2 33 "RingOffices$Offices" "letterLength" "[I" ∈ wsL_law := u_r3 _ (List.mem_of_getElem? (i := 16) rfl)
theorem ui_X8_init : Cond.instanceMethod yX8_init ∈ wsL_law := u_r3 _ (List.mem_of_getElem? (i := 17) rfl)
theorem uc_X8_init : Cond.code yX8_init cX8_init 1 none ∈ wsL_law := u_r3 _ (List.mem_of_getElem? (i := 18) rfl)
theorem um_X8_3 : Cond.methodLink RX8 3 objectInit ∈ wsL_law := u_r3 _ (List.mem_of_getElem? (i := 19) rfl)
theorem uf_X8_9 : Cond.fieldLink RX8 9 "RingOffices$Tokens" "number" "[I" ∈ wsL_law := u_r3 _ (List.mem_of_getElem? (i := 20) rfl)
theorem uf_X8_15 : Cond.fieldLink RX8 15 "RingOffices$Tokens" "place" "[I" ∈ wsL_law := u_r3 _ (List.mem_of_getElem? (i := 21) rfl)
theorem uf_X8_18 : Cond.fieldLink RX8 18 "RingOffices$Tokens" "togo" "[I" ∈ wsL_law := u_r3 _ (List.mem_of_getElem? (i := 22) rfl)
theorem uf_X8_21 : Cond.fieldLink RX8 21 "RingOffices$Tokens" "turn" "[I" ∈ wsL_law := u_r3 _ (List.mem_of_getElem? (i := 23) rfl)
theorem uf_X8_24 : Cond.fieldLink RX8 24 "RingOffices$Tokens" "left" "[I" ∈ wsL_law := u_r4 _ (List.mem_of_getElem? (i := 0) rfl)
theorem ui_X1_init : Cond.instanceMethod yX1_init ∈ wsL_law := u_r4 _ (List.mem_of_getElem? (i := 1) rfl)
theorem uc_X1_init : Cond.code yX1_init cX1_init 1 none ∈ wsL_law := u_r4 _ (List.mem_of_getElem? (i := 2) rfl)
theorem um_X1_3 : Cond.methodLink RX1 3 objectInit ∈ wsL_law := u_r4 _ (List.mem_of_getElem? (i := 3) rfl)
theorem uf_X1_9 : Cond.fieldLink RX1 9 "RingOffices$Log" "kind" "[I" ∈ wsL_law := u_r4 _ (List.mem_of_getElem? (i := 4) rfl)
theorem uf_X1_15 : Cond.fieldLink RX1 15 "RingOffices$Log" "first" "[I" ∈ wsL_law := u_r4 _ (List.mem_of_getElem? (i := 5) rfl)
theorem uf_X1_18 : Cond.fieldLink RX1 18 "RingOffices$Log" "second" "[I" ∈ wsL_law := u_r4 _ (List.mem_of_getElem? (i := 6) rfl)
theorem um_X9_18 : Cond.methodLink RX9 18 yX0_init ∈ wsL_law := u_r4 _ (List.mem_of_getElem? (i := 7) rfl)
theorem ui_X0_init : Cond.instanceMethod yX0_init ∈ wsL_law := u_r4 _ (List.mem_of_getElem? (i := 8) rfl)
theorem uc_X0_init : Cond.code yX0_init cX0_init 2 none ∈ wsL_law := u_r4 _ (List.mem_of_getElem? (i := 9) rfl)
theorem um_X0_3 : Cond.methodLink RX0 3 objectInit ∈ wsL_law := u_r4 _ (List.mem_of_getElem? (i := 10) rfl)
theorem ul_X0_9 : Cond.classLink RX0 9 RX6 ∈ wsL_law := u_r4 _ (List.mem_of_getElem? (i := 11) rfl)
theorem uf_X0_11 : Cond.fieldLink RX0 11 "RingOffices$History" "states" "[LRingOffices$State;" ∈ wsL_law := u_r4 _ (List.mem_of_getElem? (i := 12) rfl)
theorem um_X9_25 : Cond.methodLink RX9 25 yX5_init ∈ wsL_law := u_r4 _ (List.mem_of_getElem? (i := 13) rfl)
theorem ui_X5_init : Cond.instanceMethod yX5_init ∈ wsL_law := u_r4 _ (List.mem_of_getElem? (i := 14) rfl)
theorem uc_X5_init : Cond.code yX5_init cX5_init 2 none ∈ wsL_law := u_r4 _ (List.mem_of_getElem? (i := 15) rfl)
theorem um_X5_3 : Cond.methodLink RX5 3 objectInit ∈ wsL_law := u_r4 _ (List.mem_of_getElem? (i := 16) rfl)
theorem ul_X5_9 : Cond.classLink RX5 9 RX6 ∈ wsL_law := u_r4 _ (List.mem_of_getElem? (i := 17) rfl)
theorem uf_X5_11 : Cond.fieldLink RX5 11 "RingOffices$Slots" "states" "[LRingOffices$State;" ∈ wsL_law := u_r4 _ (List.mem_of_getElem? (i := 18) rfl)
theorem ur_boolean : Cond.arrayClass .boolean ∈ wsL_law := u_r4 _ (List.mem_of_getElem? (i := 19) rfl)
theorem uf_X5_17 : Cond.fieldLink RX5 17 "RingOffices$Slots" "isFull" "[Z" ∈ wsL_law := u_r4 _ (List.mem_of_getElem? (i := 20) rfl)
theorem ui_X4_init : Cond.instanceMethod yX4_init ∈ wsL_law := u_r4 _ (List.mem_of_getElem? (i := 21) rfl)
theorem uc_X4_init : Cond.code yX4_init cX4_init 1 none ∈ wsL_law := u_r4 _ (List.mem_of_getElem? (i := 22) rfl)
theorem um_X4_3 : Cond.methodLink RX4 3 objectInit ∈ wsL_law := u_r4 _ (List.mem_of_getElem? (i := 23) rfl)
theorem ul_X4_9 : Cond.classLink RX4 9 RX3 ∈ wsL_law := u_r5 _ (List.mem_of_getElem? (i := 0) rfl)
theorem ua_X3 : Cond.instantiable RX3 5 ∈ wsL_law := u_r5 _ (List.mem_of_getElem? (i := 1) rfl)
theorem un_X3 : Cond.initialized RX3 ∈ wsL_law := u_r5 _ (List.mem_of_getElem? (i := 2) rfl)
theorem uf_X4_12 : Cond.fieldLink RX4 12 "RingOffices$SetupParser" "scanner" "LRingOffices$Scanner;" ∈ wsL_law := u_r5 _ (List.mem_of_getElem? (i := 3) rfl)
theorem ul_X4_18 : Cond.classLink RX4 18 RX6 ∈ wsL_law := u_r5 _ (List.mem_of_getElem? (i := 4) rfl)
theorem uf_X4_21 : Cond.fieldLink RX4 21 "RingOffices$SetupParser" "draft" "LRingOffices$State;" ∈ wsL_law := u_r5 _ (List.mem_of_getElem? (i := 5) rfl)
theorem ui_X3_init : Cond.instanceMethod yX3_init ∈ wsL_law := u_r5 _ (List.mem_of_getElem? (i := 6) rfl)
theorem uc_X3_init : Cond.code yX3_init cX3_init 1 none ∈ wsL_law := u_r5 _ (List.mem_of_getElem? (i := 7) rfl)
theorem um_X3_3 : Cond.methodLink RX3 3 objectInit ∈ wsL_law := u_r5 _ (List.mem_of_getElem? (i := 8) rfl)
theorem ul_X3_9 : Cond.classLink RX3 9 RX7 ∈ wsL_law := u_r5 _ (List.mem_of_getElem? (i := 9) rfl)
theorem uf_X3_14 : Cond.fieldLink RX3 14 "RingOffices$Scanner" "text" "LRingOffices$Text;" ∈ wsL_law := u_r5 _ (List.mem_of_getElem? (i := 10) rfl)
theorem um_X3_11 : Cond.methodLink RX3 11 yX7_init ∈ wsL_law := u_r5 _ (List.mem_of_getElem? (i := 11) rfl)
theorem ui_X7_init : Cond.instanceMethod yX7_init ∈ wsL_law := u_r5 _ (List.mem_of_getElem? (i := 12) rfl)
theorem uc_X7_init : Cond.code yX7_init cX7_init 2 none ∈ wsL_law := u_r5 _ (List.mem_of_getElem? (i := 13) rfl)
theorem um_X7_3 : Cond.methodLink RX7 3 objectInit ∈ wsL_law := u_r5 _ (List.mem_of_getElem? (i := 14) rfl)
theorem ur_byte : Cond.arrayClass .byte ∈ wsL_law := u_r5 _ (List.mem_of_getElem? (i := 15) rfl)
theorem uf_X7_9 : Cond.fieldLink RX7 9 "RingOffices$Text" "bytes" "[B" ∈ wsL_law := u_r5 _ (List.mem_of_getElem? (i := 16) rfl)
theorem um_X9_58 : Cond.methodLink RX9 58 yX7_init ∈ wsL_law := u_r5 _ (List.mem_of_getElem? (i := 17) rfl)
theorem um_X9_68 : Cond.methodLink RX9 68 yX6_beginAsNew ∈ wsL_law := u_r5 _ (List.mem_of_getElem? (i := 18) rfl)
theorem ui_X6_beginAsNew : Cond.instanceMethod yX6_beginAsNew ∈ wsL_law := u_r5 _ (List.mem_of_getElem? (i := 19) rfl)
theorem us_X6_beginAsNew : Cond.selects RX6 yX6_beginAsNew yX6_beginAsNew ∈ wsL_law := u_r5 _ (List.mem_of_getElem? (i := 20) rfl)
theorem uc_X6_beginAsNew : Cond.code yX6_beginAsNew cX6_beginAsNew 1 none ∈ wsL_law := u_r5 _ (List.mem_of_getElem? (i := 21) rfl)
theorem ut_X9_put : Cond.static yX9_put ∈ wsL_law := u_r5 _ (List.mem_of_getElem? (i := 22) rfl)
theorem uc_X9_put : Cond.code yX9_put cX9_put 3 none ∈ wsL_law := u_r5 _ (List.mem_of_getElem? (i := 23) rfl)
theorem um_X6_64 : Cond.methodLink RX6 64 yX2_add ∈ wsL_law := u_r6 _ (List.mem_of_getElem? (i := 0) rfl)
theorem ui_X2_add : Cond.instanceMethod yX2_add ∈ wsL_law := u_r6 _ (List.mem_of_getElem? (i := 1) rfl)
theorem us_X2_add : Cond.selects RX2 yX2_add yX2_add ∈ wsL_law := u_r6 _ (List.mem_of_getElem? (i := 2) rfl)
theorem uc_X2_add : Cond.code yX2_add cX2_add 4 none ∈ wsL_law := u_r6 _ (List.mem_of_getElem? (i := 3) rfl)
theorem uf_X2_40 : Cond.fieldLink RX2 40 "RingOffices$Offices" "count" "I" ∈ wsL_law := u_r6 _ (List.mem_of_getElem? (i := 4) rfl)
theorem um_X6_68 : Cond.methodLink RX6 68 yX8_add ∈ wsL_law := u_r6 _ (List.mem_of_getElem? (i := 5) rfl)
theorem ui_X8_add : Cond.instanceMethod yX8_add ∈ wsL_law := u_r6 _ (List.mem_of_getElem? (i := 6) rfl)
theorem us_X8_add : Cond.selects RX8 yX8_add yX8_add ∈ wsL_law := u_r6 _ (List.mem_of_getElem? (i := 7) rfl)
theorem uc_X8_add : Cond.code yX8_add cX8_add 2 none ∈ wsL_law := u_r6 _ (List.mem_of_getElem? (i := 8) rfl)
theorem uf_X8_31 : Cond.fieldLink RX8 31 "RingOffices$Tokens" "count" "I" ∈ wsL_law := u_r6 _ (List.mem_of_getElem? (i := 9) rfl)
theorem uf_X8_35 : Cond.fieldLink RX8 35 "RingOffices$Tokens" "lastNumber" "I" ∈ wsL_law := u_r6 _ (List.mem_of_getElem? (i := 10) rfl)
theorem um_L_126 : Cond.methodLink RL 126 yX9_undo ∈ wsL_law := u_r6 _ (List.mem_of_getElem? (i := 11) rfl)
theorem ui_X9_undo : Cond.instanceMethod yX9_undo ∈ wsL_law := u_r6 _ (List.mem_of_getElem? (i := 12) rfl)
theorem us_X9_undo : Cond.selects RX9 yX9_undo yX9_undo ∈ wsL_law := u_r6 _ (List.mem_of_getElem? (i := 13) rfl)
theorem uc_X9_undo : Cond.code yX9_undo cX9_undo 1 (some .int) ∈ wsL_law := u_r6 _ (List.mem_of_getElem? (i := 14) rfl)
theorem uf_X9_214 : Cond.fieldLink RX9 214 "RingOffices$History" "count" "I" ∈ wsL_law := u_r6 _ (List.mem_of_getElem? (i := 15) rfl)
theorem um_X9_215 : Cond.methodLink RX9 215 yX0_takeBack ∈ wsL_law := u_r6 _ (List.mem_of_getElem? (i := 16) rfl)
theorem ui_X0_takeBack : Cond.instanceMethod yX0_takeBack ∈ wsL_law := u_r6 _ (List.mem_of_getElem? (i := 17) rfl)
theorem us_X0_takeBack : Cond.selects RX0 yX0_takeBack yX0_takeBack ∈ wsL_law := u_r6 _ (List.mem_of_getElem? (i := 18) rfl)
theorem uc_X0_takeBack : Cond.code yX0_takeBack cX0_takeBack 3 none ∈ wsL_law := u_r6 _ (List.mem_of_getElem? (i := 19) rfl)
theorem uf_X0_18 : Cond.fieldLink RX0 18 "RingOffices$History" "count" "I" ∈ wsL_law := u_r6 _ (List.mem_of_getElem? (i := 20) rfl)
theorem uf_X0_26 : Cond.fieldLink RX0 26 "RingOffices$History" "next" "I" ∈ wsL_law := u_r6 _ (List.mem_of_getElem? (i := 21) rfl)
theorem um_X0_29 : Cond.methodLink RX0 29 yX6_copyFrom ∈ wsL_law := u_r6 _ (List.mem_of_getElem? (i := 22) rfl)
theorem ui_X6_copyFrom : Cond.instanceMethod yX6_copyFrom ∈ wsL_law := u_r6 _ (List.mem_of_getElem? (i := 23) rfl)
theorem us_X6_copyFrom : Cond.selects RX6 yX6_copyFrom yX6_copyFrom ∈ wsL_law := u_r7 _ (List.mem_of_getElem? (i := 0) rfl)
theorem uc_X6_copyFrom : Cond.code yX6_copyFrom cX6_copyFrom 2 none ∈ wsL_law := u_r7 _ (List.mem_of_getElem? (i := 1) rfl)
theorem uf_X6_53 : Cond.fieldLink RX6 53 "RingOffices$State" "time" "I" ∈ wsL_law := u_r7 _ (List.mem_of_getElem? (i := 2) rfl)
theorem uf_X6_57 : Cond.fieldLink RX6 57 "RingOffices$State" "silence" "I" ∈ wsL_law := u_r7 _ (List.mem_of_getElem? (i := 3) rfl)
theorem ut_X9_copyRow : Cond.static yX9_copyRow ∈ wsL_law := u_r7 _ (List.mem_of_getElem? (i := 4) rfl)
theorem uc_X9_copyRow : Cond.code yX9_copyRow cX9_copyRow 2 none ∈ wsL_law := u_r7 _ (List.mem_of_getElem? (i := 5) rfl)
theorem um_X9_291 : Cond.methodLink RX9 291 Lib.Math.min.name ∈ wsL_law := u_r7 _ (List.mem_of_getElem? (i := 6) rfl)
theorem ut_Jmin : Cond.static Lib.Math.min.name ∈ wsL_law := u_r7 _ (List.mem_of_getElem? (i := 7) rfl)
theorem un_Math : Cond.initialized "java/lang/Math" ∈ wsL_law := u_r7 _ (List.mem_of_getElem? (i := 8) rfl)
theorem uc_Jmin : Cond.code Lib.Math.min.name Lib.Math.min.code 2 (some .int) ∈ wsL_law := u_r7 _ (List.mem_of_getElem? (i := 9) rfl)
theorem um_X9_296 : Cond.methodLink RX9 296 arraycopyName ∈ wsL_law := u_r7 _ (List.mem_of_getElem? (i := 10) rfl)
theorem uv_Jcopy : Cond.native arraycopyName ∈ wsL_law := u_r7 _ (List.mem_of_getElem? (i := 11) rfl)
theorem ut_Jcopy : Cond.static arraycopyName ∈ wsL_law := u_r7 _ (List.mem_of_getElem? (i := 12) rfl)
theorem un_System : Cond.initialized "java/lang/System" ∈ wsL_law := u_r7 _ (List.mem_of_getElem? (i := 13) rfl)
theorem um_X6_43 : Cond.methodLink RX6 43 yX2_copyFrom ∈ wsL_law := u_r7 _ (List.mem_of_getElem? (i := 14) rfl)
theorem ui_X2_copyFrom : Cond.instanceMethod yX2_copyFrom ∈ wsL_law := u_r7 _ (List.mem_of_getElem? (i := 15) rfl)
theorem us_X2_copyFrom : Cond.selects RX2 yX2_copyFrom yX2_copyFrom ∈ wsL_law := u_r7 _ (List.mem_of_getElem? (i := 16) rfl)
theorem uc_X2_copyFrom : Cond.code yX2_copyFrom cX2_copyFrom 2 none ∈ wsL_law := u_r7 _ (List.mem_of_getElem? (i := 17) rfl)
theorem um_X6_47 : Cond.methodLink RX6 47 yX8_copyFrom ∈ wsL_law := u_r7 _ (List.mem_of_getElem? (i := 18) rfl)
theorem ui_X8_copyFrom : Cond.instanceMethod yX8_copyFrom ∈ wsL_law := u_r7 _ (List.mem_of_getElem? (i := 19) rfl)
theorem us_X8_copyFrom : Cond.selects RX8 yX8_copyFrom yX8_copyFrom ∈ wsL_law := u_r7 _ (List.mem_of_getElem? (i := 20) rfl)
theorem uc_X8_copyFrom : Cond.code yX8_copyFrom cX8_copyFrom 2 none ∈ wsL_law := u_r7 _ (List.mem_of_getElem? (i := 21) rfl)
theorem um_X6_50 : Cond.methodLink RX6 50 yX1_copyFrom ∈ wsL_law := u_r7 _ (List.mem_of_getElem? (i := 22) rfl)
theorem ui_X1_copyFrom : Cond.instanceMethod yX1_copyFrom ∈ wsL_law := u_r7 _ (List.mem_of_getElem? (i := 23) rfl)
theorem us_X1_copyFrom : Cond.selects RX1 yX1_copyFrom yX1_copyFrom ∈ wsL_law := u_r8 _ (List.mem_of_getElem? (i := 0) rfl)
theorem uc_X1_copyFrom : Cond.code yX1_copyFrom cX1_copyFrom 2 none ∈ wsL_law := u_r8 _ (List.mem_of_getElem? (i := 1) rfl)
theorem uf_X1_25 : Cond.fieldLink RX1 25 "RingOffices$Log" "oldest" "I" ∈ wsL_law := u_r8 _ (List.mem_of_getElem? (i := 2) rfl)
theorem uf_X1_29 : Cond.fieldLink RX1 29 "RingOffices$Log" "count" "I" ∈ wsL_law := u_r8 _ (List.mem_of_getElem? (i := 3) rfl)
theorem um_L_73 : Cond.methodLink RL 73 yX9_value ∈ wsL_law := u_r8 _ (List.mem_of_getElem? (i := 4) rfl)
theorem ui_X9_value : Cond.instanceMethod yX9_value ∈ wsL_law := u_r8 _ (List.mem_of_getElem? (i := 5) rfl)
theorem us_X9_value : Cond.selects RX9 yX9_value yX9_value ∈ wsL_law := u_r8 _ (List.mem_of_getElem? (i := 6) rfl)
theorem uc_X9_value : Cond.code yX9_value cX9_value 2 (some .int) ∈ wsL_law := u_r8 _ (List.mem_of_getElem? (i := 7) rfl)
theorem uf_X9_203 : Cond.fieldLink RX9 203 "RingOffices$State" "rules" "[I" ∈ wsL_law := u_r8 _ (List.mem_of_getElem? (i := 8) rfl)
theorem uf_X9_121 : Cond.fieldLink RX9 121 "RingOffices$State" "counts" "[I" ∈ wsL_law := u_r8 _ (List.mem_of_getElem? (i := 9) rfl)
theorem uf_X9_180 : Cond.fieldLink RX9 180 "RingOffices$State" "time" "I" ∈ wsL_law := u_r8 _ (List.mem_of_getElem? (i := 10) rfl)
theorem uf_X9_89 : Cond.fieldLink RX9 89 "RingOffices$State" "offices" "LRingOffices$Offices;" ∈ wsL_law := u_r8 _ (List.mem_of_getElem? (i := 11) rfl)
theorem uf_X9_93 : Cond.fieldLink RX9 93 "RingOffices$Offices" "count" "I" ∈ wsL_law := u_r8 _ (List.mem_of_getElem? (i := 12) rfl)
theorem uf_X9_137 : Cond.fieldLink RX9 137 "RingOffices$State" "tokens" "LRingOffices$Tokens;" ∈ wsL_law := u_r8 _ (List.mem_of_getElem? (i := 13) rfl)
theorem uf_X9_171 : Cond.fieldLink RX9 171 "RingOffices$Tokens" "count" "I" ∈ wsL_law := u_r8 _ (List.mem_of_getElem? (i := 14) rfl)
theorem uf_X9_221 : Cond.fieldLink RX9 221 "RingOffices$State" "silence" "I" ∈ wsL_law := u_r8 _ (List.mem_of_getElem? (i := 15) rfl)
theorem uf_X9_128 : Cond.fieldLink RX9 128 "RingOffices$State" "log" "LRingOffices$Log;" ∈ wsL_law := u_r8 _ (List.mem_of_getElem? (i := 16) rfl)
theorem uf_X9_230 : Cond.fieldLink RX9 230 "RingOffices$Log" "count" "I" ∈ wsL_law := u_r8 _ (List.mem_of_getElem? (i := 17) rfl)
theorem um_X9_102 : Cond.methodLink RX9 102 yX9_isWithin ∈ wsL_law := u_r8 _ (List.mem_of_getElem? (i := 18) rfl)
theorem ut_X9_isWithin : Cond.static yX9_isWithin ∈ wsL_law := u_r8 _ (List.mem_of_getElem? (i := 19) rfl)
theorem uc_X9_isWithin : Cond.code yX9_isWithin cX9_isWithin 3 (some .boolean) ∈ wsL_law := u_r8 _ (List.mem_of_getElem? (i := 20) rfl)
theorem um_X9_110 : Cond.methodLink RX9 110 yX9_at ∈ wsL_law := u_r8 _ (List.mem_of_getElem? (i := 21) rfl)
theorem ut_X9_at : Cond.static yX9_at ∈ wsL_law := u_r8 _ (List.mem_of_getElem? (i := 22) rfl)
theorem uc_X9_at : Cond.code yX9_at cX9_at 2 (some .int) ∈ wsL_law := u_r8 _ (List.mem_of_getElem? (i := 23) rfl)
theorem um_X9_218 : Cond.methodLink RX9 218 yX2_howManyOpen ∈ wsL_law := u_r9 _ (List.mem_of_getElem? (i := 0) rfl)
theorem ui_X2_howManyOpen : Cond.instanceMethod yX2_howManyOpen ∈ wsL_law := u_r9 _ (List.mem_of_getElem? (i := 1) rfl)
theorem us_X2_howManyOpen : Cond.selects RX2 yX2_howManyOpen yX2_howManyOpen ∈ wsL_law := u_r9 _ (List.mem_of_getElem? (i := 2) rfl)
theorem uc_X2_howManyOpen : Cond.code yX2_howManyOpen cX2_howManyOpen 3 (some .int) ∈ wsL_law := u_r9 _ (List.mem_of_getElem? (i := 3) rfl)
theorem um_X9_224 : Cond.methodLink RX9 224 yX2_lettersInAll ∈ wsL_law := u_r9 _ (List.mem_of_getElem? (i := 4) rfl)
theorem ui_X2_lettersInAll : Cond.instanceMethod yX2_lettersInAll ∈ wsL_law := u_r9 _ (List.mem_of_getElem? (i := 5) rfl)
theorem us_X2_lettersInAll : Cond.selects RX2 yX2_lettersInAll yX2_lettersInAll ∈ wsL_law := u_r9 _ (List.mem_of_getElem? (i := 6) rfl)
theorem uc_X2_lettersInAll : Cond.code yX2_lettersInAll cX2_lettersInAll 3 (some .int) ∈ wsL_law := u_r9 _ (List.mem_of_getElem? (i := 7) rfl)
theorem um_X9_227 : Cond.methodLink RX9 227 yX2_lengthInAll ∈ wsL_law := u_r9 _ (List.mem_of_getElem? (i := 8) rfl)
theorem ui_X2_lengthInAll : Cond.instanceMethod yX2_lengthInAll ∈ wsL_law := u_r9 _ (List.mem_of_getElem? (i := 9) rfl)
theorem us_X2_lengthInAll : Cond.selects RX2 yX2_lengthInAll yX2_lengthInAll ∈ wsL_law := u_r9 _ (List.mem_of_getElem? (i := 10) rfl)
theorem uc_X2_lengthInAll : Cond.code yX2_lengthInAll cX2_lengthInAll 3 (some .int) ∈ wsL_law := u_r9 _ (List.mem_of_getElem? (i := 11) rfl)
theorem um_X2_63 : Cond.methodLink RX2 63 yX2_lengthInQueue ∈ wsL_law := u_r9 _ (List.mem_of_getElem? (i := 12) rfl)
theorem ui_X2_lengthInQueue : Cond.instanceMethod yX2_lengthInQueue ∈ wsL_law := u_r9 _ (List.mem_of_getElem? (i := 13) rfl)
theorem us_X2_lengthInQueue : Cond.selects RX2 yX2_lengthInQueue yX2_lengthInQueue ∈ wsL_law := u_r9 _ (List.mem_of_getElem? (i := 14) rfl)
theorem uc_X2_lengthInQueue : Cond.code yX2_lengthInQueue cX2_lengthInQueue 4 (some .int) ∈ wsL_law := u_r9 _ (List.mem_of_getElem? (i := 15) rfl)
theorem um_X2_59 : Cond.methodLink RX2 59 yX2_lengthOf ∈ wsL_law := u_r9 _ (List.mem_of_getElem? (i := 16) rfl)
theorem ui_X2_lengthOf : Cond.instanceMethod yX2_lengthOf ∈ wsL_law := u_r9 _ (List.mem_of_getElem? (i := 17) rfl)
theorem us_X2_lengthOf : Cond.selects RX2 yX2_lengthOf yX2_lengthOf ∈ wsL_law := u_r9 _ (List.mem_of_getElem? (i := 18) rfl)
theorem uc_X2_lengthOf : Cond.code yX2_lengthOf cX2_lengthOf 3 (some .int) ∈ wsL_law := u_r9 _ (List.mem_of_getElem? (i := 19) rfl)
theorem um_L_102 : Cond.methodLink RL 102 yX9_round ∈ wsL_law := u_r9 _ (List.mem_of_getElem? (i := 20) rfl)
theorem ui_X9_round : Cond.instanceMethod yX9_round ∈ wsL_law := u_r9 _ (List.mem_of_getElem? (i := 21) rfl)
theorem us_X9_round : Cond.selects RX9 yX9_round yX9_round ∈ wsL_law := u_r9 _ (List.mem_of_getElem? (i := 22) rfl)
theorem uc_X9_round : Cond.code yX9_round cX9_round 3 (some .int) ∈ wsL_law := u_r9 _ (List.mem_of_getElem? (i := 23) rfl)
theorem uf_X9_186 : Cond.fieldLink RX9 186 "RingOffices$Offices" "way" "[I" ∈ wsL_law := u_r10 _ (List.mem_of_getElem? (i := 0) rfl)
theorem um_L_105 : Cond.methodLink RL 105 yX9_winner ∈ wsL_law := u_r10 _ (List.mem_of_getElem? (i := 1) rfl)
theorem ui_X9_winner : Cond.instanceMethod yX9_winner ∈ wsL_law := u_r10 _ (List.mem_of_getElem? (i := 2) rfl)
theorem us_X9_winner : Cond.selects RX9 yX9_winner yX9_winner ∈ wsL_law := u_r10 _ (List.mem_of_getElem? (i := 3) rfl)
theorem uc_X9_winner : Cond.code yX9_winner cX9_winner 1 (some .int) ∈ wsL_law := u_r10 _ (List.mem_of_getElem? (i := 4) rfl)
theorem um_X9_261 : Cond.methodLink RX9 261 yX2_openWithGreatestName ∈ wsL_law := u_r10 _ (List.mem_of_getElem? (i := 5) rfl)
theorem ui_X2_openWithGreatestName : Cond.instanceMethod yX2_openWithGreatestName ∈ wsL_law := u_r10 _ (List.mem_of_getElem? (i := 6) rfl)
theorem us_X2_openWithGreatestName : Cond.selects RX2 yX2_openWithGreatestName yX2_openWithGreatestName ∈ wsL_law := u_r10 _ (List.mem_of_getElem? (i := 7) rfl)
theorem uc_X2_openWithGreatestName : Cond.code yX2_openWithGreatestName cX2_openWithGreatestName 3 (some .int) ∈ wsL_law := u_r10 _ (List.mem_of_getElem? (i := 8) rfl)
theorem um_X2_52 : Cond.methodLink RX2 52 yX2_isOpen ∈ wsL_law := u_r10 _ (List.mem_of_getElem? (i := 9) rfl)
theorem ui_X2_isOpen : Cond.instanceMethod yX2_isOpen ∈ wsL_law := u_r10 _ (List.mem_of_getElem? (i := 10) rfl)
theorem us_X2_isOpen : Cond.selects RX2 yX2_isOpen yX2_isOpen ∈ wsL_law := u_r10 _ (List.mem_of_getElem? (i := 11) rfl)
theorem uc_X2_isOpen : Cond.code yX2_isOpen cX2_isOpen 2 (some .boolean) ∈ wsL_law := u_r10 _ (List.mem_of_getElem? (i := 12) rfl)
theorem um_L_147 : Cond.methodLink RL 147 yX9_doneIn ∈ wsL_law := u_r10 _ (List.mem_of_getElem? (i := 13) rfl)
theorem ui_X9_doneIn : Cond.instanceMethod yX9_doneIn ∈ wsL_law := u_r10 _ (List.mem_of_getElem? (i := 14) rfl)
theorem us_X9_doneIn : Cond.selects RX9 yX9_doneIn yX9_doneIn ∈ wsL_law := u_r10 _ (List.mem_of_getElem? (i := 15) rfl)
theorem uc_X9_doneIn : Cond.code yX9_doneIn cX9_doneIn 1 (some .int) ∈ wsL_law := u_r10 _ (List.mem_of_getElem? (i := 16) rfl)
theorem um_X9_81 : Cond.methodLink RX9 81 yX6_copyFrom ∈ wsL_law := u_r10 _ (List.mem_of_getElem? (i := 17) rfl)
theorem um_X9_270 : Cond.methodLink RX9 270 yX9_triedUntilDone ∈ wsL_law := u_r10 _ (List.mem_of_getElem? (i := 18) rfl)
theorem ui_X9_triedUntilDone : Cond.instanceMethod yX9_triedUntilDone ∈ wsL_law := u_r10 _ (List.mem_of_getElem? (i := 19) rfl)
theorem us_X9_triedUntilDone : Cond.selects RX9 yX9_triedUntilDone yX9_triedUntilDone ∈ wsL_law := u_r10 _ (List.mem_of_getElem? (i := 20) rfl)
theorem uc_X9_triedUntilDone : Cond.code yX9_triedUntilDone cX9_triedUntilDone 3 (some .int) ∈ wsL_law := u_r10 _ (List.mem_of_getElem? (i := 21) rfl)
theorem um_X9_183 : Cond.methodLink RX9 183 yX6_passMinute ∈ wsL_law := u_r10 _ (List.mem_of_getElem? (i := 22) rfl)
theorem ui_X6_passMinute : Cond.instanceMethod yX6_passMinute ∈ wsL_law := u_r10 _ (List.mem_of_getElem? (i := 23) rfl)
theorem us_X6_passMinute : Cond.selects RX6 yX6_passMinute yX6_passMinute ∈ wsL_law := u_r11 _ (List.mem_of_getElem? (i := 0) rfl)
theorem uc_X6_passMinute : Cond.code yX6_passMinute cX6_passMinute 2 none ∈ wsL_law := u_r11 _ (List.mem_of_getElem? (i := 1) rfl)
theorem uf_X6_74 : Cond.fieldLink RX6 74 "RingOffices$Tokens" "count" "I" ∈ wsL_law := u_r11 _ (List.mem_of_getElem? (i := 2) rfl)
theorem uf_X6_117 : Cond.fieldLink RX6 117 "RingOffices$Tokens" "togo" "[I" ∈ wsL_law := u_r11 _ (List.mem_of_getElem? (i := 3) rfl)
theorem uf_X6_123 : Cond.fieldLink RX6 123 "RingOffices$Tokens" "left" "[I" ∈ wsL_law := u_r11 _ (List.mem_of_getElem? (i := 4) rfl)
theorem um_X6_114 : Cond.methodLink RX6 114 yX2_beginDay ∈ wsL_law := u_r11 _ (List.mem_of_getElem? (i := 5) rfl)
theorem ui_X2_beginDay : Cond.instanceMethod yX2_beginDay ∈ wsL_law := u_r11 _ (List.mem_of_getElem? (i := 6) rfl)
theorem us_X2_beginDay : Cond.selects RX2 yX2_beginDay yX2_beginDay ∈ wsL_law := u_r11 _ (List.mem_of_getElem? (i := 7) rfl)
theorem uc_X2_beginDay : Cond.code yX2_beginDay cX2_beginDay 2 none ∈ wsL_law := u_r11 _ (List.mem_of_getElem? (i := 8) rfl)
theorem um_X6_120 : Cond.methodLink RX6 120 yX6_comeNearer ∈ wsL_law := u_r11 _ (List.mem_of_getElem? (i := 9) rfl)
theorem ui_X6_comeNearer : Cond.instanceMethod yX6_comeNearer ∈ wsL_law := u_r11 _ (List.mem_of_getElem? (i := 10) rfl)
theorem us_X6_comeNearer : Cond.selects RX6 yX6_comeNearer yX6_comeNearer ∈ wsL_law := u_r11 _ (List.mem_of_getElem? (i := 11) rfl)
theorem uc_X6_comeNearer : Cond.code yX6_comeNearer cX6_comeNearer 4 none ∈ wsL_law := u_r11 _ (List.mem_of_getElem? (i := 12) rfl)
theorem uf_X6_100 : Cond.fieldLink RX6 100 "RingOffices$Tokens" "place" "[I" ∈ wsL_law := u_r11 _ (List.mem_of_getElem? (i := 13) rfl)
theorem um_X6_142 : Cond.methodLink RX6 142 yX2_isOpen ∈ wsL_law := u_r11 _ (List.mem_of_getElem? (i := 14) rfl)
theorem um_X6_145 : Cond.methodLink RX6 145 yX6_leave ∈ wsL_law := u_r11 _ (List.mem_of_getElem? (i := 15) rfl)
theorem ui_X6_leave : Cond.instanceMethod yX6_leave ∈ wsL_law := u_r11 _ (List.mem_of_getElem? (i := 16) rfl)
theorem us_X6_leave : Cond.selects RX6 yX6_leave yX6_leave ∈ wsL_law := u_r11 _ (List.mem_of_getElem? (i := 17) rfl)
theorem uc_X6_leave : Cond.code yX6_leave cX6_leave 3 none ∈ wsL_law := u_r11 _ (List.mem_of_getElem? (i := 18) rfl)
theorem uf_X6_152 : Cond.fieldLink RX6 152 "RingOffices$Offices" "way" "[I" ∈ wsL_law := u_r11 _ (List.mem_of_getElem? (i := 19) rfl)
theorem um_X6_149 : Cond.methodLink RX6 149 yX2_behind ∈ wsL_law := u_r11 _ (List.mem_of_getElem? (i := 20) rfl)
theorem ui_X2_behind : Cond.instanceMethod yX2_behind ∈ wsL_law := u_r11 _ (List.mem_of_getElem? (i := 21) rfl)
theorem us_X2_behind : Cond.selects RX2 yX2_behind yX2_behind ∈ wsL_law := u_r11 _ (List.mem_of_getElem? (i := 22) rfl)
theorem uc_X2_behind : Cond.code yX2_behind cX2_behind 2 (some .int) ∈ wsL_law := u_r11 _ (List.mem_of_getElem? (i := 23) rfl)
theorem um_X6_155 : Cond.methodLink RX6 155 yX8_setOut ∈ wsL_law := u_r12 _ (List.mem_of_getElem? (i := 0) rfl)
theorem ui_X8_setOut : Cond.instanceMethod yX8_setOut ∈ wsL_law := u_r12 _ (List.mem_of_getElem? (i := 1) rfl)
theorem us_X8_setOut : Cond.selects RX8 yX8_setOut yX8_setOut ∈ wsL_law := u_r12 _ (List.mem_of_getElem? (i := 2) rfl)
theorem uc_X8_setOut : Cond.code yX8_setOut cX8_setOut 4 none ∈ wsL_law := u_r12 _ (List.mem_of_getElem? (i := 3) rfl)
theorem um_X6_126 : Cond.methodLink RX6 126 yX6_readOn ∈ wsL_law := u_r12 _ (List.mem_of_getElem? (i := 4) rfl)
theorem ui_X6_readOn : Cond.instanceMethod yX6_readOn ∈ wsL_law := u_r12 _ (List.mem_of_getElem? (i := 5) rfl)
theorem us_X6_readOn : Cond.selects RX6 yX6_readOn yX6_readOn ∈ wsL_law := u_r12 _ (List.mem_of_getElem? (i := 6) rfl)
theorem uc_X6_readOn : Cond.code yX6_readOn cX6_readOn 4 none ∈ wsL_law := u_r12 _ (List.mem_of_getElem? (i := 7) rfl)
theorem uf_X6_158 : Cond.fieldLink RX6 158 "RingOffices$Tokens" "turn" "[I" ∈ wsL_law := u_r12 _ (List.mem_of_getElem? (i := 8) rfl)
theorem uf_X6_161 : Cond.fieldLink RX6 161 "RingOffices$Offices" "spokenToday" "[I" ∈ wsL_law := u_r12 _ (List.mem_of_getElem? (i := 9) rfl)
theorem ut_X9_raise : Cond.static yX9_raise ∈ wsL_law := u_r12 _ (List.mem_of_getElem? (i := 10) rfl)
theorem uc_X9_raise : Cond.code yX9_raise cX9_raise 2 none ∈ wsL_law := u_r12 _ (List.mem_of_getElem? (i := 11) rfl)
theorem um_X6_164 : Cond.methodLink RX6 164 yX6_endLetter ∈ wsL_law := u_r12 _ (List.mem_of_getElem? (i := 12) rfl)
theorem ui_X6_endLetter : Cond.instanceMethod yX6_endLetter ∈ wsL_law := u_r12 _ (List.mem_of_getElem? (i := 13) rfl)
theorem us_X6_endLetter : Cond.selects RX6 yX6_endLetter yX6_endLetter ∈ wsL_law := u_r12 _ (List.mem_of_getElem? (i := 14) rfl)
theorem uc_X6_endLetter : Cond.code yX6_endLetter cX6_endLetter 4 none ∈ wsL_law := u_r12 _ (List.mem_of_getElem? (i := 15) rfl)
theorem uf_X6_174 : Cond.fieldLink RX6 174 "RingOffices$Offices" "readTo" "[I" ∈ wsL_law := u_r12 _ (List.mem_of_getElem? (i := 16) rfl)
theorem um_X6_167 : Cond.methodLink RX6 167 yX2_toOf ∈ wsL_law := u_r12 _ (List.mem_of_getElem? (i := 17) rfl)
theorem ui_X2_toOf : Cond.instanceMethod yX2_toOf ∈ wsL_law := u_r12 _ (List.mem_of_getElem? (i := 18) rfl)
theorem us_X2_toOf : Cond.selects RX2 yX2_toOf yX2_toOf ∈ wsL_law := u_r12 _ (List.mem_of_getElem? (i := 19) rfl)
theorem uc_X2_toOf : Cond.code yX2_toOf cX2_toOf 3 (some .int) ∈ wsL_law := u_r12 _ (List.mem_of_getElem? (i := 20) rfl)
theorem um_X6_171 : Cond.methodLink RX6 171 yX2_lengthOf ∈ wsL_law := u_r12 _ (List.mem_of_getElem? (i := 21) rfl)
theorem um_X6_85 : Cond.methodLink RX6 85 yX1_add ∈ wsL_law := u_r12 _ (List.mem_of_getElem? (i := 22) rfl)
theorem ui_X1_add : Cond.instanceMethod yX1_add ∈ wsL_law := u_r12 _ (List.mem_of_getElem? (i := 23) rfl)
theorem us_X1_add : Cond.selects RX1 yX1_add yX1_add ∈ wsL_law := u_r13 _ (List.mem_of_getElem? (i := 0) rfl)
theorem uc_X1_add : Cond.code yX1_add cX1_add 5 none ∈ wsL_law := u_r13 _ (List.mem_of_getElem? (i := 1) rfl)
theorem um_X6_177 : Cond.methodLink RX6 177 yX2_removeLetter ∈ wsL_law := u_r13 _ (List.mem_of_getElem? (i := 2) rfl)
theorem ui_X2_removeLetter : Cond.instanceMethod yX2_removeLetter ∈ wsL_law := u_r13 _ (List.mem_of_getElem? (i := 3) rfl)
theorem us_X2_removeLetter : Cond.selects RX2 yX2_removeLetter yX2_removeLetter ∈ wsL_law := u_r13 _ (List.mem_of_getElem? (i := 4) rfl)
theorem uc_X2_removeLetter : Cond.code yX2_removeLetter cX2_removeLetter 5 none ∈ wsL_law := u_r13 _ (List.mem_of_getElem? (i := 5) rfl)
theorem ut_X9_takeOut : Cond.static yX9_takeOut ∈ wsL_law := u_r13 _ (List.mem_of_getElem? (i := 6) rfl)
theorem uc_X9_takeOut : Cond.code yX9_takeOut cX9_takeOut 3 none ∈ wsL_law := u_r13 _ (List.mem_of_getElem? (i := 7) rfl)
theorem um_X6_129 : Cond.methodLink RX6 129 yX6_beginOrSetOut ∈ wsL_law := u_r13 _ (List.mem_of_getElem? (i := 8) rfl)
theorem ui_X6_beginOrSetOut : Cond.instanceMethod yX6_beginOrSetOut ∈ wsL_law := u_r13 _ (List.mem_of_getElem? (i := 9) rfl)
theorem us_X6_beginOrSetOut : Cond.selects RX6 yX6_beginOrSetOut yX6_beginOrSetOut ∈ wsL_law := u_r13 _ (List.mem_of_getElem? (i := 10) rfl)
theorem uc_X6_beginOrSetOut : Cond.code yX6_beginOrSetOut cX6_beginOrSetOut 4 none ∈ wsL_law := u_r13 _ (List.mem_of_getElem? (i := 11) rfl)
theorem uf_X6_180 : Cond.fieldLink RX6 180 "RingOffices$Offices" "waiting" "[I" ∈ wsL_law := u_r13 _ (List.mem_of_getElem? (i := 12) rfl)
theorem um_X6_183 : Cond.methodLink RX6 183 yX6_fitsInTurn ∈ wsL_law := u_r13 _ (List.mem_of_getElem? (i := 13) rfl)
theorem ui_X6_fitsInTurn : Cond.instanceMethod yX6_fitsInTurn ∈ wsL_law := u_r13 _ (List.mem_of_getElem? (i := 14) rfl)
theorem us_X6_fitsInTurn : Cond.selects RX6 yX6_fitsInTurn yX6_fitsInTurn ∈ wsL_law := u_r13 _ (List.mem_of_getElem? (i := 15) rfl)
theorem uc_X6_fitsInTurn : Cond.code yX6_fitsInTurn cX6_fitsInTurn 3 (some .boolean) ∈ wsL_law := u_r13 _ (List.mem_of_getElem? (i := 16) rfl)
theorem um_X6_187 : Cond.methodLink RX6 187 yX6_fitsInDay ∈ wsL_law := u_r13 _ (List.mem_of_getElem? (i := 17) rfl)
theorem ui_X6_fitsInDay : Cond.instanceMethod yX6_fitsInDay ∈ wsL_law := u_r13 _ (List.mem_of_getElem? (i := 18) rfl)
theorem us_X6_fitsInDay : Cond.selects RX6 yX6_fitsInDay yX6_fitsInDay ∈ wsL_law := u_r13 _ (List.mem_of_getElem? (i := 19) rfl)
theorem uc_X6_fitsInDay : Cond.code yX6_fitsInDay cX6_fitsInDay 2 (some .boolean) ∈ wsL_law := u_r13 _ (List.mem_of_getElem? (i := 20) rfl)
theorem um_X6_132 : Cond.methodLink RX6 132 yX6_tearUpWhereTwoMeet ∈ wsL_law := u_r13 _ (List.mem_of_getElem? (i := 21) rfl)
theorem ui_X6_tearUpWhereTwoMeet : Cond.instanceMethod yX6_tearUpWhereTwoMeet ∈ wsL_law := u_r13 _ (List.mem_of_getElem? (i := 22) rfl)
theorem us_X6_tearUpWhereTwoMeet : Cond.selects RX6 yX6_tearUpWhereTwoMeet yX6_tearUpWhereTwoMeet ∈ wsL_law := u_r13 _ (List.mem_of_getElem? (i := 23) rfl)
theorem uc_X6_tearUpWhereTwoMeet : Cond.code yX6_tearUpWhereTwoMeet cX6_tearUpWhereTwoMeet 3 none ∈ wsL_law := u_r14 _ (List.mem_of_getElem? (i := 0) rfl)
theorem uf_X6_93 : Cond.fieldLink RX6 93 "RingOffices$Tokens" "number" "[I" ∈ wsL_law := u_r14 _ (List.mem_of_getElem? (i := 1) rfl)
theorem um_X6_110 : Cond.methodLink RX6 110 yX8_isFollowedThere ∈ wsL_law := u_r14 _ (List.mem_of_getElem? (i := 2) rfl)
theorem ui_X8_isFollowedThere : Cond.instanceMethod yX8_isFollowedThere ∈ wsL_law := u_r14 _ (List.mem_of_getElem? (i := 3) rfl)
theorem us_X8_isFollowedThere : Cond.selects RX8 yX8_isFollowedThere yX8_isFollowedThere ∈ wsL_law := u_r14 _ (List.mem_of_getElem? (i := 4) rfl)
theorem uc_X8_isFollowedThere : Cond.code yX8_isFollowedThere cX8_isFollowedThere 3 (some .boolean) ∈ wsL_law := u_r14 _ (List.mem_of_getElem? (i := 5) rfl)
theorem um_X8_53 : Cond.methodLink RX8 53 yX8_isAt ∈ wsL_law := u_r14 _ (List.mem_of_getElem? (i := 6) rfl)
theorem ui_X8_isAt : Cond.instanceMethod yX8_isAt ∈ wsL_law := u_r14 _ (List.mem_of_getElem? (i := 7) rfl)
theorem us_X8_isAt : Cond.selects RX8 yX8_isAt yX8_isAt ∈ wsL_law := u_r14 _ (List.mem_of_getElem? (i := 8) rfl)
theorem uc_X8_isAt : Cond.code yX8_isAt cX8_isAt 3 (some .boolean) ∈ wsL_law := u_r14 _ (List.mem_of_getElem? (i := 9) rfl)
theorem um_X6_107 : Cond.methodLink RX6 107 yX8_remove ∈ wsL_law := u_r14 _ (List.mem_of_getElem? (i := 10) rfl)
theorem ui_X8_remove : Cond.instanceMethod yX8_remove ∈ wsL_law := u_r14 _ (List.mem_of_getElem? (i := 11) rfl)
theorem us_X8_remove : Cond.selects RX8 yX8_remove yX8_remove ∈ wsL_law := u_r14 _ (List.mem_of_getElem? (i := 12) rfl)
theorem uc_X8_remove : Cond.code yX8_remove cX8_remove 2 none ∈ wsL_law := u_r14 _ (List.mem_of_getElem? (i := 13) rfl)
theorem um_X8_42 : Cond.methodLink RX8 42 yX8_has ∈ wsL_law := u_r14 _ (List.mem_of_getElem? (i := 14) rfl)
theorem ui_X8_has : Cond.instanceMethod yX8_has ∈ wsL_law := u_r14 _ (List.mem_of_getElem? (i := 15) rfl)
theorem us_X8_has : Cond.selects RX8 yX8_has yX8_has ∈ wsL_law := u_r14 _ (List.mem_of_getElem? (i := 16) rfl)
theorem uc_X8_has : Cond.code yX8_has cX8_has 2 (some .boolean) ∈ wsL_law := u_r14 _ (List.mem_of_getElem? (i := 17) rfl)
theorem um_X6_135 : Cond.methodLink RX6 135 yX8_howManySpeak ∈ wsL_law := u_r14 _ (List.mem_of_getElem? (i := 18) rfl)
theorem ui_X8_howManySpeak : Cond.instanceMethod yX8_howManySpeak ∈ wsL_law := u_r14 _ (List.mem_of_getElem? (i := 19) rfl)
theorem us_X8_howManySpeak : Cond.selects RX8 yX8_howManySpeak yX8_howManySpeak ∈ wsL_law := u_r14 _ (List.mem_of_getElem? (i := 20) rfl)
theorem uc_X8_howManySpeak : Cond.code yX8_howManySpeak cX8_howManySpeak 3 (some .int) ∈ wsL_law := u_r14 _ (List.mem_of_getElem? (i := 21) rfl)
theorem um_X6_139 : Cond.methodLink RX6 139 yX6_stayWithoutToken ∈ wsL_law := u_r14 _ (List.mem_of_getElem? (i := 22) rfl)
theorem ui_X6_stayWithoutToken : Cond.instanceMethod yX6_stayWithoutToken ∈ wsL_law := u_r14 _ (List.mem_of_getElem? (i := 23) rfl)
theorem us_X6_stayWithoutToken : Cond.selects RX6 yX6_stayWithoutToken yX6_stayWithoutToken ∈ wsL_law := u_r15 _ (List.mem_of_getElem? (i := 0) rfl)
theorem uc_X6_stayWithoutToken : Cond.code yX6_stayWithoutToken cX6_stayWithoutToken 2 none ∈ wsL_law := u_r15 _ (List.mem_of_getElem? (i := 1) rfl)
theorem uf_X6_75 : Cond.fieldLink RX6 75 "RingOffices$Tokens" "lastNumber" "I" ∈ wsL_law := u_r15 _ (List.mem_of_getElem? (i := 2) rfl)
theorem um_X6_190 : Cond.methodLink RX6 190 yX2_openWithGreatestName ∈ wsL_law := u_r15 _ (List.mem_of_getElem? (i := 3) rfl)
theorem um_L_144 : Cond.methodLink RL 144 yX9_comesIn ∈ wsL_law := u_r15 _ (List.mem_of_getElem? (i := 4) rfl)
theorem ui_X9_comesIn : Cond.instanceMethod yX9_comesIn ∈ wsL_law := u_r15 _ (List.mem_of_getElem? (i := 5) rfl)
theorem us_X9_comesIn : Cond.selects RX9 yX9_comesIn yX9_comesIn ∈ wsL_law := u_r15 _ (List.mem_of_getElem? (i := 6) rfl)
theorem uc_X9_comesIn : Cond.code yX9_comesIn cX9_comesIn 3 (some .int) ∈ wsL_law := u_r15 _ (List.mem_of_getElem? (i := 7) rfl)
theorem um_X9_98 : Cond.methodLink RX9 98 yX2_has ∈ wsL_law := u_r15 _ (List.mem_of_getElem? (i := 8) rfl)
theorem ui_X2_has : Cond.instanceMethod yX2_has ∈ wsL_law := u_r15 _ (List.mem_of_getElem? (i := 9) rfl)
theorem us_X2_has : Cond.selects RX2 yX2_has yX2_has ∈ wsL_law := u_r15 _ (List.mem_of_getElem? (i := 10) rfl)
theorem uc_X2_has : Cond.code yX2_has cX2_has 2 (some .boolean) ∈ wsL_law := u_r15 _ (List.mem_of_getElem? (i := 11) rfl)
theorem um_X9_237 : Cond.methodLink RX9 237 yX8_standingAt ∈ wsL_law := u_r15 _ (List.mem_of_getElem? (i := 12) rfl)
theorem ui_X8_standingAt : Cond.instanceMethod yX8_standingAt ∈ wsL_law := u_r15 _ (List.mem_of_getElem? (i := 13) rfl)
theorem us_X8_standingAt : Cond.selects RX8 yX8_standingAt yX8_standingAt ∈ wsL_law := u_r15 _ (List.mem_of_getElem? (i := 14) rfl)
theorem uc_X8_standingAt : Cond.code yX8_standingAt cX8_standingAt 3 (some .int) ∈ wsL_law := u_r15 _ (List.mem_of_getElem? (i := 15) rfl)
theorem um_L_176 : Cond.methodLink RL 176 yL_offices ∈ wsL_law := u_r15 _ (List.mem_of_getElem? (i := 16) rfl)
theorem ut_L_offices : Cond.static yL_offices ∈ wsL_law := u_r15 _ (List.mem_of_getElem? (i := 17) rfl)
theorem un_L : Cond.initialized RL ∈ wsL_law := u_r15 _ (List.mem_of_getElem? (i := 18) rfl)
theorem uc_L_offices : Cond.code yL_offices cL_offices 18 (some .boolean) ∈ wsL_law := u_r15 _ (List.mem_of_getElem? (i := 19) rfl)
theorem um_L_93 : Cond.methodLink RL 93 yX9_busiest ∈ wsL_law := u_r15 _ (List.mem_of_getElem? (i := 20) rfl)
theorem ui_X9_busiest : Cond.instanceMethod yX9_busiest ∈ wsL_law := u_r15 _ (List.mem_of_getElem? (i := 21) rfl)
theorem us_X9_busiest : Cond.selects RX9 yX9_busiest yX9_busiest ∈ wsL_law := u_r15 _ (List.mem_of_getElem? (i := 22) rfl)
theorem uc_X9_busiest : Cond.code yX9_busiest cX9_busiest 3 (some .int) ∈ wsL_law := u_r15 _ (List.mem_of_getElem? (i := 23) rfl)
theorem um_X9_234 : Cond.methodLink RX9 234 yX2_lengthInQueue ∈ wsL_law := u_r16 _ (List.mem_of_getElem? (i := 0) rfl)
theorem um_L_78 : Cond.methodLink RL 78 yX9_office ∈ wsL_law := u_r16 _ (List.mem_of_getElem? (i := 1) rfl)
theorem ui_X9_office : Cond.instanceMethod yX9_office ∈ wsL_law := u_r16 _ (List.mem_of_getElem? (i := 2) rfl)
theorem us_X9_office : Cond.selects RX9 yX9_office yX9_office ∈ wsL_law := u_r16 _ (List.mem_of_getElem? (i := 3) rfl)
theorem uc_X9_office : Cond.code yX9_office cX9_office 4 (some .int) ∈ wsL_law := u_r16 _ (List.mem_of_getElem? (i := 4) rfl)
theorem uf_X9_189 : Cond.fieldLink RX9 189 "RingOffices$Offices" "name" "[I" ∈ wsL_law := u_r16 _ (List.mem_of_getElem? (i := 5) rfl)
theorem uf_X9_155 : Cond.fieldLink RX9 155 "RingOffices$Offices" "open" "[I" ∈ wsL_law := u_r16 _ (List.mem_of_getElem? (i := 6) rfl)
theorem uf_X9_231 : Cond.fieldLink RX9 231 "RingOffices$Offices" "spokenToday" "[I" ∈ wsL_law := u_r16 _ (List.mem_of_getElem? (i := 7) rfl)
theorem uf_X9_106 : Cond.fieldLink RX9 106 "RingOffices$Offices" "waiting" "[I" ∈ wsL_law := u_r16 _ (List.mem_of_getElem? (i := 8) rfl)
theorem uf_X9_240 : Cond.fieldLink RX9 240 "RingOffices$Offices" "readTo" "[I" ∈ wsL_law := u_r16 _ (List.mem_of_getElem? (i := 9) rfl)
theorem um_X9_243 : Cond.methodLink RX9 243 yX2_lettersTo ∈ wsL_law := u_r16 _ (List.mem_of_getElem? (i := 10) rfl)
theorem ui_X2_lettersTo : Cond.instanceMethod yX2_lettersTo ∈ wsL_law := u_r16 _ (List.mem_of_getElem? (i := 11) rfl)
theorem us_X2_lettersTo : Cond.selects RX2 yX2_lettersTo yX2_lettersTo ∈ wsL_law := u_r16 _ (List.mem_of_getElem? (i := 12) rfl)
theorem uc_X2_lettersTo : Cond.code yX2_lettersTo cX2_lettersTo 5 (some .int) ∈ wsL_law := u_r16 _ (List.mem_of_getElem? (i := 13) rfl)
theorem um_X2_67 : Cond.methodLink RX2 67 yX2_toOf ∈ wsL_law := u_r16 _ (List.mem_of_getElem? (i := 14) rfl)
theorem um_L_90 : Cond.methodLink RL 90 yX9_token ∈ wsL_law := u_r16 _ (List.mem_of_getElem? (i := 15) rfl)
theorem ui_X9_token : Cond.instanceMethod yX9_token ∈ wsL_law := u_r16 _ (List.mem_of_getElem? (i := 16) rfl)
theorem us_X9_token : Cond.selects RX9 yX9_token yX9_token ∈ wsL_law := u_r16 _ (List.mem_of_getElem? (i := 17) rfl)
theorem uc_X9_token : Cond.code yX9_token cX9_token 4 (some .int) ∈ wsL_law := u_r16 _ (List.mem_of_getElem? (i := 18) rfl)
theorem uf_X9_162 : Cond.fieldLink RX9 162 "RingOffices$Tokens" "number" "[I" ∈ wsL_law := u_r16 _ (List.mem_of_getElem? (i := 19) rfl)
theorem uf_X9_249 : Cond.fieldLink RX9 249 "RingOffices$Tokens" "place" "[I" ∈ wsL_law := u_r16 _ (List.mem_of_getElem? (i := 20) rfl)
theorem uf_X9_252 : Cond.fieldLink RX9 252 "RingOffices$Tokens" "togo" "[I" ∈ wsL_law := u_r16 _ (List.mem_of_getElem? (i := 21) rfl)
theorem uf_X9_255 : Cond.fieldLink RX9 255 "RingOffices$Tokens" "turn" "[I" ∈ wsL_law := u_r16 _ (List.mem_of_getElem? (i := 22) rfl)
theorem uf_X9_258 : Cond.fieldLink RX9 258 "RingOffices$Tokens" "left" "[I" ∈ wsL_law := u_r16 _ (List.mem_of_getElem? (i := 23) rfl)
theorem um_X9_161 : Cond.methodLink RX9 161 yX8_has ∈ wsL_law := u_r17 _ (List.mem_of_getElem? (i := 0) rfl)
theorem um_L_82 : Cond.methodLink RL 82 yX9_queue ∈ wsL_law := u_r17 _ (List.mem_of_getElem? (i := 1) rfl)
theorem ui_X9_queue : Cond.instanceMethod yX9_queue ∈ wsL_law := u_r17 _ (List.mem_of_getElem? (i := 2) rfl)
theorem us_X9_queue : Cond.selects RX9 yX9_queue yX9_queue ∈ wsL_law := u_r17 _ (List.mem_of_getElem? (i := 3) rfl)
theorem uc_X9_queue : Cond.code yX9_queue cX9_queue 6 (some .int) ∈ wsL_law := u_r17 _ (List.mem_of_getElem? (i := 4) rfl)
theorem um_X9_246 : Cond.methodLink RX9 246 yX2_toOf ∈ wsL_law := u_r17 _ (List.mem_of_getElem? (i := 5) rfl)
theorem um_X9_141 : Cond.methodLink RX9 141 yX8_leftAt ∈ wsL_law := u_r17 _ (List.mem_of_getElem? (i := 6) rfl)
theorem ui_X8_leftAt : Cond.instanceMethod yX8_leftAt ∈ wsL_law := u_r17 _ (List.mem_of_getElem? (i := 7) rfl)
theorem us_X8_leftAt : Cond.selects RX8 yX8_leftAt yX8_leftAt ∈ wsL_law := u_r17 _ (List.mem_of_getElem? (i := 8) rfl)
theorem uc_X8_leftAt : Cond.code yX8_leftAt cX8_leftAt 2 (some .int) ∈ wsL_law := u_r17 _ (List.mem_of_getElem? (i := 9) rfl)
theorem um_X8_57 : Cond.methodLink RX8 57 yX8_standingAt ∈ wsL_law := u_r17 _ (List.mem_of_getElem? (i := 10) rfl)
theorem um_X9_147 : Cond.methodLink RX9 147 yX2_lengthOf ∈ wsL_law := u_r17 _ (List.mem_of_getElem? (i := 11) rfl)
theorem um_L_96 : Cond.methodLink RL 96 yX9_why ∈ wsL_law := u_r17 _ (List.mem_of_getElem? (i := 12) rfl)
theorem ui_X9_why : Cond.instanceMethod yX9_why ∈ wsL_law := u_r17 _ (List.mem_of_getElem? (i := 13) rfl)
theorem us_X9_why : Cond.selects RX9 yX9_why yX9_why ∈ wsL_law := u_r17 _ (List.mem_of_getElem? (i := 14) rfl)
theorem uc_X9_why : Cond.code yX9_why cX9_why 4 (some .int) ∈ wsL_law := u_r17 _ (List.mem_of_getElem? (i := 15) rfl)
theorem um_X9_168 : Cond.methodLink RX9 168 yX2_isOpen ∈ wsL_law := u_r17 _ (List.mem_of_getElem? (i := 16) rfl)
theorem um_X9_264 : Cond.methodLink RX9 264 yX6_fitsInTurn ∈ wsL_law := u_r17 _ (List.mem_of_getElem? (i := 17) rfl)
theorem um_X9_267 : Cond.methodLink RX9 267 yX6_fitsInDay ∈ wsL_law := u_r17 _ (List.mem_of_getElem? (i := 18) rfl)
theorem um_L_99 : Cond.methodLink RL 99 yX9_cancel ∈ wsL_law := u_r17 _ (List.mem_of_getElem? (i := 19) rfl)
theorem ui_X9_cancel : Cond.instanceMethod yX9_cancel ∈ wsL_law := u_r17 _ (List.mem_of_getElem? (i := 20) rfl)
theorem us_X9_cancel : Cond.selects RX9 yX9_cancel yX9_cancel ∈ wsL_law := u_r17 _ (List.mem_of_getElem? (i := 21) rfl)
theorem uc_X9_cancel : Cond.code yX9_cancel cX9_cancel 5 (some .int) ∈ wsL_law := u_r17 _ (List.mem_of_getElem? (i := 22) rfl)
theorem um_X9_114 : Cond.methodLink RX9 114 yX0_remember ∈ wsL_law := u_r17 _ (List.mem_of_getElem? (i := 23) rfl)
theorem ui_X0_remember : Cond.instanceMethod yX0_remember ∈ wsL_law := u_r18 _ (List.mem_of_getElem? (i := 0) rfl)
theorem us_X0_remember : Cond.selects RX0 yX0_remember yX0_remember ∈ wsL_law := u_r18 _ (List.mem_of_getElem? (i := 1) rfl)
theorem uc_X0_remember : Cond.code yX0_remember cX0_remember 2 none ∈ wsL_law := u_r18 _ (List.mem_of_getElem? (i := 2) rfl)
theorem um_X0_22 : Cond.methodLink RX0 22 yX0_copyTo ∈ wsL_law := u_r18 _ (List.mem_of_getElem? (i := 3) rfl)
theorem ui_X0_copyTo : Cond.instanceMethod yX0_copyTo ∈ wsL_law := u_r18 _ (List.mem_of_getElem? (i := 4) rfl)
theorem us_X0_copyTo : Cond.selects RX0 yX0_copyTo yX0_copyTo ∈ wsL_law := u_r18 _ (List.mem_of_getElem? (i := 5) rfl)
theorem uc_X0_copyTo : Cond.code yX0_copyTo cX0_copyTo 3 none ∈ wsL_law := u_r18 _ (List.mem_of_getElem? (i := 6) rfl)
theorem um_X9_151 : Cond.methodLink RX9 151 yX2_removeLetter ∈ wsL_law := u_r18 _ (List.mem_of_getElem? (i := 7) rfl)
theorem um_X9_124 : Cond.methodLink RX9 124 yX9_raise ∈ wsL_law := u_r18 _ (List.mem_of_getElem? (i := 8) rfl)
theorem um_X9_132 : Cond.methodLink RX9 132 yX1_add ∈ wsL_law := u_r18 _ (List.mem_of_getElem? (i := 9) rfl)
theorem um_L_108 : Cond.methodLink RL 108 yX9_spoken ∈ wsL_law := u_r18 _ (List.mem_of_getElem? (i := 10) rfl)
theorem ui_X9_spoken : Cond.instanceMethod yX9_spoken ∈ wsL_law := u_r18 _ (List.mem_of_getElem? (i := 11) rfl)
theorem us_X9_spoken : Cond.selects RX9 yX9_spoken yX9_spoken ∈ wsL_law := u_r18 _ (List.mem_of_getElem? (i := 12) rfl)
theorem uc_X9_spoken : Cond.code yX9_spoken cX9_spoken 1 (some .float) ∈ wsL_law := u_r18 _ (List.mem_of_getElem? (i := 13) rfl)
theorem um_L_112 : Cond.methodLink RL 112 yX9_meanLength ∈ wsL_law := u_r18 _ (List.mem_of_getElem? (i := 14) rfl)
theorem ui_X9_meanLength : Cond.instanceMethod yX9_meanLength ∈ wsL_law := u_r18 _ (List.mem_of_getElem? (i := 15) rfl)
theorem us_X9_meanLength : Cond.selects RX9 yX9_meanLength yX9_meanLength ∈ wsL_law := u_r18 _ (List.mem_of_getElem? (i := 16) rfl)
theorem uc_X9_meanLength : Cond.code yX9_meanLength cX9_meanLength 2 (some .double) ∈ wsL_law := u_r18 _ (List.mem_of_getElem? (i := 17) rfl)
theorem um_L_180 : Cond.methodLink RL 180 yL_minutes ∈ wsL_law := u_r18 _ (List.mem_of_getElem? (i := 18) rfl)
theorem ut_L_minutes : Cond.static yL_minutes ∈ wsL_law := u_r18 _ (List.mem_of_getElem? (i := 19) rfl)
theorem uc_L_minutes : Cond.code yL_minutes cL_minutes 17 (some .boolean) ∈ wsL_law := u_r18 _ (List.mem_of_getElem? (i := 20) rfl)
theorem um_L_116 : Cond.methodLink RL 116 yX9_ifPassed ∈ wsL_law := u_r18 _ (List.mem_of_getElem? (i := 21) rfl)
theorem ui_X9_ifPassed : Cond.instanceMethod yX9_ifPassed ∈ wsL_law := u_r18 _ (List.mem_of_getElem? (i := 22) rfl)
theorem us_X9_ifPassed : Cond.selects RX9 yX9_ifPassed yX9_ifPassed ∈ wsL_law := u_r18 _ (List.mem_of_getElem? (i := 23) rfl)
theorem uc_X9_ifPassed : Cond.code yX9_ifPassed cX9_ifPassed 3 (some .int) ∈ wsL_law := u_r19 _ (List.mem_of_getElem? (i := 0) rfl)
theorem um_X9_273 : Cond.methodLink RX9 273 yX9_isForesight ∈ wsL_law := u_r19 _ (List.mem_of_getElem? (i := 1) rfl)
theorem ut_X9_isForesight : Cond.static yX9_isForesight ∈ wsL_law := u_r19 _ (List.mem_of_getElem? (i := 2) rfl)
theorem uc_X9_isForesight : Cond.code yX9_isForesight cX9_isForesight 2 (some .boolean) ∈ wsL_law := u_r19 _ (List.mem_of_getElem? (i := 3) rfl)
theorem um_X9_276 : Cond.methodLink RX9 276 yX9_triedMinutes ∈ wsL_law := u_r19 _ (List.mem_of_getElem? (i := 4) rfl)
theorem ui_X9_triedMinutes : Cond.instanceMethod yX9_triedMinutes ∈ wsL_law := u_r19 _ (List.mem_of_getElem? (i := 5) rfl)
theorem us_X9_triedMinutes : Cond.selects RX9 yX9_triedMinutes yX9_triedMinutes ∈ wsL_law := u_r19 _ (List.mem_of_getElem? (i := 6) rfl)
theorem uc_X9_triedMinutes : Cond.code yX9_triedMinutes cX9_triedMinutes 4 (some .int) ∈ wsL_law := u_r19 _ (List.mem_of_getElem? (i := 7) rfl)
theorem um_X9_305 : Cond.methodLink RX9 305 yX9_countTold ∈ wsL_law := u_r19 _ (List.mem_of_getElem? (i := 8) rfl)
theorem ut_X9_countTold : Cond.static yX9_countTold ∈ wsL_law := u_r19 _ (List.mem_of_getElem? (i := 9) rfl)
theorem uc_X9_countTold : Cond.code yX9_countTold cX9_countTold 1 (some .int) ∈ wsL_law := u_r19 _ (List.mem_of_getElem? (i := 10) rfl)
theorem um_L_119 : Cond.methodLink RL 119 yX9_ifRule ∈ wsL_law := u_r19 _ (List.mem_of_getElem? (i := 11) rfl)
theorem ui_X9_ifRule : Cond.instanceMethod yX9_ifRule ∈ wsL_law := u_r19 _ (List.mem_of_getElem? (i := 12) rfl)
theorem us_X9_ifRule : Cond.selects RX9 yX9_ifRule yX9_ifRule ∈ wsL_law := u_r19 _ (List.mem_of_getElem? (i := 13) rfl)
theorem uc_X9_ifRule : Cond.code yX9_ifRule cX9_ifRule 5 (some .int) ∈ wsL_law := u_r19 _ (List.mem_of_getElem? (i := 14) rfl)
theorem um_X9_199 : Cond.methodLink RX9 199 yX9_isRule ∈ wsL_law := u_r19 _ (List.mem_of_getElem? (i := 15) rfl)
theorem ut_X9_isRule : Cond.static yX9_isRule ∈ wsL_law := u_r19 _ (List.mem_of_getElem? (i := 16) rfl)
theorem uc_X9_isRule : Cond.code yX9_isRule cX9_isRule 2 (some .boolean) ∈ wsL_law := u_r19 _ (List.mem_of_getElem? (i := 17) rfl)
theorem um_X9_302 : Cond.methodLink RX9 302 yX9_mostOfRule ∈ wsL_law := u_r19 _ (List.mem_of_getElem? (i := 18) rfl)
theorem ut_X9_mostOfRule : Cond.static yX9_mostOfRule ∈ wsL_law := u_r19 _ (List.mem_of_getElem? (i := 19) rfl)
theorem uc_X9_mostOfRule : Cond.code yX9_mostOfRule cX9_mostOfRule 1 (some .int) ∈ wsL_law := u_r19 _ (List.mem_of_getElem? (i := 20) rfl)
theorem um_X9_195 : Cond.methodLink RX9 195 yX9_put ∈ wsL_law := u_r19 _ (List.mem_of_getElem? (i := 21) rfl)
theorem um_L_123 : Cond.methodLink RL 123 yX9_minute ∈ wsL_law := u_r19 _ (List.mem_of_getElem? (i := 22) rfl)
theorem ui_X9_minute : Cond.instanceMethod yX9_minute ∈ wsL_law := u_r19 _ (List.mem_of_getElem? (i := 23) rfl)
theorem us_X9_minute : Cond.selects RX9 yX9_minute yX9_minute ∈ wsL_law := u_r20 _ (List.mem_of_getElem? (i := 0) rfl)
theorem uc_X9_minute : Cond.code yX9_minute cX9_minute 4 (some .int) ∈ wsL_law := u_r20 _ (List.mem_of_getElem? (i := 1) rfl)
theorem um_L_183 : Cond.methodLink RL 183 yL_ring ∈ wsL_law := u_r20 _ (List.mem_of_getElem? (i := 2) rfl)
theorem ut_L_ring : Cond.static yL_ring ∈ wsL_law := u_r20 _ (List.mem_of_getElem? (i := 3) rfl)
theorem uc_L_ring : Cond.code yL_ring cL_ring 9 (some (.object "java/lang/String")) ∈ wsL_law := u_r20 _ (List.mem_of_getElem? (i := 4) rfl)
theorem ul_L_27 : Cond.classLink RL 27 RJ4 ∈ wsL_law := u_r20 _ (List.mem_of_getElem? (i := 5) rfl)
theorem ua_J4 : Cond.instantiable RJ4 4 ∈ wsL_law := u_r20 _ (List.mem_of_getElem? (i := 6) rfl)
theorem un_J4 : Cond.initialized RJ4 ∈ wsL_law := u_r20 _ (List.mem_of_getElem? (i := 7) rfl)
theorem uk_L_47 : Cond.constant RL 47 (1103515245) ∈ wsL_law := u_r20 _ (List.mem_of_getElem? (i := 8) rfl)
theorem um_L_31 : Cond.methodLink RL 31 yJ4_init_a7421 ∈ wsL_law := u_r20 _ (List.mem_of_getElem? (i := 9) rfl)
theorem ui_J4_init_a7421 : Cond.instanceMethod yJ4_init_a7421 ∈ wsL_law := u_r20 _ (List.mem_of_getElem? (i := 10) rfl)
theorem uc_J4_init_a7421 : Cond.code yJ4_init_a7421 cJ4_init_a7421 2 none ∈ wsL_law := u_r20 _ (List.mem_of_getElem? (i := 11) rfl)
theorem um_J4_7 : Cond.methodLink RJ4 7 yJ5_init_a7421 ∈ wsL_law := u_r20 _ (List.mem_of_getElem? (i := 12) rfl)
theorem ui_J5_init_a7421 : Cond.instanceMethod yJ5_init_a7421 ∈ wsL_law := u_r20 _ (List.mem_of_getElem? (i := 13) rfl)
theorem un_J5 : Cond.initialized RJ5 ∈ wsL_law := u_r20 _ (List.mem_of_getElem? (i := 14) rfl)
theorem uc_J5_init_a7421 : Cond.code yJ5_init_a7421 cJ5_init_a7421 5 none ∈ wsL_law := u_r20 _ (List.mem_of_getElem? (i := 15) rfl)
theorem um_J5_3 : Cond.methodLink RJ5 3 objectInit ∈ wsL_law := u_r20 _ (List.mem_of_getElem? (i := 16) rfl)
theorem uk_J5_38 : Cond.constant RJ5 38 (2147483631) ∈ wsL_law := u_r20 _ (List.mem_of_getElem? (i := 17) rfl)
theorem uk_J5_39 : Cond.constant RJ5 39 (2147483647) ∈ wsL_law := u_r20 _ (List.mem_of_getElem? (i := 18) rfl)
theorem uf_J5_22 : Cond.fieldLink RJ5 22 "java/lang/AbstractStringBuilder" "coder" "B" ∈ wsL_law := u_r20 _ (List.mem_of_getElem? (i := 19) rfl)
theorem uf_J5_15 : Cond.fieldLink RJ5 15 "java/lang/AbstractStringBuilder" "value" "[B" ∈ wsL_law := u_r20 _ (List.mem_of_getElem? (i := 20) rfl)
theorem um_J5_32 : Cond.methodLink RJ5 32 yJ0_length_8abf5 ∈ wsL_law := u_r20 _ (List.mem_of_getElem? (i := 21) rfl)
theorem ui_J0_length_8abf5 : Cond.instanceMethod yJ0_length_8abf5 ∈ wsL_law := u_r20 _ (List.mem_of_getElem? (i := 22) rfl)
theorem us_J0_length_8abf5 : Cond.selects RJ0 yJ0_length_8abf5 yJ0_length_8abf5 ∈ wsL_law := u_r20 _ (List.mem_of_getElem? (i := 23) rfl)
theorem un_J0 : Cond.initialized RJ0 ∈ wsL_law := u_r21 _ (List.mem_of_getElem? (i := 0) rfl)
theorem uc_J0_length_8abf5 : Cond.code yJ0_length_8abf5 cJ0_length_8abf5 1 (some .int) ∈ wsL_law := u_r21 _ (List.mem_of_getElem? (i := 1) rfl)
theorem uf_J0_9 : Cond.fieldLink RJ0 9 "java/lang/String" "value" "[B" ∈ wsL_law := u_r21 _ (List.mem_of_getElem? (i := 2) rfl)
theorem um_J0_335 : Cond.methodLink RJ0 335 yJ0_coder_7d493 ∈ wsL_law := u_r21 _ (List.mem_of_getElem? (i := 3) rfl)
theorem ui_J0_coder_7d493 : Cond.instanceMethod yJ0_coder_7d493 ∈ wsL_law := u_r21 _ (List.mem_of_getElem? (i := 4) rfl)
theorem us_J0_coder_7d493 : Cond.selects RJ0 yJ0_coder_7d493 yJ0_coder_7d493 ∈ wsL_law := u_r21 _ (List.mem_of_getElem? (i := 5) rfl)
theorem uc_J0_coder_7d493 : Cond.code yJ0_coder_7d493 cJ0_coder_7d493 1 (some .byte) ∈ wsL_law := u_r21 _ (List.mem_of_getElem? (i := 6) rfl)
theorem uf_J0_38 : Cond.fieldLink RJ0 38 "java/lang/String" "COMPACT_STRINGS" "Z" ∈ wsL_law := u_r21 _ (List.mem_of_getElem? (i := 7) rfl)
theorem uf_J0_15 : Cond.fieldLink RJ0 15 "java/lang/String" "coder" "B" ∈ wsL_law := u_r21 _ (List.mem_of_getElem? (i := 8) rfl)
theorem um_J5_40 : Cond.methodLink RJ5 40 yJ0_coder_7d493 ∈ wsL_law := u_r21 _ (List.mem_of_getElem? (i := 9) rfl)
theorem um_J5_26 : Cond.methodLink RJ5 26 yJ2_newBytesFor_77867 ∈ wsL_law := u_r21 _ (List.mem_of_getElem? (i := 10) rfl)
theorem ut_J2_newBytesFor_77867 : Cond.static yJ2_newBytesFor_77867 ∈ wsL_law := u_r21 _ (List.mem_of_getElem? (i := 11) rfl)
theorem un_J2 : Cond.initialized RJ2 ∈ wsL_law := u_r21 _ (List.mem_of_getElem? (i := 12) rfl)
theorem uc_J2_newBytesFor_77867 : Cond.code yJ2_newBytesFor_77867 cJ2_newBytesFor_77867 1 (some (.array .byte)) ∈ wsL_law := u_r21 _ (List.mem_of_getElem? (i := 13) rfl)
theorem um_J2_11 : Cond.methodLink RJ2 11 yJ2_newBytesLength_0f7a4 ∈ wsL_law := u_r21 _ (List.mem_of_getElem? (i := 14) rfl)
theorem ut_J2_newBytesLength_0f7a4 : Cond.static yJ2_newBytesLength_0f7a4 ∈ wsL_law := u_r21 _ (List.mem_of_getElem? (i := 15) rfl)
theorem uc_J2_newBytesLength_0f7a4 : Cond.code yJ2_newBytesLength_0f7a4 cJ2_newBytesLength_0f7a4 1 (some .int) ∈ wsL_law := u_r21 _ (List.mem_of_getElem? (i := 16) rfl)
theorem uk_J2_20 : Cond.constant RJ2 20 (1073741823) ∈ wsL_law := u_r21 _ (List.mem_of_getElem? (i := 17) rfl)
theorem um_J5_43 : Cond.methodLink RJ5 43 ⟨"java/lang/AbstractStringBuilder", "append", "(Ljava/lang/String;)Ljava/lang/AbstractStringBuilder;"⟩ ∈ wsL_law := u_r21 _ (List.mem_of_getElem? (i := 18) rfl)
theorem uq_AbstractStringBuilder_AbstractStringBuilder_append_cf1c : Cond.sameMethod "java/lang/AbstractStringBuilder" "java/lang/AbstractStringBuilder" "append" "(Ljava/lang/String;)Ljava/lang/AbstractStringBuilder;" ∈ wsL_law := u_r21 _ (List.mem_of_getElem? (i := 19) rfl)
theorem ui_rAbstractStringBuilder_append_cf1c : Cond.instanceMethod ⟨"java/lang/AbstractStringBuilder", "append", "(Ljava/lang/String;)Ljava/lang/AbstractStringBuilder;"⟩ ∈ wsL_law := u_r21 _ (List.mem_of_getElem? (i := 20) rfl)
theorem us_RJ4_rAbstractStringBuilder_append_cf1c : Cond.selects RJ4 ⟨"java/lang/AbstractStringBuilder", "append", "(Ljava/lang/String;)Ljava/lang/AbstractStringBuilder;"⟩ yJ4_append_cf1ce ∈ wsL_law := u_r21 _ (List.mem_of_getElem? (i := 21) rfl)
theorem ui_J4_append_cf1ce : Cond.instanceMethod yJ4_append_cf1ce ∈ wsL_law := u_r21 _ (List.mem_of_getElem? (i := 22) rfl)
theorem uc_J4_append_cf1ce : Cond.code yJ4_append_cf1ce cJ4_append_cf1ce 2 (some (.object "java/lang/AbstractStringBuilder")) ∈ wsL_law := u_r21 _ (List.mem_of_getElem? (i := 23) rfl)
theorem um_J4_23 : Cond.methodLink RJ4 23 yJ4_append_15ec4 ∈ wsL_law := u_r22 _ (List.mem_of_getElem? (i := 0) rfl)
theorem ui_J4_append_15ec4 : Cond.instanceMethod yJ4_append_15ec4 ∈ wsL_law := u_r22 _ (List.mem_of_getElem? (i := 1) rfl)
theorem us_J4_append_15ec4 : Cond.selects RJ4 yJ4_append_15ec4 yJ4_append_15ec4 ∈ wsL_law := u_r22 _ (List.mem_of_getElem? (i := 2) rfl)
theorem uc_J4_append_15ec4 : Cond.code yJ4_append_15ec4 cJ4_append_15ec4 2 (some (.object "java/lang/StringBuilder")) ∈ wsL_law := u_r22 _ (List.mem_of_getElem? (i := 3) rfl)
theorem um_J4_29 : Cond.methodLink RJ4 29 yJ5_append_cf1ce ∈ wsL_law := u_r22 _ (List.mem_of_getElem? (i := 4) rfl)
theorem up_J4 : Cond.superclass RJ4 RJ5 ∈ wsL_law := u_r22 _ (List.mem_of_getElem? (i := 5) rfl)
theorem ui_J5_append_cf1ce : Cond.instanceMethod yJ5_append_cf1ce ∈ wsL_law := u_r22 _ (List.mem_of_getElem? (i := 6) rfl)
theorem uc_J5_append_cf1ce : Cond.code yJ5_append_cf1ce cJ5_append_cf1ce 3 (some (.object "java/lang/AbstractStringBuilder")) ∈ wsL_law := u_r22 _ (List.mem_of_getElem? (i := 7) rfl)
theorem uf_J5_79 : Cond.fieldLink RJ5 79 "java/lang/AbstractStringBuilder" "count" "I" ∈ wsL_law := u_r22 _ (List.mem_of_getElem? (i := 8) rfl)
theorem um_J5_204 : Cond.methodLink RJ5 204 ⟨"java/lang/AbstractStringBuilder", "appendNull", "()Ljava/lang/AbstractStringBuilder;"⟩ ∈ wsL_law := u_r22 _ (List.mem_of_getElem? (i := 9) rfl)
theorem uq_AbstractStringBuilder_AbstractStringBuilder_appendNull_278b : Cond.sameMethod "java/lang/AbstractStringBuilder" "java/lang/AbstractStringBuilder" "appendNull" "()Ljava/lang/AbstractStringBuilder;" ∈ wsL_law := u_r22 _ (List.mem_of_getElem? (i := 10) rfl)
theorem us_RJ4_rAbstractStringBuilder_appendNull_278b : Cond.selects RJ4 ⟨"java/lang/AbstractStringBuilder", "appendNull", "()Ljava/lang/AbstractStringBuilder;"⟩ yJ5_appendNull_278bc ∈ wsL_law := u_r22 _ (List.mem_of_getElem? (i := 11) rfl)
theorem ui_J5_appendNull_278bc : Cond.instanceMethod yJ5_appendNull_278bc ∈ wsL_law := u_r22 _ (List.mem_of_getElem? (i := 12) rfl)
theorem uc_J5_appendNull_278bc : Cond.code yJ5_appendNull_278bc cJ5_appendNull_278bc 3 (some (.object "java/lang/AbstractStringBuilder")) ∈ wsL_law := u_r22 _ (List.mem_of_getElem? (i := 13) rfl)
theorem um_J5_100 : Cond.methodLink RJ5 100 ⟨"java/lang/AbstractStringBuilder", "ensureCapacityInternal", "(I)V"⟩ ∈ wsL_law := u_r22 _ (List.mem_of_getElem? (i := 14) rfl)
theorem uq_AbstractStringBuilder_AbstractStringBuilder_ensureCapacityInternal_d00d : Cond.sameMethod "java/lang/AbstractStringBuilder" "java/lang/AbstractStringBuilder" "ensureCapacityInternal" "(I)V" ∈ wsL_law := u_r22 _ (List.mem_of_getElem? (i := 15) rfl)
theorem us_RJ4_rAbstractStringBuilder_ensureCapacityInternal_d00d : Cond.selects RJ4 ⟨"java/lang/AbstractStringBuilder", "ensureCapacityInternal", "(I)V"⟩ yJ5_ensureCapacityInternal_d00df ∈ wsL_law := u_r22 _ (List.mem_of_getElem? (i := 16) rfl)
theorem ui_J5_ensureCapacityInternal_d00df : Cond.instanceMethod yJ5_ensureCapacityInternal_d00df ∈ wsL_law := u_r22 _ (List.mem_of_getElem? (i := 17) rfl)
theorem uc_J5_ensureCapacityInternal_d00df : Cond.code yJ5_ensureCapacityInternal_d00df cJ5_ensureCapacityInternal_d00df 3 none ∈ wsL_law := u_r22 _ (List.mem_of_getElem? (i := 18) rfl)
theorem um_J5_104 : Cond.methodLink RJ5 104 ⟨"java/lang/AbstractStringBuilder", "newCapacity", "(I)I"⟩ ∈ wsL_law := u_r22 _ (List.mem_of_getElem? (i := 19) rfl)
theorem uq_AbstractStringBuilder_AbstractStringBuilder_newCapacity_0f7a : Cond.sameMethod "java/lang/AbstractStringBuilder" "java/lang/AbstractStringBuilder" "newCapacity" "(I)I" ∈ wsL_law := u_r22 _ (List.mem_of_getElem? (i := 20) rfl)
theorem us_RJ4_rAbstractStringBuilder_newCapacity_0f7a : Cond.selects RJ4 ⟨"java/lang/AbstractStringBuilder", "newCapacity", "(I)I"⟩ yJ5_newCapacity_0f7a4 ∈ wsL_law := u_r22 _ (List.mem_of_getElem? (i := 21) rfl)
theorem ui_J5_newCapacity_0f7a4 : Cond.instanceMethod yJ5_newCapacity_0f7a4 ∈ wsL_law := u_r22 _ (List.mem_of_getElem? (i := 22) rfl)
theorem uc_J5_newCapacity_0f7a4 : Cond.code yJ5_newCapacity_0f7a4 cJ5_newCapacity_0f7a4 6 (some .int) ∈ wsL_law := u_r22 _ (List.mem_of_getElem? (i := 23) rfl)
theorem um_J5_114 : Cond.methodLink RJ5 114 yJ8_newLength_cabcc ∈ wsL_law := u_r23 _ (List.mem_of_getElem? (i := 0) rfl)
theorem ut_J8_newLength_cabcc : Cond.static yJ8_newLength_cabcc ∈ wsL_law := u_r23 _ (List.mem_of_getElem? (i := 1) rfl)
theorem un_J8 : Cond.initialized RJ8 ∈ wsL_law := u_r23 _ (List.mem_of_getElem? (i := 2) rfl)
theorem uc_J8_newLength_cabcc : Cond.code yJ8_newLength_cabcc cJ8_newLength_cabcc 4 (some .int) ∈ wsL_law := u_r23 _ (List.mem_of_getElem? (i := 3) rfl)
theorem um_J8_194 : Cond.methodLink RJ8 194 Lib.Math.max.name ∈ wsL_law := u_r23 _ (List.mem_of_getElem? (i := 4) rfl)
theorem ut_Lib.Math.max.name : Cond.static Lib.Math.max.name ∈ wsL_law := u_r23 _ (List.mem_of_getElem? (i := 5) rfl)
theorem uc_Lib.Math.max.name : Cond.code Lib.Math.max.name Lib.Math.max.code 2 (some .int) ∈ wsL_law := u_r23 _ (List.mem_of_getElem? (i := 6) rfl)
theorem uk_J8_200 : Cond.constant RJ8 200 (2147483639) ∈ wsL_law := u_r23 _ (List.mem_of_getElem? (i := 7) rfl)
theorem um_J8_201 : Cond.methodLink RJ8 201 yJ8_hugeLength_7cf53 ∈ wsL_law := u_r23 _ (List.mem_of_getElem? (i := 8) rfl)
theorem ut_J8_hugeLength_7cf53 : Cond.static yJ8_hugeLength_7cf53 ∈ wsL_law := u_r23 _ (List.mem_of_getElem? (i := 9) rfl)
theorem uc_J8_hugeLength_7cf53 : Cond.code yJ8_hugeLength_7cf53 cJ8_hugeLength_7cf53 3 (some .int) ∈ wsL_law := u_r23 _ (List.mem_of_getElem? (i := 10) rfl)
theorem um_J5_108 : Cond.methodLink RJ5 108 yJ7_copyOf_9075b ∈ wsL_law := u_r23 _ (List.mem_of_getElem? (i := 11) rfl)
theorem ut_J7_copyOf_9075b : Cond.static yJ7_copyOf_9075b ∈ wsL_law := u_r23 _ (List.mem_of_getElem? (i := 12) rfl)
theorem un_J7 : Cond.initialized RJ7 ∈ wsL_law := u_r23 _ (List.mem_of_getElem? (i := 13) rfl)
theorem uc_J7_copyOf_9075b : Cond.code yJ7_copyOf_9075b cJ7_copyOf_9075b 3 (some (.array .byte)) ∈ wsL_law := u_r23 _ (List.mem_of_getElem? (i := 14) rfl)
theorem um_J7_310 : Cond.methodLink RJ7 310 ⟨"[B", "clone", "()Ljava/lang/Object;"⟩ ∈ wsL_law := u_r23 _ (List.mem_of_getElem? (i := 15) rfl)
theorem uq_AB_Object_clone_0502 : Cond.sameMethod "[B" "java/lang/Object" "clone" "()Ljava/lang/Object;" ∈ wsL_law := u_r23 _ (List.mem_of_getElem? (i := 16) rfl)
theorem uv_rObject_clone_0502 : Cond.native ⟨"java/lang/Object", "clone", "()Ljava/lang/Object;"⟩ ∈ wsL_law := u_r23 _ (List.mem_of_getElem? (i := 17) rfl)
theorem ui_rObject_clone_0502 : Cond.instanceMethod ⟨"java/lang/Object", "clone", "()Ljava/lang/Object;"⟩ ∈ wsL_law := u_r23 _ (List.mem_of_getElem? (i := 18) rfl)
theorem us_AB_rAB_clone_0502 : Cond.selects "[B" ⟨"[B", "clone", "()Ljava/lang/Object;"⟩ ⟨"java/lang/Object", "clone", "()Ljava/lang/Object;"⟩ ∈ wsL_law := u_r23 _ (List.mem_of_getElem? (i := 19) rfl)
theorem ul_J7_311 : Cond.classLink RJ7 311 "[B" ∈ wsL_law := u_r23 _ (List.mem_of_getElem? (i := 20) rfl)
theorem um_J7_304 : Cond.methodLink RJ7 304 Lib.Math.min.name ∈ wsL_law := u_r23 _ (List.mem_of_getElem? (i := 21) rfl)
theorem um_J7_150 : Cond.methodLink RJ7 150 arraycopyName ∈ wsL_law := u_r23 _ (List.mem_of_getElem? (i := 22) rfl)
theorem um_J5_83 : Cond.methodLink RJ5 83 ⟨"java/lang/AbstractStringBuilder", "isLatin1", "()Z"⟩ ∈ wsL_law := u_r23 _ (List.mem_of_getElem? (i := 23) rfl)
theorem uq_AbstractStringBuilder_AbstractStringBuilder_isLatin1_aae0 : Cond.sameMethod "java/lang/AbstractStringBuilder" "java/lang/AbstractStringBuilder" "isLatin1" "()Z" ∈ wsL_law := u_r24 _ (List.mem_of_getElem? (i := 0) rfl)
theorem us_RJ4_rAbstractStringBuilder_isLatin1_aae0 : Cond.selects RJ4 ⟨"java/lang/AbstractStringBuilder", "isLatin1", "()Z"⟩ yJ5_isLatin1_aae02 ∈ wsL_law := u_r24 _ (List.mem_of_getElem? (i := 1) rfl)
theorem ui_J5_isLatin1_aae02 : Cond.instanceMethod yJ5_isLatin1_aae02 ∈ wsL_law := u_r24 _ (List.mem_of_getElem? (i := 2) rfl)
theorem uc_J5_isLatin1_aae02 : Cond.code yJ5_isLatin1_aae02 cJ5_isLatin1_aae02 1 (some .boolean) ∈ wsL_law := u_r24 _ (List.mem_of_getElem? (i := 3) rfl)
theorem uf_J5_18 : Cond.fieldLink RJ5 18 "java/lang/String" "COMPACT_STRINGS" "Z" ∈ wsL_law := u_r24 _ (List.mem_of_getElem? (i := 4) rfl)
theorem um_J5_226 : Cond.methodLink RJ5 226 yJ2_putCharsAt_cd4e5 ∈ wsL_law := u_r24 _ (List.mem_of_getElem? (i := 5) rfl)
theorem ut_J2_putCharsAt_cd4e5 : Cond.static yJ2_putCharsAt_cd4e5 ∈ wsL_law := u_r24 _ (List.mem_of_getElem? (i := 6) rfl)
theorem uc_J2_putCharsAt_cd4e5 : Cond.code yJ2_putCharsAt_cd4e5 cJ2_putCharsAt_cd4e5 7 (some .int) ∈ wsL_law := u_r24 _ (List.mem_of_getElem? (i := 7) rfl)
theorem uf_J2_44 : Cond.fieldLink RJ2 44 "java/lang/StringUTF16" "$assertionsDisabled" "Z" ∈ wsL_law := u_r24 _ (List.mem_of_getElem? (i := 8) rfl)
theorem um_J2_96 : Cond.methodLink RJ2 96 yJ2_checkBoundsBeginEnd_d044e ∈ wsL_law := u_r24 _ (List.mem_of_getElem? (i := 9) rfl)
theorem ut_J2_checkBoundsBeginEnd_d044e : Cond.static yJ2_checkBoundsBeginEnd_d044e ∈ wsL_law := u_r24 _ (List.mem_of_getElem? (i := 10) rfl)
theorem uc_J2_checkBoundsBeginEnd_d044e : Cond.code yJ2_checkBoundsBeginEnd_d044e cJ2_checkBoundsBeginEnd_d044e 3 none ∈ wsL_law := u_r24 _ (List.mem_of_getElem? (i := 11) rfl)
theorem um_J2_48 : Cond.methodLink RJ2 48 yJ2_length_9d52b ∈ wsL_law := u_r24 _ (List.mem_of_getElem? (i := 12) rfl)
theorem ut_J2_length_9d52b : Cond.static yJ2_length_9d52b ∈ wsL_law := u_r24 _ (List.mem_of_getElem? (i := 13) rfl)
theorem uc_J2_length_9d52b : Cond.code yJ2_length_9d52b cJ2_length_9d52b 1 (some .int) ∈ wsL_law := u_r24 _ (List.mem_of_getElem? (i := 14) rfl)
theorem um_J2_241 : Cond.methodLink RJ2 241 yJ0_checkBoundsBeginEnd_23922 ∈ wsL_law := u_r24 _ (List.mem_of_getElem? (i := 15) rfl)
theorem ut_J0_checkBoundsBeginEnd_23922 : Cond.static yJ0_checkBoundsBeginEnd_23922 ∈ wsL_law := u_r24 _ (List.mem_of_getElem? (i := 16) rfl)
theorem uc_J0_checkBoundsBeginEnd_23922 : Cond.code yJ0_checkBoundsBeginEnd_23922 cJ0_checkBoundsBeginEnd_23922 3 none ∈ wsL_law := u_r24 _ (List.mem_of_getElem? (i := 17) rfl)
theorem uf_J0_1053 : Cond.fieldLink RJ0 1053 "jdk/internal/util/Preconditions" "SIOOBE_FORMATTER" "Ljava/util/function/BiFunction;" ∈ wsL_law := u_r24 _ (List.mem_of_getElem? (i := 18) rfl)
theorem um_J0_1062 : Cond.methodLink RJ0 1062 yJ3_checkFromToIndex_8c36e ∈ wsL_law := u_r24 _ (List.mem_of_getElem? (i := 19) rfl)
theorem ut_J3_checkFromToIndex_8c36e : Cond.static yJ3_checkFromToIndex_8c36e ∈ wsL_law := u_r24 _ (List.mem_of_getElem? (i := 20) rfl)
theorem un_J3 : Cond.initialized RJ3 ∈ wsL_law := u_r24 _ (List.mem_of_getElem? (i := 21) rfl)
theorem uc_J3_checkFromToIndex_8c36e : Cond.code yJ3_checkFromToIndex_8c36e cJ3_checkFromToIndex_8c36e 4 (some .int) ∈ wsL_law := u_r24 _ (List.mem_of_getElem? (i := 22) rfl)
theorem um_J2_111 : Cond.methodLink RJ2 111 yJ2_putChar_b72d1 ∈ wsL_law := u_r24 _ (List.mem_of_getElem? (i := 23) rfl)
theorem ut_J2_putChar_b72d1 : Cond.static yJ2_putChar_b72d1 ∈ wsL_law := u_r25 _ (List.mem_of_getElem? (i := 0) rfl)
theorem uc_J2_putChar_b72d1 : Cond.code yJ2_putChar_b72d1 cJ2_putChar_b72d1 3 none ∈ wsL_law := u_r25 _ (List.mem_of_getElem? (i := 1) rfl)
theorem uf_J2_59 : Cond.fieldLink RJ2 59 "java/lang/StringUTF16" "HI_BYTE_SHIFT" "I" ∈ wsL_law := u_r25 _ (List.mem_of_getElem? (i := 2) rfl)
theorem uf_J2_63 : Cond.fieldLink RJ2 63 "java/lang/StringUTF16" "LO_BYTE_SHIFT" "I" ∈ wsL_law := u_r25 _ (List.mem_of_getElem? (i := 3) rfl)
theorem um_J5_208 : Cond.methodLink RJ5 208 ⟨"java/lang/AbstractStringBuilder", "putStringAt", "(ILjava/lang/String;)V"⟩ ∈ wsL_law := u_r25 _ (List.mem_of_getElem? (i := 4) rfl)
theorem uq_AbstractStringBuilder_AbstractStringBuilder_putStringAt_47b6 : Cond.sameMethod "java/lang/AbstractStringBuilder" "java/lang/AbstractStringBuilder" "putStringAt" "(ILjava/lang/String;)V" ∈ wsL_law := u_r25 _ (List.mem_of_getElem? (i := 5) rfl)
theorem us_RJ4_rAbstractStringBuilder_putStringAt_47b6 : Cond.selects RJ4 ⟨"java/lang/AbstractStringBuilder", "putStringAt", "(ILjava/lang/String;)V"⟩ yJ5_putStringAt_47b60 ∈ wsL_law := u_r25 _ (List.mem_of_getElem? (i := 6) rfl)
theorem ui_J5_putStringAt_47b60 : Cond.instanceMethod yJ5_putStringAt_47b60 ∈ wsL_law := u_r25 _ (List.mem_of_getElem? (i := 7) rfl)
theorem uc_J5_putStringAt_47b60 : Cond.code yJ5_putStringAt_47b60 cJ5_putStringAt_47b60 3 none ∈ wsL_law := u_r25 _ (List.mem_of_getElem? (i := 8) rfl)
theorem um_J5_397 : Cond.methodLink RJ5 397 ⟨"java/lang/AbstractStringBuilder", "inflateIfNeededFor", "(Ljava/lang/String;)V"⟩ ∈ wsL_law := u_r25 _ (List.mem_of_getElem? (i := 9) rfl)
theorem uq_AbstractStringBuilder_AbstractStringBuilder_inflateIfNeededFor_a742 : Cond.sameMethod "java/lang/AbstractStringBuilder" "java/lang/AbstractStringBuilder" "inflateIfNeededFor" "(Ljava/lang/String;)V" ∈ wsL_law := u_r25 _ (List.mem_of_getElem? (i := 10) rfl)
theorem us_RJ4_rAbstractStringBuilder_inflateIfNeededFor_a742 : Cond.selects RJ4 ⟨"java/lang/AbstractStringBuilder", "inflateIfNeededFor", "(Ljava/lang/String;)V"⟩ yJ5_inflateIfNeededFor_a7421 ∈ wsL_law := u_r25 _ (List.mem_of_getElem? (i := 11) rfl)
theorem ui_J5_inflateIfNeededFor_a7421 : Cond.instanceMethod yJ5_inflateIfNeededFor_a7421 ∈ wsL_law := u_r25 _ (List.mem_of_getElem? (i := 12) rfl)
theorem uc_J5_inflateIfNeededFor_a7421 : Cond.code yJ5_inflateIfNeededFor_a7421 cJ5_inflateIfNeededFor_a7421 2 none ∈ wsL_law := u_r25 _ (List.mem_of_getElem? (i := 13) rfl)
theorem um_J5_195 : Cond.methodLink RJ5 195 ⟨"java/lang/AbstractStringBuilder", "inflate", "()V"⟩ ∈ wsL_law := u_r25 _ (List.mem_of_getElem? (i := 14) rfl)
theorem uq_AbstractStringBuilder_AbstractStringBuilder_inflate_da8c : Cond.sameMethod "java/lang/AbstractStringBuilder" "java/lang/AbstractStringBuilder" "inflate" "()V" ∈ wsL_law := u_r25 _ (List.mem_of_getElem? (i := 15) rfl)
theorem us_RJ4_rAbstractStringBuilder_inflate_da8c : Cond.selects RJ4 ⟨"java/lang/AbstractStringBuilder", "inflate", "()V"⟩ yJ5_inflate_da8c8 ∈ wsL_law := u_r25 _ (List.mem_of_getElem? (i := 16) rfl)
theorem ui_J5_inflate_da8c8 : Cond.instanceMethod yJ5_inflate_da8c8 ∈ wsL_law := u_r25 _ (List.mem_of_getElem? (i := 17) rfl)
theorem uc_J5_inflate_da8c8 : Cond.code yJ5_inflate_da8c8 cJ5_inflate_da8c8 2 none ∈ wsL_law := u_r25 _ (List.mem_of_getElem? (i := 18) rfl)
theorem um_J5_125 : Cond.methodLink RJ5 125 yJ1_inflate_0e8fd ∈ wsL_law := u_r25 _ (List.mem_of_getElem? (i := 19) rfl)
theorem ut_J1_inflate_0e8fd : Cond.static yJ1_inflate_0e8fd ∈ wsL_law := u_r25 _ (List.mem_of_getElem? (i := 20) rfl)
theorem un_J1 : Cond.initialized RJ1 ∈ wsL_law := u_r25 _ (List.mem_of_getElem? (i := 21) rfl)
theorem uc_J1_inflate_0e8fd : Cond.code yJ1_inflate_0e8fd cJ1_inflate_0e8fd 5 none ∈ wsL_law := u_r25 _ (List.mem_of_getElem? (i := 22) rfl)
theorem um_J1_240 : Cond.methodLink RJ1 240 yJ2_inflate_0e8fd ∈ wsL_law := u_r25 _ (List.mem_of_getElem? (i := 23) rfl)
theorem ut_J2_inflate_0e8fd : Cond.static yJ2_inflate_0e8fd ∈ wsL_law := u_r26 _ (List.mem_of_getElem? (i := 0) rfl)
theorem uc_J2_inflate_0e8fd : Cond.code yJ2_inflate_0e8fd cJ2_inflate_0e8fd 6 none ∈ wsL_law := u_r26 _ (List.mem_of_getElem? (i := 1) rfl)
theorem um_J2_173 : Cond.methodLink RJ2 173 yJ2_checkBoundsOffCount_d044e ∈ wsL_law := u_r26 _ (List.mem_of_getElem? (i := 2) rfl)
theorem ut_J2_checkBoundsOffCount_d044e : Cond.static yJ2_checkBoundsOffCount_d044e ∈ wsL_law := u_r26 _ (List.mem_of_getElem? (i := 3) rfl)
theorem uc_J2_checkBoundsOffCount_d044e : Cond.code yJ2_checkBoundsOffCount_d044e cJ2_checkBoundsOffCount_d044e 3 none ∈ wsL_law := u_r26 _ (List.mem_of_getElem? (i := 4) rfl)
theorem um_J2_419 : Cond.methodLink RJ2 419 yJ0_checkBoundsOffCount_cabcc ∈ wsL_law := u_r26 _ (List.mem_of_getElem? (i := 5) rfl)
theorem ut_J0_checkBoundsOffCount_cabcc : Cond.static yJ0_checkBoundsOffCount_cabcc ∈ wsL_law := u_r26 _ (List.mem_of_getElem? (i := 6) rfl)
theorem uc_J0_checkBoundsOffCount_cabcc : Cond.code yJ0_checkBoundsOffCount_cabcc cJ0_checkBoundsOffCount_cabcc 3 (some .int) ∈ wsL_law := u_r26 _ (List.mem_of_getElem? (i := 7) rfl)
theorem um_J0_1065 : Cond.methodLink RJ0 1065 yJ3_checkFromIndexSize_8c36e ∈ wsL_law := u_r26 _ (List.mem_of_getElem? (i := 8) rfl)
theorem ut_J3_checkFromIndexSize_8c36e : Cond.static yJ3_checkFromIndexSize_8c36e ∈ wsL_law := u_r26 _ (List.mem_of_getElem? (i := 9) rfl)
theorem uc_J3_checkFromIndexSize_8c36e : Cond.code yJ3_checkFromIndexSize_8c36e cJ3_checkFromIndexSize_8c36e 4 (some .int) ∈ wsL_law := u_r26 _ (List.mem_of_getElem? (i := 10) rfl)
theorem um_J5_399 : Cond.methodLink RJ5 399 yJ0_getBytes_840e7 ∈ wsL_law := u_r26 _ (List.mem_of_getElem? (i := 11) rfl)
theorem ui_J0_getBytes_840e7 : Cond.instanceMethod yJ0_getBytes_840e7 ∈ wsL_law := u_r26 _ (List.mem_of_getElem? (i := 12) rfl)
theorem us_J0_getBytes_840e7 : Cond.selects RJ0 yJ0_getBytes_840e7 yJ0_getBytes_840e7 ∈ wsL_law := u_r26 _ (List.mem_of_getElem? (i := 13) rfl)
theorem uc_J0_getBytes_840e7 : Cond.code yJ0_getBytes_840e7 cJ0_getBytes_840e7 4 none ∈ wsL_law := u_r26 _ (List.mem_of_getElem? (i := 14) rfl)
theorem um_J0_212 : Cond.methodLink RJ0 212 arraycopyName ∈ wsL_law := u_r26 _ (List.mem_of_getElem? (i := 15) rfl)
theorem um_J0_106 : Cond.methodLink RJ0 106 yJ1_inflate_0e8fd ∈ wsL_law := u_r26 _ (List.mem_of_getElem? (i := 16) rfl)
theorem um_L_34 : Cond.methodLink RL 34 yJ4_append_bf812 ∈ wsL_law := u_r26 _ (List.mem_of_getElem? (i := 17) rfl)
theorem ui_J4_append_bf812 : Cond.instanceMethod yJ4_append_bf812 ∈ wsL_law := u_r26 _ (List.mem_of_getElem? (i := 18) rfl)
theorem us_J4_append_bf812 : Cond.selects RJ4 yJ4_append_bf812 yJ4_append_bf812 ∈ wsL_law := u_r26 _ (List.mem_of_getElem? (i := 19) rfl)
theorem uc_J4_append_bf812 : Cond.code yJ4_append_bf812 cJ4_append_bf812 2 (some (.object "java/lang/StringBuilder")) ∈ wsL_law := u_r26 _ (List.mem_of_getElem? (i := 20) rfl)
theorem um_J4_53 : Cond.methodLink RJ4 53 yJ5_append_c97b9 ∈ wsL_law := u_r26 _ (List.mem_of_getElem? (i := 21) rfl)
theorem uq_AbstractStringBuilder_AbstractStringBuilder_append_c97b : Cond.sameMethod "java/lang/AbstractStringBuilder" "java/lang/AbstractStringBuilder" "append" "(I)Ljava/lang/AbstractStringBuilder;" ∈ wsL_law := u_r26 _ (List.mem_of_getElem? (i := 22) rfl)
theorem ui_J5_append_c97b9 : Cond.instanceMethod yJ5_append_c97b9 ∈ wsL_law := u_r26 _ (List.mem_of_getElem? (i := 23) rfl)
theorem uc_J5_append_c97b9 : Cond.code yJ5_append_c97b9 cJ5_append_c97b9 4 (some (.object "java/lang/AbstractStringBuilder")) ∈ wsL_law := u_r27 _ (List.mem_of_getElem? (i := 0) rfl)
theorem um_J5_245 : Cond.methodLink RJ5 245 yJ6_stringSize_0f7a4 ∈ wsL_law := u_r27 _ (List.mem_of_getElem? (i := 1) rfl)
theorem ut_J6_stringSize_0f7a4 : Cond.static yJ6_stringSize_0f7a4 ∈ wsL_law := u_r27 _ (List.mem_of_getElem? (i := 2) rfl)
theorem un_J6 : Cond.initialized RJ6 ∈ wsL_law := u_r27 _ (List.mem_of_getElem? (i := 3) rfl)
theorem uc_J6_stringSize_0f7a4 : Cond.code yJ6_stringSize_0f7a4 cJ6_stringSize_0f7a4 4 (some .int) ∈ wsL_law := u_r27 _ (List.mem_of_getElem? (i := 4) rfl)
theorem um_J5_248 : Cond.methodLink RJ5 248 yJ6_getChars_ba4f3 ∈ wsL_law := u_r27 _ (List.mem_of_getElem? (i := 5) rfl)
theorem ut_J6_getChars_ba4f3 : Cond.static yJ6_getChars_ba4f3 ∈ wsL_law := u_r27 _ (List.mem_of_getElem? (i := 6) rfl)
theorem uc_J6_getChars_ba4f3 : Cond.code yJ6_getChars_ba4f3 cJ6_getChars_ba4f3 7 (some .int) ∈ wsL_law := u_r27 _ (List.mem_of_getElem? (i := 7) rfl)
theorem uf_J6_83 : Cond.fieldLink RJ6 83 "java/lang/Integer" "DigitOnes" "[B" ∈ wsL_law := u_r27 _ (List.mem_of_getElem? (i := 8) rfl)
theorem uf_J6_87 : Cond.fieldLink RJ6 87 "java/lang/Integer" "DigitTens" "[B" ∈ wsL_law := u_r27 _ (List.mem_of_getElem? (i := 9) rfl)
theorem um_J5_251 : Cond.methodLink RJ5 251 yJ2_getChars_46870 ∈ wsL_law := u_r27 _ (List.mem_of_getElem? (i := 10) rfl)
theorem ut_J2_getChars_46870 : Cond.static yJ2_getChars_46870 ∈ wsL_law := u_r27 _ (List.mem_of_getElem? (i := 11) rfl)
theorem uc_J2_getChars_46870 : Cond.code yJ2_getChars_46870 cJ2_getChars_46870 5 (some .int) ∈ wsL_law := u_r27 _ (List.mem_of_getElem? (i := 12) rfl)
theorem um_J2_393 : Cond.methodLink RJ2 393 yJ2_getChars_ba4f3 ∈ wsL_law := u_r27 _ (List.mem_of_getElem? (i := 13) rfl)
theorem ut_J2_getChars_ba4f3 : Cond.static yJ2_getChars_ba4f3 ∈ wsL_law := u_r27 _ (List.mem_of_getElem? (i := 14) rfl)
theorem uc_J2_getChars_ba4f3 : Cond.code yJ2_getChars_ba4f3 cJ2_getChars_ba4f3 7 (some .int) ∈ wsL_law := u_r27 _ (List.mem_of_getElem? (i := 15) rfl)
theorem uf_J2_403 : Cond.fieldLink RJ2 403 "java/lang/Integer" "DigitOnes" "[B" ∈ wsL_law := u_r27 _ (List.mem_of_getElem? (i := 16) rfl)
theorem uf_J2_407 : Cond.fieldLink RJ2 407 "java/lang/Integer" "DigitTens" "[B" ∈ wsL_law := u_r27 _ (List.mem_of_getElem? (i := 17) rfl)
theorem um_L_39 : Cond.methodLink RL 39 yJ4_append_15ec4 ∈ wsL_law := u_r27 _ (List.mem_of_getElem? (i := 18) rfl)
theorem um_L_44 : Cond.methodLink RL 44 yJ4_append_cf468 ∈ wsL_law := u_r27 _ (List.mem_of_getElem? (i := 19) rfl)
theorem ui_J4_append_cf468 : Cond.instanceMethod yJ4_append_cf468 ∈ wsL_law := u_r27 _ (List.mem_of_getElem? (i := 20) rfl)
theorem us_J4_append_cf468 : Cond.selects RJ4 yJ4_append_cf468 yJ4_append_cf468 ∈ wsL_law := u_r27 _ (List.mem_of_getElem? (i := 21) rfl)
theorem uc_J4_append_cf468 : Cond.code yJ4_append_cf468 cJ4_append_cf468 2 (some (.object "java/lang/StringBuilder")) ∈ wsL_law := u_r27 _ (List.mem_of_getElem? (i := 22) rfl)
theorem um_J4_50 : Cond.methodLink RJ4 50 yJ5_append_3fe6f ∈ wsL_law := u_r27 _ (List.mem_of_getElem? (i := 23) rfl)
theorem uq_AbstractStringBuilder_AbstractStringBuilder_append_3fe6 : Cond.sameMethod "java/lang/AbstractStringBuilder" "java/lang/AbstractStringBuilder" "append" "(C)Ljava/lang/AbstractStringBuilder;" ∈ wsL_law := u_r28 _ (List.mem_of_getElem? (i := 0) rfl)
theorem ui_J5_append_3fe6f : Cond.instanceMethod yJ5_append_3fe6f ∈ wsL_law := u_r28 _ (List.mem_of_getElem? (i := 1) rfl)
theorem uc_J5_append_3fe6f : Cond.code yJ5_append_3fe6f cJ5_append_3fe6f 2 (some (.object "java/lang/AbstractStringBuilder")) ∈ wsL_law := u_r28 _ (List.mem_of_getElem? (i := 2) rfl)
theorem um_J5_191 : Cond.methodLink RJ5 191 yJ1_canEncode_fc78d ∈ wsL_law := u_r28 _ (List.mem_of_getElem? (i := 3) rfl)
theorem ut_J1_canEncode_fc78d : Cond.static yJ1_canEncode_fc78d ∈ wsL_law := u_r28 _ (List.mem_of_getElem? (i := 4) rfl)
theorem uc_J1_canEncode_fc78d : Cond.code yJ1_canEncode_fc78d cJ1_canEncode_fc78d 1 (some .boolean) ∈ wsL_law := u_r28 _ (List.mem_of_getElem? (i := 5) rfl)
theorem um_J5_197 : Cond.methodLink RJ5 197 yJ2_putCharSB_b72d1 ∈ wsL_law := u_r28 _ (List.mem_of_getElem? (i := 6) rfl)
theorem ut_J2_putCharSB_b72d1 : Cond.static yJ2_putCharSB_b72d1 ∈ wsL_law := u_r28 _ (List.mem_of_getElem? (i := 7) rfl)
theorem uc_J2_putCharSB_b72d1 : Cond.code yJ2_putCharSB_b72d1 cJ2_putCharSB_b72d1 3 none ∈ wsL_law := u_r28 _ (List.mem_of_getElem? (i := 8) rfl)
theorem um_J2_67 : Cond.methodLink RJ2 67 yJ2_checkIndex_2214a ∈ wsL_law := u_r28 _ (List.mem_of_getElem? (i := 9) rfl)
theorem ut_J2_checkIndex_2214a : Cond.static yJ2_checkIndex_2214a ∈ wsL_law := u_r28 _ (List.mem_of_getElem? (i := 10) rfl)
theorem uc_J2_checkIndex_2214a : Cond.code yJ2_checkIndex_2214a cJ2_checkIndex_2214a 2 none ∈ wsL_law := u_r28 _ (List.mem_of_getElem? (i := 11) rfl)
theorem um_J2_414 : Cond.methodLink RJ2 414 yJ0_checkIndex_df160 ∈ wsL_law := u_r28 _ (List.mem_of_getElem? (i := 12) rfl)
theorem ut_J0_checkIndex_df160 : Cond.static yJ0_checkIndex_df160 ∈ wsL_law := u_r28 _ (List.mem_of_getElem? (i := 13) rfl)
theorem uc_J0_checkIndex_df160 : Cond.code yJ0_checkIndex_df160 cJ0_checkIndex_df160 2 none ∈ wsL_law := u_r28 _ (List.mem_of_getElem? (i := 14) rfl)
theorem um_J0_1059 : Cond.methodLink RJ0 1059 yJ3_checkIndex_8e157 ∈ wsL_law := u_r28 _ (List.mem_of_getElem? (i := 15) rfl)
theorem ut_J3_checkIndex_8e157 : Cond.static yJ3_checkIndex_8e157 ∈ wsL_law := u_r28 _ (List.mem_of_getElem? (i := 16) rfl)
theorem uc_J3_checkIndex_8e157 : Cond.code yJ3_checkIndex_8e157 cJ3_checkIndex_8e157 3 (some .int) ∈ wsL_law := u_r28 _ (List.mem_of_getElem? (i := 17) rfl)
theorem um_L_58 : Cond.methodLink RL 58 yJ4_toString_0e30d ∈ wsL_law := u_r28 _ (List.mem_of_getElem? (i := 18) rfl)
theorem ui_J4_toString_0e30d : Cond.instanceMethod yJ4_toString_0e30d ∈ wsL_law := u_r28 _ (List.mem_of_getElem? (i := 19) rfl)
theorem us_J4_toString_0e30d : Cond.selects RJ4 yJ4_toString_0e30d yJ4_toString_0e30d ∈ wsL_law := u_r28 _ (List.mem_of_getElem? (i := 20) rfl)
theorem uc_J4_toString_0e30d : Cond.code yJ4_toString_0e30d cJ4_toString_0e30d 1 (some (.object "java/lang/String")) ∈ wsL_law := u_r28 _ (List.mem_of_getElem? (i := 21) rfl)
theorem ul_J4_18 : Cond.classLink RJ4 18 RJ0 ∈ wsL_law := u_r28 _ (List.mem_of_getElem? (i := 22) rfl)
theorem ua_J0 : Cond.instantiable RJ0 4 ∈ wsL_law := u_r28 _ (List.mem_of_getElem? (i := 23) rfl)
theorem um_J4_137 : Cond.methodLink RJ4 137 yJ0_init_81219 ∈ wsL_law := u_r29 _ (List.mem_of_getElem? (i := 0) rfl)
theorem ui_J0_init_81219 : Cond.instanceMethod yJ0_init_81219 ∈ wsL_law := u_r29 _ (List.mem_of_getElem? (i := 1) rfl)
theorem uc_J0_init_81219 : Cond.code yJ0_init_81219 cJ0_init_81219 2 none ∈ wsL_law := u_r29 _ (List.mem_of_getElem? (i := 2) rfl)
theorem um_J0_489 : Cond.methodLink RJ0 489 yJ0_init_db425 ∈ wsL_law := u_r29 _ (List.mem_of_getElem? (i := 3) rfl)
theorem ui_J0_init_db425 : Cond.instanceMethod yJ0_init_db425 ∈ wsL_law := u_r29 _ (List.mem_of_getElem? (i := 4) rfl)
theorem uc_J0_init_db425 : Cond.code yJ0_init_db425 cJ0_init_db425 5 none ∈ wsL_law := u_r29 _ (List.mem_of_getElem? (i := 5) rfl)
theorem um_J0_1 : Cond.methodLink RJ0 1 objectInit ∈ wsL_law := u_r29 _ (List.mem_of_getElem? (i := 6) rfl)
theorem uf_J0_1048 : Cond.fieldLink RJ0 1048 "java/lang/AbstractStringBuilder" "maybeLatin1" "Z" ∈ wsL_law := u_r29 _ (List.mem_of_getElem? (i := 7) rfl)
theorem um_J0_552 : Cond.methodLink RJ0 552 ⟨"java/lang/AbstractStringBuilder", "getValue", "()[B"⟩ ∈ wsL_law := u_r29 _ (List.mem_of_getElem? (i := 8) rfl)
theorem uq_AbstractStringBuilder_AbstractStringBuilder_getValue_6d5f : Cond.sameMethod "java/lang/AbstractStringBuilder" "java/lang/AbstractStringBuilder" "getValue" "()[B" ∈ wsL_law := u_r29 _ (List.mem_of_getElem? (i := 9) rfl)
theorem us_RJ4_rAbstractStringBuilder_getValue_6d5f : Cond.selects RJ4 ⟨"java/lang/AbstractStringBuilder", "getValue", "()[B"⟩ yJ5_getValue_6d5f1 ∈ wsL_law := u_r29 _ (List.mem_of_getElem? (i := 10) rfl)
theorem ui_J5_getValue_6d5f1 : Cond.instanceMethod yJ5_getValue_6d5f1 ∈ wsL_law := u_r29 _ (List.mem_of_getElem? (i := 11) rfl)
theorem uc_J5_getValue_6d5f1 : Cond.code yJ5_getValue_6d5f1 cJ5_getValue_6d5f1 1 (some (.array .byte)) ∈ wsL_law := u_r29 _ (List.mem_of_getElem? (i := 12) rfl)
theorem um_J0_549 : Cond.methodLink RJ0 549 ⟨"java/lang/AbstractStringBuilder", "length", "()I"⟩ ∈ wsL_law := u_r29 _ (List.mem_of_getElem? (i := 13) rfl)
theorem uq_AbstractStringBuilder_AbstractStringBuilder_length_8abf : Cond.sameMethod "java/lang/AbstractStringBuilder" "java/lang/AbstractStringBuilder" "length" "()I" ∈ wsL_law := u_r29 _ (List.mem_of_getElem? (i := 14) rfl)
theorem ui_rAbstractStringBuilder_length_8abf : Cond.instanceMethod ⟨"java/lang/AbstractStringBuilder", "length", "()I"⟩ ∈ wsL_law := u_r29 _ (List.mem_of_getElem? (i := 15) rfl)
theorem us_RJ4_rAbstractStringBuilder_length_8abf : Cond.selects RJ4 ⟨"java/lang/AbstractStringBuilder", "length", "()I"⟩ yJ4_length_8abf5 ∈ wsL_law := u_r29 _ (List.mem_of_getElem? (i := 16) rfl)
theorem ui_J4_length_8abf5 : Cond.instanceMethod yJ4_length_8abf5 ∈ wsL_law := u_r29 _ (List.mem_of_getElem? (i := 17) rfl)
theorem uc_J4_length_8abf5 : Cond.code yJ4_length_8abf5 cJ4_length_8abf5 1 (some .int) ∈ wsL_law := u_r29 _ (List.mem_of_getElem? (i := 18) rfl)
theorem um_J4_343 : Cond.methodLink RJ4 343 yJ5_length_8abf5 ∈ wsL_law := u_r29 _ (List.mem_of_getElem? (i := 19) rfl)
theorem ui_J5_length_8abf5 : Cond.instanceMethod yJ5_length_8abf5 ∈ wsL_law := u_r29 _ (List.mem_of_getElem? (i := 20) rfl)
theorem uc_J5_length_8abf5 : Cond.code yJ5_length_8abf5 cJ5_length_8abf5 1 (some .int) ∈ wsL_law := u_r29 _ (List.mem_of_getElem? (i := 21) rfl)
theorem um_J0_1047 : Cond.methodLink RJ0 1047 ⟨"java/lang/AbstractStringBuilder", "isLatin1", "()Z"⟩ ∈ wsL_law := u_r29 _ (List.mem_of_getElem? (i := 22) rfl)
theorem um_J0_54 : Cond.methodLink RJ0 54 yJ7_copyOfRange_39247 ∈ wsL_law := u_r29 _ (List.mem_of_getElem? (i := 23) rfl)
theorem ut_J7_copyOfRange_39247 : Cond.static yJ7_copyOfRange_39247 ∈ wsL_law := u_r30 _ (List.mem_of_getElem? (i := 0) rfl)
theorem uc_J7_copyOfRange_39247 : Cond.code yJ7_copyOfRange_39247 cJ7_copyOfRange_39247 3 (some (.array .byte)) ∈ wsL_law := u_r30 _ (List.mem_of_getElem? (i := 1) rfl)
theorem um_J7_339 : Cond.methodLink RJ7 339 yJ7_copyOfRangeByte_39247 ∈ wsL_law := u_r30 _ (List.mem_of_getElem? (i := 2) rfl)
theorem ut_J7_copyOfRangeByte_39247 : Cond.static yJ7_copyOfRangeByte_39247 ∈ wsL_law := u_r30 _ (List.mem_of_getElem? (i := 3) rfl)
theorem uc_J7_copyOfRangeByte_39247 : Cond.code yJ7_copyOfRangeByte_39247 cJ7_copyOfRangeByte_39247 5 (some (.array .byte)) ∈ wsL_law := u_r30 _ (List.mem_of_getElem? (i := 4) rfl)
theorem um_J7_343 : Cond.methodLink RJ7 343 yJ7_checkLength_df160 ∈ wsL_law := u_r30 _ (List.mem_of_getElem? (i := 5) rfl)
theorem ut_J7_checkLength_df160 : Cond.static yJ7_checkLength_df160 ∈ wsL_law := u_r30 _ (List.mem_of_getElem? (i := 6) rfl)
theorem uc_J7_checkLength_df160 : Cond.code yJ7_checkLength_df160 cJ7_checkLength_df160 2 none ∈ wsL_law := u_r30 _ (List.mem_of_getElem? (i := 7) rfl)
theorem um_J0_1051 : Cond.methodLink RJ0 1051 yJ2_compress_39247 ∈ wsL_law := u_r30 _ (List.mem_of_getElem? (i := 8) rfl)
theorem ut_J2_compress_39247 : Cond.static yJ2_compress_39247 ∈ wsL_law := u_r30 _ (List.mem_of_getElem? (i := 9) rfl)
theorem uc_J2_compress_39247 : Cond.code yJ2_compress_39247 cJ2_compress_39247 6 (some (.array .byte)) ∈ wsL_law := u_r30 _ (List.mem_of_getElem? (i := 10) rfl)
theorem um_J2_123 : Cond.methodLink RJ2 123 yJ2_compress_5af95 ∈ wsL_law := u_r30 _ (List.mem_of_getElem? (i := 11) rfl)
theorem ut_J2_compress_5af95 : Cond.static yJ2_compress_5af95 ∈ wsL_law := u_r30 _ (List.mem_of_getElem? (i := 12) rfl)
theorem uc_J2_compress_5af95 : Cond.code yJ2_compress_5af95 cJ2_compress_5af95 7 (some .int) ∈ wsL_law := u_r30 _ (List.mem_of_getElem? (i := 13) rfl)
theorem um_J2_71 : Cond.methodLink RJ2 71 yJ2_getChar_3b067 ∈ wsL_law := u_r30 _ (List.mem_of_getElem? (i := 14) rfl)
theorem ut_J2_getChar_3b067 : Cond.static yJ2_getChar_3b067 ∈ wsL_law := u_r30 _ (List.mem_of_getElem? (i := 15) rfl)
theorem uc_J2_getChar_3b067 : Cond.code yJ2_getChar_3b067 cJ2_getChar_3b067 2 (some .char) ∈ wsL_law := u_r30 _ (List.mem_of_getElem? (i := 16) rfl)
theorem um_J2_126 : Cond.methodLink RJ2 126 yJ7_copyOfRange_39247 ∈ wsL_law := u_r30 _ (List.mem_of_getElem? (i := 17) rfl)
theorem um_J0_47 : Cond.methodLink RJ0 47 yJ2_coderFromArrayLen_85cad ∈ wsL_law := u_r30 _ (List.mem_of_getElem? (i := 18) rfl)
theorem ut_J2_coderFromArrayLen_85cad : Cond.static yJ2_coderFromArrayLen_85cad ∈ wsL_law := u_r30 _ (List.mem_of_getElem? (i := 19) rfl)
theorem uc_J2_coderFromArrayLen_85cad : Cond.code yJ2_coderFromArrayLen_85cad cJ2_coderFromArrayLen_85cad 2 (some .byte) ∈ wsL_law := u_r30 _ (List.mem_of_getElem? (i := 20) rfl)
theorem um_L_187 : Cond.methodLink RL 187 yL_feeds ∈ wsL_law := u_r30 _ (List.mem_of_getElem? (i := 21) rfl)
theorem ut_L_feeds : Cond.static yL_feeds ∈ wsL_law := u_r30 _ (List.mem_of_getElem? (i := 22) rfl)
theorem uc_L_feeds : Cond.code yL_feeds cL_feeds 6 (some .boolean) ∈ wsL_law := u_r30 _ (List.mem_of_getElem? (i := 23) rfl)
theorem um_L_7 : Cond.methodLink RL 7 yJ0_length_8abf5 ∈ wsL_law := u_r31 _ (List.mem_of_getElem? (i := 0) rfl)
theorem um_L_13 : Cond.methodLink RL 13 yJ0_charAt_5068e ∈ wsL_law := u_r31 _ (List.mem_of_getElem? (i := 1) rfl)
theorem ui_J0_charAt_5068e : Cond.instanceMethod yJ0_charAt_5068e ∈ wsL_law := u_r31 _ (List.mem_of_getElem? (i := 2) rfl)
theorem us_J0_charAt_5068e : Cond.selects RJ0 yJ0_charAt_5068e yJ0_charAt_5068e ∈ wsL_law := u_r31 _ (List.mem_of_getElem? (i := 3) rfl)
theorem uc_J0_charAt_5068e : Cond.code yJ0_charAt_5068e cJ0_charAt_5068e 2 (some .char) ∈ wsL_law := u_r31 _ (List.mem_of_getElem? (i := 4) rfl)
theorem um_J0_492 : Cond.methodLink RJ0 492 yJ0_isLatin1_aae02 ∈ wsL_law := u_r31 _ (List.mem_of_getElem? (i := 5) rfl)
theorem ui_J0_isLatin1_aae02 : Cond.instanceMethod yJ0_isLatin1_aae02 ∈ wsL_law := u_r31 _ (List.mem_of_getElem? (i := 6) rfl)
theorem us_J0_isLatin1_aae02 : Cond.selects RJ0 yJ0_isLatin1_aae02 yJ0_isLatin1_aae02 ∈ wsL_law := u_r31 _ (List.mem_of_getElem? (i := 7) rfl)
theorem uc_J0_isLatin1_aae02 : Cond.code yJ0_isLatin1_aae02 cJ0_isLatin1_aae02 1 (some .boolean) ∈ wsL_law := u_r31 _ (List.mem_of_getElem? (i := 8) rfl)
theorem um_J0_495 : Cond.methodLink RJ0 495 yJ1_charAt_3b067 ∈ wsL_law := u_r31 _ (List.mem_of_getElem? (i := 9) rfl)
theorem ut_J1_charAt_3b067 : Cond.static yJ1_charAt_3b067 ∈ wsL_law := u_r31 _ (List.mem_of_getElem? (i := 10) rfl)
theorem uc_J1_charAt_3b067 : Cond.code yJ1_charAt_3b067 cJ1_charAt_3b067 2 (some .char) ∈ wsL_law := u_r31 _ (List.mem_of_getElem? (i := 11) rfl)
theorem um_J1_9 : Cond.methodLink RJ1 9 yJ0_checkIndex_df160 ∈ wsL_law := u_r31 _ (List.mem_of_getElem? (i := 12) rfl)
theorem um_J0_498 : Cond.methodLink RJ0 498 yJ2_charAt_3b067 ∈ wsL_law := u_r31 _ (List.mem_of_getElem? (i := 13) rfl)
theorem ut_J2_charAt_3b067 : Cond.static yJ2_charAt_3b067 ∈ wsL_law := u_r31 _ (List.mem_of_getElem? (i := 14) rfl)
theorem uc_J2_charAt_3b067 : Cond.code yJ2_charAt_3b067 cJ2_charAt_3b067 2 (some .char) ∈ wsL_law := u_r31 _ (List.mem_of_getElem? (i := 15) rfl)
theorem um_L_17 : Cond.methodLink RL 17 yX9_append ∈ wsL_law := u_r31 _ (List.mem_of_getElem? (i := 16) rfl)
theorem ui_X9_append : Cond.instanceMethod yX9_append ∈ wsL_law := u_r31 _ (List.mem_of_getElem? (i := 17) rfl)
theorem us_X9_append : Cond.selects RX9 yX9_append yX9_append ∈ wsL_law := u_r31 _ (List.mem_of_getElem? (i := 18) rfl)
theorem uc_X9_append : Cond.code yX9_append cX9_append 6 (some .int) ∈ wsL_law := u_r31 _ (List.mem_of_getElem? (i := 19) rfl)
theorem uf_X9_71 : Cond.fieldLink RX9 71 "RingOffices$Text" "length" "I" ∈ wsL_law := u_r31 _ (List.mem_of_getElem? (i := 20) rfl)
theorem um_X9_74 : Cond.methodLink RX9 74 yX7_addFourBytes ∈ wsL_law := u_r31 _ (List.mem_of_getElem? (i := 21) rfl)
theorem ui_X7_addFourBytes : Cond.instanceMethod yX7_addFourBytes ∈ wsL_law := u_r31 _ (List.mem_of_getElem? (i := 22) rfl)
theorem us_X7_addFourBytes : Cond.selects RX7 yX7_addFourBytes yX7_addFourBytes ∈ wsL_law := u_r31 _ (List.mem_of_getElem? (i := 23) rfl)
theorem uc_X7_addFourBytes : Cond.code yX7_addFourBytes cX7_addFourBytes 2 none ∈ wsL_law := u_r32 _ (List.mem_of_getElem? (i := 0) rfl)
theorem um_X7_28 : Cond.methodLink RX7 28 yX7_add ∈ wsL_law := u_r32 _ (List.mem_of_getElem? (i := 1) rfl)
theorem ui_X7_add : Cond.instanceMethod yX7_add ∈ wsL_law := u_r32 _ (List.mem_of_getElem? (i := 2) rfl)
theorem us_X7_add : Cond.selects RX7 yX7_add yX7_add ∈ wsL_law := u_r32 _ (List.mem_of_getElem? (i := 3) rfl)
theorem uc_X7_add : Cond.code yX7_add cX7_add 2 none ∈ wsL_law := u_r32 _ (List.mem_of_getElem? (i := 4) rfl)
theorem uf_X7_15 : Cond.fieldLink RX7 15 "RingOffices$Text" "length" "I" ∈ wsL_law := u_r32 _ (List.mem_of_getElem? (i := 5) rfl)
theorem um_L_23 : Cond.methodLink RL 23 yX9_truncate ∈ wsL_law := u_r32 _ (List.mem_of_getElem? (i := 6) rfl)
theorem ui_X9_truncate : Cond.instanceMethod yX9_truncate ∈ wsL_law := u_r32 _ (List.mem_of_getElem? (i := 7) rfl)
theorem us_X9_truncate : Cond.selects RX9 yX9_truncate yX9_truncate ∈ wsL_law := u_r32 _ (List.mem_of_getElem? (i := 8) rfl)
theorem uc_X9_truncate : Cond.code yX9_truncate cX9_truncate 2 (some .int) ∈ wsL_law := u_r32 _ (List.mem_of_getElem? (i := 9) rfl)
theorem um_L_191 : Cond.methodLink RL 191 yX9_load ∈ wsL_law := u_r32 _ (List.mem_of_getElem? (i := 10) rfl)
theorem ui_X9_load : Cond.instanceMethod yX9_load ∈ wsL_law := u_r32 _ (List.mem_of_getElem? (i := 11) rfl)
theorem us_X9_load : Cond.selects RX9 yX9_load yX9_load ∈ wsL_law := u_r32 _ (List.mem_of_getElem? (i := 12) rfl)
theorem uc_X9_load : Cond.code yX9_load cX9_load 1 (some .int) ∈ wsL_law := u_r32 _ (List.mem_of_getElem? (i := 13) rfl)
theorem um_X9_77 : Cond.methodLink RX9 77 yX4_parse ∈ wsL_law := u_r32 _ (List.mem_of_getElem? (i := 14) rfl)
theorem ui_X4_parse : Cond.instanceMethod yX4_parse ∈ wsL_law := u_r32 _ (List.mem_of_getElem? (i := 15) rfl)
theorem us_X4_parse : Cond.selects RX4 yX4_parse yX4_parse ∈ wsL_law := u_r32 _ (List.mem_of_getElem? (i := 16) rfl)
theorem uc_X4_parse : Cond.code yX4_parse cX4_parse 2 (some .int) ∈ wsL_law := u_r32 _ (List.mem_of_getElem? (i := 17) rfl)
theorem uf_X4_49 : Cond.fieldLink RX4 49 "RingOffices$Scanner" "kind" "I" ∈ wsL_law := u_r32 _ (List.mem_of_getElem? (i := 18) rfl)
theorem uf_X4_53 : Cond.fieldLink RX4 53 "RingOffices$Scanner" "start" "I" ∈ wsL_law := u_r32 _ (List.mem_of_getElem? (i := 19) rfl)
theorem um_X4_25 : Cond.methodLink RX4 25 yX6_clear ∈ wsL_law := u_r32 _ (List.mem_of_getElem? (i := 20) rfl)
theorem ui_X6_clear : Cond.instanceMethod yX6_clear ∈ wsL_law := u_r32 _ (List.mem_of_getElem? (i := 21) rfl)
theorem us_X6_clear : Cond.selects RX6 yX6_clear yX6_clear ∈ wsL_law := u_r32 _ (List.mem_of_getElem? (i := 22) rfl)
theorem uc_X6_clear : Cond.code yX6_clear cX6_clear 2 none ∈ wsL_law := u_r32 _ (List.mem_of_getElem? (i := 23) rfl)
theorem uf_X6_71 : Cond.fieldLink RX6 71 "RingOffices$Offices" "count" "I" ∈ wsL_law := u_r33 _ (List.mem_of_getElem? (i := 0) rfl)
theorem uf_X6_78 : Cond.fieldLink RX6 78 "RingOffices$Log" "oldest" "I" ∈ wsL_law := u_r33 _ (List.mem_of_getElem? (i := 1) rfl)
theorem uf_X6_81 : Cond.fieldLink RX6 81 "RingOffices$Log" "count" "I" ∈ wsL_law := u_r33 _ (List.mem_of_getElem? (i := 2) rfl)
theorem um_X4_28 : Cond.methodLink RX4 28 yX3_begin ∈ wsL_law := u_r33 _ (List.mem_of_getElem? (i := 3) rfl)
theorem ui_X3_begin : Cond.instanceMethod yX3_begin ∈ wsL_law := u_r33 _ (List.mem_of_getElem? (i := 4) rfl)
theorem us_X3_begin : Cond.selects RX3 yX3_begin yX3_begin ∈ wsL_law := u_r33 _ (List.mem_of_getElem? (i := 5) rfl)
theorem uc_X3_begin : Cond.code yX3_begin cX3_begin 1 none ∈ wsL_law := u_r33 _ (List.mem_of_getElem? (i := 6) rfl)
theorem uf_X3_20 : Cond.fieldLink RX3 20 "RingOffices$Scanner" "end" "I" ∈ wsL_law := u_r33 _ (List.mem_of_getElem? (i := 7) rfl)
theorem um_X3_24 : Cond.methodLink RX3 24 yX3_advance ∈ wsL_law := u_r33 _ (List.mem_of_getElem? (i := 8) rfl)
theorem ui_X3_advance : Cond.instanceMethod yX3_advance ∈ wsL_law := u_r33 _ (List.mem_of_getElem? (i := 9) rfl)
theorem us_X3_advance : Cond.selects RX3 yX3_advance yX3_advance ∈ wsL_law := u_r33 _ (List.mem_of_getElem? (i := 10) rfl)
theorem uc_X3_advance : Cond.code yX3_advance cX3_advance 2 none ∈ wsL_law := u_r33 _ (List.mem_of_getElem? (i := 11) rfl)
theorem uf_X3_30 : Cond.fieldLink RX3 30 "RingOffices$Scanner" "start" "I" ∈ wsL_law := u_r33 _ (List.mem_of_getElem? (i := 12) rfl)
theorem uf_X3_37 : Cond.fieldLink RX3 37 "RingOffices$Text" "length" "I" ∈ wsL_law := u_r33 _ (List.mem_of_getElem? (i := 13) rfl)
theorem uf_X3_40 : Cond.fieldLink RX3 40 "RingOffices$Scanner" "kind" "I" ∈ wsL_law := u_r33 _ (List.mem_of_getElem? (i := 14) rfl)
theorem um_X3_27 : Cond.methodLink RX3 27 yX3_skipWhiteSpace ∈ wsL_law := u_r33 _ (List.mem_of_getElem? (i := 15) rfl)
theorem ui_X3_skipWhiteSpace : Cond.instanceMethod yX3_skipWhiteSpace ∈ wsL_law := u_r33 _ (List.mem_of_getElem? (i := 16) rfl)
theorem us_X3_skipWhiteSpace : Cond.selects RX3 yX3_skipWhiteSpace yX3_skipWhiteSpace ∈ wsL_law := u_r33 _ (List.mem_of_getElem? (i := 17) rfl)
theorem uc_X3_skipWhiteSpace : Cond.code yX3_skipWhiteSpace cX3_skipWhiteSpace 1 none ∈ wsL_law := u_r33 _ (List.mem_of_getElem? (i := 18) rfl)
theorem um_X3_33 : Cond.methodLink RX3 33 yX7_byteAt ∈ wsL_law := u_r33 _ (List.mem_of_getElem? (i := 19) rfl)
theorem ui_X7_byteAt : Cond.instanceMethod yX7_byteAt ∈ wsL_law := u_r33 _ (List.mem_of_getElem? (i := 20) rfl)
theorem us_X7_byteAt : Cond.selects RX7 yX7_byteAt yX7_byteAt ∈ wsL_law := u_r33 _ (List.mem_of_getElem? (i := 21) rfl)
theorem uc_X7_byteAt : Cond.code yX7_byteAt cX7_byteAt 2 (some .int) ∈ wsL_law := u_r33 _ (List.mem_of_getElem? (i := 22) rfl)
theorem um_X3_59 : Cond.methodLink RX3 59 yX3_isWhiteSpace ∈ wsL_law := u_r33 _ (List.mem_of_getElem? (i := 23) rfl)
theorem ut_X3_isWhiteSpace : Cond.static yX3_isWhiteSpace ∈ wsL_law := u_r34 _ (List.mem_of_getElem? (i := 0) rfl)
theorem uc_X3_isWhiteSpace : Cond.code yX3_isWhiteSpace cX3_isWhiteSpace 1 (some .boolean) ∈ wsL_law := u_r34 _ (List.mem_of_getElem? (i := 1) rfl)
theorem um_X3_43 : Cond.methodLink RX3 43 yX3_isDigit ∈ wsL_law := u_r34 _ (List.mem_of_getElem? (i := 2) rfl)
theorem ut_X3_isDigit : Cond.static yX3_isDigit ∈ wsL_law := u_r34 _ (List.mem_of_getElem? (i := 3) rfl)
theorem uc_X3_isDigit : Cond.code yX3_isDigit cX3_isDigit 1 (some .boolean) ∈ wsL_law := u_r34 _ (List.mem_of_getElem? (i := 4) rfl)
theorem um_X3_47 : Cond.methodLink RX3 47 yX3_readNumeral ∈ wsL_law := u_r34 _ (List.mem_of_getElem? (i := 5) rfl)
theorem ui_X3_readNumeral : Cond.instanceMethod yX3_readNumeral ∈ wsL_law := u_r34 _ (List.mem_of_getElem? (i := 6) rfl)
theorem us_X3_readNumeral : Cond.selects RX3 yX3_readNumeral yX3_readNumeral ∈ wsL_law := u_r34 _ (List.mem_of_getElem? (i := 7) rfl)
theorem uc_X3_readNumeral : Cond.code yX3_readNumeral cX3_readNumeral 1 none ∈ wsL_law := u_r34 _ (List.mem_of_getElem? (i := 8) rfl)
theorem uf_X3_62 : Cond.fieldLink RX3 62 "RingOffices$Scanner" "number" "I" ∈ wsL_law := u_r34 _ (List.mem_of_getElem? (i := 9) rfl)
theorem um_X3_50 : Cond.methodLink RX3 50 yX3_isSmallLetter ∈ wsL_law := u_r34 _ (List.mem_of_getElem? (i := 10) rfl)
theorem ut_X3_isSmallLetter : Cond.static yX3_isSmallLetter ∈ wsL_law := u_r34 _ (List.mem_of_getElem? (i := 11) rfl)
theorem uc_X3_isSmallLetter : Cond.code yX3_isSmallLetter cX3_isSmallLetter 1 (some .boolean) ∈ wsL_law := u_r34 _ (List.mem_of_getElem? (i := 12) rfl)
theorem um_X3_53 : Cond.methodLink RX3 53 yX3_readWord ∈ wsL_law := u_r34 _ (List.mem_of_getElem? (i := 13) rfl)
theorem ui_X3_readWord : Cond.instanceMethod yX3_readWord ∈ wsL_law := u_r34 _ (List.mem_of_getElem? (i := 14) rfl)
theorem us_X3_readWord : Cond.selects RX3 yX3_readWord yX3_readWord ∈ wsL_law := u_r34 _ (List.mem_of_getElem? (i := 15) rfl)
theorem uc_X3_readWord : Cond.code yX3_readWord cX3_readWord 2 none ∈ wsL_law := u_r34 _ (List.mem_of_getElem? (i := 16) rfl)
theorem um_X3_65 : Cond.methodLink RX3 65 yX3_keyword ∈ wsL_law := u_r34 _ (List.mem_of_getElem? (i := 17) rfl)
theorem ut_X3_keyword : Cond.static yX3_keyword ∈ wsL_law := u_r34 _ (List.mem_of_getElem? (i := 18) rfl)
theorem uc_X3_keyword : Cond.code yX3_keyword cX3_keyword 1 (some (.object "java/lang/String")) ∈ wsL_law := u_r34 _ (List.mem_of_getElem? (i := 19) rfl)
theorem um_X3_69 : Cond.methodLink RX3 69 yX7_isWord ∈ wsL_law := u_r34 _ (List.mem_of_getElem? (i := 20) rfl)
theorem ui_X7_isWord : Cond.instanceMethod yX7_isWord ∈ wsL_law := u_r34 _ (List.mem_of_getElem? (i := 21) rfl)
theorem us_X7_isWord : Cond.selects RX7 yX7_isWord yX7_isWord ∈ wsL_law := u_r34 _ (List.mem_of_getElem? (i := 22) rfl)
theorem uc_X7_isWord : Cond.code yX7_isWord cX7_isWord 5 (some .boolean) ∈ wsL_law := u_r34 _ (List.mem_of_getElem? (i := 23) rfl)
theorem um_X7_19 : Cond.methodLink RX7 19 yJ0_length_8abf5 ∈ wsL_law := u_r35 _ (List.mem_of_getElem? (i := 0) rfl)
theorem um_X7_24 : Cond.methodLink RX7 24 yJ0_charAt_5068e ∈ wsL_law := u_r35 _ (List.mem_of_getElem? (i := 1) rfl)
theorem um_X3_56 : Cond.methodLink RX3 56 yX3_readOther ∈ wsL_law := u_r35 _ (List.mem_of_getElem? (i := 2) rfl)
theorem ui_X3_readOther : Cond.instanceMethod yX3_readOther ∈ wsL_law := u_r35 _ (List.mem_of_getElem? (i := 3) rfl)
theorem us_X3_readOther : Cond.selects RX3 yX3_readOther yX3_readOther ∈ wsL_law := u_r35 _ (List.mem_of_getElem? (i := 4) rfl)
theorem uc_X3_readOther : Cond.code yX3_readOther cX3_readOther 2 none ∈ wsL_law := u_r35 _ (List.mem_of_getElem? (i := 5) rfl)
theorem um_X4_31 : Cond.methodLink RX4 31 yX4_parseRule ∈ wsL_law := u_r35 _ (List.mem_of_getElem? (i := 6) rfl)
theorem ui_X4_parseRule : Cond.instanceMethod yX4_parseRule ∈ wsL_law := u_r35 _ (List.mem_of_getElem? (i := 7) rfl)
theorem us_X4_parseRule : Cond.selects RX4 yX4_parseRule yX4_parseRule ∈ wsL_law := u_r35 _ (List.mem_of_getElem? (i := 8) rfl)
theorem uc_X4_parseRule : Cond.code yX4_parseRule cX4_parseRule 3 (some .boolean) ∈ wsL_law := u_r35 _ (List.mem_of_getElem? (i := 9) rfl)
theorem uf_X4_63 : Cond.fieldLink RX4 63 "RingOffices$State" "rules" "[I" ∈ wsL_law := u_r35 _ (List.mem_of_getElem? (i := 10) rfl)
theorem uf_X4_67 : Cond.fieldLink RX4 67 "RingOffices$SetupParser" "taken" "I" ∈ wsL_law := u_r35 _ (List.mem_of_getElem? (i := 11) rfl)
theorem um_X4_35 : Cond.methodLink RX4 35 yX4_take ∈ wsL_law := u_r35 _ (List.mem_of_getElem? (i := 12) rfl)
theorem ui_X4_take : Cond.instanceMethod yX4_take ∈ wsL_law := u_r35 _ (List.mem_of_getElem? (i := 13) rfl)
theorem us_X4_take : Cond.selects RX4 yX4_take yX4_take ∈ wsL_law := u_r35 _ (List.mem_of_getElem? (i := 14) rfl)
theorem uc_X4_take : Cond.code yX4_take cX4_take 2 (some .boolean) ∈ wsL_law := u_r35 _ (List.mem_of_getElem? (i := 15) rfl)
theorem um_X4_122 : Cond.methodLink RX4 122 yX3_advance ∈ wsL_law := u_r35 _ (List.mem_of_getElem? (i := 16) rfl)
theorem um_X4_60 : Cond.methodLink RX4 60 yX4_takeNumber ∈ wsL_law := u_r35 _ (List.mem_of_getElem? (i := 17) rfl)
theorem ui_X4_takeNumber : Cond.instanceMethod yX4_takeNumber ∈ wsL_law := u_r35 _ (List.mem_of_getElem? (i := 18) rfl)
theorem us_X4_takeNumber : Cond.selects RX4 yX4_takeNumber yX4_takeNumber ∈ wsL_law := u_r35 _ (List.mem_of_getElem? (i := 19) rfl)
theorem uc_X4_takeNumber : Cond.code yX4_takeNumber cX4_takeNumber 3 (some .boolean) ∈ wsL_law := u_r35 _ (List.mem_of_getElem? (i := 20) rfl)
theorem uf_X4_78 : Cond.fieldLink RX4 78 "RingOffices$Scanner" "number" "I" ∈ wsL_law := u_r35 _ (List.mem_of_getElem? (i := 21) rfl)
theorem um_X4_39 : Cond.methodLink RX4 39 yX4_parseOffices ∈ wsL_law := u_r35 _ (List.mem_of_getElem? (i := 22) rfl)
theorem ui_X4_parseOffices : Cond.instanceMethod yX4_parseOffices ∈ wsL_law := u_r35 _ (List.mem_of_getElem? (i := 23) rfl)
theorem us_X4_parseOffices : Cond.selects RX4 yX4_parseOffices yX4_parseOffices ∈ wsL_law := u_r36 _ (List.mem_of_getElem? (i := 0) rfl)
theorem uc_X4_parseOffices : Cond.code yX4_parseOffices cX4_parseOffices 5 (some .boolean) ∈ wsL_law := u_r36 _ (List.mem_of_getElem? (i := 1) rfl)
theorem uf_X4_74 : Cond.fieldLink RX4 74 "RingOffices$State" "offices" "LRingOffices$Offices;" ∈ wsL_law := u_r36 _ (List.mem_of_getElem? (i := 2) rfl)
theorem uf_X4_90 : Cond.fieldLink RX4 90 "RingOffices$Offices" "count" "I" ∈ wsL_law := u_r36 _ (List.mem_of_getElem? (i := 3) rfl)
theorem um_X4_81 : Cond.methodLink RX4 81 yX2_isNameTaken ∈ wsL_law := u_r36 _ (List.mem_of_getElem? (i := 4) rfl)
theorem ui_X2_isNameTaken : Cond.instanceMethod yX2_isNameTaken ∈ wsL_law := u_r36 _ (List.mem_of_getElem? (i := 5) rfl)
theorem us_X2_isNameTaken : Cond.selects RX2 yX2_isNameTaken yX2_isNameTaken ∈ wsL_law := u_r36 _ (List.mem_of_getElem? (i := 6) rfl)
theorem uc_X2_isNameTaken : Cond.code yX2_isNameTaken cX2_isNameTaken 3 (some .boolean) ∈ wsL_law := u_r36 _ (List.mem_of_getElem? (i := 7) rfl)
theorem um_X4_86 : Cond.methodLink RX4 86 yX2_add ∈ wsL_law := u_r36 _ (List.mem_of_getElem? (i := 8) rfl)
theorem um_X4_43 : Cond.methodLink RX4 43 yX4_parseLetters ∈ wsL_law := u_r36 _ (List.mem_of_getElem? (i := 9) rfl)
theorem ui_X4_parseLetters : Cond.instanceMethod yX4_parseLetters ∈ wsL_law := u_r36 _ (List.mem_of_getElem? (i := 10) rfl)
theorem us_X4_parseLetters : Cond.selects RX4 yX4_parseLetters yX4_parseLetters ∈ wsL_law := u_r36 _ (List.mem_of_getElem? (i := 11) rfl)
theorem uc_X4_parseLetters : Cond.code yX4_parseLetters cX4_parseLetters 5 (some .boolean) ∈ wsL_law := u_r36 _ (List.mem_of_getElem? (i := 12) rfl)
theorem uf_X4_93 : Cond.fieldLink RX4 93 "RingOffices$Offices" "waiting" "[I" ∈ wsL_law := u_r36 _ (List.mem_of_getElem? (i := 13) rfl)
theorem uf_X4_103 : Cond.fieldLink RX4 103 "RingOffices$State" "counts" "[I" ∈ wsL_law := u_r36 _ (List.mem_of_getElem? (i := 14) rfl)
theorem um_X4_100 : Cond.methodLink RX4 100 yX2_addLetter ∈ wsL_law := u_r36 _ (List.mem_of_getElem? (i := 15) rfl)
theorem ui_X2_addLetter : Cond.instanceMethod yX2_addLetter ∈ wsL_law := u_r36 _ (List.mem_of_getElem? (i := 16) rfl)
theorem us_X2_addLetter : Cond.selects RX2 yX2_addLetter yX2_addLetter ∈ wsL_law := u_r36 _ (List.mem_of_getElem? (i := 17) rfl)
theorem uc_X2_addLetter : Cond.code yX2_addLetter cX2_addLetter 5 none ∈ wsL_law := u_r36 _ (List.mem_of_getElem? (i := 18) rfl)
theorem um_X4_46 : Cond.methodLink RX4 46 yX4_parseToken ∈ wsL_law := u_r36 _ (List.mem_of_getElem? (i := 19) rfl)
theorem ui_X4_parseToken : Cond.instanceMethod yX4_parseToken ∈ wsL_law := u_r36 _ (List.mem_of_getElem? (i := 20) rfl)
theorem us_X4_parseToken : Cond.selects RX4 yX4_parseToken yX4_parseToken ∈ wsL_law := u_r36 _ (List.mem_of_getElem? (i := 21) rfl)
theorem uc_X4_parseToken : Cond.code yX4_parseToken cX4_parseToken 1 (some .boolean) ∈ wsL_law := u_r36 _ (List.mem_of_getElem? (i := 22) rfl)
theorem uf_X4_113 : Cond.fieldLink RX4 113 "RingOffices$State" "tokens" "LRingOffices$Tokens;" ∈ wsL_law := u_r36 _ (List.mem_of_getElem? (i := 23) rfl)
theorem um_X4_110 : Cond.methodLink RX4 110 yX2_isOpen ∈ wsL_law := u_r37 _ (List.mem_of_getElem? (i := 0) rfl)
theorem um_X4_117 : Cond.methodLink RX4 117 yX8_add ∈ wsL_law := u_r37 _ (List.mem_of_getElem? (i := 1) rfl)
theorem um_X9_85 : Cond.methodLink RX9 85 yX5_forget ∈ wsL_law := u_r37 _ (List.mem_of_getElem? (i := 2) rfl)
theorem ui_X5_forget : Cond.instanceMethod yX5_forget ∈ wsL_law := u_r37 _ (List.mem_of_getElem? (i := 3) rfl)
theorem us_X5_forget : Cond.selects RX5 yX5_forget yX5_forget ∈ wsL_law := u_r37 _ (List.mem_of_getElem? (i := 4) rfl)
theorem uc_X5_forget : Cond.code yX5_forget cX5_forget 2 none ∈ wsL_law := u_r37 _ (List.mem_of_getElem? (i := 5) rfl)
theorem um_X9_88 : Cond.methodLink RX9 88 yX0_forget ∈ wsL_law := u_r37 _ (List.mem_of_getElem? (i := 6) rfl)
theorem ui_X0_forget : Cond.instanceMethod yX0_forget ∈ wsL_law := u_r37 _ (List.mem_of_getElem? (i := 7) rfl)
theorem us_X0_forget : Cond.selects RX0 yX0_forget yX0_forget ∈ wsL_law := u_r37 _ (List.mem_of_getElem? (i := 8) rfl)
theorem uc_X0_forget : Cond.code yX0_forget cX0_forget 1 none ∈ wsL_law := u_r37 _ (List.mem_of_getElem? (i := 9) rfl)
theorem um_L_194 : Cond.methodLink RL 194 yX9_errorPosition ∈ wsL_law := u_r37 _ (List.mem_of_getElem? (i := 10) rfl)
theorem ui_X9_errorPosition : Cond.instanceMethod yX9_errorPosition ∈ wsL_law := u_r37 _ (List.mem_of_getElem? (i := 11) rfl)
theorem us_X9_errorPosition : Cond.selects RX9 yX9_errorPosition yX9_errorPosition ∈ wsL_law := u_r37 _ (List.mem_of_getElem? (i := 12) rfl)
theorem uc_X9_errorPosition : Cond.code yX9_errorPosition cX9_errorPosition 1 (some .int) ∈ wsL_law := u_r37 _ (List.mem_of_getElem? (i := 13) rfl)
theorem um_L_197 : Cond.methodLink RL 197 yL_does ∈ wsL_law := u_r37 _ (List.mem_of_getElem? (i := 14) rfl)
theorem ut_L_does : Cond.static yL_does ∈ wsL_law := u_r37 _ (List.mem_of_getElem? (i := 15) rfl)
theorem uc_L_does : Cond.code yL_does cL_does 8 (some .boolean) ∈ wsL_law := u_r37 _ (List.mem_of_getElem? (i := 16) rfl)
theorem um_L_129 : Cond.methodLink RL 129 yL_state ∈ wsL_law := u_r37 _ (List.mem_of_getElem? (i := 17) rfl)
theorem ut_L_state : Cond.static yL_state ∈ wsL_law := u_r37 _ (List.mem_of_getElem? (i := 18) rfl)
theorem uc_L_state : Cond.code yL_state cL_state 5 (some .long) ∈ wsL_law := u_r37 _ (List.mem_of_getElem? (i := 19) rfl)
theorem uK_L_69 : Cond.constantLong RL 69 (7) ∈ wsL_law := u_r37 _ (List.mem_of_getElem? (i := 20) rfl)
theorem uK_L_71 : Cond.constantLong RL 71 (31) ∈ wsL_law := u_r37 _ (List.mem_of_getElem? (i := 21) rfl)
theorem uK_L_76 : Cond.constantLong RL 76 (101) ∈ wsL_law := u_r37 _ (List.mem_of_getElem? (i := 22) rfl)
theorem uK_L_86 : Cond.constantLong RL 86 (10) ∈ wsL_law := u_r37 _ (List.mem_of_getElem? (i := 23) rfl)
theorem uK_L_88 : Cond.constantLong RL 88 (1009) ∈ wsL_law := u_r38 _ (List.mem_of_getElem? (i := 0) rfl)
theorem um_L_159 : Cond.methodLink RL 159 yX9_letter ∈ wsL_law := u_r38 _ (List.mem_of_getElem? (i := 1) rfl)
theorem ui_X9_letter : Cond.instanceMethod yX9_letter ∈ wsL_law := u_r38 _ (List.mem_of_getElem? (i := 2) rfl)
theorem us_X9_letter : Cond.selects RX9 yX9_letter yX9_letter ∈ wsL_law := u_r38 _ (List.mem_of_getElem? (i := 3) rfl)
theorem uc_X9_letter : Cond.code yX9_letter cX9_letter 5 (some .int) ∈ wsL_law := u_r38 _ (List.mem_of_getElem? (i := 4) rfl)
theorem um_X9_117 : Cond.methodLink RX9 117 yX2_addLetter ∈ wsL_law := u_r38 _ (List.mem_of_getElem? (i := 5) rfl)
theorem um_L_141 : Cond.methodLink RL 141 yX9_shut ∈ wsL_law := u_r38 _ (List.mem_of_getElem? (i := 6) rfl)
theorem ui_X9_shut : Cond.instanceMethod yX9_shut ∈ wsL_law := u_r38 _ (List.mem_of_getElem? (i := 7) rfl)
theorem us_X9_shut : Cond.selects RX9 yX9_shut yX9_shut ∈ wsL_law := u_r38 _ (List.mem_of_getElem? (i := 8) rfl)
theorem uc_X9_shut : Cond.code yX9_shut cX9_shut 4 (some .int) ∈ wsL_law := u_r38 _ (List.mem_of_getElem? (i := 9) rfl)
theorem um_X9_158 : Cond.methodLink RX9 158 yX6_shutOrOpen ∈ wsL_law := u_r38 _ (List.mem_of_getElem? (i := 10) rfl)
theorem ui_X6_shutOrOpen : Cond.instanceMethod yX6_shutOrOpen ∈ wsL_law := u_r38 _ (List.mem_of_getElem? (i := 11) rfl)
theorem us_X6_shutOrOpen : Cond.selects RX6 yX6_shutOrOpen yX6_shutOrOpen ∈ wsL_law := u_r38 _ (List.mem_of_getElem? (i := 12) rfl)
theorem uc_X6_shutOrOpen : Cond.code yX6_shutOrOpen cX6_shutOrOpen 4 none ∈ wsL_law := u_r38 _ (List.mem_of_getElem? (i := 13) rfl)
theorem uf_X6_82 : Cond.fieldLink RX6 82 "RingOffices$Offices" "open" "[I" ∈ wsL_law := u_r38 _ (List.mem_of_getElem? (i := 14) rfl)
theorem um_X6_86 : Cond.methodLink RX6 86 yX8_standingAt ∈ wsL_law := u_r38 _ (List.mem_of_getElem? (i := 15) rfl)
theorem um_X6_90 : Cond.methodLink RX6 90 yX6_loseToken ∈ wsL_law := u_r38 _ (List.mem_of_getElem? (i := 16) rfl)
theorem ui_X6_loseToken : Cond.instanceMethod yX6_loseToken ∈ wsL_law := u_r38 _ (List.mem_of_getElem? (i := 17) rfl)
theorem us_X6_loseToken : Cond.selects RX6 yX6_loseToken yX6_loseToken ∈ wsL_law := u_r38 _ (List.mem_of_getElem? (i := 18) rfl)
theorem uc_X6_loseToken : Cond.code yX6_loseToken cX6_loseToken 2 none ∈ wsL_law := u_r38 _ (List.mem_of_getElem? (i := 19) rfl)
theorem um_L_162 : Cond.methodLink RL 162 yX9_lose ∈ wsL_law := u_r38 _ (List.mem_of_getElem? (i := 20) rfl)
theorem ui_X9_lose : Cond.instanceMethod yX9_lose ∈ wsL_law := u_r38 _ (List.mem_of_getElem? (i := 21) rfl)
theorem us_X9_lose : Cond.selects RX9 yX9_lose yX9_lose ∈ wsL_law := u_r38 _ (List.mem_of_getElem? (i := 22) rfl)
theorem uc_X9_lose : Cond.code yX9_lose cX9_lose 3 (some .int) ∈ wsL_law := u_r38 _ (List.mem_of_getElem? (i := 23) rfl)
theorem um_X9_165 : Cond.methodLink RX9 165 yX6_loseToken ∈ wsL_law := u_r39 _ (List.mem_of_getElem? (i := 0) rfl)
theorem um_L_156 : Cond.methodLink RL 156 yX9_stray ∈ wsL_law := u_r39 _ (List.mem_of_getElem? (i := 1) rfl)
theorem ui_X9_stray : Cond.instanceMethod yX9_stray ∈ wsL_law := u_r39 _ (List.mem_of_getElem? (i := 2) rfl)
theorem us_X9_stray : Cond.selects RX9 yX9_stray yX9_stray ∈ wsL_law := u_r39 _ (List.mem_of_getElem? (i := 3) rfl)
theorem uc_X9_stray : Cond.code yX9_stray cX9_stray 3 (some .int) ∈ wsL_law := u_r39 _ (List.mem_of_getElem? (i := 4) rfl)
theorem uf_X9_174 : Cond.fieldLink RX9 174 "RingOffices$Tokens" "lastNumber" "I" ∈ wsL_law := u_r39 _ (List.mem_of_getElem? (i := 5) rfl)
theorem um_X9_172 : Cond.methodLink RX9 172 yX8_add ∈ wsL_law := u_r39 _ (List.mem_of_getElem? (i := 6) rfl)
theorem um_X9_177 : Cond.methodLink RX9 177 yX6_tearUpWhereTwoMeet ∈ wsL_law := u_r39 _ (List.mem_of_getElem? (i := 7) rfl)
theorem um_L_165 : Cond.methodLink RL 165 yX9_set ∈ wsL_law := u_r39 _ (List.mem_of_getElem? (i := 8) rfl)
theorem ui_X9_set : Cond.instanceMethod yX9_set ∈ wsL_law := u_r39 _ (List.mem_of_getElem? (i := 9) rfl)
theorem us_X9_set : Cond.selects RX9 yX9_set yX9_set ∈ wsL_law := u_r39 _ (List.mem_of_getElem? (i := 10) rfl)
theorem uc_X9_set : Cond.code yX9_set cX9_set 6 (some .int) ∈ wsL_law := u_r39 _ (List.mem_of_getElem? (i := 11) rfl)
theorem um_X9_192 : Cond.methodLink RX9 192 yX2_isNameTaken ∈ wsL_law := u_r39 _ (List.mem_of_getElem? (i := 12) rfl)
theorem um_L_135 : Cond.methodLink RL 135 yX9_rule ∈ wsL_law := u_r39 _ (List.mem_of_getElem? (i := 13) rfl)
theorem ui_X9_rule : Cond.instanceMethod yX9_rule ∈ wsL_law := u_r39 _ (List.mem_of_getElem? (i := 14) rfl)
theorem us_X9_rule : Cond.selects RX9 yX9_rule yX9_rule ∈ wsL_law := u_r39 _ (List.mem_of_getElem? (i := 15) rfl)
theorem uc_X9_rule : Cond.code yX9_rule cX9_rule 4 (some .int) ∈ wsL_law := u_r39 _ (List.mem_of_getElem? (i := 16) rfl)
theorem um_L_168 : Cond.methodLink RL 168 yX9_keep ∈ wsL_law := u_r39 _ (List.mem_of_getElem? (i := 17) rfl)
theorem ui_X9_keep : Cond.instanceMethod yX9_keep ∈ wsL_law := u_r39 _ (List.mem_of_getElem? (i := 18) rfl)
theorem us_X9_keep : Cond.selects RX9 yX9_keep yX9_keep ∈ wsL_law := u_r39 _ (List.mem_of_getElem? (i := 19) rfl)
theorem uc_X9_keep : Cond.code yX9_keep cX9_keep 2 (some .int) ∈ wsL_law := u_r39 _ (List.mem_of_getElem? (i := 20) rfl)
theorem um_X9_206 : Cond.methodLink RX9 206 yX5_fill ∈ wsL_law := u_r39 _ (List.mem_of_getElem? (i := 21) rfl)
theorem ui_X5_fill : Cond.instanceMethod yX5_fill ∈ wsL_law := u_r39 _ (List.mem_of_getElem? (i := 22) rfl)
theorem us_X5_fill : Cond.selects RX5 yX5_fill yX5_fill ∈ wsL_law := u_r39 _ (List.mem_of_getElem? (i := 23) rfl)
theorem uc_X5_fill : Cond.code yX5_fill cX5_fill 4 none ∈ wsL_law := u_r40 _ (List.mem_of_getElem? (i := 0) rfl)
theorem um_X5_22 : Cond.methodLink RX5 22 yX6_copyFrom ∈ wsL_law := u_r40 _ (List.mem_of_getElem? (i := 1) rfl)
theorem um_L_171 : Cond.methodLink RL 171 yX9_restore ∈ wsL_law := u_r40 _ (List.mem_of_getElem? (i := 2) rfl)
theorem ui_X9_restore : Cond.instanceMethod yX9_restore ∈ wsL_law := u_r40 _ (List.mem_of_getElem? (i := 3) rfl)
theorem us_X9_restore : Cond.selects RX9 yX9_restore yX9_restore ∈ wsL_law := u_r40 _ (List.mem_of_getElem? (i := 4) rfl)
theorem uc_X9_restore : Cond.code yX9_restore cX9_restore 3 (some .int) ∈ wsL_law := u_r40 _ (List.mem_of_getElem? (i := 5) rfl)
theorem um_X9_210 : Cond.methodLink RX9 210 yX5_keptIn ∈ wsL_law := u_r40 _ (List.mem_of_getElem? (i := 6) rfl)
theorem ui_X5_keptIn : Cond.instanceMethod yX5_keptIn ∈ wsL_law := u_r40 _ (List.mem_of_getElem? (i := 7) rfl)
theorem us_X5_keptIn : Cond.selects RX5 yX5_keptIn yX5_keptIn ∈ wsL_law := u_r40 _ (List.mem_of_getElem? (i := 8) rfl)
theorem uc_X5_keptIn : Cond.code yX5_keptIn cX5_keptIn 2 (some (.object "RingOffices$State")) ∈ wsL_law := u_r40 _ (List.mem_of_getElem? (i := 9) rfl)
theorem um_L_201 : Cond.methodLink RL 201 yL_would ∈ wsL_law := u_r40 _ (List.mem_of_getElem? (i := 10) rfl)
theorem ut_L_would : Cond.static yL_would ∈ wsL_law := u_r40 _ (List.mem_of_getElem? (i := 11) rfl)
theorem uc_L_would : Cond.code yL_would cL_would 27 (some .boolean) ∈ wsL_law := u_r40 _ (List.mem_of_getElem? (i := 12) rfl)
theorem um_L_138 : Cond.methodLink RL 138 yX9_ifShut ∈ wsL_law := u_r40 _ (List.mem_of_getElem? (i := 13) rfl)
theorem ui_X9_ifShut : Cond.instanceMethod yX9_ifShut ∈ wsL_law := u_r40 _ (List.mem_of_getElem? (i := 14) rfl)
theorem us_X9_ifShut : Cond.selects RX9 yX9_ifShut yX9_ifShut ∈ wsL_law := u_r40 _ (List.mem_of_getElem? (i := 15) rfl)
theorem uc_X9_ifShut : Cond.code yX9_ifShut cX9_ifShut 4 (some .int) ∈ wsL_law := u_r40 _ (List.mem_of_getElem? (i := 16) rfl)
theorem um_L_150 : Cond.methodLink RL 150 yX9_leastQuota ∈ wsL_law := u_r40 _ (List.mem_of_getElem? (i := 17) rfl)
theorem ui_X9_leastQuota : Cond.instanceMethod yX9_leastQuota ∈ wsL_law := u_r40 _ (List.mem_of_getElem? (i := 18) rfl)
theorem us_X9_leastQuota : Cond.selects RX9 yX9_leastQuota yX9_leastQuota ∈ wsL_law := u_r40 _ (List.mem_of_getElem? (i := 19) rfl)
theorem uc_X9_leastQuota : Cond.code yX9_leastQuota cX9_leastQuota 3 (some .int) ∈ wsL_law := u_r40 _ (List.mem_of_getElem? (i := 20) rfl)
theorem um_L_153 : Cond.methodLink RL 153 yX9_bestSpeak ∈ wsL_law := u_r40 _ (List.mem_of_getElem? (i := 21) rfl)
theorem ui_X9_bestSpeak : Cond.instanceMethod yX9_bestSpeak ∈ wsL_law := u_r40 _ (List.mem_of_getElem? (i := 22) rfl)
theorem us_X9_bestSpeak : Cond.selects RX9 yX9_bestSpeak yX9_bestSpeak ∈ wsL_law := u_r40 _ (List.mem_of_getElem? (i := 23) rfl)
theorem uc_X9_bestSpeak : Cond.code yX9_bestSpeak cX9_bestSpeak 6 (some .int) ∈ wsL_law := u_r41 _ (List.mem_of_getElem? (i := 0) rfl)
theorem um_L_204 : Cond.methodLink RL 204 yL_setup ∈ wsL_law := u_r41 _ (List.mem_of_getElem? (i := 1) rfl)
theorem ut_L_setup : Cond.static yL_setup ∈ wsL_law := u_r41 _ (List.mem_of_getElem? (i := 2) rfl)
theorem uc_L_setup : Cond.code yL_setup cL_setup 4 (some (.object "java/lang/String")) ∈ wsL_law := u_r41 _ (List.mem_of_getElem? (i := 3) rfl)
theorem um_L_62 : Cond.methodLink RL 62 yJ4_init_da8c8 ∈ wsL_law := u_r41 _ (List.mem_of_getElem? (i := 4) rfl)
theorem ui_J4_init_da8c8 : Cond.instanceMethod yJ4_init_da8c8 ∈ wsL_law := u_r41 _ (List.mem_of_getElem? (i := 5) rfl)
theorem uc_J4_init_da8c8 : Cond.code yJ4_init_da8c8 cJ4_init_da8c8 1 none ∈ wsL_law := u_r41 _ (List.mem_of_getElem? (i := 6) rfl)
theorem um_J4_1 : Cond.methodLink RJ4 1 yJ5_init_d00df ∈ wsL_law := u_r41 _ (List.mem_of_getElem? (i := 7) rfl)
theorem ui_J5_init_d00df : Cond.instanceMethod yJ5_init_d00df ∈ wsL_law := u_r41 _ (List.mem_of_getElem? (i := 8) rfl)
theorem uc_J5_init_d00df : Cond.code yJ5_init_d00df cJ5_init_d00df 2 none ∈ wsL_law := u_r41 _ (List.mem_of_getElem? (i := 9) rfl)
theorem um_L_63 : Cond.methodLink RL 63 yX9_setupLength ∈ wsL_law := u_r41 _ (List.mem_of_getElem? (i := 10) rfl)
theorem ui_X9_setupLength : Cond.instanceMethod yX9_setupLength ∈ wsL_law := u_r41 _ (List.mem_of_getElem? (i := 11) rfl)
theorem us_X9_setupLength : Cond.selects RX9 yX9_setupLength yX9_setupLength ∈ wsL_law := u_r41 _ (List.mem_of_getElem? (i := 12) rfl)
theorem uc_X9_setupLength : Cond.code yX9_setupLength cX9_setupLength 1 (some .int) ∈ wsL_law := u_r41 _ (List.mem_of_getElem? (i := 13) rfl)
theorem um_X9_288 : Cond.methodLink RX9 288 yX9_writeSetup ∈ wsL_law := u_r41 _ (List.mem_of_getElem? (i := 14) rfl)
theorem ui_X9_writeSetup : Cond.instanceMethod yX9_writeSetup ∈ wsL_law := u_r41 _ (List.mem_of_getElem? (i := 15) rfl)
theorem us_X9_writeSetup : Cond.selects RX9 yX9_writeSetup yX9_writeSetup ∈ wsL_law := u_r41 _ (List.mem_of_getElem? (i := 16) rfl)
theorem uc_X9_writeSetup : Cond.code yX9_writeSetup cX9_writeSetup 2 none ∈ wsL_law := u_r41 _ (List.mem_of_getElem? (i := 17) rfl)
theorem um_X9_317 : Cond.methodLink RX9 317 yX7_addWord ∈ wsL_law := u_r41 _ (List.mem_of_getElem? (i := 18) rfl)
theorem ui_X7_addWord : Cond.instanceMethod yX7_addWord ∈ wsL_law := u_r41 _ (List.mem_of_getElem? (i := 19) rfl)
theorem us_X7_addWord : Cond.selects RX7 yX7_addWord yX7_addWord ∈ wsL_law := u_r41 _ (List.mem_of_getElem? (i := 20) rfl)
theorem uc_X7_addWord : Cond.code yX7_addWord cX7_addWord 3 none ∈ wsL_law := u_r41 _ (List.mem_of_getElem? (i := 21) rfl)
theorem um_X9_311 : Cond.methodLink RX9 311 yX7_addNumber ∈ wsL_law := u_r41 _ (List.mem_of_getElem? (i := 22) rfl)
theorem ui_X7_addNumber : Cond.instanceMethod yX7_addNumber ∈ wsL_law := u_r41 _ (List.mem_of_getElem? (i := 23) rfl)
theorem us_X7_addNumber : Cond.selects RX7 yX7_addNumber yX7_addNumber ∈ wsL_law := u_r42 _ (List.mem_of_getElem? (i := 0) rfl)
theorem uc_X7_addNumber : Cond.code yX7_addNumber cX7_addNumber 5 none ∈ wsL_law := u_r42 _ (List.mem_of_getElem? (i := 1) rfl)
theorem uk_X7_32 : Cond.constant RX7 32 (1000000000) ∈ wsL_law := u_r42 _ (List.mem_of_getElem? (i := 2) rfl)
theorem um_X9_314 : Cond.methodLink RX9 314 yX7_add ∈ wsL_law := u_r42 _ (List.mem_of_getElem? (i := 3) rfl)
theorem um_X9_325 : Cond.methodLink RX9 325 yX9_writeSetupOffice ∈ wsL_law := u_r42 _ (List.mem_of_getElem? (i := 4) rfl)
theorem ui_X9_writeSetupOffice : Cond.instanceMethod yX9_writeSetupOffice ∈ wsL_law := u_r42 _ (List.mem_of_getElem? (i := 5) rfl)
theorem us_X9_writeSetupOffice : Cond.selects RX9 yX9_writeSetupOffice yX9_writeSetupOffice ∈ wsL_law := u_r42 _ (List.mem_of_getElem? (i := 6) rfl)
theorem uc_X9_writeSetupOffice : Cond.code yX9_writeSetupOffice cX9_writeSetupOffice 2 none ∈ wsL_law := u_r42 _ (List.mem_of_getElem? (i := 7) rfl)
theorem um_X9_328 : Cond.methodLink RX9 328 yX9_writeSetupLetters ∈ wsL_law := u_r42 _ (List.mem_of_getElem? (i := 8) rfl)
theorem ui_X9_writeSetupLetters : Cond.instanceMethod yX9_writeSetupLetters ∈ wsL_law := u_r42 _ (List.mem_of_getElem? (i := 9) rfl)
theorem us_X9_writeSetupLetters : Cond.selects RX9 yX9_writeSetupLetters yX9_writeSetupLetters ∈ wsL_law := u_r42 _ (List.mem_of_getElem? (i := 10) rfl)
theorem uc_X9_writeSetupLetters : Cond.code yX9_writeSetupLetters cX9_writeSetupLetters 3 none ∈ wsL_law := u_r42 _ (List.mem_of_getElem? (i := 11) rfl)
theorem um_X9_331 : Cond.methodLink RX9 331 yX8_firstStanding ∈ wsL_law := u_r42 _ (List.mem_of_getElem? (i := 12) rfl)
theorem ui_X8_firstStanding : Cond.instanceMethod yX8_firstStanding ∈ wsL_law := u_r42 _ (List.mem_of_getElem? (i := 13) rfl)
theorem us_X8_firstStanding : Cond.selects RX8 yX8_firstStanding yX8_firstStanding ∈ wsL_law := u_r42 _ (List.mem_of_getElem? (i := 14) rfl)
theorem uc_X8_firstStanding : Cond.code yX8_firstStanding cX8_firstStanding 2 (some .int) ∈ wsL_law := u_r42 _ (List.mem_of_getElem? (i := 15) rfl)
theorem um_L_66 : Cond.methodLink RL 66 yX9_setupByte ∈ wsL_law := u_r42 _ (List.mem_of_getElem? (i := 16) rfl)
theorem ui_X9_setupByte : Cond.instanceMethod yX9_setupByte ∈ wsL_law := u_r42 _ (List.mem_of_getElem? (i := 17) rfl)
theorem us_X9_setupByte : Cond.selects RX9 yX9_setupByte yX9_setupByte ∈ wsL_law := u_r42 _ (List.mem_of_getElem? (i := 18) rfl)
theorem uc_X9_setupByte : Cond.code yX9_setupByte cX9_setupByte 2 (some .int) ∈ wsL_law := u_r42 _ (List.mem_of_getElem? (i := 19) rfl)
theorem um_X9_285 : Cond.methodLink RX9 285 yX7_byteAt ∈ wsL_law := u_r42 _ (List.mem_of_getElem? (i := 20) rfl)
theorem u_good : wsL_law.all goodWord = true := by decide +kernel
