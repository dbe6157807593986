-- ===== PART A: goes FIRST, ahead of the names: the tables' words, and 'selects' of the private methods out of them =====
/-- a private method of a class that the tables say can be made, by its rows of tables_1 -/
def lw_okq (q : MethodName × Nat) : Prop := (q.1.cls ≠ "java/lang/invoke/MethodHandle" ∧ q.1.cls ≠ "java/lang/invoke/VarHandle") ∧ Cond.instantiable q.1.cls q.2 ∈ tables_1 ∧ Cond.privateMethod q.1 ∈ tables_1 ∧ Cond.instanceMethod q.1 ∈ tables_1
theorem lw_p0 : lw_okq (⟨"CalledTouches", "begin", "(I)V"⟩, 9) := ⟨⟨by decide +kernel, by decide +kernel⟩, List.mem_of_getElem? (i := 20) (by decide +kernel), List.mem_of_getElem? (i := 194) (by decide +kernel), List.mem_of_getElem? (i := 195) (by decide +kernel)⟩
theorem lw_p1 : lw_okq (⟨"CalledTouches$MethodReader", "beginChange", "()V"⟩, 5) := ⟨⟨by decide +kernel, by decide +kernel⟩, List.mem_of_getElem? (i := 99) (by decide +kernel), List.mem_of_getElem? (i := 267) (by decide +kernel), List.mem_of_getElem? (i := 268) (by decide +kernel)⟩
theorem lw_p2 : lw_okq (⟨"CalledTouches$MethodReader", "accepts", "(CI)Z"⟩, 5) := ⟨⟨by decide +kernel, by decide +kernel⟩, List.mem_of_getElem? (i := 99) (by decide +kernel), List.mem_of_getElem? (i := 271) (by decide +kernel), List.mem_of_getElem? (i := 272) (by decide +kernel)⟩
theorem lw_p3 : lw_okq (⟨"CalledTouches$MethodReader", "acceptsDot", "(I)Z"⟩, 5) := ⟨⟨by decide +kernel, by decide +kernel⟩, List.mem_of_getElem? (i := 99) (by decide +kernel), List.mem_of_getElem? (i := 275) (by decide +kernel), List.mem_of_getElem? (i := 276) (by decide +kernel)⟩
theorem lw_p4 : lw_okq (⟨"CalledTouches$MethodReader", "isChangeRight", "(I)Z"⟩, 5) := ⟨⟨by decide +kernel, by decide +kernel⟩, List.mem_of_getElem? (i := 99) (by decide +kernel), List.mem_of_getElem? (i := 279) (by decide +kernel), List.mem_of_getElem? (i := 280) (by decide +kernel)⟩
theorem lw_p5 : lw_okq (⟨"CalledTouches$MethodReader", "keepChange", "()V"⟩, 5) := ⟨⟨by decide +kernel, by decide +kernel⟩, List.mem_of_getElem? (i := 99) (by decide +kernel), List.mem_of_getElem? (i := 283) (by decide +kernel), List.mem_of_getElem? (i := 284) (by decide +kernel)⟩
theorem lw_p6 : lw_okq (⟨"CalledTouches$MethodReader", "acceptsCross", "(I)Z"⟩, 5) := ⟨⟨by decide +kernel, by decide +kernel⟩, List.mem_of_getElem? (i := 99) (by decide +kernel), List.mem_of_getElem? (i := 287) (by decide +kernel), List.mem_of_getElem? (i := 288) (by decide +kernel)⟩
theorem lw_p7 : lw_okq (⟨"CalledTouches$MethodReader", "acceptsPlace", "(II)Z"⟩, 5) := ⟨⟨by decide +kernel, by decide +kernel⟩, List.mem_of_getElem? (i := 99) (by decide +kernel), List.mem_of_getElem? (i := 291) (by decide +kernel), List.mem_of_getElem? (i := 292) (by decide +kernel)⟩
theorem lw_p8 : lw_okq (⟨"CalledTouches", "isBell", "(I)Z"⟩, 9) := ⟨⟨by decide +kernel, by decide +kernel⟩, List.mem_of_getElem? (i := 20) (by decide +kernel), List.mem_of_getElem? (i := 370) (by decide +kernel), List.mem_of_getElem? (i := 371) (by decide +kernel)⟩
theorem lw_p9 : lw_okq (⟨"CalledTouches$Ringing", "keep", "(I)V"⟩, 7) := ⟨⟨by decide +kernel, by decide +kernel⟩, List.mem_of_getElem? (i := 124) (by decide +kernel), List.mem_of_getElem? (i := 402) (by decide +kernel), List.mem_of_getElem? (i := 403) (by decide +kernel)⟩
theorem lw_p10 : lw_okq (⟨"CalledTouches$Ringing", "findFirsts", "()V"⟩, 7) := ⟨⟨by decide +kernel, by decide +kernel⟩, List.mem_of_getElem? (i := 124) (by decide +kernel), List.mem_of_getElem? (i := 406) (by decide +kernel), List.mem_of_getElem? (i := 407) (by decide +kernel)⟩
theorem lw_p11 : lw_okq (⟨"CalledTouches$Ringing", "firstWithRank", "(II)I"⟩, 7) := ⟨⟨by decide +kernel, by decide +kernel⟩, List.mem_of_getElem? (i := 124) (by decide +kernel), List.mem_of_getElem? (i := 424) (by decide +kernel), List.mem_of_getElem? (i := 425) (by decide +kernel)⟩
theorem lw_p12 : lw_okq (⟨"CalledTouches$Spread", "reach", "(II)V"⟩, 4) := ⟨⟨by decide +kernel, by decide +kernel⟩, List.mem_of_getElem? (i := 159) (by decide +kernel), List.mem_of_getElem? (i := 472) (by decide +kernel), List.mem_of_getElem? (i := 473) (by decide +kernel)⟩
theorem lw_p13 : lw_okq (⟨"CalledTouches", "countRows", "(I)I"⟩, 9) := ⟨⟨by decide +kernel, by decide +kernel⟩, List.mem_of_getElem? (i := 20) (by decide +kernel), List.mem_of_getElem? (i := 518) (by decide +kernel), List.mem_of_getElem? (i := 519) (by decide +kernel)⟩
theorem lw_p14 : lw_okq (⟨"CalledTouches$Ringing", "isFirst", "(I)Z"⟩, 7) := ⟨⟨by decide +kernel, by decide +kernel⟩, List.mem_of_getElem? (i := 124) (by decide +kernel), List.mem_of_getElem? (i := 534) (by decide +kernel), List.mem_of_getElem? (i := 535) (by decide +kernel)⟩
theorem lw_p15 : lw_okq (⟨"CalledTouches$Ringing", "areFalse", "(II)Z"⟩, 7) := ⟨⟨by decide +kernel, by decide +kernel⟩, List.mem_of_getElem? (i := 124) (by decide +kernel), List.mem_of_getElem? (i := 547) (by decide +kernel), List.mem_of_getElem? (i := 548) (by decide +kernel)⟩
def lw_privs_1 : List (MethodName × Nat) := [(⟨"CalledTouches", "begin", "(I)V"⟩, 9), (⟨"CalledTouches$MethodReader", "beginChange", "()V"⟩, 5), (⟨"CalledTouches$MethodReader", "accepts", "(CI)Z"⟩, 5), (⟨"CalledTouches$MethodReader", "acceptsDot", "(I)Z"⟩, 5), (⟨"CalledTouches$MethodReader", "isChangeRight", "(I)Z"⟩, 5), (⟨"CalledTouches$MethodReader", "keepChange", "()V"⟩, 5), (⟨"CalledTouches$MethodReader", "acceptsCross", "(I)Z"⟩, 5), (⟨"CalledTouches$MethodReader", "acceptsPlace", "(II)Z"⟩, 5), (⟨"CalledTouches", "isBell", "(I)Z"⟩, 9), (⟨"CalledTouches$Ringing", "keep", "(I)V"⟩, 7), (⟨"CalledTouches$Ringing", "findFirsts", "()V"⟩, 7), (⟨"CalledTouches$Ringing", "firstWithRank", "(II)I"⟩, 7), (⟨"CalledTouches$Spread", "reach", "(II)V"⟩, 4), (⟨"CalledTouches", "countRows", "(I)I"⟩, 9), (⟨"CalledTouches$Ringing", "isFirst", "(I)Z"⟩, 7), (⟨"CalledTouches$Ringing", "areFalse", "(II)Z"⟩, 7)]
theorem lw_r1 : ∀ q ∈ lw_privs_1, lw_okq q := List.forall_mem_cons.mpr ⟨lw_p0, List.forall_mem_cons.mpr ⟨lw_p1, List.forall_mem_cons.mpr ⟨lw_p2, List.forall_mem_cons.mpr ⟨lw_p3, List.forall_mem_cons.mpr ⟨lw_p4, List.forall_mem_cons.mpr ⟨lw_p5, List.forall_mem_cons.mpr ⟨lw_p6, List.forall_mem_cons.mpr ⟨lw_p7, List.forall_mem_cons.mpr ⟨lw_p8, List.forall_mem_cons.mpr ⟨lw_p9, List.forall_mem_cons.mpr ⟨lw_p10, List.forall_mem_cons.mpr ⟨lw_p11, List.forall_mem_cons.mpr ⟨lw_p12, List.forall_mem_cons.mpr ⟨lw_p13, List.forall_mem_cons.mpr ⟨lw_p14, List.forall_mem_cons.mpr ⟨lw_p15, fun _ h => absurd h List.not_mem_nil⟩⟩⟩⟩⟩⟩⟩⟩⟩⟩⟩⟩⟩⟩⟩⟩
theorem lw_p16 : lw_okq (⟨"CalledTouches$Ringing", "dodgesAt", "(II)Z"⟩, 7) := ⟨⟨by decide +kernel, by decide +kernel⟩, List.mem_of_getElem? (i := 124) (by decide +kernel), List.mem_of_getElem? (i := 580) (by decide +kernel), List.mem_of_getElem? (i := 581) (by decide +kernel)⟩
theorem lw_p17 : lw_okq (⟨"CalledTouches$History", "dropOldest", "()V"⟩, 2) := ⟨⟨by decide +kernel, by decide +kernel⟩, List.mem_of_getElem? (i := 66) (by decide +kernel), List.mem_of_getElem? (i := 620) (by decide +kernel), List.mem_of_getElem? (i := 621) (by decide +kernel)⟩
def lw_privs_2 : List (MethodName × Nat) := [(⟨"CalledTouches$Ringing", "dodgesAt", "(II)Z"⟩, 7), (⟨"CalledTouches$History", "dropOldest", "()V"⟩, 2)]
theorem lw_r2 : ∀ q ∈ lw_privs_2, lw_okq q := List.forall_mem_cons.mpr ⟨lw_p16, List.forall_mem_cons.mpr ⟨lw_p17, fun _ h => absurd h List.not_mem_nil⟩⟩
def lw_privs : List (MethodName × Nat) := lw_privs_1 ++ (lw_privs_2)
def lw_tbl : List Cond := k2_sels lw_privs ++ tables_1
theorem lw_privs_ok : ∀ q ∈ lw_privs, lw_okq q := by
  show ∀ q ∈ lw_privs_1 ++ (lw_privs_2), lw_okq q
  exact List.forall_mem_append.mpr ⟨lw_r1, lw_r2⟩
/-- the streams that the claim lets the run draw from -/
abbrev lw_cs : List Choice := [Jvm.Choice.named "NaN.bits"]
theorem lw_bits : nanBits ∈ lw_cs := by first | decide | exact List.mem_cons_self | simp [lw_cs, nanBits]
def RX0 : String := "CalledTouches$History"
def TX0 : u_T := fun k => match k with
  | 0 => ("CalledTouches$History", "states", "[LCalledTouches$Touch;", true)
  | _ => ("CalledTouches$History", "size", "I", false)
def tyX0 : Nat → FieldType := fun k => match k with
  | 0 => .array (.object "CalledTouches$Touch")
  | _ => .int
abbrev wsX00 : List Cond := u_ws RX0 TX0 2
theorem nmX0 : ∀ a, a < 2 → ∀ b, b < 2 → a ≠ b → (TX0 a).2.1 ≠ (TX0 b).2.1 := by decide +kernel
theorem tyX0_ok : ∀ k, k < 2 → parseFieldDescriptor (TX0 k).2.2.1 = some (tyX0 k) := by decide +kernel
abbrev cX0_init : ByteArray := prog_2_method_1_code
def yX0_init : MethodName := ⟨RX0, "<init>", "()V"⟩
abbrev cX0_record : ByteArray := prog_2_method_2_code
def yX0_record : MethodName := ⟨RX0, "record", "(LCalledTouches$Touch;)V"⟩
abbrev cX0_dropOldest : ByteArray := prog_2_method_4_code
def yX0_dropOldest : MethodName := ⟨RX0, "dropOldest", "()V"⟩
def RX1 : String := "CalledTouches$Homeward"
def TX1 : u_T := fun k => match k with
  | 0 => ("CalledTouches$Homeward", "fromRounds", "LCalledTouches$Spread;", true)
  | 1 => ("CalledTouches$Homeward", "fromRow", "LCalledTouches$Spread;", true)
  | 2 => ("CalledTouches$Homeward", "leads", "[I", true)
  | 3 => ("CalledTouches$Homeward", "leadsBack", "[I", true)
  | _ => ("CalledTouches$Homeward", "bells", "I", false)
def tyX1 : Nat → FieldType := fun k => match k with
  | 0 => .object "CalledTouches$Spread"
  | 1 => .object "CalledTouches$Spread"
  | 2 => .array .int
  | 3 => .array .int
  | _ => .int
abbrev wsX10 : List Cond := u_ws RX1 TX1 5
theorem nmX1 : ∀ a, a < 5 → ∀ b, b < 5 → a ≠ b → (TX1 a).2.1 ≠ (TX1 b).2.1 := by decide +kernel
theorem tyX1_ok : ∀ k, k < 5 → parseFieldDescriptor (TX1 k).2.2.1 = some (tyX1 k) := by decide +kernel
abbrev cX1_init : ByteArray := prog_3_method_1_code
def yX1_init : MethodName := ⟨RX1, "<init>", "()V"⟩
abbrev cX1_learn : ByteArray := prog_3_method_2_code
def yX1_learn : MethodName := ⟨RX1, "learn", "(LCalledTouches$Touch;)V"⟩
abbrev cX1_leadsFrom : ByteArray := prog_3_method_3_code
def yX1_leadsFrom : MethodName := ⟨RX1, "leadsFrom", "(I)I"⟩
def RX2 : String := "CalledTouches$MethodReader"
def TX2 : u_T := fun k => match k with
  | 0 => ("CalledTouches$MethodReader", "places", "[I", true)
  | 1 => ("CalledTouches$MethodReader", "changes", "I", false)
  | 2 => ("CalledTouches$MethodReader", "made", "I", false)
  | 3 => ("CalledTouches$MethodReader", "lastPlace", "I", false)
  | _ => ("CalledTouches$MethodReader", "crossed", "Z", false)
def tyX2 : Nat → FieldType := fun k => match k with
  | 0 => .array .int
  | 1 => .int
  | 2 => .int
  | 3 => .int
  | _ => .boolean
abbrev wsX20 : List Cond := u_ws RX2 TX2 5
theorem nmX2 : ∀ a, a < 5 → ∀ b, b < 5 → a ≠ b → (TX2 a).2.1 ≠ (TX2 b).2.1 := by decide +kernel
theorem tyX2_ok : ∀ k, k < 5 → parseFieldDescriptor (TX2 k).2.2.1 = some (tyX2 k) := by decide +kernel
abbrev cX2_init : ByteArray := prog_4_method_1_code
def yX2_init : MethodName := ⟨RX2, "<init>", "()V"⟩
abbrev cX2_read : ByteArray := prog_4_method_2_code
def yX2_read : MethodName := ⟨RX2, "read", "([CII)I"⟩
abbrev cX2_accepts : ByteArray := prog_4_method_3_code
def yX2_accepts : MethodName := ⟨RX2, "accepts", "(CI)Z"⟩
abbrev cX2_acceptsDot : ByteArray := prog_4_method_4_code
def yX2_acceptsDot : MethodName := ⟨RX2, "acceptsDot", "(I)Z"⟩
abbrev cX2_acceptsCross : ByteArray := prog_4_method_5_code
def yX2_acceptsCross : MethodName := ⟨RX2, "acceptsCross", "(I)Z"⟩
abbrev cX2_acceptsPlace : ByteArray := prog_4_method_6_code
def yX2_acceptsPlace : MethodName := ⟨RX2, "acceptsPlace", "(II)Z"⟩
abbrev cX2_isChangeRight : ByteArray := prog_4_method_7_code
def yX2_isChangeRight : MethodName := ⟨RX2, "isChangeRight", "(I)Z"⟩
abbrev cX2_keepChange : ByteArray := prog_4_method_8_code
def yX2_keepChange : MethodName := ⟨RX2, "keepChange", "()V"⟩
abbrev cX2_beginChange : ByteArray := prog_4_method_9_code
def yX2_beginChange : MethodName := ⟨RX2, "beginChange", "()V"⟩
def RX3 : String := "CalledTouches$Pad"
def TX3 : u_T := fun k => match k with
  | 0 => ("CalledTouches$Pad", "signs", "[C", true)
  | _ => ("CalledTouches$Pad", "length", "I", false)
def tyX3 : Nat → FieldType := fun k => match k with
  | 0 => .array .char
  | _ => .int
abbrev wsX30 : List Cond := u_ws RX3 TX3 2
theorem nmX3 : ∀ a, a < 2 → ∀ b, b < 2 → a ≠ b → (TX3 a).2.1 ≠ (TX3 b).2.1 := by decide +kernel
theorem tyX3_ok : ∀ k, k < 2 → parseFieldDescriptor (TX3 k).2.2.1 = some (tyX3 k) := by decide +kernel
abbrev cX3_init : ByteArray := prog_5_method_1_code
def yX3_init : MethodName := ⟨RX3, "<init>", "()V"⟩
abbrev cX3_put : ByteArray := prog_5_method_2_code
def yX3_put : MethodName := ⟨RX3, "put", "(C)V"⟩
abbrev cX3_faultAsTouch : ByteArray := prog_5_method_3_code
def yX3_faultAsTouch : MethodName := ⟨RX3, "faultAsTouch", "()I"⟩
abbrev cX3_kindOf : ByteArray := prog_5_method_4_code
def yX3_kindOf : MethodName := ⟨RX3, "kindOf", "(C)I"⟩
def RX4 : String := "CalledTouches$Places"
def TX4 : u_T := fun k => match k with
  | _ => ("", "", "", false)
def tyX4 : Nat → FieldType := fun k => match k with
  | _ => .int
abbrev wsX40 : List Cond := u_ws RX4 TX4 0
theorem nmX4 : ∀ a, a < 0 → ∀ b, b < 0 → a ≠ b → (TX4 a).2.1 ≠ (TX4 b).2.1 := by decide +kernel
theorem tyX4_ok : ∀ k, k < 0 → parseFieldDescriptor (TX4 k).2.2.1 = some (tyX4 k) := by decide +kernel
abbrev cX4_bit : ByteArray := prog_6_method_2_code
def yX4_bit : MethodName := ⟨RX4, "bit", "(I)I"⟩
abbrev cX4_has : ByteArray := prog_6_method_3_code
def yX4_has : MethodName := ⟨RX4, "has", "(II)Z"⟩
abbrev cX4_areRight : ByteArray := prog_6_method_4_code
def yX4_areRight : MethodName := ⟨RX4, "areRight", "(II)Z"⟩
def RX5 : String := "CalledTouches$Ringing"
def TX5 : u_T := fun k => match k with
  | 0 => ("CalledTouches$Ringing", "rows", "[I", true)
  | 1 => ("CalledTouches$Ringing", "firsts", "[I", true)
  | 2 => ("CalledTouches$Ringing", "firstOfRank", "[I", true)
  | 3 => ("CalledTouches$Ringing", "bells", "I", false)
  | 4 => ("CalledTouches$Ringing", "changes", "I", false)
  | 5 => ("CalledTouches$Ringing", "leads", "I", false)
  | _ => ("CalledTouches$Ringing", "last", "I", false)
def tyX5 : Nat → FieldType := fun k => match k with
  | 0 => .array .int
  | 1 => .array .int
  | 2 => .array .int
  | 3 => .int
  | 4 => .int
  | 5 => .int
  | _ => .int
abbrev wsX50 : List Cond := u_ws RX5 TX5 7
theorem nmX5 : ∀ a, a < 7 → ∀ b, b < 7 → a ≠ b → (TX5 a).2.1 ≠ (TX5 b).2.1 := by decide +kernel
theorem tyX5_ok : ∀ k, k < 7 → parseFieldDescriptor (TX5 k).2.2.1 = some (tyX5 k) := by decide +kernel
abbrev cX5_init : ByteArray := prog_7_method_1_code
def yX5_init : MethodName := ⟨RX5, "<init>", "()V"⟩
abbrev cX5_ring : ByteArray := prog_7_method_2_code
def yX5_ring : MethodName := ⟨RX5, "ring", "(LCalledTouches$Touch;)V"⟩
abbrev cX5_keep : ByteArray := prog_7_method_3_code
def yX5_keep : MethodName := ⟨RX5, "keep", "(I)V"⟩
abbrev cX5_findFirsts : ByteArray := prog_7_method_4_code
def yX5_findFirsts : MethodName := ⟨RX5, "findFirsts", "()V"⟩
abbrev cX5_firstWithRank : ByteArray := prog_7_method_5_code
def yX5_firstWithRank : MethodName := ⟨RX5, "firstWithRank", "(II)I"⟩
abbrev cX5_rowAt : ByteArray := prog_7_method_6_code
def yX5_rowAt : MethodName := ⟨RX5, "rowAt", "(I)I"⟩
abbrev cX5_placeIn : ByteArray := prog_7_method_7_code
def yX5_placeIn : MethodName := ⟨RX5, "placeIn", "(II)I"⟩
abbrev cX5_isFirst : ByteArray := prog_7_method_8_code
def yX5_isFirst : MethodName := ⟨RX5, "isFirst", "(I)Z"⟩
abbrev cX5_firstLike : ByteArray := prog_7_method_9_code
def yX5_firstLike : MethodName := ⟨RX5, "firstLike", "(I)I"⟩
abbrev cX5_comesRound : ByteArray := prog_7_method_10_code
def yX5_comesRound : MethodName := ⟨RX5, "comesRound", "()I"⟩
abbrev cX5_firstRepeat : ByteArray := prog_7_method_11_code
def yX5_firstRepeat : MethodName := ⟨RX5, "firstRepeat", "()I"⟩
abbrev cX5_isTrue : ByteArray := prog_7_method_12_code
def yX5_isTrue : MethodName := ⟨RX5, "isTrue", "()Z"⟩
abbrev cX5_differentRows : ByteArray := prog_7_method_13_code
def yX5_differentRows : MethodName := ⟨RX5, "differentRows", "()I"⟩
abbrev cX5_wellSounding : ByteArray := prog_7_method_14_code
def yX5_wellSounding : MethodName := ⟨RX5, "wellSounding", "()I"⟩
abbrev cX5_falsePairs : ByteArray := prog_7_method_15_code
def yX5_falsePairs : MethodName := ⟨RX5, "falsePairs", "()I"⟩
abbrev cX5_areFalse : ByteArray := prog_7_method_16_code
def yX5_areFalse : MethodName := ⟨RX5, "areFalse", "(II)Z"⟩
abbrev cX5_dodgesAt : ByteArray := prog_7_method_17_code
def yX5_dodgesAt : MethodName := ⟨RX5, "dodgesAt", "(II)Z"⟩
abbrev cX5_dodges : ByteArray := prog_7_method_18_code
def yX5_dodges : MethodName := ⟨RX5, "dodges", "(I)I"⟩
abbrev cX5_firstDodge : ByteArray := prog_7_method_19_code
def yX5_firstDodge : MethodName := ⟨RX5, "firstDodge", "(I)I"⟩
abbrev cX5_stays : ByteArray := prog_7_method_20_code
def yX5_stays : MethodName := ⟨RX5, "stays", "(I)I"⟩
abbrev cX5_blowsAt : ByteArray := prog_7_method_21_code
def yX5_blowsAt : MethodName := ⟨RX5, "blowsAt", "(II)I"⟩
def RX6 : String := "CalledTouches$Row"
def TX6 : u_T := fun k => match k with
  | _ => ("", "", "", false)
def tyX6 : Nat → FieldType := fun k => match k with
  | _ => .int
abbrev wsX60 : List Cond := u_ws RX6 TX6 0
theorem nmX6 : ∀ a, a < 0 → ∀ b, b < 0 → a ≠ b → (TX6 a).2.1 ≠ (TX6 b).2.1 := by decide +kernel
theorem tyX6_ok : ∀ k, k < 0 → parseFieldDescriptor (TX6 k).2.2.1 = some (tyX6 k) := by decide +kernel
abbrev cX6_rounds : ByteArray := prog_8_method_2_code
def yX6_rounds : MethodName := ⟨RX6, "rounds", "(I)I"⟩
abbrev cX6_bellAt : ByteArray := prog_8_method_3_code
def yX6_bellAt : MethodName := ⟨RX6, "bellAt", "(II)I"⟩
abbrev cX6_put : ByteArray := prog_8_method_4_code
def yX6_put : MethodName := ⟨RX6, "put", "(III)I"⟩
abbrev cX6_placeOf : ByteArray := prog_8_method_5_code
def yX6_placeOf : MethodName := ⟨RX6, "placeOf", "(III)I"⟩
abbrev cX6_behindChange : ByteArray := prog_8_method_6_code
def yX6_behindChange : MethodName := ⟨RX6, "behindChange", "(III)I"⟩
abbrev cX6_behindLead : ByteArray := prog_8_method_7_code
def yX6_behindLead : MethodName := ⟨RX6, "behindLead", "(III)I"⟩
abbrev cX6_backwards : ByteArray := prog_8_method_8_code
def yX6_backwards : MethodName := ⟨RX6, "backwards", "(II)I"⟩
abbrev cX6_rank : ByteArray := prog_8_method_9_code
def yX6_rank : MethodName := ⟨RX6, "rank", "(II)I"⟩
abbrev cX6_signByPairs : ByteArray := prog_8_method_10_code
def yX6_signByPairs : MethodName := ⟨RX6, "signByPairs", "(II)I"⟩
abbrev cX6_signByCycles : ByteArray := prog_8_method_11_code
def yX6_signByCycles : MethodName := ⟨RX6, "signByCycles", "(II)I"⟩
abbrev cX6_soundsWell : ByteArray := prog_8_method_12_code
def yX6_soundsWell : MethodName := ⟨RX6, "soundsWell", "(II)Z"⟩
abbrev cX6_bellsInPlace : ByteArray := prog_8_method_13_code
def yX6_bellsInPlace : MethodName := ⟨RX6, "bellsInPlace", "(II)I"⟩
def RX7 : String := "CalledTouches$Spread"
def TX7 : u_T := fun k => match k with
  | 0 => ("CalledTouches$Spread", "fewest", "[I", true)
  | 1 => ("CalledTouches$Spread", "reached", "[I", true)
  | 2 => ("CalledTouches$Spread", "bells", "I", false)
  | _ => ("CalledTouches$Spread", "size", "I", false)
def tyX7 : Nat → FieldType := fun k => match k with
  | 0 => .array .int
  | 1 => .array .int
  | 2 => .int
  | _ => .int
abbrev wsX70 : List Cond := u_ws RX7 TX7 4
theorem nmX7 : ∀ a, a < 4 → ∀ b, b < 4 → a ≠ b → (TX7 a).2.1 ≠ (TX7 b).2.1 := by decide +kernel
theorem tyX7_ok : ∀ k, k < 4 → parseFieldDescriptor (TX7 k).2.2.1 = some (tyX7 k) := by decide +kernel
abbrev cX7_init : ByteArray := prog_9_method_1_code
def yX7_init : MethodName := ⟨RX7, "<init>", "()V"⟩
abbrev cX7_from : ByteArray := prog_9_method_2_code
def yX7_from : MethodName := ⟨RX7, "from", "(II[II)V"⟩
abbrev cX7_reach : ByteArray := prog_9_method_3_code
def yX7_reach : MethodName := ⟨RX7, "reach", "(II)V"⟩
abbrev cX7_fewestTo : ByteArray := prog_9_method_4_code
def yX7_fewestTo : MethodName := ⟨RX7, "fewestTo", "(I)I"⟩
def RX8 : String := "CalledTouches$Start"
def TX8 : u_T := fun k => match k with
  | _ => ("", "", "", false)
def tyX8 : Nat → FieldType := fun k => match k with
  | _ => .int
abbrev wsX80 : List Cond := u_ws RX8 TX8 0
theorem nmX8 : ∀ a, a < 0 → ∀ b, b < 0 → a ≠ b → (TX8 a).2.1 ≠ (TX8 b).2.1 := by decide +kernel
theorem tyX8_ok : ∀ k, k < 0 → parseFieldDescriptor (TX8 k).2.2.1 = some (tyX8 k) := by decide +kernel
abbrev cX8_lead : ByteArray := prog_10_method_2_code
def yX8_lead : MethodName := ⟨RX8, "lead", "(I)Ljava/lang/String;"⟩
abbrev cX8_bob : ByteArray := prog_10_method_3_code
def yX8_bob : MethodName := ⟨RX8, "bob", "(I)Ljava/lang/String;"⟩
abbrev cX8_single : ByteArray := prog_10_method_4_code
def yX8_single : MethodName := ⟨RX8, "single", "(I)Ljava/lang/String;"⟩
def RX9 : String := "CalledTouches$Touch"
def TX9 : u_T := fun k => match k with
  | 0 => ("CalledTouches$Touch", "bells", "I", false)
  | 1 => ("CalledTouches$Touch", "changes", "I", false)
  | 2 => ("CalledTouches$Touch", "bob", "I", false)
  | 3 => ("CalledTouches$Touch", "single", "I", false)
  | 4 => ("CalledTouches$Touch", "leads", "I", false)
  | 5 => ("CalledTouches$Touch", "places", "[I", true)
  | _ => ("CalledTouches$Touch", "kinds", "[I", true)
def tyX9 : Nat → FieldType := fun k => match k with
  | 0 => .int
  | 1 => .int
  | 2 => .int
  | 3 => .int
  | 4 => .int
  | 5 => .array .int
  | _ => .array .int
abbrev wsX90 : List Cond := u_ws RX9 TX9 7
theorem nmX9 : ∀ a, a < 7 → ∀ b, b < 7 → a ≠ b → (TX9 a).2.1 ≠ (TX9 b).2.1 := by decide +kernel
theorem tyX9_ok : ∀ k, k < 7 → parseFieldDescriptor (TX9 k).2.2.1 = some (tyX9 k) := by decide +kernel
abbrev cX9_init : ByteArray := prog_11_method_1_code
def yX9_init : MethodName := ⟨RX9, "<init>", "()V"⟩
abbrev cX9_become : ByteArray := prog_11_method_2_code
def yX9_become : MethodName := ⟨RX9, "become", "(LCalledTouches$Touch;)V"⟩
abbrev cX9_takeMethod : ByteArray := prog_11_method_3_code
def yX9_takeMethod : MethodName := ⟨RX9, "takeMethod", "(LCalledTouches$MethodReader;)V"⟩
abbrev cX9_addLead : ByteArray := prog_11_method_4_code
def yX9_addLead : MethodName := ⟨RX9, "addLead", "(I)V"⟩
abbrev cX9_kindOfLead : ByteArray := prog_11_method_6_code
def yX9_kindOfLead : MethodName := ⟨RX9, "kindOfLead", "(I)I"⟩
abbrev cX9_lastRow : ByteArray := prog_11_method_7_code
def yX9_lastRow : MethodName := ⟨RX9, "lastRow", "()I"⟩
abbrev cX9_placesMade : ByteArray := prog_11_method_8_code
def yX9_placesMade : MethodName := ⟨RX9, "placesMade", "(II)I"⟩
abbrev cX9_calledLeads : ByteArray := prog_11_method_9_code
def yX9_calledLeads : MethodName := ⟨RX9, "calledLeads", "()I"⟩
abbrev cX9_roundsBehindLead : ByteArray := prog_11_method_10_code
def yX9_roundsBehindLead : MethodName := ⟨RX9, "roundsBehindLead", "(I)I"⟩
abbrev cX9_plainCourse : ByteArray := prog_11_method_11_code
def yX9_plainCourse : MethodName := ⟨RX9, "plainCourse", "()I"⟩
def RX10 : String := "CalledTouches"
def TX10 : u_T := fun k => match k with
  | 0 => ("CalledTouches", "now", "LCalledTouches$Touch;", true)
  | 1 => ("CalledTouches", "trial", "LCalledTouches$Touch;", true)
  | 2 => ("CalledTouches", "snapshot", "LCalledTouches$Touch;", true)
  | 3 => ("CalledTouches", "hasSnapshot", "Z", false)
  | 4 => ("CalledTouches", "history", "LCalledTouches$History;", true)
  | 5 => ("CalledTouches", "pad", "LCalledTouches$Pad;", true)
  | 6 => ("CalledTouches", "reader", "LCalledTouches$MethodReader;", true)
  | 7 => ("CalledTouches", "ringing", "LCalledTouches$Ringing;", true)
  | _ => ("CalledTouches", "homeward", "LCalledTouches$Homeward;", true)
def tyX10 : Nat → FieldType := fun k => match k with
  | 0 => .object "CalledTouches$Touch"
  | 1 => .object "CalledTouches$Touch"
  | 2 => .object "CalledTouches$Touch"
  | 3 => .boolean
  | 4 => .object "CalledTouches$History"
  | 5 => .object "CalledTouches$Pad"
  | 6 => .object "CalledTouches$MethodReader"
  | 7 => .object "CalledTouches$Ringing"
  | _ => .object "CalledTouches$Homeward"
abbrev wsX100 : List Cond := u_ws RX10 TX10 9
theorem nmX10 : ∀ a, a < 9 → ∀ b, b < 9 → a ≠ b → (TX10 a).2.1 ≠ (TX10 b).2.1 := by decide +kernel
theorem tyX10_ok : ∀ k, k < 9 → parseFieldDescriptor (TX10 k).2.2.1 = some (tyX10 k) := by decide +kernel
abbrev cX10_init : ByteArray := prog_1_method_1_code
def yX10_init : MethodName := ⟨RX10, "<init>", "()V"⟩
abbrev cX10_bells : ByteArray := prog_1_method_2_code
def yX10_bells : MethodName := ⟨RX10, "bells", "(I)I"⟩
abbrev cX10_method : ByteArray := prog_1_method_3_code
def yX10_method : MethodName := ⟨RX10, "method", "()I"⟩
abbrev cX10_call : ByteArray := prog_1_method_4_code
def yX10_call : MethodName := ⟨RX10, "call", "(II)I"⟩
abbrev cX10_add : ByteArray := prog_1_method_6_code
def yX10_add : MethodName := ⟨RX10, "add", "(I)I"⟩
abbrev cX10_cut : ByteArray := prog_1_method_7_code
def yX10_cut : MethodName := ⟨RX10, "cut", "(I)I"⟩
abbrev cX10_append : ByteArray := prog_1_method_8_code
def yX10_append : MethodName := ⟨RX10, "append", "(I)I"⟩
abbrev cX10_clear : ByteArray := prog_1_method_9_code
def yX10_clear : MethodName := ⟨RX10, "clear", "()I"⟩
abbrev cX10_fault : ByteArray := prog_1_method_10_code
def yX10_fault : MethodName := ⟨RX10, "fault", "(I)I"⟩
abbrev cX10_bell : ByteArray := prog_1_method_11_code
def yX10_bell : MethodName := ⟨RX10, "bell", "(II)I"⟩
abbrev cX10_change : ByteArray := prog_1_method_12_code
def yX10_change : MethodName := ⟨RX10, "change", "(II)I"⟩
abbrev cX10_row : ByteArray := prog_1_method_13_code
def yX10_row : MethodName := ⟨RX10, "row", "(II)I"⟩
abbrev cX10_path : ByteArray := prog_1_method_14_code
def yX10_path : MethodName := ⟨RX10, "path", "(II)I"⟩
abbrev cX10_blows : ByteArray := prog_1_method_15_code
def yX10_blows : MethodName := ⟨RX10, "blows", "(II)I"⟩
abbrev cX10_count : ByteArray := prog_1_method_16_code
def yX10_count : MethodName := ⟨RX10, "count", "(I)I"⟩
abbrev cX10_music : ByteArray := prog_1_method_17_code
def yX10_music : MethodName := ⟨RX10, "music", "()D"⟩
abbrev cX10_begin : ByteArray := prog_1_method_25_code
def yX10_begin : MethodName := ⟨RX10, "begin", "(I)V"⟩
abbrev cX10_countRows : ByteArray := prog_1_method_26_code
def yX10_countRows : MethodName := ⟨RX10, "countRows", "(I)I"⟩
abbrev cX10_isBell : ByteArray := prog_1_method_28_code
def yX10_isBell : MethodName := ⟨RX10, "isBell", "(I)Z"⟩
abbrev cX10_isWithin : ByteArray := prog_1_method_29_code
def yX10_isWithin : MethodName := ⟨RX10, "isWithin", "(III)Z"⟩
def RX11 : String := "CalledTouchesModel"
def TX11 : u_T := fun k => match k with
  | _ => ("", "", "", false)
def tyX11 : Nat → FieldType := fun k => match k with
  | _ => .int
abbrev wsX110 : List Cond := u_ws RX11 TX11 0
theorem nmX11 : ∀ a, a < 0 → ∀ b, b < 0 → a ≠ b → (TX11 a).2.1 ≠ (TX11 b).2.1 := by decide +kernel
theorem tyX11_ok : ∀ k, k < 0 → parseFieldDescriptor (TX11 k).2.2.1 = some (tyX11 k) := by decide +kernel
def RJx145de : String := "java/io/Serializable"
def TJx145de : u_T := fun k => match k with
  | _ => ("", "", "", false)
def tyJx145de : Nat → FieldType := fun k => match k with
  | _ => .int
theorem nmJx145de : ∀ a, a < 0 → ∀ b, b < 0 → a ≠ b → (TJx145de a).2.1 ≠ (TJx145de b).2.1 := by decide +kernel
theorem tyJx145de_ok : ∀ k, k < 0 → parseFieldDescriptor (TJx145de k).2.2.1 = some (tyJx145de k) := by decide +kernel
def RJx9f9b0 : String := "java/lang/CharSequence"
def TJx9f9b0 : u_T := fun k => match k with
  | _ => ("", "", "", false)
def tyJx9f9b0 : Nat → FieldType := fun k => match k with
  | _ => .int
theorem nmJx9f9b0 : ∀ a, a < 0 → ∀ b, b < 0 → a ≠ b → (TJx9f9b0 a).2.1 ≠ (TJx9f9b0 b).2.1 := by decide +kernel
theorem tyJx9f9b0_ok : ∀ k, k < 0 → parseFieldDescriptor (TJx9f9b0 k).2.2.1 = some (tyJx9f9b0 k) := by decide +kernel
def RJxb160c : String := "java/lang/Comparable"
def TJxb160c : u_T := fun k => match k with
  | _ => ("", "", "", false)
def tyJxb160c : Nat → FieldType := fun k => match k with
  | _ => .int
theorem nmJxb160c : ∀ a, a < 0 → ∀ b, b < 0 → a ≠ b → (TJxb160c a).2.1 ≠ (TJxb160c b).2.1 := by decide +kernel
theorem tyJxb160c_ok : ∀ k, k < 0 → parseFieldDescriptor (TJxb160c k).2.2.1 = some (tyJxb160c k) := by decide +kernel
def RJ6 : String := "java/lang/Integer"
def TJ6 : u_T := fun k => match k with
  | _ => ("", "", "", false)
def tyJ6 : Nat → FieldType := fun k => match k with
  | _ => .int
abbrev wsJ60 : List Cond := u_ws RJ6 TJ6 0
theorem nmJ6 : ∀ a, a < 0 → ∀ b, b < 0 → a ≠ b → (TJ6 a).2.1 ≠ (TJ6 b).2.1 := by decide +kernel
theorem tyJ6_ok : ∀ k, k < 0 → parseFieldDescriptor (TJ6 k).2.2.1 = some (tyJ6 k) := by decide +kernel
abbrev cJ6_bitCount_0f7a4 : ByteArray := prog_14_method_49_code
def yJ6_bitCount_0f7a4 : MethodName := ⟨RJ6, "bitCount", "(I)I"⟩
def RJ0 : String := "java/lang/String"
def TJ0 : u_T := fun k => match k with
  | _ => ("", "", "", false)
def tyJ0 : Nat → FieldType := fun k => match k with
  | _ => .int
abbrev wsJ00 : List Cond := u_ws RJ0 TJ0 0
theorem nmJ0 : ∀ a, a < 0 → ∀ b, b < 0 → a ≠ b → (TJ0 a).2.1 ≠ (TJ0 b).2.1 := by decide +kernel
theorem tyJ0_ok : ∀ k, k < 0 → parseFieldDescriptor (TJ0 k).2.2.1 = some (tyJ0 k) := by decide +kernel
abbrev cJ0_toCharArray_70df3 : ByteArray := prog_15_method_129_code
def yJ0_toCharArray_70df3 : MethodName := ⟨RJ0, "toCharArray", "()[C"⟩
abbrev cJ0_isLatin1_aae02 : ByteArray := prog_15_method_154_code
def yJ0_isLatin1_aae02 : MethodName := ⟨RJ0, "isLatin1", "()Z"⟩
abbrev cJ0_checkBoundsOffCount_cabcc : ByteArray := prog_15_method_157_code
def yJ0_checkBoundsOffCount_cabcc : MethodName := ⟨RJ0, "checkBoundsOffCount", "(III)I"⟩
def RJ1 : String := "java/lang/StringLatin1"
def TJ1 : u_T := fun k => match k with
  | _ => ("", "", "", false)
def tyJ1 : Nat → FieldType := fun k => match k with
  | _ => .int
abbrev wsJ10 : List Cond := u_ws RJ1 TJ1 0
theorem nmJ1 : ∀ a, a < 0 → ∀ b, b < 0 → a ≠ b → (TJ1 a).2.1 ≠ (TJ1 b).2.1 := by decide +kernel
theorem tyJ1_ok : ∀ k, k < 0 → parseFieldDescriptor (TJ1 k).2.2.1 = some (tyJ1 k) := by decide +kernel
abbrev cJ1_toChars_9d188 : ByteArray := prog_16_method_9_code
def yJ1_toChars_9d188 : MethodName := ⟨RJ1, "toChars", "([B)[C"⟩
abbrev cJ1_inflate_03870 : ByteArray := prog_16_method_49_code
def yJ1_inflate_03870 : MethodName := ⟨RJ1, "inflate", "([BI[CII)V"⟩
def RJ2 : String := "java/lang/StringUTF16"
def TJ2 : u_T := fun k => match k with
  | _ => ("", "", "", false)
def tyJ2 : Nat → FieldType := fun k => match k with
  | _ => .int
abbrev wsJ20 : List Cond := u_ws RJ2 TJ2 0
theorem nmJ2 : ∀ a, a < 0 → ∀ b, b < 0 → a ≠ b → (TJ2 a).2.1 ≠ (TJ2 b).2.1 := by decide +kernel
theorem tyJ2_ok : ∀ k, k < 0 → parseFieldDescriptor (TJ2 k).2.2.1 = some (tyJ2 k) := by decide +kernel
abbrev cJ2_getChar_3b067 : ByteArray := prog_17_method_5_code
def yJ2_getChar_3b067 : MethodName := ⟨RJ2, "getChar", "([BI)C"⟩
abbrev cJ2_length_9d52b : ByteArray := prog_17_method_6_code
def yJ2_length_9d52b : MethodName := ⟨RJ2, "length", "([B)I"⟩
abbrev cJ2_toChars_9d188 : ByteArray := prog_17_method_13_code
def yJ2_toChars_9d188 : MethodName := ⟨RJ2, "toChars", "([B)[C"⟩
abbrev cJ2_getChars_a1a8b : ByteArray := prog_17_method_26_code
def yJ2_getChars_a1a8b : MethodName := ⟨RJ2, "getChars", "([BII[CI)V"⟩
abbrev cJ2_checkBoundsOffCount_d044e : ByteArray := prog_17_method_94_code
def yJ2_checkBoundsOffCount_d044e : MethodName := ⟨RJ2, "checkBoundsOffCount", "(II[B)V"⟩
def RJ10 : String := "java/lang/System"
def TJ10 : u_T := fun k => match k with
  | _ => ("", "", "", false)
def tyJ10 : Nat → FieldType := fun k => match k with
  | _ => .int
abbrev wsJ100 : List Cond := u_ws RJ10 TJ10 0
theorem nmJ10 : ∀ a, a < 0 → ∀ b, b < 0 → a ≠ b → (TJ10 a).2.1 ≠ (TJ10 b).2.1 := by decide +kernel
theorem tyJ10_ok : ∀ k, k < 0 → parseFieldDescriptor (TJ10 k).2.2.1 = some (tyJ10 k) := by decide +kernel
def RJxfd54e : String := "java/lang/constant/Constable"
def TJxfd54e : u_T := fun k => match k with
  | _ => ("", "", "", false)
def tyJxfd54e : Nat → FieldType := fun k => match k with
  | _ => .int
theorem nmJxfd54e : ∀ a, a < 0 → ∀ b, b < 0 → a ≠ b → (TJxfd54e a).2.1 ≠ (TJxfd54e b).2.1 := by decide +kernel
theorem tyJxfd54e_ok : ∀ k, k < 0 → parseFieldDescriptor (TJxfd54e k).2.2.1 = some (tyJxfd54e k) := by decide +kernel
def RJx3cf43 : String := "java/lang/constant/ConstantDesc"
def TJx3cf43 : u_T := fun k => match k with
  | _ => ("", "", "", false)
def tyJx3cf43 : Nat → FieldType := fun k => match k with
  | _ => .int
theorem nmJx3cf43 : ∀ a, a < 0 → ∀ b, b < 0 → a ≠ b → (TJx3cf43 a).2.1 ≠ (TJx3cf43 b).2.1 := by decide +kernel
theorem tyJx3cf43_ok : ∀ k, k < 0 → parseFieldDescriptor (TJx3cf43 k).2.2.1 = some (tyJx3cf43 k) := by decide +kernel
def RJ7 : String := "java/util/Arrays"
def TJ7 : u_T := fun k => match k with
  | _ => ("", "", "", false)
def tyJ7 : Nat → FieldType := fun k => match k with
  | _ => .int
abbrev wsJ70 : List Cond := u_ws RJ7 TJ7 0
theorem nmJ7 : ∀ a, a < 0 → ∀ b, b < 0 → a ≠ b → (TJ7 a).2.1 ≠ (TJ7 b).2.1 := by decide +kernel
theorem tyJ7_ok : ∀ k, k < 0 → parseFieldDescriptor (TJ7 k).2.2.1 = some (tyJ7 k) := by decide +kernel
abbrev cJ7_fill_53178 : ByteArray := prog_19_method_103_code
def yJ7_fill_53178 : MethodName := ⟨RJ7, "fill", "([II)V"⟩
def RJ3 : String := "jdk/internal/util/Preconditions"
def TJ3 : u_T := fun k => match k with
  | _ => ("", "", "", false)
def tyJ3 : Nat → FieldType := fun k => match k with
  | _ => .int
abbrev wsJ30 : List Cond := u_ws RJ3 TJ3 0
theorem nmJ3 : ∀ a, a < 0 → ∀ b, b < 0 → a ≠ b → (TJ3 a).2.1 ≠ (TJ3 b).2.1 := by decide +kernel
theorem tyJ3_ok : ∀ k, k < 0 → parseFieldDescriptor (TJ3 k).2.2.1 = some (tyJ3 k) := by decide +kernel
abbrev cJ3_checkFromIndexSize_8c36e : ByteArray := prog_20_method_13_code
def yJ3_checkFromIndexSize_8c36e : MethodName := ⟨RJ3, "checkFromIndexSize", "(IIILjava/util/function/BiFunction;)I"⟩
def RL : String := "CalledTouchesLaw"
abbrev cL_cell : ByteArray := method_2_code
def yL_cell : MethodName := ⟨RL, "cell", "([II)I"⟩
abbrev cL_isRight : ByteArray := method_4_code
def yL_isRight : MethodName := ⟨RL, "isRight", "(II)Z"⟩
abbrev cL_beginning : ByteArray := method_5_code
def yL_beginning : MethodName := ⟨RL, "beginning", "([I[I[II)V"⟩
abbrev cL_change : ByteArray := method_6_code
def yL_change : MethodName := ⟨RL, "change", "([I[I[I[II)I"⟩
abbrev cL_ring : ByteArray := method_7_code
def yL_ring : MethodName := ⟨RL, "ring", "(II[I)V"⟩
abbrev cL_code : ByteArray := method_8_code
def yL_code : MethodName := ⟨RL, "code", "(I[I)J"⟩
abbrev cL_rounds : ByteArray := method_9_code
def yL_rounds : MethodName := ⟨RL, "rounds", "(I[I)V"⟩
abbrev cL_rowAt : ByteArray := method_10_code
def yL_rowAt : MethodName := ⟨RL, "rowAt", "([JI)J"⟩
abbrev cL_all : ByteArray := method_11_code
def yL_all : MethodName := ⟨RL, "all", "([I[I[I[I[I[J)V"⟩
abbrev cL_digit : ByteArray := method_12_code
def yL_digit : MethodName := ⟨RL, "digit", "(IJI)I"⟩
abbrev cL_sounds : ByteArray := method_13_code
def yL_sounds : MethodName := ⟨RL, "sounds", "(IJ)Z"⟩
abbrev cL_first : ByteArray := method_14_code
def yL_first : MethodName := ⟨RL, "first", "([JII)I"⟩
abbrev cL_areRows : ByteArray := method_15_code
def yL_areRows : MethodName := ⟨RL, "areRows", "(LCalledTouches;[I[JI)Z"⟩
abbrev cL_areLeads : ByteArray := method_16_code
def yL_areLeads : MethodName := ⟨RL, "areLeads", "(LCalledTouches;[I[I[I[I[J)Z"⟩
abbrev cL_isPath : ByteArray := method_17_code
def yL_isPath : MethodName := ⟨RL, "isPath", "(LCalledTouches;[I[JI)Z"⟩
abbrev cL_typed : ByteArray := method_18_code
def yL_typed : MethodName := ⟨RL, "typed", "(LCalledTouches;[III)Z"⟩
abbrev cL_isActed : ByteArray := method_19_code
def yL_isActed : MethodName := ⟨RL, "isActed", "(LCalledTouches;[I[I[I[III)Z"⟩
abbrev cL_law : ByteArray := code
def yL_law : MethodName := ⟨RL, "law", "([I)Z"⟩
abbrev vwCl : List vw_C := [(RX0, TX0, 2), (RX1, TX1, 5), (RX2, TX2, 5), (RX3, TX3, 2), (RX5, TX5, 7), (RX7, TX7, 4), (RX9, TX9, 7), (RX10, TX10, 9)]
