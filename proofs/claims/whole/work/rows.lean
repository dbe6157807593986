section
-- ===== PART A: goes FIRST, ahead of the names: the tables' words, and 'selects' of the private methods out of them =====
/-- a private method of a class that the tables say can be made, by its rows of tables_1 -/
def lw_okq (q : MethodName × Nat) : Prop := (q.1.cls ≠ "java/lang/invoke/MethodHandle" ∧ q.1.cls ≠ "java/lang/invoke/VarHandle") ∧ Cond.instantiable q.1.cls q.2 ∈ tables_1 ∧ Cond.privateMethod q.1 ∈ tables_1 ∧ Cond.instanceMethod q.1 ∈ tables_1
theorem lw_p0 : lw_okq (⟨"CalledTouches", "begin", "(I)V"⟩, 9) := ⟨⟨by decide +kernel, by decide +kernel⟩, List.mem_of_getElem? (i := 21) (by decide +kernel), List.mem_of_getElem? (i := 195) (by decide +kernel), List.mem_of_getElem? (i := 196) (by decide +kernel)⟩
theorem lw_p1 : lw_okq (⟨"CalledTouches", "readStart", "(Ljava/lang/String;I)V"⟩, 9) := ⟨⟨by decide +kernel, by decide +kernel⟩, List.mem_of_getElem? (i := 21) (by decide +kernel), List.mem_of_getElem? (i := 205) (by decide +kernel), List.mem_of_getElem? (i := 206) (by decide +kernel)⟩
theorem lw_p2 : lw_okq (⟨"CalledTouches$MethodReader", "beginChange", "()V"⟩, 5) := ⟨⟨by decide +kernel, by decide +kernel⟩, List.mem_of_getElem? (i := 100) (by decide +kernel), List.mem_of_getElem? (i := 266) (by decide +kernel), List.mem_of_getElem? (i := 267) (by decide +kernel)⟩
theorem lw_p3 : lw_okq (⟨"CalledTouches$MethodReader", "accepts", "(CI)Z"⟩, 5) := ⟨⟨by decide +kernel, by decide +kernel⟩, List.mem_of_getElem? (i := 100) (by decide +kernel), List.mem_of_getElem? (i := 270) (by decide +kernel), List.mem_of_getElem? (i := 271) (by decide +kernel)⟩
theorem lw_p4 : lw_okq (⟨"CalledTouches$MethodReader", "acceptsDot", "(I)Z"⟩, 5) := ⟨⟨by decide +kernel, by decide +kernel⟩, List.mem_of_getElem? (i := 100) (by decide +kernel), List.mem_of_getElem? (i := 274) (by decide +kernel), List.mem_of_getElem? (i := 275) (by decide +kernel)⟩
theorem lw_p5 : lw_okq (⟨"CalledTouches$MethodReader", "isChangeComplete", "(I)Z"⟩, 5) := ⟨⟨by decide +kernel, by decide +kernel⟩, List.mem_of_getElem? (i := 100) (by decide +kernel), List.mem_of_getElem? (i := 278) (by decide +kernel), List.mem_of_getElem? (i := 279) (by decide +kernel)⟩
theorem lw_p6 : lw_okq (⟨"CalledTouches$MethodReader", "keepChange", "()V"⟩, 5) := ⟨⟨by decide +kernel, by decide +kernel⟩, List.mem_of_getElem? (i := 100) (by decide +kernel), List.mem_of_getElem? (i := 291) (by decide +kernel), List.mem_of_getElem? (i := 292) (by decide +kernel)⟩
theorem lw_p7 : lw_okq (⟨"CalledTouches$MethodReader", "acceptsCross", "(I)Z"⟩, 5) := ⟨⟨by decide +kernel, by decide +kernel⟩, List.mem_of_getElem? (i := 100) (by decide +kernel), List.mem_of_getElem? (i := 295) (by decide +kernel), List.mem_of_getElem? (i := 296) (by decide +kernel)⟩
theorem lw_p8 : lw_okq (⟨"CalledTouches$MethodReader", "acceptsPlace", "(II)Z"⟩, 5) := ⟨⟨by decide +kernel, by decide +kernel⟩, List.mem_of_getElem? (i := 100) (by decide +kernel), List.mem_of_getElem? (i := 299) (by decide +kernel), List.mem_of_getElem? (i := 300) (by decide +kernel)⟩
theorem lw_p9 : lw_okq (⟨"CalledTouches$History", "dropOldest", "()V"⟩, 2) := ⟨⟨by decide +kernel, by decide +kernel⟩, List.mem_of_getElem? (i := 67) (by decide +kernel), List.mem_of_getElem? (i := 369) (by decide +kernel), List.mem_of_getElem? (i := 370) (by decide +kernel)⟩
theorem lw_p10 : lw_okq (⟨"CalledTouches", "isBell", "(I)Z"⟩, 9) := ⟨⟨by decide +kernel, by decide +kernel⟩, List.mem_of_getElem? (i := 21) (by decide +kernel), List.mem_of_getElem? (i := 434) (by decide +kernel), List.mem_of_getElem? (i := 435) (by decide +kernel)⟩
theorem lw_p11 : lw_okq (⟨"CalledTouches$Ringing", "keep", "(I)V"⟩, 7) := ⟨⟨by decide +kernel, by decide +kernel⟩, List.mem_of_getElem? (i := 125) (by decide +kernel), List.mem_of_getElem? (i := 463) (by decide +kernel), List.mem_of_getElem? (i := 464) (by decide +kernel)⟩
theorem lw_p12 : lw_okq (⟨"CalledTouches$Ringing", "findFirsts", "()V"⟩, 7) := ⟨⟨by decide +kernel, by decide +kernel⟩, List.mem_of_getElem? (i := 125) (by decide +kernel), List.mem_of_getElem? (i := 467) (by decide +kernel), List.mem_of_getElem? (i := 468) (by decide +kernel)⟩
theorem lw_p13 : lw_okq (⟨"CalledTouches$Ringing", "firstWithRank", "(II)I"⟩, 7) := ⟨⟨by decide +kernel, by decide +kernel⟩, List.mem_of_getElem? (i := 125) (by decide +kernel), List.mem_of_getElem? (i := 485) (by decide +kernel), List.mem_of_getElem? (i := 486) (by decide +kernel)⟩
theorem lw_p14 : lw_okq (⟨"CalledTouches$Spread", "reach", "(II)V"⟩, 4) := ⟨⟨by decide +kernel, by decide +kernel⟩, List.mem_of_getElem? (i := 160) (by decide +kernel), List.mem_of_getElem? (i := 539) (by decide +kernel), List.mem_of_getElem? (i := 540) (by decide +kernel)⟩
theorem lw_p15 : lw_okq (⟨"CalledTouches$Ringing", "dodgesAt", "(II)Z"⟩, 7) := ⟨⟨by decide +kernel, by decide +kernel⟩, List.mem_of_getElem? (i := 125) (by decide +kernel), List.mem_of_getElem? (i := 564) (by decide +kernel), List.mem_of_getElem? (i := 565) (by decide +kernel)⟩
def lw_privs_1 : List (MethodName × Nat) := [(⟨"CalledTouches", "begin", "(I)V"⟩, 9), (⟨"CalledTouches", "readStart", "(Ljava/lang/String;I)V"⟩, 9), (⟨"CalledTouches$MethodReader", "beginChange", "()V"⟩, 5), (⟨"CalledTouches$MethodReader", "accepts", "(CI)Z"⟩, 5), (⟨"CalledTouches$MethodReader", "acceptsDot", "(I)Z"⟩, 5), (⟨"CalledTouches$MethodReader", "isChangeComplete", "(I)Z"⟩, 5), (⟨"CalledTouches$MethodReader", "keepChange", "()V"⟩, 5), (⟨"CalledTouches$MethodReader", "acceptsCross", "(I)Z"⟩, 5), (⟨"CalledTouches$MethodReader", "acceptsPlace", "(II)Z"⟩, 5), (⟨"CalledTouches$History", "dropOldest", "()V"⟩, 2), (⟨"CalledTouches", "isBell", "(I)Z"⟩, 9), (⟨"CalledTouches$Ringing", "keep", "(I)V"⟩, 7), (⟨"CalledTouches$Ringing", "findFirsts", "()V"⟩, 7), (⟨"CalledTouches$Ringing", "firstWithRank", "(II)I"⟩, 7), (⟨"CalledTouches$Spread", "reach", "(II)V"⟩, 4), (⟨"CalledTouches$Ringing", "dodgesAt", "(II)Z"⟩, 7)]
theorem lw_r1 : ∀ q ∈ lw_privs_1, lw_okq q := List.forall_mem_cons.mpr ⟨lw_p0, List.forall_mem_cons.mpr ⟨lw_p1, List.forall_mem_cons.mpr ⟨lw_p2, List.forall_mem_cons.mpr ⟨lw_p3, List.forall_mem_cons.mpr ⟨lw_p4, List.forall_mem_cons.mpr ⟨lw_p5, List.forall_mem_cons.mpr ⟨lw_p6, List.forall_mem_cons.mpr ⟨lw_p7, List.forall_mem_cons.mpr ⟨lw_p8, List.forall_mem_cons.mpr ⟨lw_p9, List.forall_mem_cons.mpr ⟨lw_p10, List.forall_mem_cons.mpr ⟨lw_p11, List.forall_mem_cons.mpr ⟨lw_p12, List.forall_mem_cons.mpr ⟨lw_p13, List.forall_mem_cons.mpr ⟨lw_p14, List.forall_mem_cons.mpr ⟨lw_p15, fun _ h => absurd h List.not_mem_nil⟩⟩⟩⟩⟩⟩⟩⟩⟩⟩⟩⟩⟩⟩⟩⟩
theorem lw_p16 : lw_okq (⟨"CalledTouches", "countRows", "(I)I"⟩, 9) := ⟨⟨by decide +kernel, by decide +kernel⟩, List.mem_of_getElem? (i := 21) (by decide +kernel), List.mem_of_getElem? (i := 608) (by decide +kernel), List.mem_of_getElem? (i := 609) (by decide +kernel)⟩
theorem lw_p17 : lw_okq (⟨"CalledTouches$Ringing", "isFirst", "(I)Z"⟩, 7) := ⟨⟨by decide +kernel, by decide +kernel⟩, List.mem_of_getElem? (i := 125) (by decide +kernel), List.mem_of_getElem? (i := 624) (by decide +kernel), List.mem_of_getElem? (i := 625) (by decide +kernel)⟩
theorem lw_p18 : lw_okq (⟨"CalledTouches$Ringing", "areFalse", "(II)Z"⟩, 7) := ⟨⟨by decide +kernel, by decide +kernel⟩, List.mem_of_getElem? (i := 125) (by decide +kernel), List.mem_of_getElem? (i := 637) (by decide +kernel), List.mem_of_getElem? (i := 638) (by decide +kernel)⟩
theorem lw_p19 : lw_okq (⟨"CalledTouches", "lastOrder", "()I"⟩, 9) := ⟨⟨by decide +kernel, by decide +kernel⟩, List.mem_of_getElem? (i := 21) (by decide +kernel), List.mem_of_getElem? (i := 654) (by decide +kernel), List.mem_of_getElem? (i := 655) (by decide +kernel)⟩
theorem lw_p20 : lw_okq (⟨"CalledTouches$Homeward", "callFrom", "(I)I"⟩, 5) := ⟨⟨by decide +kernel, by decide +kernel⟩, List.mem_of_getElem? (i := 154) (by decide +kernel), List.mem_of_getElem? (i := 671) (by decide +kernel), List.mem_of_getElem? (i := 672) (by decide +kernel)⟩
theorem lw_p21 : lw_okq (⟨"CalledTouches$Homeward", "behind", "(II)I"⟩, 5) := ⟨⟨by decide +kernel, by decide +kernel⟩, List.mem_of_getElem? (i := 154) (by decide +kernel), List.mem_of_getElem? (i := 675) (by decide +kernel), List.mem_of_getElem? (i := 676) (by decide +kernel)⟩
theorem lw_p22 : lw_okq (⟨"CalledTouchesModel", "lays", "(I)V"⟩, 18) := ⟨⟨by decide +kernel, by decide +kernel⟩, List.mem_of_getElem? (i := 709) (by decide +kernel), List.mem_of_getElem? (i := 715) (by decide +kernel), List.mem_of_getElem? (i := 716) (by decide +kernel)⟩
theorem lw_p23 : lw_okq (⟨"CalledTouchesModel", "changes", "()V"⟩, 18) := ⟨⟨by decide +kernel, by decide +kernel⟩, List.mem_of_getElem? (i := 709) (by decide +kernel), List.mem_of_getElem? (i := 781) (by decide +kernel), List.mem_of_getElem? (i := 782) (by decide +kernel)⟩
theorem lw_p24 : lw_okq (⟨"CalledTouchesModel", "methodFault", "()I"⟩, 18) := ⟨⟨by decide +kernel, by decide +kernel⟩, List.mem_of_getElem? (i := 709) (by decide +kernel), List.mem_of_getElem? (i := 789) (by decide +kernel), List.mem_of_getElem? (i := 790) (by decide +kernel)⟩
theorem lw_p25 : lw_okq (⟨"CalledTouchesModel", "readsChange", "()Z"⟩, 18) := ⟨⟨by decide +kernel, by decide +kernel⟩, List.mem_of_getElem? (i := 709) (by decide +kernel), List.mem_of_getElem? (i := 793) (by decide +kernel), List.mem_of_getElem? (i := 794) (by decide +kernel)⟩
theorem lw_p26 : lw_okq (⟨"CalledTouchesModel", "isAt", "(II)Z"⟩, 18) := ⟨⟨by decide +kernel, by decide +kernel⟩, List.mem_of_getElem? (i := 709) (by decide +kernel), List.mem_of_getElem? (i := 797) (by decide +kernel), List.mem_of_getElem? (i := 798) (by decide +kernel)⟩
theorem lw_p27 : lw_okq (⟨"CalledTouchesModel", "isRight", "(I)Z"⟩, 18) := ⟨⟨by decide +kernel, by decide +kernel⟩, List.mem_of_getElem? (i := 709) (by decide +kernel), List.mem_of_getElem? (i := 801) (by decide +kernel), List.mem_of_getElem? (i := 802) (by decide +kernel)⟩
theorem lw_p28 : lw_okq (⟨"CalledTouchesModel", "couldBeRight", "(II)Z"⟩, 18) := ⟨⟨by decide +kernel, by decide +kernel⟩, List.mem_of_getElem? (i := 709) (by decide +kernel), List.mem_of_getElem? (i := 805) (by decide +kernel), List.mem_of_getElem? (i := 806) (by decide +kernel)⟩
theorem lw_p29 : lw_okq (⟨"CalledTouchesModel", "touchFault", "()I"⟩, 18) := ⟨⟨by decide +kernel, by decide +kernel⟩, List.mem_of_getElem? (i := 709) (by decide +kernel), List.mem_of_getElem? (i := 817) (by decide +kernel), List.mem_of_getElem? (i := 818) (by decide +kernel)⟩
theorem lw_p30 : lw_okq (⟨"CalledTouchesModel", "isRow", "(I)Z"⟩, 18) := ⟨⟨by decide +kernel, by decide +kernel⟩, List.mem_of_getElem? (i := 709) (by decide +kernel), List.mem_of_getElem? (i := 848) (by decide +kernel), List.mem_of_getElem? (i := 849) (by decide +kernel)⟩
theorem lw_p31 : lw_okq (⟨"CalledTouchesModel", "last", "()I"⟩, 18) := ⟨⟨by decide +kernel, by decide +kernel⟩, List.mem_of_getElem? (i := 709) (by decide +kernel), List.mem_of_getElem? (i := 852) (by decide +kernel), List.mem_of_getElem? (i := 853) (by decide +kernel)⟩
def lw_privs_2 : List (MethodName × Nat) := [(⟨"CalledTouches", "countRows", "(I)I"⟩, 9), (⟨"CalledTouches$Ringing", "isFirst", "(I)Z"⟩, 7), (⟨"CalledTouches$Ringing", "areFalse", "(II)Z"⟩, 7), (⟨"CalledTouches", "lastOrder", "()I"⟩, 9), (⟨"CalledTouches$Homeward", "callFrom", "(I)I"⟩, 5), (⟨"CalledTouches$Homeward", "behind", "(II)I"⟩, 5), (⟨"CalledTouchesModel", "lays", "(I)V"⟩, 18), (⟨"CalledTouchesModel", "changes", "()V"⟩, 18), (⟨"CalledTouchesModel", "methodFault", "()I"⟩, 18), (⟨"CalledTouchesModel", "readsChange", "()Z"⟩, 18), (⟨"CalledTouchesModel", "isAt", "(II)Z"⟩, 18), (⟨"CalledTouchesModel", "isRight", "(I)Z"⟩, 18), (⟨"CalledTouchesModel", "couldBeRight", "(II)Z"⟩, 18), (⟨"CalledTouchesModel", "touchFault", "()I"⟩, 18), (⟨"CalledTouchesModel", "isRow", "(I)Z"⟩, 18), (⟨"CalledTouchesModel", "last", "()I"⟩, 18)]
theorem lw_r2 : ∀ q ∈ lw_privs_2, lw_okq q := List.forall_mem_cons.mpr ⟨lw_p16, List.forall_mem_cons.mpr ⟨lw_p17, List.forall_mem_cons.mpr ⟨lw_p18, List.forall_mem_cons.mpr ⟨lw_p19, List.forall_mem_cons.mpr ⟨lw_p20, List.forall_mem_cons.mpr ⟨lw_p21, List.forall_mem_cons.mpr ⟨lw_p22, List.forall_mem_cons.mpr ⟨lw_p23, List.forall_mem_cons.mpr ⟨lw_p24, List.forall_mem_cons.mpr ⟨lw_p25, List.forall_mem_cons.mpr ⟨lw_p26, List.forall_mem_cons.mpr ⟨lw_p27, List.forall_mem_cons.mpr ⟨lw_p28, List.forall_mem_cons.mpr ⟨lw_p29, List.forall_mem_cons.mpr ⟨lw_p30, List.forall_mem_cons.mpr ⟨lw_p31, fun _ h => absurd h List.not_mem_nil⟩⟩⟩⟩⟩⟩⟩⟩⟩⟩⟩⟩⟩⟩⟩⟩
theorem lw_p32 : lw_okq (⟨"CalledTouchesModel", "isPlace", "(I)Z"⟩, 18) := ⟨⟨by decide +kernel, by decide +kernel⟩, List.mem_of_getElem? (i := 709) (by decide +kernel), List.mem_of_getElem? (i := 856) (by decide +kernel), List.mem_of_getElem? (i := 857) (by decide +kernel)⟩
theorem lw_p33 : lw_okq (⟨"CalledTouchesModel", "ringsAll", "(I)V"⟩, 18) := ⟨⟨by decide +kernel, by decide +kernel⟩, List.mem_of_getElem? (i := 709) (by decide +kernel), List.mem_of_getElem? (i := 860) (by decide +kernel), List.mem_of_getElem? (i := 861) (by decide +kernel)⟩
theorem lw_p34 : lw_okq (⟨"CalledTouchesModel", "toRounds", "()V"⟩, 18) := ⟨⟨by decide +kernel, by decide +kernel⟩, List.mem_of_getElem? (i := 709) (by decide +kernel), List.mem_of_getElem? (i := 864) (by decide +kernel), List.mem_of_getElem? (i := 865) (by decide +kernel)⟩
theorem lw_p35 : lw_okq (⟨"CalledTouchesModel", "ringsLead", "(I)V"⟩, 18) := ⟨⟨by decide +kernel, by decide +kernel⟩, List.mem_of_getElem? (i := 709) (by decide +kernel), List.mem_of_getElem? (i := 868) (by decide +kernel), List.mem_of_getElem? (i := 869) (by decide +kernel)⟩
theorem lw_p36 : lw_okq (⟨"CalledTouchesModel", "changeOf", "(II)I"⟩, 18) := ⟨⟨by decide +kernel, by decide +kernel⟩, List.mem_of_getElem? (i := 709) (by decide +kernel), List.mem_of_getElem? (i := 872) (by decide +kernel), List.mem_of_getElem? (i := 873) (by decide +kernel)⟩
theorem lw_p37 : lw_okq (⟨"CalledTouchesModel", "rings", "(I)V"⟩, 18) := ⟨⟨by decide +kernel, by decide +kernel⟩, List.mem_of_getElem? (i := 709) (by decide +kernel), List.mem_of_getElem? (i := 876) (by decide +kernel), List.mem_of_getElem? (i := 877) (by decide +kernel)⟩
theorem lw_p38 : lw_okq (⟨"CalledTouchesModel", "rank", "()I"⟩, 18) := ⟨⟨by decide +kernel, by decide +kernel⟩, List.mem_of_getElem? (i := 709) (by decide +kernel), List.mem_of_getElem? (i := 880) (by decide +kernel), List.mem_of_getElem? (i := 881) (by decide +kernel)⟩
theorem lw_p39 : lw_okq (⟨"CalledTouchesModel", "unrank", "(I)V"⟩, 18) := ⟨⟨by decide +kernel, by decide +kernel⟩, List.mem_of_getElem? (i := 709) (by decide +kernel), List.mem_of_getElem? (i := 884) (by decide +kernel), List.mem_of_getElem? (i := 885) (by decide +kernel)⟩
theorem lw_p40 : lw_okq (⟨"CalledTouchesModel", "signByPairs", "()I"⟩, 18) := ⟨⟨by decide +kernel, by decide +kernel⟩, List.mem_of_getElem? (i := 709) (by decide +kernel), List.mem_of_getElem? (i := 896) (by decide +kernel), List.mem_of_getElem? (i := 897) (by decide +kernel)⟩
theorem lw_p41 : lw_okq (⟨"CalledTouchesModel", "signByRings", "()I"⟩, 18) := ⟨⟨by decide +kernel, by decide +kernel⟩, List.mem_of_getElem? (i := 709) (by decide +kernel), List.mem_of_getElem? (i := 900) (by decide +kernel), List.mem_of_getElem? (i := 901) (by decide +kernel)⟩
theorem lw_p42 : lw_okq (⟨"CalledTouchesModel", "soundsWell", "()Z"⟩, 18) := ⟨⟨by decide +kernel, by decide +kernel⟩, List.mem_of_getElem? (i := 709) (by decide +kernel), List.mem_of_getElem? (i := 904) (by decide +kernel), List.mem_of_getElem? (i := 905) (by decide +kernel)⟩
theorem lw_p43 : lw_okq (⟨"CalledTouchesModel", "atHome", "()I"⟩, 18) := ⟨⟨by decide +kernel, by decide +kernel⟩, List.mem_of_getElem? (i := 709) (by decide +kernel), List.mem_of_getElem? (i := 908) (by decide +kernel), List.mem_of_getElem? (i := 909) (by decide +kernel)⟩
theorem lw_p44 : lw_okq (⟨"CalledTouchesModel", "firstSame", "(II)I"⟩, 18) := ⟨⟨by decide +kernel, by decide +kernel⟩, List.mem_of_getElem? (i := 709) (by decide +kernel), List.mem_of_getElem? (i := 912) (by decide +kernel), List.mem_of_getElem? (i := 913) (by decide +kernel)⟩
theorem lw_p45 : lw_okq (⟨"CalledTouchesModel", "spreads", "()V"⟩, 18) := ⟨⟨by decide +kernel, by decide +kernel⟩, List.mem_of_getElem? (i := 709) (by decide +kernel), List.mem_of_getElem? (i := 916) (by decide +kernel), List.mem_of_getElem? (i := 917) (by decide +kernel)⟩
theorem lw_p46 : lw_okq (⟨"CalledTouchesModel", "spreadsFrom", "(IZ)V"⟩, 18) := ⟨⟨by decide +kernel, by decide +kernel⟩, List.mem_of_getElem? (i := 709) (by decide +kernel), List.mem_of_getElem? (i := 920) (by decide +kernel), List.mem_of_getElem? (i := 921) (by decide +kernel)⟩
theorem lw_p47 : lw_okq (⟨"CalledTouchesModel", "takesLeads", "()V"⟩, 18) := ⟨⟨by decide +kernel, by decide +kernel⟩, List.mem_of_getElem? (i := 709) (by decide +kernel), List.mem_of_getElem? (i := 924) (by decide +kernel), List.mem_of_getElem? (i := 925) (by decide +kernel)⟩
def lw_privs_3 : List (MethodName × Nat) := [(⟨"CalledTouchesModel", "isPlace", "(I)Z"⟩, 18), (⟨"CalledTouchesModel", "ringsAll", "(I)V"⟩, 18), (⟨"CalledTouchesModel", "toRounds", "()V"⟩, 18), (⟨"CalledTouchesModel", "ringsLead", "(I)V"⟩, 18), (⟨"CalledTouchesModel", "changeOf", "(II)I"⟩, 18), (⟨"CalledTouchesModel", "rings", "(I)V"⟩, 18), (⟨"CalledTouchesModel", "rank", "()I"⟩, 18), (⟨"CalledTouchesModel", "unrank", "(I)V"⟩, 18), (⟨"CalledTouchesModel", "signByPairs", "()I"⟩, 18), (⟨"CalledTouchesModel", "signByRings", "()I"⟩, 18), (⟨"CalledTouchesModel", "soundsWell", "()Z"⟩, 18), (⟨"CalledTouchesModel", "atHome", "()I"⟩, 18), (⟨"CalledTouchesModel", "firstSame", "(II)I"⟩, 18), (⟨"CalledTouchesModel", "spreads", "()V"⟩, 18), (⟨"CalledTouchesModel", "spreadsFrom", "(IZ)V"⟩, 18), (⟨"CalledTouchesModel", "takesLeads", "()V"⟩, 18)]
theorem lw_r3 : ∀ q ∈ lw_privs_3, lw_okq q := List.forall_mem_cons.mpr ⟨lw_p32, List.forall_mem_cons.mpr ⟨lw_p33, List.forall_mem_cons.mpr ⟨lw_p34, List.forall_mem_cons.mpr ⟨lw_p35, List.forall_mem_cons.mpr ⟨lw_p36, List.forall_mem_cons.mpr ⟨lw_p37, List.forall_mem_cons.mpr ⟨lw_p38, List.forall_mem_cons.mpr ⟨lw_p39, List.forall_mem_cons.mpr ⟨lw_p40, List.forall_mem_cons.mpr ⟨lw_p41, List.forall_mem_cons.mpr ⟨lw_p42, List.forall_mem_cons.mpr ⟨lw_p43, List.forall_mem_cons.mpr ⟨lw_p44, List.forall_mem_cons.mpr ⟨lw_p45, List.forall_mem_cons.mpr ⟨lw_p46, List.forall_mem_cons.mpr ⟨lw_p47, fun _ h => absurd h List.not_mem_nil⟩⟩⟩⟩⟩⟩⟩⟩⟩⟩⟩⟩⟩⟩⟩⟩
theorem lw_p48 : lw_okq (⟨"CalledTouchesModel", "moved", "(IIZ)I"⟩, 18) := ⟨⟨by decide +kernel, by decide +kernel⟩, List.mem_of_getElem? (i := 709) (by decide +kernel), List.mem_of_getElem? (i := 928) (by decide +kernel), List.mem_of_getElem? (i := 929) (by decide +kernel)⟩
theorem lw_p49 : lw_okq (⟨"CalledTouchesModel", "follows", "(I)V"⟩, 18) := ⟨⟨by decide +kernel, by decide +kernel⟩, List.mem_of_getElem? (i := 709) (by decide +kernel), List.mem_of_getElem? (i := 936) (by decide +kernel), List.mem_of_getElem? (i := 937) (by decide +kernel)⟩
theorem lw_p50 : lw_okq (⟨"CalledTouchesModel", "dodges", "(Z)I"⟩, 18) := ⟨⟨by decide +kernel, by decide +kernel⟩, List.mem_of_getElem? (i := 709) (by decide +kernel), List.mem_of_getElem? (i := 940) (by decide +kernel), List.mem_of_getElem? (i := 941) (by decide +kernel)⟩
theorem lw_p51 : lw_okq (⟨"CalledTouchesModel", "rowsAt", "(I)I"⟩, 18) := ⟨⟨by decide +kernel, by decide +kernel⟩, List.mem_of_getElem? (i := 709) (by decide +kernel), List.mem_of_getElem? (i := 944) (by decide +kernel), List.mem_of_getElem? (i := 945) (by decide +kernel)⟩
theorem lw_p52 : lw_okq (⟨"CalledTouchesModel", "stays", "()I"⟩, 18) := ⟨⟨by decide +kernel, by decide +kernel⟩, List.mem_of_getElem? (i := 709) (by decide +kernel), List.mem_of_getElem? (i := 948) (by decide +kernel), List.mem_of_getElem? (i := 949) (by decide +kernel)⟩
theorem lw_p53 : lw_okq (⟨"CalledTouchesModel", "roundAt", "()I"⟩, 18) := ⟨⟨by decide +kernel, by decide +kernel⟩, List.mem_of_getElem? (i := 709) (by decide +kernel), List.mem_of_getElem? (i := 960) (by decide +kernel), List.mem_of_getElem? (i := 961) (by decide +kernel)⟩
theorem lw_p54 : lw_okq (⟨"CalledTouchesModel", "firstTwice", "()I"⟩, 18) := ⟨⟨by decide +kernel, by decide +kernel⟩, List.mem_of_getElem? (i := 709) (by decide +kernel), List.mem_of_getElem? (i := 964) (by decide +kernel), List.mem_of_getElem? (i := 965) (by decide +kernel)⟩
theorem lw_p55 : lw_okq (⟨"CalledTouchesModel", "unlike", "()I"⟩, 18) := ⟨⟨by decide +kernel, by decide +kernel⟩, List.mem_of_getElem? (i := 709) (by decide +kernel), List.mem_of_getElem? (i := 968) (by decide +kernel), List.mem_of_getElem? (i := 969) (by decide +kernel)⟩
theorem lw_p56 : lw_okq (⟨"CalledTouchesModel", "falsePairs", "()I"⟩, 18) := ⟨⟨by decide +kernel, by decide +kernel⟩, List.mem_of_getElem? (i := 709) (by decide +kernel), List.mem_of_getElem? (i := 972) (by decide +kernel), List.mem_of_getElem? (i := 973) (by decide +kernel)⟩
theorem lw_p57 : lw_okq (⟨"CalledTouchesModel", "areFalse", "(II)Z"⟩, 18) := ⟨⟨by decide +kernel, by decide +kernel⟩, List.mem_of_getElem? (i := 709) (by decide +kernel), List.mem_of_getElem? (i := 976) (by decide +kernel), List.mem_of_getElem? (i := 977) (by decide +kernel)⟩
theorem lw_p58 : lw_okq (⟨"CalledTouchesModel", "musical", "()I"⟩, 18) := ⟨⟨by decide +kernel, by decide +kernel⟩, List.mem_of_getElem? (i := 709) (by decide +kernel), List.mem_of_getElem? (i := 980) (by decide +kernel), List.mem_of_getElem? (i := 981) (by decide +kernel)⟩
theorem lw_p59 : lw_okq (⟨"CalledTouchesModel", "called", "()I"⟩, 18) := ⟨⟨by decide +kernel, by decide +kernel⟩, List.mem_of_getElem? (i := 709) (by decide +kernel), List.mem_of_getElem? (i := 984) (by decide +kernel), List.mem_of_getElem? (i := 985) (by decide +kernel)⟩
theorem lw_p60 : lw_okq (⟨"CalledTouchesModel", "plainCourse", "()I"⟩, 18) := ⟨⟨by decide +kernel, by decide +kernel⟩, List.mem_of_getElem? (i := 709) (by decide +kernel), List.mem_of_getElem? (i := 988) (by decide +kernel), List.mem_of_getElem? (i := 989) (by decide +kernel)⟩
def lw_privs_4 : List (MethodName × Nat) := [(⟨"CalledTouchesModel", "moved", "(IIZ)I"⟩, 18), (⟨"CalledTouchesModel", "follows", "(I)V"⟩, 18), (⟨"CalledTouchesModel", "dodges", "(Z)I"⟩, 18), (⟨"CalledTouchesModel", "rowsAt", "(I)I"⟩, 18), (⟨"CalledTouchesModel", "stays", "()I"⟩, 18), (⟨"CalledTouchesModel", "roundAt", "()I"⟩, 18), (⟨"CalledTouchesModel", "firstTwice", "()I"⟩, 18), (⟨"CalledTouchesModel", "unlike", "()I"⟩, 18), (⟨"CalledTouchesModel", "falsePairs", "()I"⟩, 18), (⟨"CalledTouchesModel", "areFalse", "(II)Z"⟩, 18), (⟨"CalledTouchesModel", "musical", "()I"⟩, 18), (⟨"CalledTouchesModel", "called", "()I"⟩, 18), (⟨"CalledTouchesModel", "plainCourse", "()I"⟩, 18)]
theorem lw_r4 : ∀ q ∈ lw_privs_4, lw_okq q := List.forall_mem_cons.mpr ⟨lw_p48, List.forall_mem_cons.mpr ⟨lw_p49, List.forall_mem_cons.mpr ⟨lw_p50, List.forall_mem_cons.mpr ⟨lw_p51, List.forall_mem_cons.mpr ⟨lw_p52, List.forall_mem_cons.mpr ⟨lw_p53, List.forall_mem_cons.mpr ⟨lw_p54, List.forall_mem_cons.mpr ⟨lw_p55, List.forall_mem_cons.mpr ⟨lw_p56, List.forall_mem_cons.mpr ⟨lw_p57, List.forall_mem_cons.mpr ⟨lw_p58, List.forall_mem_cons.mpr ⟨lw_p59, List.forall_mem_cons.mpr ⟨lw_p60, fun _ h => absurd h List.not_mem_nil⟩⟩⟩⟩⟩⟩⟩⟩⟩⟩⟩⟩⟩
def lw_privs : List (MethodName × Nat) := lw_privs_1 ++ (lw_privs_2 ++ (lw_privs_3 ++ (lw_privs_4)))
def lw_tbl : List Cond := k2_sels lw_privs ++ tables_1
theorem lw_privs_ok : ∀ q ∈ lw_privs, lw_okq q := by
  show ∀ q ∈ lw_privs_1 ++ (lw_privs_2 ++ (lw_privs_3 ++ (lw_privs_4))), lw_okq q
  exact List.forall_mem_append.mpr ⟨lw_r1, List.forall_mem_append.mpr ⟨lw_r2, List.forall_mem_append.mpr ⟨lw_r3, lw_r4⟩⟩⟩
/-- the streams that the claim lets the run draw from -/
abbrev lw_cs : List Choice := [Jvm.Choice.named "NaN.bits"]
theorem lw_bits : nanBits ∈ lw_cs := by first | decide | exact List.mem_cons_self | simp [lw_cs, nanBits]
def RX0 : String := "CalledTouches$History"
def TX0 : u_T := fun k => match k with
  | 0 => ("CalledTouches$History", "states", "[LCalledTouches$Touch;", true)
  | _ => ("CalledTouches$History", "size", "I", false)
def tyX0 : Nat → FieldType := fun k => match k with
  | 0 => .array (.object "CalledTouches$Touch")
  | _ => .int
abbrev wsX00 : List Cond := u_ws RX0 TX0 2
theorem nmX0 : ∀ a, a < 2 → ∀ b, b < 2 → a ≠ b → (TX0 a).2.1 ≠ (TX0 b).2.1 := by decide +kernel
theorem tyX0_ok : ∀ k, k < 2 → parseFieldDescriptor (TX0 k).2.2.1 = some (tyX0 k) := by decide +kernel
abbrev cX0_init : ByteArray := prog_2_method_1_code
def yX0_init : MethodName := ⟨RX0, "<init>", "()V"⟩
abbrev cX0_record : ByteArray := prog_2_method_2_code
def yX0_record : MethodName := ⟨RX0, "record", "(LCalledTouches$Touch;)V"⟩
abbrev cX0_takeBack : ByteArray := prog_2_method_3_code
def yX0_takeBack : MethodName := ⟨RX0, "takeBack", "(LCalledTouches$Touch;)V"⟩
abbrev cX0_dropOldest : ByteArray := prog_2_method_4_code
def yX0_dropOldest : MethodName := ⟨RX0, "dropOldest", "()V"⟩
def RX1 : String := "CalledTouches$Homeward"
def TX1 : u_T := fun k => match k with
  | 0 => ("CalledTouches$Homeward", "fromRounds", "LCalledTouches$Spread;", true)
  | 1 => ("CalledTouches$Homeward", "fromRow", "LCalledTouches$Spread;", true)
  | 2 => ("CalledTouches$Homeward", "leads", "[I", true)
  | 3 => ("CalledTouches$Homeward", "leadsBack", "[I", true)
  | _ => ("CalledTouches$Homeward", "bells", "I", false)
def tyX1 : Nat → FieldType := fun k => match k with
  | 0 => .object "CalledTouches$Spread"
  | 1 => .object "CalledTouches$Spread"
  | 2 => .array .int
  | 3 => .array .int
  | _ => .int
abbrev wsX10 : List Cond := u_ws RX1 TX1 5
theorem nmX1 : ∀ a, a < 5 → ∀ b, b < 5 → a ≠ b → (TX1 a).2.1 ≠ (TX1 b).2.1 := by decide +kernel
theorem tyX1_ok : ∀ k, k < 5 → parseFieldDescriptor (TX1 k).2.2.1 = some (tyX1 k) := by decide +kernel
abbrev cX1_init : ByteArray := prog_3_method_1_code
def yX1_init : MethodName := ⟨RX1, "<init>", "()V"⟩
abbrev cX1_learn : ByteArray := prog_3_method_2_code
def yX1_learn : MethodName := ⟨RX1, "learn", "(LCalledTouches$Touch;)V"⟩
abbrev cX1_leadsFrom : ByteArray := prog_3_method_3_code
def yX1_leadsFrom : MethodName := ⟨RX1, "leadsFrom", "(I)I"⟩
abbrev cX1_leadsBySearch : ByteArray := prog_3_method_4_code
def yX1_leadsBySearch : MethodName := ⟨RX1, "leadsBySearch", "(I)I"⟩
abbrev cX1_callAt : ByteArray := prog_3_method_5_code
def yX1_callAt : MethodName := ⟨RX1, "callAt", "(II)I"⟩
abbrev cX1_callFrom : ByteArray := prog_3_method_6_code
def yX1_callFrom : MethodName := ⟨RX1, "callFrom", "(I)I"⟩
abbrev cX1_behind : ByteArray := prog_3_method_7_code
def yX1_behind : MethodName := ⟨RX1, "behind", "(II)I"⟩
def RX2 : String := "CalledTouches$MethodReader"
def TX2 : u_T := fun k => match k with
  | 0 => ("CalledTouches$MethodReader", "places", "[I", true)
  | 1 => ("CalledTouches$MethodReader", "changes", "I", false)
  | 2 => ("CalledTouches$MethodReader", "made", "I", false)
  | 3 => ("CalledTouches$MethodReader", "lastPlace", "I", false)
  | _ => ("CalledTouches$MethodReader", "crossed", "Z", false)
def tyX2 : Nat → FieldType := fun k => match k with
  | 0 => .array .int
  | 1 => .int
  | 2 => .int
  | 3 => .int
  | _ => .boolean
abbrev wsX20 : List Cond := u_ws RX2 TX2 5
theorem nmX2 : ∀ a, a < 5 → ∀ b, b < 5 → a ≠ b → (TX2 a).2.1 ≠ (TX2 b).2.1 := by decide +kernel
theorem tyX2_ok : ∀ k, k < 5 → parseFieldDescriptor (TX2 k).2.2.1 = some (tyX2 k) := by decide +kernel
abbrev cX2_init : ByteArray := prog_4_method_1_code
def yX2_init : MethodName := ⟨RX2, "<init>", "()V"⟩
abbrev cX2_read : ByteArray := prog_4_method_2_code
def yX2_read : MethodName := ⟨RX2, "read", "([CII)I"⟩
abbrev cX2_accepts : ByteArray := prog_4_method_3_code
def yX2_accepts : MethodName := ⟨RX2, "accepts", "(CI)Z"⟩
abbrev cX2_acceptsDot : ByteArray := prog_4_method_4_code
def yX2_acceptsDot : MethodName := ⟨RX2, "acceptsDot", "(I)Z"⟩
abbrev cX2_acceptsCross : ByteArray := prog_4_method_5_code
def yX2_acceptsCross : MethodName := ⟨RX2, "acceptsCross", "(I)Z"⟩
abbrev cX2_acceptsPlace : ByteArray := prog_4_method_6_code
def yX2_acceptsPlace : MethodName := ⟨RX2, "acceptsPlace", "(II)Z"⟩
abbrev cX2_isChangeComplete : ByteArray := prog_4_method_7_code
def yX2_isChangeComplete : MethodName := ⟨RX2, "isChangeComplete", "(I)Z"⟩
abbrev cX2_keepChange : ByteArray := prog_4_method_8_code
def yX2_keepChange : MethodName := ⟨RX2, "keepChange", "()V"⟩
abbrev cX2_beginChange : ByteArray := prog_4_method_9_code
def yX2_beginChange : MethodName := ⟨RX2, "beginChange", "()V"⟩
def RX3 : String := "CalledTouches$Pad"
def TX3 : u_T := fun k => match k with
  | 0 => ("CalledTouches$Pad", "signs", "[C", true)
  | _ => ("CalledTouches$Pad", "length", "I", false)
def tyX3 : Nat → FieldType := fun k => match k with
  | 0 => .array .char
  | _ => .int
abbrev wsX30 : List Cond := u_ws RX3 TX3 2
theorem nmX3 : ∀ a, a < 2 → ∀ b, b < 2 → a ≠ b → (TX3 a).2.1 ≠ (TX3 b).2.1 := by decide +kernel
theorem tyX3_ok : ∀ k, k < 2 → parseFieldDescriptor (TX3 k).2.2.1 = some (tyX3 k) := by decide +kernel
abbrev cX3_init : ByteArray := prog_5_method_1_code
def yX3_init : MethodName := ⟨RX3, "<init>", "()V"⟩
abbrev cX3_put : ByteArray := prog_5_method_2_code
def yX3_put : MethodName := ⟨RX3, "put", "(C)V"⟩
abbrev cX3_faultAsTouch : ByteArray := prog_5_method_3_code
def yX3_faultAsTouch : MethodName := ⟨RX3, "faultAsTouch", "()I"⟩
abbrev cX3_kindOf : ByteArray := prog_5_method_4_code
def yX3_kindOf : MethodName := ⟨RX3, "kindOf", "(C)I"⟩
def RX4 : String := "CalledTouches$Places"
def TX4 : u_T := fun k => match k with
  | _ => ("", "", "", false)
def tyX4 : Nat → FieldType := fun k => match k with
  | _ => .int
abbrev wsX40 : List Cond := u_ws RX4 TX4 0
theorem nmX4 : ∀ a, a < 0 → ∀ b, b < 0 → a ≠ b → (TX4 a).2.1 ≠ (TX4 b).2.1 := by decide +kernel
theorem tyX4_ok : ∀ k, k < 0 → parseFieldDescriptor (TX4 k).2.2.1 = some (tyX4 k) := by decide +kernel
abbrev cX4_bit : ByteArray := prog_6_method_2_code
def yX4_bit : MethodName := ⟨RX4, "bit", "(I)I"⟩
abbrev cX4_has : ByteArray := prog_6_method_3_code
def yX4_has : MethodName := ⟨RX4, "has", "(II)Z"⟩
abbrev cX4_areRight : ByteArray := prog_6_method_4_code
def yX4_areRight : MethodName := ⟨RX4, "areRight", "(II)Z"⟩
abbrev cX4_canBecomeRight : ByteArray := prog_6_method_5_code
def yX4_canBecomeRight : MethodName := ⟨RX4, "canBecomeRight", "(III)Z"⟩
def RX5 : String := "CalledTouches$Ringing"
def TX5 : u_T := fun k => match k with
  | 0 => ("CalledTouches$Ringing", "rows", "[I", true)
  | 1 => ("CalledTouches$Ringing", "firsts", "[I", true)
  | 2 => ("CalledTouches$Ringing", "firstOfRank", "[I", true)
  | 3 => ("CalledTouches$Ringing", "bells", "I", false)
  | 4 => ("CalledTouches$Ringing", "changes", "I", false)
  | 5 => ("CalledTouches$Ringing", "leads", "I", false)
  | _ => ("CalledTouches$Ringing", "last", "I", false)
def tyX5 : Nat → FieldType := fun k => match k with
  | 0 => .array .int
  | 1 => .array .int
  | 2 => .array .int
  | 3 => .int
  | 4 => .int
  | 5 => .int
  | _ => .int
abbrev wsX50 : List Cond := u_ws RX5 TX5 7
theorem nmX5 : ∀ a, a < 7 → ∀ b, b < 7 → a ≠ b → (TX5 a).2.1 ≠ (TX5 b).2.1 := by decide +kernel
theorem tyX5_ok : ∀ k, k < 7 → parseFieldDescriptor (TX5 k).2.2.1 = some (tyX5 k) := by decide +kernel
abbrev cX5_init : ByteArray := prog_7_method_1_code
def yX5_init : MethodName := ⟨RX5, "<init>", "()V"⟩
abbrev cX5_ring : ByteArray := prog_7_method_2_code
def yX5_ring : MethodName := ⟨RX5, "ring", "(LCalledTouches$Touch;)V"⟩
abbrev cX5_keep : ByteArray := prog_7_method_3_code
def yX5_keep : MethodName := ⟨RX5, "keep", "(I)V"⟩
abbrev cX5_findFirsts : ByteArray := prog_7_method_4_code
def yX5_findFirsts : MethodName := ⟨RX5, "findFirsts", "()V"⟩
abbrev cX5_firstWithRank : ByteArray := prog_7_method_5_code
def yX5_firstWithRank : MethodName := ⟨RX5, "firstWithRank", "(II)I"⟩
abbrev cX5_rowAt : ByteArray := prog_7_method_6_code
def yX5_rowAt : MethodName := ⟨RX5, "rowAt", "(I)I"⟩
abbrev cX5_placeIn : ByteArray := prog_7_method_7_code
def yX5_placeIn : MethodName := ⟨RX5, "placeIn", "(II)I"⟩
abbrev cX5_isFirst : ByteArray := prog_7_method_8_code
def yX5_isFirst : MethodName := ⟨RX5, "isFirst", "(I)Z"⟩
abbrev cX5_firstLike : ByteArray := prog_7_method_9_code
def yX5_firstLike : MethodName := ⟨RX5, "firstLike", "(I)I"⟩
abbrev cX5_comesRound : ByteArray := prog_7_method_10_code
def yX5_comesRound : MethodName := ⟨RX5, "comesRound", "()I"⟩
abbrev cX5_firstRepeat : ByteArray := prog_7_method_11_code
def yX5_firstRepeat : MethodName := ⟨RX5, "firstRepeat", "()I"⟩
abbrev cX5_isTrue : ByteArray := prog_7_method_12_code
def yX5_isTrue : MethodName := ⟨RX5, "isTrue", "()Z"⟩
abbrev cX5_differentRows : ByteArray := prog_7_method_13_code
def yX5_differentRows : MethodName := ⟨RX5, "differentRows", "()I"⟩
abbrev cX5_wellSounding : ByteArray := prog_7_method_14_code
def yX5_wellSounding : MethodName := ⟨RX5, "wellSounding", "()I"⟩
abbrev cX5_falsePairs : ByteArray := prog_7_method_15_code
def yX5_falsePairs : MethodName := ⟨RX5, "falsePairs", "()I"⟩
abbrev cX5_areFalse : ByteArray := prog_7_method_16_code
def yX5_areFalse : MethodName := ⟨RX5, "areFalse", "(II)Z"⟩
abbrev cX5_dodgesAt : ByteArray := prog_7_method_17_code
def yX5_dodgesAt : MethodName := ⟨RX5, "dodgesAt", "(II)Z"⟩
abbrev cX5_dodges : ByteArray := prog_7_method_18_code
def yX5_dodges : MethodName := ⟨RX5, "dodges", "(I)I"⟩
abbrev cX5_firstDodge : ByteArray := prog_7_method_19_code
def yX5_firstDodge : MethodName := ⟨RX5, "firstDodge", "(I)I"⟩
abbrev cX5_stays : ByteArray := prog_7_method_20_code
def yX5_stays : MethodName := ⟨RX5, "stays", "(I)I"⟩
abbrev cX5_blowsAt : ByteArray := prog_7_method_21_code
def yX5_blowsAt : MethodName := ⟨RX5, "blowsAt", "(II)I"⟩
def RX6 : String := "CalledTouches$Row"
def TX6 : u_T := fun k => match k with
  | _ => ("", "", "", false)
def tyX6 : Nat → FieldType := fun k => match k with
  | _ => .int
abbrev wsX60 : List Cond := u_ws RX6 TX6 0
theorem nmX6 : ∀ a, a < 0 → ∀ b, b < 0 → a ≠ b → (TX6 a).2.1 ≠ (TX6 b).2.1 := by decide +kernel
theorem tyX6_ok : ∀ k, k < 0 → parseFieldDescriptor (TX6 k).2.2.1 = some (tyX6 k) := by decide +kernel
abbrev cX6_rounds : ByteArray := prog_8_method_2_code
def yX6_rounds : MethodName := ⟨RX6, "rounds", "(I)I"⟩
abbrev cX6_bellAt : ByteArray := prog_8_method_3_code
def yX6_bellAt : MethodName := ⟨RX6, "bellAt", "(II)I"⟩
abbrev cX6_put : ByteArray := prog_8_method_4_code
def yX6_put : MethodName := ⟨RX6, "put", "(III)I"⟩
abbrev cX6_placeOf : ByteArray := prog_8_method_5_code
def yX6_placeOf : MethodName := ⟨RX6, "placeOf", "(III)I"⟩
abbrev cX6_behindChange : ByteArray := prog_8_method_6_code
def yX6_behindChange : MethodName := ⟨RX6, "behindChange", "(III)I"⟩
abbrev cX6_behindLead : ByteArray := prog_8_method_7_code
def yX6_behindLead : MethodName := ⟨RX6, "behindLead", "(III)I"⟩
abbrev cX6_backwards : ByteArray := prog_8_method_8_code
def yX6_backwards : MethodName := ⟨RX6, "backwards", "(II)I"⟩
abbrev cX6_rank : ByteArray := prog_8_method_9_code
def yX6_rank : MethodName := ⟨RX6, "rank", "(II)I"⟩
abbrev cX6_signByPairs : ByteArray := prog_8_method_10_code
def yX6_signByPairs : MethodName := ⟨RX6, "signByPairs", "(II)I"⟩
abbrev cX6_signByCycles : ByteArray := prog_8_method_11_code
def yX6_signByCycles : MethodName := ⟨RX6, "signByCycles", "(II)I"⟩
abbrev cX6_soundsWell : ByteArray := prog_8_method_12_code
def yX6_soundsWell : MethodName := ⟨RX6, "soundsWell", "(II)Z"⟩
abbrev cX6_bellsInPlace : ByteArray := prog_8_method_13_code
def yX6_bellsInPlace : MethodName := ⟨RX6, "bellsInPlace", "(II)I"⟩
def RX7 : String := "CalledTouches$Spread"
def TX7 : u_T := fun k => match k with
  | 0 => ("CalledTouches$Spread", "fewest", "[I", true)
  | 1 => ("CalledTouches$Spread", "reached", "[I", true)
  | 2 => ("CalledTouches$Spread", "bells", "I", false)
  | _ => ("CalledTouches$Spread", "size", "I", false)
def tyX7 : Nat → FieldType := fun k => match k with
  | 0 => .array .int
  | 1 => .array .int
  | 2 => .int
  | _ => .int
abbrev wsX70 : List Cond := u_ws RX7 TX7 4
theorem nmX7 : ∀ a, a < 4 → ∀ b, b < 4 → a ≠ b → (TX7 a).2.1 ≠ (TX7 b).2.1 := by decide +kernel
theorem tyX7_ok : ∀ k, k < 4 → parseFieldDescriptor (TX7 k).2.2.1 = some (tyX7 k) := by decide +kernel
abbrev cX7_init : ByteArray := prog_9_method_1_code
def yX7_init : MethodName := ⟨RX7, "<init>", "()V"⟩
abbrev cX7_from : ByteArray := prog_9_method_2_code
def yX7_from : MethodName := ⟨RX7, "from", "(II[II)V"⟩
abbrev cX7_reach : ByteArray := prog_9_method_3_code
def yX7_reach : MethodName := ⟨RX7, "reach", "(II)V"⟩
abbrev cX7_fewestTo : ByteArray := prog_9_method_4_code
def yX7_fewestTo : MethodName := ⟨RX7, "fewestTo", "(I)I"⟩
def RX8 : String := "CalledTouches$Start"
def TX8 : u_T := fun k => match k with
  | _ => ("", "", "", false)
def tyX8 : Nat → FieldType := fun k => match k with
  | _ => .int
abbrev wsX80 : List Cond := u_ws RX8 TX8 0
theorem nmX8 : ∀ a, a < 0 → ∀ b, b < 0 → a ≠ b → (TX8 a).2.1 ≠ (TX8 b).2.1 := by decide +kernel
theorem tyX8_ok : ∀ k, k < 0 → parseFieldDescriptor (TX8 k).2.2.1 = some (tyX8 k) := by decide +kernel
abbrev cX8_lead : ByteArray := prog_10_method_2_code
def yX8_lead : MethodName := ⟨RX8, "lead", "(I)Ljava/lang/String;"⟩
abbrev cX8_bob : ByteArray := prog_10_method_3_code
def yX8_bob : MethodName := ⟨RX8, "bob", "(I)Ljava/lang/String;"⟩
abbrev cX8_single : ByteArray := prog_10_method_4_code
def yX8_single : MethodName := ⟨RX8, "single", "(I)Ljava/lang/String;"⟩
def RX9 : String := "CalledTouches$Touch"
def TX9 : u_T := fun k => match k with
  | 0 => ("CalledTouches$Touch", "bells", "I", false)
  | 1 => ("CalledTouches$Touch", "changes", "I", false)
  | 2 => ("CalledTouches$Touch", "bob", "I", false)
  | 3 => ("CalledTouches$Touch", "single", "I", false)
  | 4 => ("CalledTouches$Touch", "leads", "I", false)
  | 5 => ("CalledTouches$Touch", "places", "[I", true)
  | _ => ("CalledTouches$Touch", "kinds", "[I", true)
def tyX9 : Nat → FieldType := fun k => match k with
  | 0 => .int
  | 1 => .int
  | 2 => .int
  | 3 => .int
  | 4 => .int
  | 5 => .array .int
  | _ => .array .int
abbrev wsX90 : List Cond := u_ws RX9 TX9 7
theorem nmX9 : ∀ a, a < 7 → ∀ b, b < 7 → a ≠ b → (TX9 a).2.1 ≠ (TX9 b).2.1 := by decide +kernel
theorem tyX9_ok : ∀ k, k < 7 → parseFieldDescriptor (TX9 k).2.2.1 = some (tyX9 k) := by decide +kernel
abbrev cX9_init : ByteArray := prog_11_method_1_code
def yX9_init : MethodName := ⟨RX9, "<init>", "()V"⟩
abbrev cX9_become : ByteArray := prog_11_method_2_code
def yX9_become : MethodName := ⟨RX9, "become", "(LCalledTouches$Touch;)V"⟩
abbrev cX9_takeMethod : ByteArray := prog_11_method_3_code
def yX9_takeMethod : MethodName := ⟨RX9, "takeMethod", "(LCalledTouches$MethodReader;)V"⟩
abbrev cX9_addLead : ByteArray := prog_11_method_4_code
def yX9_addLead : MethodName := ⟨RX9, "addLead", "(I)V"⟩
abbrev cX9_callLead : ByteArray := prog_11_method_5_code
def yX9_callLead : MethodName := ⟨RX9, "callLead", "(II)V"⟩
abbrev cX9_kindOfLead : ByteArray := prog_11_method_6_code
def yX9_kindOfLead : MethodName := ⟨RX9, "kindOfLead", "(I)I"⟩
abbrev cX9_lastRow : ByteArray := prog_11_method_7_code
def yX9_lastRow : MethodName := ⟨RX9, "lastRow", "()I"⟩
abbrev cX9_placesMade : ByteArray := prog_11_method_8_code
def yX9_placesMade : MethodName := ⟨RX9, "placesMade", "(II)I"⟩
abbrev cX9_calledLeads : ByteArray := prog_11_method_9_code
def yX9_calledLeads : MethodName := ⟨RX9, "calledLeads", "()I"⟩
abbrev cX9_roundsBehindLead : ByteArray := prog_11_method_10_code
def yX9_roundsBehindLead : MethodName := ⟨RX9, "roundsBehindLead", "(I)I"⟩
abbrev cX9_plainCourse : ByteArray := prog_11_method_11_code
def yX9_plainCourse : MethodName := ⟨RX9, "plainCourse", "()I"⟩
def RX10 : String := "CalledTouches"
def TX10 : u_T := fun k => match k with
  | 0 => ("CalledTouches", "now", "LCalledTouches$Touch;", true)
  | 1 => ("CalledTouches", "trial", "LCalledTouches$Touch;", true)
  | 2 => ("CalledTouches", "snapshot", "LCalledTouches$Touch;", true)
  | 3 => ("CalledTouches", "hasSnapshot", "Z", false)
  | 4 => ("CalledTouches", "history", "LCalledTouches$History;", true)
  | 5 => ("CalledTouches", "pad", "LCalledTouches$Pad;", true)
  | 6 => ("CalledTouches", "reader", "LCalledTouches$MethodReader;", true)
  | 7 => ("CalledTouches", "ringing", "LCalledTouches$Ringing;", true)
  | _ => ("CalledTouches", "homeward", "LCalledTouches$Homeward;", true)
def tyX10 : Nat → FieldType := fun k => match k with
  | 0 => .object "CalledTouches$Touch"
  | 1 => .object "CalledTouches$Touch"
  | 2 => .object "CalledTouches$Touch"
  | 3 => .boolean
  | 4 => .object "CalledTouches$History"
  | 5 => .object "CalledTouches$Pad"
  | 6 => .object "CalledTouches$MethodReader"
  | 7 => .object "CalledTouches$Ringing"
  | _ => .object "CalledTouches$Homeward"
abbrev wsX100 : List Cond := u_ws RX10 TX10 9
theorem nmX10 : ∀ a, a < 9 → ∀ b, b < 9 → a ≠ b → (TX10 a).2.1 ≠ (TX10 b).2.1 := by decide +kernel
theorem tyX10_ok : ∀ k, k < 9 → parseFieldDescriptor (TX10 k).2.2.1 = some (tyX10 k) := by decide +kernel
abbrev cX10_init : ByteArray := prog_1_method_1_code
def yX10_init : MethodName := ⟨RX10, "<init>", "()V"⟩
abbrev cX10_bells : ByteArray := prog_1_method_2_code
def yX10_bells : MethodName := ⟨RX10, "bells", "(I)I"⟩
abbrev cX10_method : ByteArray := prog_1_method_3_code
def yX10_method : MethodName := ⟨RX10, "method", "()I"⟩
abbrev cX10_call : ByteArray := prog_1_method_4_code
def yX10_call : MethodName := ⟨RX10, "call", "(II)I"⟩
abbrev cX10_touch : ByteArray := prog_1_method_5_code
def yX10_touch : MethodName := ⟨RX10, "touch", "()I"⟩
abbrev cX10_add : ByteArray := prog_1_method_6_code
def yX10_add : MethodName := ⟨RX10, "add", "(I)I"⟩
abbrev cX10_cut : ByteArray := prog_1_method_7_code
def yX10_cut : MethodName := ⟨RX10, "cut", "(I)I"⟩
abbrev cX10_append : ByteArray := prog_1_method_8_code
def yX10_append : MethodName := ⟨RX10, "append", "(I)I"⟩
abbrev cX10_clear : ByteArray := prog_1_method_9_code
def yX10_clear : MethodName := ⟨RX10, "clear", "()I"⟩
abbrev cX10_fault : ByteArray := prog_1_method_10_code
def yX10_fault : MethodName := ⟨RX10, "fault", "(I)I"⟩
abbrev cX10_bell : ByteArray := prog_1_method_11_code
def yX10_bell : MethodName := ⟨RX10, "bell", "(II)I"⟩
abbrev cX10_change : ByteArray := prog_1_method_12_code
def yX10_change : MethodName := ⟨RX10, "change", "(II)I"⟩
abbrev cX10_row : ByteArray := prog_1_method_13_code
def yX10_row : MethodName := ⟨RX10, "row", "(II)I"⟩
abbrev cX10_path : ByteArray := prog_1_method_14_code
def yX10_path : MethodName := ⟨RX10, "path", "(II)I"⟩
abbrev cX10_blows : ByteArray := prog_1_method_15_code
def yX10_blows : MethodName := ⟨RX10, "blows", "(II)I"⟩
abbrev cX10_count : ByteArray := prog_1_method_16_code
def yX10_count : MethodName := ⟨RX10, "count", "(I)I"⟩
abbrev cX10_music : ByteArray := prog_1_method_17_code
def yX10_music : MethodName := ⟨RX10, "music", "()D"⟩
abbrev cX10_home : ByteArray := prog_1_method_18_code
def yX10_home : MethodName := ⟨RX10, "home", "(I)I"⟩
abbrev cX10_homeCall : ByteArray := prog_1_method_19_code
def yX10_homeCall : MethodName := ⟨RX10, "homeCall", "(I)I"⟩
abbrev cX10_ifCalled : ByteArray := prog_1_method_20_code
def yX10_ifCalled : MethodName := ⟨RX10, "ifCalled", "(III)I"⟩
abbrev cX10_best : ByteArray := prog_1_method_21_code
def yX10_best : MethodName := ⟨RX10, "best", "()I"⟩
abbrev cX10_undo : ByteArray := prog_1_method_22_code
def yX10_undo : MethodName := ⟨RX10, "undo", "()I"⟩
abbrev cX10_save : ByteArray := prog_1_method_23_code
def yX10_save : MethodName := ⟨RX10, "save", "()I"⟩
abbrev cX10_restore : ByteArray := prog_1_method_24_code
def yX10_restore : MethodName := ⟨RX10, "restore", "()I"⟩
abbrev cX10_begin : ByteArray := prog_1_method_25_code
def yX10_begin : MethodName := ⟨RX10, "begin", "(I)V"⟩
abbrev cX10_readStart : ByteArray := prog_1_method_26_code
def yX10_readStart : MethodName := ⟨RX10, "readStart", "(Ljava/lang/String;I)V"⟩
abbrev cX10_countRows : ByteArray := prog_1_method_27_code
def yX10_countRows : MethodName := ⟨RX10, "countRows", "(I)I"⟩
abbrev cX10_lastOrder : ByteArray := prog_1_method_28_code
def yX10_lastOrder : MethodName := ⟨RX10, "lastOrder", "()I"⟩
abbrev cX10_isBell : ByteArray := prog_1_method_29_code
def yX10_isBell : MethodName := ⟨RX10, "isBell", "(I)Z"⟩
abbrev cX10_isWithin : ByteArray := prog_1_method_30_code
def yX10_isWithin : MethodName := ⟨RX10, "isWithin", "(III)Z"⟩
def RX11 : String := "CalledTouchesModel"
def TX11 : u_T := fun k => match k with
  | 0 => ("CalledTouchesModel", "s", "[I", true)
  | 1 => ("CalledTouchesModel", "past", "[I", true)
  | 2 => ("CalledTouchesModel", "kept", "[I", true)
  | 3 => ("CalledTouchesModel", "isKept", "Z", false)
  | 4 => ("CalledTouchesModel", "pasts", "I", false)
  | 5 => ("CalledTouchesModel", "pad", "[I", true)
  | 6 => ("CalledTouchesModel", "typed", "I", false)
  | 7 => ("CalledTouchesModel", "cell", "[I", true)
  | 8 => ("CalledTouchesModel", "other", "[I", true)
  | 9 => ("CalledTouchesModel", "rows", "[I", true)
  | 10 => ("CalledTouchesModel", "ends", "I", false)
  | 11 => ("CalledTouchesModel", "read", "[I", true)
  | 12 => ("CalledTouchesModel", "many", "I", false)
  | 13 => ("CalledTouchesModel", "spot", "I", false)
  | 14 => ("CalledTouchesModel", "track", "[I", true)
  | 15 => ("CalledTouchesModel", "lead", "[I", true)
  | 16 => ("CalledTouchesModel", "distance", "[I", true)
  | _ => ("CalledTouchesModel", "line", "[I", true)
def tyX11 : Nat → FieldType := fun k => match k with
  | 0 => .array .int
  | 1 => .array .int
  | 2 => .array .int
  | 3 => .boolean
  | 4 => .int
  | 5 => .array .int
  | 6 => .int
  | 7 => .array .int
  | 8 => .array .int
  | 9 => .array .int
  | 10 => .int
  | 11 => .array .int
  | 12 => .int
  | 13 => .int
  | 14 => .array .int
  | 15 => .array .int
  | 16 => .array .int
  | _ => .array .int
abbrev wsX110 : List Cond := u_ws RX11 TX11 18
theorem nmX11 : ∀ a, a < 18 → ∀ b, b < 18 → a ≠ b → (TX11 a).2.1 ≠ (TX11 b).2.1 := by decide +kernel
theorem tyX11_ok : ∀ k, k < 18 → parseFieldDescriptor (TX11 k).2.2.1 = some (tyX11 k) := by decide +kernel
abbrev cX11_init : ByteArray := prog_13_method_1_code
def yX11_init : MethodName := ⟨RX11, "<init>", "()V"⟩
abbrev cX11_in : ByteArray := prog_13_method_3_code
def yX11_in : MethodName := ⟨RX11, "in", "(III)Z"⟩
abbrev cX11_changes : ByteArray := prog_13_method_4_code
def yX11_changes : MethodName := ⟨RX11, "changes", "()V"⟩
abbrev cX11_lays : ByteArray := prog_13_method_5_code
def yX11_lays : MethodName := ⟨RX11, "lays", "(I)V"⟩
abbrev cX11_last : ByteArray := prog_13_method_6_code
def yX11_last : MethodName := ⟨RX11, "last", "()I"⟩
abbrev cX11_isRight : ByteArray := prog_13_method_7_code
def yX11_isRight : MethodName := ⟨RX11, "isRight", "(I)Z"⟩
abbrev cX11_toRounds : ByteArray := prog_13_method_8_code
def yX11_toRounds : MethodName := ⟨RX11, "toRounds", "()V"⟩
abbrev cX11_rings : ByteArray := prog_13_method_9_code
def yX11_rings : MethodName := ⟨RX11, "rings", "(I)V"⟩
abbrev cX11_rank : ByteArray := prog_13_method_10_code
def yX11_rank : MethodName := ⟨RX11, "rank", "()I"⟩
abbrev cX11_unrank : ByteArray := prog_13_method_11_code
def yX11_unrank : MethodName := ⟨RX11, "unrank", "(I)V"⟩
abbrev cX11_changeOf : ByteArray := prog_13_method_12_code
def yX11_changeOf : MethodName := ⟨RX11, "changeOf", "(II)I"⟩
abbrev cX11_ringsLead : ByteArray := prog_13_method_13_code
def yX11_ringsLead : MethodName := ⟨RX11, "ringsLead", "(I)V"⟩
abbrev cX11_ringsAll : ByteArray := prog_13_method_14_code
def yX11_ringsAll : MethodName := ⟨RX11, "ringsAll", "(I)V"⟩
abbrev cX11_bells : ByteArray := prog_13_method_15_code
def yX11_bells : MethodName := ⟨RX11, "bells", "(I)I"⟩
abbrev cX11_isAt : ByteArray := prog_13_method_16_code
def yX11_isAt : MethodName := ⟨RX11, "isAt", "(II)Z"⟩
abbrev cX11_couldBeRight : ByteArray := prog_13_method_17_code
def yX11_couldBeRight : MethodName := ⟨RX11, "couldBeRight", "(II)Z"⟩
abbrev cX11_readsChange : ByteArray := prog_13_method_18_code
def yX11_readsChange : MethodName := ⟨RX11, "readsChange", "()Z"⟩
abbrev cX11_methodFault : ByteArray := prog_13_method_19_code
def yX11_methodFault : MethodName := ⟨RX11, "methodFault", "()I"⟩
abbrev cX11_kindOf : ByteArray := prog_13_method_20_code
def yX11_kindOf : MethodName := ⟨RX11, "kindOf", "(I)I"⟩
abbrev cX11_touchFault : ByteArray := prog_13_method_21_code
def yX11_touchFault : MethodName := ⟨RX11, "touchFault", "()I"⟩
abbrev cX11_method : ByteArray := prog_13_method_22_code
def yX11_method : MethodName := ⟨RX11, "method", "()I"⟩
abbrev cX11_call : ByteArray := prog_13_method_23_code
def yX11_call : MethodName := ⟨RX11, "call", "(II)I"⟩
abbrev cX11_touch : ByteArray := prog_13_method_24_code
def yX11_touch : MethodName := ⟨RX11, "touch", "()I"⟩
abbrev cX11_add : ByteArray := prog_13_method_25_code
def yX11_add : MethodName := ⟨RX11, "add", "(I)I"⟩
abbrev cX11_cut : ByteArray := prog_13_method_26_code
def yX11_cut : MethodName := ⟨RX11, "cut", "(I)I"⟩
abbrev cX11_append : ByteArray := prog_13_method_27_code
def yX11_append : MethodName := ⟨RX11, "append", "(I)I"⟩
abbrev cX11_clear : ByteArray := prog_13_method_28_code
def yX11_clear : MethodName := ⟨RX11, "clear", "()I"⟩
abbrev cX11_fault : ByteArray := prog_13_method_29_code
def yX11_fault : MethodName := ⟨RX11, "fault", "(I)I"⟩
abbrev cX11_isPlace : ByteArray := prog_13_method_30_code
def yX11_isPlace : MethodName := ⟨RX11, "isPlace", "(I)Z"⟩
abbrev cX11_isRow : ByteArray := prog_13_method_31_code
def yX11_isRow : MethodName := ⟨RX11, "isRow", "(I)Z"⟩
abbrev cX11_bell : ByteArray := prog_13_method_32_code
def yX11_bell : MethodName := ⟨RX11, "bell", "(II)I"⟩
abbrev cX11_change : ByteArray := prog_13_method_33_code
def yX11_change : MethodName := ⟨RX11, "change", "(II)I"⟩
abbrev cX11_signByPairs : ByteArray := prog_13_method_34_code
def yX11_signByPairs : MethodName := ⟨RX11, "signByPairs", "()I"⟩
abbrev cX11_signByRings : ByteArray := prog_13_method_35_code
def yX11_signByRings : MethodName := ⟨RX11, "signByRings", "()I"⟩
abbrev cX11_soundsWell : ByteArray := prog_13_method_36_code
def yX11_soundsWell : MethodName := ⟨RX11, "soundsWell", "()Z"⟩
abbrev cX11_atHome : ByteArray := prog_13_method_37_code
def yX11_atHome : MethodName := ⟨RX11, "atHome", "()I"⟩
abbrev cX11_firstSame : ByteArray := prog_13_method_38_code
def yX11_firstSame : MethodName := ⟨RX11, "firstSame", "(II)I"⟩
abbrev cX11_row : ByteArray := prog_13_method_39_code
def yX11_row : MethodName := ⟨RX11, "row", "(II)I"⟩
abbrev cX11_follows : ByteArray := prog_13_method_40_code
def yX11_follows : MethodName := ⟨RX11, "follows", "(I)V"⟩
abbrev cX11_dodges : ByteArray := prog_13_method_41_code
def yX11_dodges : MethodName := ⟨RX11, "dodges", "(Z)I"⟩
abbrev cX11_stays : ByteArray := prog_13_method_42_code
def yX11_stays : MethodName := ⟨RX11, "stays", "()I"⟩
abbrev cX11_rowsAt : ByteArray := prog_13_method_43_code
def yX11_rowsAt : MethodName := ⟨RX11, "rowsAt", "(I)I"⟩
abbrev cX11_path : ByteArray := prog_13_method_44_code
def yX11_path : MethodName := ⟨RX11, "path", "(II)I"⟩
abbrev cX11_blows : ByteArray := prog_13_method_45_code
def yX11_blows : MethodName := ⟨RX11, "blows", "(II)I"⟩
abbrev cX11_roundAt : ByteArray := prog_13_method_46_code
def yX11_roundAt : MethodName := ⟨RX11, "roundAt", "()I"⟩
abbrev cX11_firstTwice : ByteArray := prog_13_method_47_code
def yX11_firstTwice : MethodName := ⟨RX11, "firstTwice", "()I"⟩
abbrev cX11_unlike : ByteArray := prog_13_method_48_code
def yX11_unlike : MethodName := ⟨RX11, "unlike", "()I"⟩
abbrev cX11_areFalse : ByteArray := prog_13_method_49_code
def yX11_areFalse : MethodName := ⟨RX11, "areFalse", "(II)Z"⟩
abbrev cX11_falsePairs : ByteArray := prog_13_method_50_code
def yX11_falsePairs : MethodName := ⟨RX11, "falsePairs", "()I"⟩
abbrev cX11_musical : ByteArray := prog_13_method_51_code
def yX11_musical : MethodName := ⟨RX11, "musical", "()I"⟩
abbrev cX11_called : ByteArray := prog_13_method_52_code
def yX11_called : MethodName := ⟨RX11, "called", "()I"⟩
abbrev cX11_plainCourse : ByteArray := prog_13_method_53_code
def yX11_plainCourse : MethodName := ⟨RX11, "plainCourse", "()I"⟩
abbrev cX11_count : ByteArray := prog_13_method_54_code
def yX11_count : MethodName := ⟨RX11, "count", "(I)I"⟩
abbrev cX11_music : ByteArray := prog_13_method_55_code
def yX11_music : MethodName := ⟨RX11, "music", "()D"⟩
abbrev cX11_takesLeads : ByteArray := prog_13_method_56_code
def yX11_takesLeads : MethodName := ⟨RX11, "takesLeads", "()V"⟩
abbrev cX11_moved : ByteArray := prog_13_method_57_code
def yX11_moved : MethodName := ⟨RX11, "moved", "(IIZ)I"⟩
abbrev cX11_spreadsFrom : ByteArray := prog_13_method_58_code
def yX11_spreadsFrom : MethodName := ⟨RX11, "spreadsFrom", "(IZ)V"⟩
abbrev cX11_spreads : ByteArray := prog_13_method_59_code
def yX11_spreads : MethodName := ⟨RX11, "spreads", "()V"⟩
abbrev cX11_home : ByteArray := prog_13_method_60_code
def yX11_home : MethodName := ⟨RX11, "home", "(I)I"⟩
abbrev cX11_homeCall : ByteArray := prog_13_method_61_code
def yX11_homeCall : MethodName := ⟨RX11, "homeCall", "(I)I"⟩
abbrev cX11_ifCalled : ByteArray := prog_13_method_62_code
def yX11_ifCalled : MethodName := ⟨RX11, "ifCalled", "(III)I"⟩
abbrev cX11_best : ByteArray := prog_13_method_63_code
def yX11_best : MethodName := ⟨RX11, "best", "()I"⟩
abbrev cX11_undo : ByteArray := prog_13_method_64_code
def yX11_undo : MethodName := ⟨RX11, "undo", "()I"⟩
abbrev cX11_save : ByteArray := prog_13_method_65_code
def yX11_save : MethodName := ⟨RX11, "save", "()I"⟩
abbrev cX11_restore : ByteArray := prog_13_method_66_code
def yX11_restore : MethodName := ⟨RX11, "restore", "()I"⟩
def RJx145de : String := "java/io/Serializable"
def TJx145de : u_T := fun k => match k with
  | _ => ("", "", "", false)
def tyJx145de : Nat → FieldType := fun k => match k with
  | _ => .int
theorem nmJx145de : ∀ a, a < 0 → ∀ b, b < 0 → a ≠ b → (TJx145de a).2.1 ≠ (TJx145de b).2.1 := by decide +kernel
theorem tyJx145de_ok : ∀ k, k < 0 → parseFieldDescriptor (TJx145de k).2.2.1 = some (tyJx145de k) := by decide +kernel
def RJx9f9b0 : String := "java/lang/CharSequence"
def TJx9f9b0 : u_T := fun k => match k with
  | _ => ("", "", "", false)
def tyJx9f9b0 : Nat → FieldType := fun k => match k with
  | _ => .int
theorem nmJx9f9b0 : ∀ a, a < 0 → ∀ b, b < 0 → a ≠ b → (TJx9f9b0 a).2.1 ≠ (TJx9f9b0 b).2.1 := by decide +kernel
theorem tyJx9f9b0_ok : ∀ k, k < 0 → parseFieldDescriptor (TJx9f9b0 k).2.2.1 = some (tyJx9f9b0 k) := by decide +kernel
def RJxb160c : String := "java/lang/Comparable"
def TJxb160c : u_T := fun k => match k with
  | _ => ("", "", "", false)
def tyJxb160c : Nat → FieldType := fun k => match k with
  | _ => .int
theorem nmJxb160c : ∀ a, a < 0 → ∀ b, b < 0 → a ≠ b → (TJxb160c a).2.1 ≠ (TJxb160c b).2.1 := by decide +kernel
theorem tyJxb160c_ok : ∀ k, k < 0 → parseFieldDescriptor (TJxb160c k).2.2.1 = some (tyJxb160c k) := by decide +kernel
def RJ6 : String := "java/lang/Integer"
def TJ6 : u_T := fun k => match k with
  | _ => ("", "", "", false)
def tyJ6 : Nat → FieldType := fun k => match k with
  | _ => .int
abbrev wsJ60 : List Cond := u_ws RJ6 TJ6 0
theorem nmJ6 : ∀ a, a < 0 → ∀ b, b < 0 → a ≠ b → (TJ6 a).2.1 ≠ (TJ6 b).2.1 := by decide +kernel
theorem tyJ6_ok : ∀ k, k < 0 → parseFieldDescriptor (TJ6 k).2.2.1 = some (tyJ6 k) := by decide +kernel
abbrev cJ6_bitCount_0f7a4 : ByteArray := prog_14_method_49_code
def yJ6_bitCount_0f7a4 : MethodName := ⟨RJ6, "bitCount", "(I)I"⟩
def RJ0 : String := "java/lang/String"
def TJ0 : u_T := fun k => match k with
  | _ => ("", "", "", false)
def tyJ0 : Nat → FieldType := fun k => match k with
  | _ => .int
abbrev wsJ00 : List Cond := u_ws RJ0 TJ0 0
theorem nmJ0 : ∀ a, a < 0 → ∀ b, b < 0 → a ≠ b → (TJ0 a).2.1 ≠ (TJ0 b).2.1 := by decide +kernel
theorem tyJ0_ok : ∀ k, k < 0 → parseFieldDescriptor (TJ0 k).2.2.1 = some (tyJ0 k) := by decide +kernel
abbrev cJ0_length_8abf5 : ByteArray := prog_15_method_54_code
def yJ0_length_8abf5 : MethodName := ⟨RJ0, "length", "()I"⟩
abbrev cJ0_toCharArray_70df3 : ByteArray := prog_15_method_129_code
def yJ0_toCharArray_70df3 : MethodName := ⟨RJ0, "toCharArray", "()[C"⟩
abbrev cJ0_coder_7d493 : ByteArray := prog_15_method_152_code
def yJ0_coder_7d493 : MethodName := ⟨RJ0, "coder", "()B"⟩
abbrev cJ0_isLatin1_aae02 : ByteArray := prog_15_method_154_code
def yJ0_isLatin1_aae02 : MethodName := ⟨RJ0, "isLatin1", "()Z"⟩
abbrev cJ0_checkBoundsOffCount_cabcc : ByteArray := prog_15_method_157_code
def yJ0_checkBoundsOffCount_cabcc : MethodName := ⟨RJ0, "checkBoundsOffCount", "(III)I"⟩
def RJ1 : String := "java/lang/StringLatin1"
def TJ1 : u_T := fun k => match k with
  | _ => ("", "", "", false)
def tyJ1 : Nat → FieldType := fun k => match k with
  | _ => .int
abbrev wsJ10 : List Cond := u_ws RJ1 TJ1 0
theorem nmJ1 : ∀ a, a < 0 → ∀ b, b < 0 → a ≠ b → (TJ1 a).2.1 ≠ (TJ1 b).2.1 := by decide +kernel
theorem tyJ1_ok : ∀ k, k < 0 → parseFieldDescriptor (TJ1 k).2.2.1 = some (tyJ1 k) := by decide +kernel
abbrev cJ1_toChars_9d188 : ByteArray := prog_16_method_9_code
def yJ1_toChars_9d188 : MethodName := ⟨RJ1, "toChars", "([B)[C"⟩
abbrev cJ1_inflate_03870 : ByteArray := prog_16_method_49_code
def yJ1_inflate_03870 : MethodName := ⟨RJ1, "inflate", "([BI[CII)V"⟩
def RJ2 : String := "java/lang/StringUTF16"
def TJ2 : u_T := fun k => match k with
  | _ => ("", "", "", false)
def tyJ2 : Nat → FieldType := fun k => match k with
  | _ => .int
abbrev wsJ20 : List Cond := u_ws RJ2 TJ2 0
theorem nmJ2 : ∀ a, a < 0 → ∀ b, b < 0 → a ≠ b → (TJ2 a).2.1 ≠ (TJ2 b).2.1 := by decide +kernel
theorem tyJ2_ok : ∀ k, k < 0 → parseFieldDescriptor (TJ2 k).2.2.1 = some (tyJ2 k) := by decide +kernel
abbrev cJ2_getChar_3b067 : ByteArray := prog_17_method_5_code
def yJ2_getChar_3b067 : MethodName := ⟨RJ2, "getChar", "([BI)C"⟩
abbrev cJ2_length_9d52b : ByteArray := prog_17_method_6_code
def yJ2_length_9d52b : MethodName := ⟨RJ2, "length", "([B)I"⟩
abbrev cJ2_toChars_9d188 : ByteArray := prog_17_method_13_code
def yJ2_toChars_9d188 : MethodName := ⟨RJ2, "toChars", "([B)[C"⟩
abbrev cJ2_getChars_a1a8b : ByteArray := prog_17_method_26_code
def yJ2_getChars_a1a8b : MethodName := ⟨RJ2, "getChars", "([BII[CI)V"⟩
abbrev cJ2_checkBoundsOffCount_d044e : ByteArray := prog_17_method_94_code
def yJ2_checkBoundsOffCount_d044e : MethodName := ⟨RJ2, "checkBoundsOffCount", "(II[B)V"⟩
def RJ10 : String := "java/lang/System"
def TJ10 : u_T := fun k => match k with
  | _ => ("", "", "", false)
def tyJ10 : Nat → FieldType := fun k => match k with
  | _ => .int
abbrev wsJ100 : List Cond := u_ws RJ10 TJ10 0
theorem nmJ10 : ∀ a, a < 0 → ∀ b, b < 0 → a ≠ b → (TJ10 a).2.1 ≠ (TJ10 b).2.1 := by decide +kernel
theorem tyJ10_ok : ∀ k, k < 0 → parseFieldDescriptor (TJ10 k).2.2.1 = some (tyJ10 k) := by decide +kernel
def RJxfd54e : String := "java/lang/constant/Constable"
def TJxfd54e : u_T := fun k => match k with
  | _ => ("", "", "", false)
def tyJxfd54e : Nat → FieldType := fun k => match k with
  | _ => .int
theorem nmJxfd54e : ∀ a, a < 0 → ∀ b, b < 0 → a ≠ b → (TJxfd54e a).2.1 ≠ (TJxfd54e b).2.1 := by decide +kernel
theorem tyJxfd54e_ok : ∀ k, k < 0 → parseFieldDescriptor (TJxfd54e k).2.2.1 = some (tyJxfd54e k) := by decide +kernel
def RJx3cf43 : String := "java/lang/constant/ConstantDesc"
def TJx3cf43 : u_T := fun k => match k with
  | _ => ("", "", "", false)
def tyJx3cf43 : Nat → FieldType := fun k => match k with
  | _ => .int
theorem nmJx3cf43 : ∀ a, a < 0 → ∀ b, b < 0 → a ≠ b → (TJx3cf43 a).2.1 ≠ (TJx3cf43 b).2.1 := by decide +kernel
theorem tyJx3cf43_ok : ∀ k, k < 0 → parseFieldDescriptor (TJx3cf43 k).2.2.1 = some (tyJx3cf43 k) := by decide +kernel
def RJ7 : String := "java/util/Arrays"
def TJ7 : u_T := fun k => match k with
  | _ => ("", "", "", false)
def tyJ7 : Nat → FieldType := fun k => match k with
  | _ => .int
abbrev wsJ70 : List Cond := u_ws RJ7 TJ7 0
theorem nmJ7 : ∀ a, a < 0 → ∀ b, b < 0 → a ≠ b → (TJ7 a).2.1 ≠ (TJ7 b).2.1 := by decide +kernel
theorem tyJ7_ok : ∀ k, k < 0 → parseFieldDescriptor (TJ7 k).2.2.1 = some (tyJ7 k) := by decide +kernel
abbrev cJ7_fill_53178 : ByteArray := prog_19_method_103_code
def yJ7_fill_53178 : MethodName := ⟨RJ7, "fill", "([II)V"⟩
def RJ3 : String := "jdk/internal/util/Preconditions"
def TJ3 : u_T := fun k => match k with
  | _ => ("", "", "", false)
def tyJ3 : Nat → FieldType := fun k => match k with
  | _ => .int
abbrev wsJ30 : List Cond := u_ws RJ3 TJ3 0
theorem nmJ3 : ∀ a, a < 0 → ∀ b, b < 0 → a ≠ b → (TJ3 a).2.1 ≠ (TJ3 b).2.1 := by decide +kernel
theorem tyJ3_ok : ∀ k, k < 0 → parseFieldDescriptor (TJ3 k).2.2.1 = some (tyJ3 k) := by decide +kernel
abbrev cJ3_checkFromIndexSize_8c36e : ByteArray := prog_20_method_13_code
def yJ3_checkFromIndexSize_8c36e : MethodName := ⟨RJ3, "checkFromIndexSize", "(IIILjava/util/function/BiFunction;)I"⟩
def RL : String := "CalledTouchesLaw"
abbrev cL_law : ByteArray := code
def yL_law : MethodName := ⟨RL, "law", "([I)Z"⟩
abbrev vwCl : List vw_C := [(RX0, TX0, 2), (RX1, TX1, 5), (RX2, TX2, 5), (RX3, TX3, 2), (RX5, TX5, 7), (RX7, TX7, 4), (RX9, TX9, 7), (RX10, TX10, 9), (RX11, TX11, 18)]
end
section
/-! ===== combinators of the pure pictures ===== -/
def inb (i : Int32) (n : Nat) : Bool := decide (0 ≤ i.toInt) && decide (i.toInt < (n : Int))
def nzb (y : Int32) : Bool := decide (¬ y = 0)
def gd {α : Type} (b : Bool) (x : Option α) : Option α := match b with
  | true => x
  | false => none
def bd {α β : Type} (x : Option α) (f : α → Option β) : Option β := match x with
  | some a => f a
  | none => none
def nm {α β : Type} (x : α) (f : α → β) : β := f x
def fu : Nat := 8192
theorem inb_in {i : Int32} {n : Nat} (h : inb i n = true) : vp_in i n := by
  simp only [inb, Bool.and_eq_true, decide_eq_true_eq] at h
  exact vp_in_iff.mpr h
theorem nzb_ne {y : Int32} (h : nzb y = true) : ¬ y = 0 := by
  simpa [nzb] using h
theorem gd_s {α : Type} {b : Bool} {x : Option α} {r : α} (h : gd b x = some r) : b = true ∧ x = some r := by
  cases b with
  | true => exact ⟨rfl, h⟩
  | false => cases h
theorem bd_s {α β : Type} {x : Option α} {f : α → Option β} {r : β} (h : bd x f = some r) : ∃ a, x = some a ∧ f a = some r := by
  cases x with
  | some a => exact ⟨a, rfl, h⟩
  | none => cases h
theorem ite_t {c : Prop} {d : Decidable c} {α : Sort _} {x y r : α} (hc : c) (h : @ite α c d x y = r) : x = r := by rw [if_pos hc] at h; exact h
theorem ite_f {c : Prop} {d : Decidable c} {α : Sort _} {x y r : α} (hc : ¬ c) (h : @ite α c d x y = r) : y = r := by rw [if_neg hc] at h; exact h
theorem nmi_t {c : Prop} {d : Decidable c} {α β : Type} {x y : α} {f : α → β} {r : β} (hc : c) (h : nm (@ite α c d x y) f = r) : nm x f = r := by rw [if_pos hc] at h; exact h
theorem nmi_f {c : Prop} {d : Decidable c} {α β : Type} {x y : α} {f : α → β} {r : β} (hc : ¬ c) (h : nm (@ite α c d x y) f = r) : nm y f = r := by rw [if_neg hc] at h; exact h
theorem nm_k {α β : Type} {x : α} {f : α → β} {r : β} {G : α → Prop} (h : nm x f = r) (k : ∀ v, f v = r → G v) : G x := k x h
/-! ===== the words, one list ===== -/
def lw_all : List Cond := lw_tbl.filter goodWord
def nestish : Cond → Bool
  | .fieldLinkNest .. => true
  | .methodLinkNest .. => true
  | _ => false
def lw_nest : List Cond := lw_tbl.filter nestish
def ws_ (y : MethodName) (b : ByteArray) (n : Nat) (r : Option FieldType) : List Cond := .code y b n r :: lw_all
theorem lw_in {w : Cond} (h : w ∈ lw_tbl) (hg : goodWord w = true) : w ∈ lw_all := List.mem_filter.mpr ⟨h, hg⟩
theorem lw_inN {w : Cond} (h : w ∈ lw_tbl) (hg : nestish w = true) : w ∈ lw_nest := List.mem_filter.mpr ⟨h, hg⟩
theorem good_all : GoodIn lw_all lw_all := fun _ h => ⟨h, good_of_word (List.mem_filter.mp h).2⟩
theorem good_ws {y : MethodName} {b : ByteArray} {n : Nat} {r : Option FieldType} (h : Cond.code y b n r ∈ lw_all) : GoodIn lw_all (ws_ y b n r) := fun w hw => by
  rcases List.mem_cons.mp hw with e | e
  · subst e; exact ⟨h, good_of_word (List.mem_filter.mp h).2⟩
  · exact good_all w e
theorem good_V {own : String} {idx : Nat} {C : String} {y : MethodName} {b : ByteArray} {n : Nat} {r : Option FieldType} (h1 : Cond.methodLink own idx y ∈ lw_all) (h2 : Cond.instanceMethod y ∈ lw_all) (h3 : Cond.selects C y y ∈ lw_all) (h4 : Cond.initialized C ∈ lw_all) (hc : Cond.code y b n r ∈ lw_all) : GoodIn lw_all (wsV own idx C y (ws_ y b n r)) := fun w hw => by
  unfold wsV at hw
  rcases List.mem_append.mp hw with e | e
  · simp only [List.mem_cons, List.not_mem_nil, or_false] at e
    rcases e with e | e | e | e <;> subst e
    · exact ⟨h1, good_of_word (List.mem_filter.mp h1).2⟩
    · exact ⟨h2, good_of_word (List.mem_filter.mp h2).2⟩
    · exact ⟨h3, good_of_word (List.mem_filter.mp h3).2⟩
    · exact ⟨h4, good_of_word (List.mem_filter.mp h4).2⟩
  · exact good_ws hc w e
/-! ===== the tables' part of every state ===== -/
abbrev tY (Y : ClassId × ClassId × ClassId) : List (ClassId × FieldType) := [(Y.1, .int), (Y.2.1, .char), (Y.2.2, .object RX9)]
def EV (D : va_G) (Y : ClassId × ClassId × ClassId) (U : State) : Prop := va_K D vwCl (tY Y) U ∧ (∀ w ∈ lw_nest, va_Nw w U) ∧ va_AO RX9 U
theorem nest_warm {w : Cond} {s U : State} (hn : nestish w = true) (hW : s.WarmedH U.vm) (h : va_Nw w s) : va_Nw w U := by
  cases w <;> first | exact va_Nw.warmF hW h | exact va_Nw.warmM hW h | (exact Bool.noConfusion (show false = true from hn))
theorem EV.warm {D : va_G} {Y : ClassId × ClassId × ClassId} {s U : State} (hW : s.WarmedH U.vm) (h : EV D Y s) : EV D Y U := ⟨va_K.moved hW.alike h.1, fun w hw => nest_warm (List.mem_filter.mp hw).2 hW (h.2.1 w hw), va_AO.moved hW.alike h.2.2⟩
theorem nest_same {w : Cond} {u U : State} (hn : nestish w = true) (hW : u.vm = U.vm) (h : va_Nw w u) : va_Nw w U := by
  cases w <;> first | exact va_Nw.same rfl hW h | (exact Bool.noConfusion (show false = true from hn))
theorem EV.calling {D : va_G} {Y : ClassId × ClassId × ClassId} {U : State} (g : JFrame) (mk : MethodId) (a : Array Value) (h : EV D Y U) : EV D Y (U.calling g mk a) := ⟨va_K.moved (u := U) (U := U.calling g mk a) (Vm.Alike.refl U.vm) h.1, fun w hw => nest_same (u := U) (U := U.calling g mk a) (List.mem_filter.mp hw).2 rfl (h.2.1 w hw), va_AO.moved (u := U) (U := U.calling g mk a) (Vm.Alike.refl U.vm) h.2.2⟩
/-! ===== contracts: what a method asks and answers ===== -/
/-- the start of a method that writes nothing -/
def RO (D : va_G) (Y : ClassId × ClassId × ClassId) (ws : va_W) (U : State) : Prop := va_P D vwCl ws U.heap ∧ EV D Y U
/-- the start of a method that writes -/
def RW (D : va_G) (Y : ClassId × ClassId × ClassId) (sz : Nat) (ws : va_W) (U : State) : Prop := U.heap.size = sz ∧ va_P D vwCl ws U.heap ∧ EV D Y U ∧ va_D (fun _ => True) ws
theorem RO.blind {D : va_G} {Y : ClassId × ClassId × ClassId} {ws : va_W} {av : List Value} : FrameBlind (va_Pc av (RO D Y ws)) := fun a _ g mk q => ⟨q.1, q.2.1, q.2.2.calling g mk a⟩
theorem RW.blind {D : va_G} {Y : ClassId × ClassId × ClassId} {sz : Nat} {ws : va_W} {av : List Value} : FrameBlind (va_Pc av (RW D Y sz ws)) := fun a _ g mk q => ⟨q.1, q.2.1, q.2.2.1, q.2.2.2.1.calling g mk a, q.2.2.2.2⟩
def OI (r : Int32) : Array Value → State → Outcome → State → Prop := vp_Si (fun x => x = r)
def OZ (r : Int32) : Array Value → State → Outcome → State → Prop := vp_Si (fun x => x = r ∧ (x = 0 ∨ x = 1))
def EndAt (D : va_G) (A : Nat → Prop) (ws' : va_W) (t : State) : Prop := va_P D vwCl ws' t.heap ∧ va_D A ws'
def QI (D : va_G) (r : Int32) (ws' : va_W) (A : Nat → Prop) : Array Value → State → Outcome → State → Prop := va_Qi (S := Unit) (fun x _ => x = r) (fun _ t => EndAt D A ws' t) A
def QZ (D : va_G) (r : Int32) (ws' : va_W) (A : Nat → Prop) : Array Value → State → Outcome → State → Prop := va_Qi (S := Unit) (fun x _ => x = r ∧ (x = 0 ∨ x = 1)) (fun _ t => EndAt D A ws' t) A
def QV (D : va_G) (ws' : va_W) (A : Nat → Prop) : Array Value → State → Outcome → State → Prop := va_Qv (S := Unit) (fun _ => True) (fun _ t => EndAt D A ws' t) A
def QD (D : va_G) (r : UInt64) (ws' : va_W) (A : Nat → Prop) : Array Value → State → Outcome → State → Prop := va_Qd (S := Unit) (fun x _ => x = r) (fun _ t => EndAt D A ws' t) A
/-- ends whose world has addresses that come with it -/
def QIu (D : va_G) (r : Int32) (ws' : (Nat → Nat) → va_W) (A : Nat → Prop) : Array Value → State → Outcome → State → Prop := va_Qi (S := Nat → Nat) (fun x _ => x = r) (fun u t => EndAt D A (ws' u) t) A
def QVu (D : va_G) (ws' : (Nat → Nat) → va_W) (A : Nat → Prop) : Array Value → State → Outcome → State → Prop := va_Qv (S := Nat → Nat) (fun _ => True) (fun u t => EndAt D A (ws' u) t) A
section CT
variable {l : Launch} {y : MethodName} {cc : ByteArray} {maxL : Nat} {ret : Option FieldType} {rm : Room} {args : List Value}
theorem ct_start {B : State → Prop} {Qc : Array Value → State → Outcome → State → Prop} {mc ms : Nat} {free : Addr → Prop} (hy : plainName y.cls = true) (hlen : (lg_sl args).length ≤ maxL)
    (body : ∀ (p : Program) (e : Env) (s : State) (m : MethodId) (below : List Frame) (meth : Method) (c : Code) (ls : Array Slot), p.tables.exec = Jvm.exec → c.code = cc → c.maxLocals = maxL → meth.sig.returnType = ret → meth.locks = false → s.vm.findClass y.cls = some m.cls → (∀ w ∈ lw_all, w.before args.toArray s = true) → meth.name = y.name → B s → lv_has ls maxL (lv_args 0 args) →
      W p l e rm s m args.toArray below meth c s.heap [] 0 0 (MQ below Qc args.toArray s mc ms free) (F0 m 0 ls [])) : Met l y (ws_ y cc maxL ret) rm (va_Pc args B) Qc mc ms free := by
  refine Met.ofW (cc := cc) (maxL := maxL) (ret := ret) hy rfl ?_
  intro p e s m args' below meth c s₁ B hml hv
  obtain ⟨rfl, hB⟩ := hv
  have hts := atoms_spec (ws := ws_ y cc maxL ret) B.pre
  have hl := lv_entry args (n := maxL) hlen
  rw [lg_entry_eq]
  exact body p e s m below meth c _ B.exec B.bytes hml B.returns B.notSynchronized (findClass_of_methodNamed B.named) (fun w hw => hts w (List.mem_cons_of_mem _ hw)) (name_of_methodNamed B.named B.method).1 hB hl
theorem ro_start {D : va_G} {Y : ClassId × ClassId × ClassId} {ws : va_W} {Qc : Array Value → State → Outcome → State → Prop} {free : Addr → Prop} (hy : plainName y.cls = true) (hlen : (lg_sl args).length ≤ maxL)
    (body : ∀ (p : Program) (e : Env) (s : State) (m : MethodId) (below : List Frame) (meth : Method) (c : Code) (ls : Array Slot), p.tables.exec = Jvm.exec → c.code = cc → c.maxLocals = maxL → meth.sig.returnType = ret → meth.locks = false → s.vm.findClass y.cls = some m.cls → (∀ w ∈ lw_all, w.before args.toArray s = true) → va_P D vwCl ws s.heap → EV D Y s → lv_has ls maxL (lv_args 0 args) →
      W p l e rm s m args.toArray below meth c s.heap [] 0 0 (MQ below Qc args.toArray s 0 0 free) (F0 m 0 ls [])) : Met l y (ws_ y cc maxL ret) rm (va_Pc args (RO D Y ws)) Qc 0 0 free :=
  ct_start hy hlen fun p e s m below meth c ls h1 h2 h3 h4 h5 h6 h7 _ hB hl => body p e s m below meth c ls h1 h2 h3 h4 h5 h6 h7 hB.1 hB.2 hl
theorem rw_start {D : va_G} {Y : ClassId × ClassId × ClassId} {sz : Nat} {ws : va_W} {Qc : (Nat → Prop) → Array Value → State → Outcome → State → Prop} {mc ms : Nat} (hy : plainName y.cls = true) (hlen : (lg_sl args).length ≤ maxL)
    (body : ∀ (p : Program) (e : Env) (s : State) (m : MethodId) (below : List Frame) (meth : Method) (c : Code) (ls : Array Slot) (A : Nat → Prop), p.tables.exec = Jvm.exec → c.code = cc → c.maxLocals = maxL → meth.sig.returnType = ret → meth.locks = false → s.vm.findClass y.cls = some m.cls → (∀ w ∈ lw_all, w.before args.toArray s = true) → meth.name = y.name → (∀ q : Nat, s.heap.size ≤ q → A q) → va_P D vwCl ws s.heap → va_D A ws → va_S A s.heap s.heap [] → EV D Y s → lv_has ls maxL (lv_args 0 args) →
      W p l e rm s m args.toArray below meth c s.heap [] 0 0 (MQ below (Qc A) args.toArray s mc ms A) (F0 m 0 ls [])) : Met l y (ws_ y cc maxL ret) rm (va_Pc args (RW D Y sz ws)) (Qc (va_A ws sz)) mc ms (va_A ws sz) := by
  refine ct_start hy hlen fun p e s m below meth c ls h1 h2 h3 h4 h5 h6 h7 h8 hB hl => ?_
  obtain ⟨rfl, hP, hE, hD0⟩ := hB
  exact body p e s m below meth c ls (va_A ws s.heap.size) h1 h2 h3 h4 h5 h6 h7 h8 (fun q h => Or.inr h) hP hD0.self va_S.rf hE hl
end CT
/-! ===== the ends ===== -/
section EN
variable {p : Program} {l : Launch} {e : Env} {R : Room} {s : State} {m : MethodId} {args : Array Value} {below : List Frame} {meth : Method} {c : Code} {H : Heap} {locs : List Loc} {cells slots : Nat}
variable {cc : ByteArray} {pc : Nat} {ls : Array Slot} {D : va_G} {A : Nat → Prop} {ws' : va_W}
theorem z_nar {v : Int32} (h : v = 0 ∨ v = 1) : narrow .boolean (.int v) = .int v := by rcases h with rfl | rfl <;> decide
theorem en_oi {v r : Int32} (hx : p.tables.exec = Jvm.exec) (hb : c.code = cc) (hr : meth.sig.returnType = some .int) (hlocks : meth.locks = false) (hv : v = r) (hdg : decode cc pc = .ok (.ireturn, 1)) : W p l e R s m args below meth c s.heap [] 0 0 (MQ below (OI r) args s 0 0 (fun _ => False)) (F0 m pc ls [.int v]) :=
  W.iret (v := v) hx hb hr (fun t ht _ => ⟨v, rfl, hv, ht⟩) (fun q hq => absurd hq List.not_mem_nil) hdg hlocks
theorem en_oz {v r : Int32} (hx : p.tables.exec = Jvm.exec) (hb : c.code = cc) (hr : meth.sig.returnType = some .boolean) (hlocks : meth.locks = false) (hv : v = r) (hz : v = 0 ∨ v = 1) (hdg : decode cc pc = .ok (.ireturn, 1)) : W p l e R s m args below meth c s.heap [] 0 0 (MQ below (OZ r) args s 0 0 (fun _ => False)) (F0 m pc ls [.int v]) :=
  W.zret (v := v) hx hb hr (z_nar hz) (fun t ht _ => ⟨v, rfl, ⟨hv, hz⟩, ht⟩) (fun q hq => absurd hq List.not_mem_nil) hdg hlocks
theorem en_i {v r : Int32} (hx : p.tables.exec = Jvm.exec) (hb : c.code = cc) (hr : meth.sig.returnType = some .int) (hlocks : meth.locks = false) (hP : va_P D vwCl ws' H) (hD : va_D A ws') (hS : va_S A s.heap H locs) (hv : v = r) (hdg : decode cc pc = .ok (.ireturn, 1)) : W p l e R s m args below meth c H locs cells slots (MQ below (QI D r ws' A) args s cells slots A) (F0 m pc ls [.int v]) :=
  W.iret (v := v) hx hb hr (fun t ht _ => ⟨⟨v, (), rfl, hv, by rw [ht]; exact hP, hD⟩, hS.F ht⟩) hS.2.2 hdg hlocks
theorem en_z {v r : Int32} (hx : p.tables.exec = Jvm.exec) (hb : c.code = cc) (hr : meth.sig.returnType = some .boolean) (hlocks : meth.locks = false) (hP : va_P D vwCl ws' H) (hD : va_D A ws') (hS : va_S A s.heap H locs) (hv : v = r) (hz : v = 0 ∨ v = 1) (hdg : decode cc pc = .ok (.ireturn, 1)) : W p l e R s m args below meth c H locs cells slots (MQ below (QZ D r ws' A) args s cells slots A) (F0 m pc ls [.int v]) :=
  W.zret (v := v) hx hb hr (z_nar hz) (fun t ht _ => ⟨⟨v, (), rfl, ⟨hv, hz⟩, by rw [ht]; exact hP, hD⟩, hS.F ht⟩) hS.2.2 hdg hlocks
theorem en_v (hx : p.tables.exec = Jvm.exec) (hb : c.code = cc) (hr : meth.sig.returnType = none) (hlocks : meth.locks = false) (hP : va_P D vwCl ws' H) (hD : va_D A ws') (hS : va_S A s.heap H locs) (hdg : decode cc pc = .ok (.return_, 1)) : W p l e R s m args below meth c H locs cells slots (MQ below (QV D ws' A) args s cells slots A) (F0 m pc ls []) :=
  W.vret hx hb hr (fun t ht _ => ⟨⟨(), rfl, trivial, by rw [ht]; exact hP, hD⟩, hS.F ht⟩) hS.2.2 hdg hlocks
theorem en_d {v r : UInt64} (hx : p.tables.exec = Jvm.exec) (hb : c.code = cc) (hr : meth.sig.returnType = some .double) (hlocks : meth.locks = false) (hP : va_P D vwCl ws' H) (hD : va_D A ws') (hS : va_S A s.heap H locs) (hv : v = r) (hdg : decode cc pc = .ok (.dreturn, 1)) : W p l e R s m args below meth c H locs cells slots (MQ below (QD D r ws' A) args s cells slots A) (F0 m pc ls [.double v]) :=
  W.dret (v := v) hx hb hr (fun t ht _ => ⟨⟨v, (), rfl, hv, by rw [ht]; exact hP, hD⟩, hS.F ht⟩) hS.2.2 hdg hlocks
theorem en_iu {v r : Int32} {wu : (Nat → Nat) → va_W} (u : Nat → Nat) (hx : p.tables.exec = Jvm.exec) (hb : c.code = cc) (hr : meth.sig.returnType = some .int) (hlocks : meth.locks = false) (hP : va_P D vwCl (wu u) H) (hD : va_D A (wu u)) (hS : va_S A s.heap H locs) (hv : v = r) (hdg : decode cc pc = .ok (.ireturn, 1)) : W p l e R s m args below meth c H locs cells slots (MQ below (QIu D r wu A) args s cells slots A) (F0 m pc ls [.int v]) :=
  W.iret (v := v) hx hb hr (fun t ht _ => ⟨⟨v, u, rfl, hv, by rw [ht]; exact hP, hD⟩, hS.F ht⟩) hS.2.2 hdg hlocks
theorem en_vu {wu : (Nat → Nat) → va_W} (u : Nat → Nat) (hx : p.tables.exec = Jvm.exec) (hb : c.code = cc) (hr : meth.sig.returnType = none) (hlocks : meth.locks = false) (hP : va_P D vwCl (wu u) H) (hD : va_D A (wu u)) (hS : va_S A s.heap H locs) (hdg : decode cc pc = .ok (.return_, 1)) : W p l e R s m args below meth c H locs cells slots (MQ below (QVu D wu A) args s cells slots A) (F0 m pc ls []) :=
  W.vret hx hb hr (fun t ht _ => ⟨⟨u, rfl, trivial, by rw [ht]; exact hP, hD⟩, hS.F ht⟩) hS.2.2 hdg hlocks
end EN
/-! ===== calls ===== -/
section CA
variable {p : Program} {l : Launch} {e : Env} {R : Room} {s : State} {m : MethodId} {args : Array Value} {below : List Frame} {meth : Method} {c : Code} {H : Heap} {locs : List Loc} {cells slots : Nat} {Q : State → Prop}
variable {cc bytes : ByteArray} {nL maxL index n mc ms : Nat} {own C : String} {y : MethodName} {ret : Option FieldType} {rm : Room} {Pc : Array Value → State → Prop} {Qc : Array Value → State → Outcome → State → Prop} {free : Addr → Prop} {b : Addr} {As rest st : List Value} {pc : Nat} {ls : Array Slot} {D : va_G} {Y : ClassId × ClassId × ClassId}
/-- what stays the same along a walk -/
def EN (p : Program) (m : MethodId) (c : Code) (cc : ByteArray) (nL : Nat) (s : State) (args : Array Value) (own : String) : Prop := p.tables.exec = Jvm.exec ∧ c.code = cc ∧ c.maxLocals = nL ∧ s.vm.findClass own = some m.cls ∧ ∀ w ∈ lw_all, w.before args s = true
theorem run_S (E : EN p m c cc nL s args own) (hM : Met l y (ws_ y bytes maxL ret) rm Pc Qc mc ms free) (q1 : Cond.methodLink own index y ∈ lw_all) (q2 : Cond.static y ∈ lw_all) (q3 : Cond.initialized y.cls ∈ lw_all) (q4 : Cond.code y bytes maxL ret ∈ lw_all) (hrc : rm.cells = mc) (hrs : rm.slots = ms)
    (hd : y.cls ≠ "java/lang/invoke/MethodHandle" ∧ y.cls ≠ "java/lang/invoke/VarHandle" ∧ (parseMethodDescriptor y.desc).map (fun d => d.parameters.length) = some n) (hR : rm.frames + 1 ≤ R.frames ∧ 8 + (maxL + 11) + rm.locals ≤ R.locals) (hp : PreS s H Pc As)
    (hn : As.length = n) (hsize : ls.size = nL) (hstack : st = As.reverse ++ rest) (hW : (rest.map fun v => v.category).sum ≤ 8) (hdg : decode cc pc = .ok (.invokestatic index, 3)) (hf : cells + mc ≤ R.cells ∧ slots + ms ≤ R.slots) :
    va_Run p l e R s m args below meth c H locs cells slots mc ms (F0 m pc ls st) rest (Qc As.toArray) free :=
  va_runS (g := F0 m pc ls st) E hM ⟨callB_of n E.2.2.2.2 (good_ws q4) rfl hrc hrs (E.2.2.2.2 _ q3) (E.2.2.2.2 _ q1) hd hR, E.2.2.2.2 _ q2⟩ hp rfl hn hsize hstack (lv_room hW) hdg hf
theorem run_V (E : EN p m c cc nL s args own) (hM : Met l y (ws_ y bytes maxL ret) rm Pc Qc mc ms free) (q1 : Cond.methodLink own index y ∈ lw_all) (q2 : Cond.instanceMethod y ∈ lw_all) (q3 : Cond.selects y.cls y y ∈ lw_all) (q5 : Cond.initialized y.cls ∈ lw_all) (q4 : Cond.code y bytes maxL ret ∈ lw_all) (hrc : rm.cells = mc) (hrs : rm.slots = ms)
    (hd : y.cls ≠ "java/lang/invoke/MethodHandle" ∧ y.cls ≠ "java/lang/invoke/VarHandle" ∧ (parseMethodDescriptor y.desc).map (fun d => d.parameters.length) = some n) (hR : rm.frames + 1 ≤ R.frames ∧ 8 + (maxL + 11) + rm.locals ≤ R.locals) (hp : PreV s H y.cls b Pc As)
    (hn : As.length = n) (hsize : ls.size = nL) (hstack : st = As.reverse ++ .ref b :: rest) (hW : (rest.map fun v => v.category).sum ≤ 8) (hdg : decode cc pc = .ok (.invokevirtual index, 3)) (hf : cells + mc ≤ R.cells ∧ slots + ms ≤ R.slots) :
    va_Run p l e R s m args below meth c H locs cells slots mc ms (F0 m pc ls st) rest (Qc (Value.ref b :: As).toArray) free :=
  va_runV (g := F0 m pc ls st) E hM ⟨callB_of n E.2.2.2.2 (good_ws q4) rfl hrc hrs (E.2.2.2.2 _ q5) (E.2.2.2.2 _ q1) hd hR, E.2.2.2.2 _ q2, E.2.2.2.2 _ q3⟩ hp rfl hn hsize hstack (lv_room hW) hdg hf
theorem run_I (E : EN p m c cc nL s args own) (hM : Met l y (ws_ y bytes maxL none) rm Pc Qc mc ms free) (q1 : Cond.methodLink own index y ∈ lw_all) (q2 : Cond.instanceMethod y ∈ lw_all) (q5 : Cond.initialized y.cls ∈ lw_all) (q4 : Cond.code y bytes maxL none ∈ lw_all) (hrc : rm.cells = mc) (hrs : rm.slots = ms) (hname : y.name = "<init>")
    (hd : y.cls ≠ "java/lang/invoke/MethodHandle" ∧ y.cls ≠ "java/lang/invoke/VarHandle" ∧ (parseMethodDescriptor y.desc).map (fun d => d.parameters.length) = some n) (hR : rm.frames + 1 ≤ R.frames ∧ 8 + (maxL + 11) + rm.locals ≤ R.locals) (hp : PreS s H Pc (.ref b :: As))
    (hn : As.length = n) (hsize : ls.size = nL) (hstack : st = As.reverse ++ .ref b :: rest) (hW : (rest.map fun v => v.category).sum ≤ 8) (hdg : decode cc pc = .ok (.invokespecial index, 3)) (hf : cells + mc ≤ R.cells ∧ slots + ms ≤ R.slots) :
    va_Run p l e R s m args below meth c H locs cells slots mc ms (F0 m pc ls st) rest (Qc (Value.ref b :: As).toArray) free :=
  va_runI (g := F0 m pc ls st) E hM ⟨callB_of n E.2.2.2.2 (good_ws q4) rfl hrc hrs (E.2.2.2.2 _ q5) (E.2.2.2.2 _ q1) hd hR, hname, E.2.2.2.2 _ q2⟩ hp rfl hn hsize hstack (lv_room hW) hdg hf
theorem run_IN {host : String} (E : EN p m c cc nL s args own) (hE : EV D Y s) (hM : Met l y (ws_ y bytes maxL none) rm Pc Qc mc ms free) (q1 : Cond.methodLinkNest own index y host ∈ lw_nest) (q2 : Cond.instanceMethod y ∈ lw_all) (q5 : Cond.initialized y.cls ∈ lw_all) (q4 : Cond.code y bytes maxL none ∈ lw_all) (hrc : rm.cells = mc) (hrs : rm.slots = ms) (hname : y.name = "<init>")
    (hd : y.cls ≠ "java/lang/invoke/MethodHandle" ∧ y.cls ≠ "java/lang/invoke/VarHandle" ∧ (parseMethodDescriptor y.desc).map (fun d => d.parameters.length) = some n) (hR : rm.frames + 1 ≤ R.frames ∧ 8 + (maxL + 11) + rm.locals ≤ R.locals) (hp : PreS s H Pc (.ref b :: As))
    (hn : As.length = n) (hsize : ls.size = nL) (hstack : st = As.reverse ++ .ref b :: rest) (hW : (rest.map fun v => v.category).sum ≤ 8) (hdg : decode cc pc = .ok (.invokespecial index, 3)) (hf : cells + mc ≤ R.cells ∧ slots + ms ≤ R.slots) :
    va_Run p l e R s m args below meth c H locs cells slots mc ms (F0 m pc ls st) rest (Qc (Value.ref b :: As).toArray) free :=
  va_runIN (g := F0 m pc ls st) E hM ⟨va_cnB n E.2.2.2.2 (good_ws q4) rfl hrc hrs (hE.2.1 _ q1) (E.2.2.2.2 _ q5) hd hR, hname, E.2.2.2.2 _ q2⟩ hp rfl hn hsize hstack (lv_room hW) hdg hf
/-- what a call asks of the heap -/
theorem pre_roS {ws wc : va_W} {As : List Value} (hP : va_P D vwCl ws H) (hE : EV D Y s) (is : List Nat) (hs : is.filterMap (fun i => ws[i]?) = wc) : PreS s H (va_Pc As (RO D Y wc)) As := ⟨RO.blind, fun U hU hW => ⟨rfl, by rw [hU]; exact hP.sub is hs, hE.warm hW⟩⟩
theorem pre_roV {ws wc : va_W} {As : List Value} {q0 ci : Nat} {fs : List Value} {k : vw_C} (hP : va_P D vwCl ws H) (hE : EV D Y s) (is : List Nat) (hs : is.filterMap (fun i => ws[i]?) = wc) (hc : vwCl[ci]? = some k) (he : ws[q0]? = some (b, .inr (ci, fs))) : PreV s H k.1 b (va_Pc (.ref b :: As) (RO D Y wc)) As := ⟨RO.blind, va_recv hE.1 hP hc he, fun U hU hW => ⟨rfl, by rw [hU]; exact hP.sub is hs, hE.warm hW⟩⟩
theorem pre_rwS {A : Nat → Prop} {ws wc : va_W} {As : List Value} (hP : va_P D vwCl ws H) (hD : va_D A ws) (hE : EV D Y s) (is : List Nat) (hs : is.map (fun i => ws[i]?) = wc.map some) (hn : va_nd is = true) (hs' : is.filterMap (fun i => ws[i]?) = wc) : PreS s H (va_Pc As (RW D Y H.size wc)) As := ⟨RW.blind, fun U hU hW => ⟨rfl, by rw [hU], by rw [hU]; exact hP.sub is hs', hE.warm hW, (hD.sub is hn hs).weaken (fun _ _ _ _ => trivial)⟩⟩
theorem pre_rwV {A : Nat → Prop} {ws wc : va_W} {As : List Value} {q0 ci : Nat} {fs : List Value} {k : vw_C} (hP : va_P D vwCl ws H) (hD : va_D A ws) (hE : EV D Y s) (is : List Nat) (hs : is.map (fun i => ws[i]?) = wc.map some) (hn : va_nd is = true) (hs' : is.filterMap (fun i => ws[i]?) = wc) (hc : vwCl[ci]? = some k) (he : ws[q0]? = some (b, .inr (ci, fs))) : PreV s H k.1 b (va_Pc (.ref b :: As) (RW D Y H.size wc)) As := ⟨RW.blind, va_recv hE.1 hP hc he, fun U hU hW => ⟨rfl, by rw [hU], by rw [hU]; exact hP.sub is hs', hE.warm hW, (hD.sub is hn hs).weaken (fun _ _ _ _ => trivial)⟩⟩
/-- behind a call that writes nothing -/
theorem af_o {post : Int32 → Prop} {a : Array Value} {st0 : List Value} (hr : va_Run p l e R s m args below meth c H locs cells slots 0 0 (F0 m pc ls st0) rest (vp_Si post a) (fun _ => False))
    (kk : ∀ r : Int32, post r → W p l e R s m args below meth c H locs cells slots Q (F0 m (pc + 3) ls (.int r :: rest))) : W p l e R s m args below meth c H locs cells slots Q (F0 m pc ls st0) := by
  intro T hT X
  obtain ⟨v, st₀, t, T', L, h0, X', hL, e1, e2, ⟨r, hv, hp, hh⟩, st⟩ := hr T hT X
  cases hv
  obtain ⟨t2, a1, b1⟩ := kk r hp T' (by rw [e1, hh, h0]) (Stand.forget X' (fun q h => (hL q h).elim))
  exact ⟨t2, st t2 a1, b1⟩
theorem af_oi {r0 : Int32} {a : Array Value} {st0 : List Value} (hr : va_Run p l e R s m args below meth c H locs cells slots 0 0 (F0 m pc ls st0) rest (OI r0 a) (fun _ => False))
    (kk : W p l e R s m args below meth c H locs cells slots Q (F0 m (pc + 3) ls (.int r0 :: rest))) : W p l e R s m args below meth c H locs cells slots Q (F0 m pc ls st0) := af_o hr (fun r h => by subst h; exact kk)
theorem af_oz {r0 : Int32} {a : Array Value} {st0 : List Value} (hr : va_Run p l e R s m args below meth c H locs cells slots 0 0 (F0 m pc ls st0) rest (OZ r0 a) (fun _ => False))
    (kk : (r0 = 0 ∨ r0 = 1) → W p l e R s m args below meth c H locs cells slots Q (F0 m (pc + 3) ls (.int r0 :: rest))) : W p l e R s m args below meth c H locs cells slots Q (F0 m pc ls st0) := af_o hr (fun r h => by obtain ⟨h, h2⟩ := h; subst h; exact kk h2)
/-- the join, in the order that the caller wants -/
theorem jn {A0 : Nat → Prop} {ws wc wr w1 wn : va_W} {H1 : Heap} (hP : va_P D vwCl ws H) (hD : va_D A0 ws) (isC isR isN : List Nat) (hC : isC.map (fun i => ws[i]?) = wc.map some) (hR : isR.map (fun i => ws[i]?) = wr.map some) (hn : va_nd isR = true) (hdis : ∀ i ∈ isR, i ∉ isC) (hN : isN.map (fun i => (wr ++ w1)[i]?) = wn.map some) (hN' : isN.filterMap (fun i => (wr ++ w1)[i]?) = wn) (hnN : va_nd isN = true)
    (hk : ∀ q : Nat, q < H.size → ¬ va_A wc H.size q → H1[q]? = H[q]?) (hF : ∀ q, va_A wc H.size q → A0 q) (hP1 : va_P D vwCl w1 H1) (hD1 : va_D (va_A wc H.size) w1) : va_P D vwCl wn H1 ∧ va_D A0 wn := by
  obtain ⟨h1, h2⟩ := va_join hP hD isC isR hC hR hn hdis hk hF hP1 hD1
  exact ⟨h1.sub isN hN', h2.sub isN hnN hN⟩
variable {A0 : Nat → Prop} {ws wc wr w1 wn : va_W} {a : Array Value} {st0 : List Value}
theorem af_i {r0 : Int32} (hr : va_Run p l e R s m args below meth c H locs cells slots mc ms (F0 m pc ls st0) rest (QI D r0 w1 (va_A wc H.size) a) (va_A wc H.size)) (hP : va_P D vwCl ws H) (hD : va_D A0 ws) (hS : va_S A0 s.heap H locs) (hA : ∀ q : Nat, s.heap.size ≤ q → A0 q)
    (isC isR isN : List Nat) (hC : isC.map (fun i => ws[i]?) = wc.map some) (hR : isR.map (fun i => ws[i]?) = wr.map some) (hn : va_nd isR = true) (hdis : ∀ i ∈ isR, i ∉ isC) (hN : isN.map (fun i => (wr ++ w1)[i]?) = wn.map some) (hN' : isN.filterMap (fun i => (wr ++ w1)[i]?) = wn) (hnN : va_nd isN = true)
    (kk : ∀ (H1 : Heap) (locs1 : List Loc), va_P D vwCl wn H1 → va_D A0 wn → va_S A0 s.heap H1 locs1 → W p l e R s m args below meth c H1 locs1 (cells + mc) (slots + ms) Q (F0 m (pc + 3) ls (.int r0 :: rest))) : W p l e R s m args below meth c H locs cells slots Q (F0 m pc ls st0) := by
  have hF := va_free (wc := wc) hD hS hA isC hC
  refine va_calli hr hS (fun q _ h => hF q h) hF (fun r u t H1 locs1 ht hvm hw hB hz1 hk1 hS1 => ?_)
  obtain ⟨hP1, hD1⟩ := hB
  rw [ht] at hP1
  obtain ⟨h1, h2⟩ := jn hP hD isC isR isN hC hR hn hdis hN hN' hnN hk1 hF hP1 hD1
  subst hw
  exact kk H1 locs1 h1 h2 hS1
theorem af_z {r0 : Int32} (hr : va_Run p l e R s m args below meth c H locs cells slots mc ms (F0 m pc ls st0) rest (QZ D r0 w1 (va_A wc H.size) a) (va_A wc H.size)) (hP : va_P D vwCl ws H) (hD : va_D A0 ws) (hS : va_S A0 s.heap H locs) (hA : ∀ q : Nat, s.heap.size ≤ q → A0 q)
    (isC isR isN : List Nat) (hC : isC.map (fun i => ws[i]?) = wc.map some) (hR : isR.map (fun i => ws[i]?) = wr.map some) (hn : va_nd isR = true) (hdis : ∀ i ∈ isR, i ∉ isC) (hN : isN.map (fun i => (wr ++ w1)[i]?) = wn.map some) (hN' : isN.filterMap (fun i => (wr ++ w1)[i]?) = wn) (hnN : va_nd isN = true)
    (kk : ∀ (H1 : Heap) (locs1 : List Loc), (r0 = 0 ∨ r0 = 1) → va_P D vwCl wn H1 → va_D A0 wn → va_S A0 s.heap H1 locs1 → W p l e R s m args below meth c H1 locs1 (cells + mc) (slots + ms) Q (F0 m (pc + 3) ls (.int r0 :: rest))) : W p l e R s m args below meth c H locs cells slots Q (F0 m pc ls st0) := by
  have hF := va_free (wc := wc) hD hS hA isC hC
  refine va_calli hr hS (fun q _ h => hF q h) hF (fun r u t H1 locs1 ht hvm hw hB hz1 hk1 hS1 => ?_)
  obtain ⟨hP1, hD1⟩ := hB
  rw [ht] at hP1
  obtain ⟨h1, h2⟩ := jn hP hD isC isR isN hC hR hn hdis hN hN' hnN hk1 hF hP1 hD1
  obtain ⟨hw, hz⟩ := hw
  subst hw
  exact kk H1 locs1 hz h1 h2 hS1
theorem af_v (hr : va_Run p l e R s m args below meth c H locs cells slots mc ms (F0 m pc ls st0) rest (QV D w1 (va_A wc H.size) a) (va_A wc H.size)) (hP : va_P D vwCl ws H) (hD : va_D A0 ws) (hS : va_S A0 s.heap H locs) (hA : ∀ q : Nat, s.heap.size ≤ q → A0 q)
    (isC isR isN : List Nat) (hC : isC.map (fun i => ws[i]?) = wc.map some) (hR : isR.map (fun i => ws[i]?) = wr.map some) (hn : va_nd isR = true) (hdis : ∀ i ∈ isR, i ∉ isC) (hN : isN.map (fun i => (wr ++ w1)[i]?) = wn.map some) (hN' : isN.filterMap (fun i => (wr ++ w1)[i]?) = wn) (hnN : va_nd isN = true)
    (kk : ∀ (H1 : Heap) (locs1 : List Loc), va_P D vwCl wn H1 → va_D A0 wn → va_S A0 s.heap H1 locs1 → W p l e R s m args below meth c H1 locs1 (cells + mc) (slots + ms) Q (F0 m (pc + 3) ls rest)) : W p l e R s m args below meth c H locs cells slots Q (F0 m pc ls st0) := by
  have hF := va_free (wc := wc) hD hS hA isC hC
  refine va_callv hr hS (fun q _ h => hF q h) hF (fun u t H1 locs1 ht hvm hw hB hz1 hk1 hS1 => ?_)
  obtain ⟨hP1, hD1⟩ := hB
  rw [ht] at hP1
  obtain ⟨h1, h2⟩ := jn hP hD isC isR isN hC hR hn hdis hN hN' hnN hk1 hF hP1 hD1
  exact kk H1 locs1 h1 h2 hS1
theorem af_d {r0 : UInt64} (hr : va_Run p l e R s m args below meth c H locs cells slots mc ms (F0 m pc ls st0) rest (QD D r0 w1 (va_A wc H.size) a) (va_A wc H.size)) (hP : va_P D vwCl ws H) (hD : va_D A0 ws) (hS : va_S A0 s.heap H locs) (hA : ∀ q : Nat, s.heap.size ≤ q → A0 q)
    (isC isR isN : List Nat) (hC : isC.map (fun i => ws[i]?) = wc.map some) (hR : isR.map (fun i => ws[i]?) = wr.map some) (hn : va_nd isR = true) (hdis : ∀ i ∈ isR, i ∉ isC) (hN : isN.map (fun i => (wr ++ w1)[i]?) = wn.map some) (hN' : isN.filterMap (fun i => (wr ++ w1)[i]?) = wn) (hnN : va_nd isN = true)
    (kk : ∀ (H1 : Heap) (locs1 : List Loc), va_P D vwCl wn H1 → va_D A0 wn → va_S A0 s.heap H1 locs1 → W p l e R s m args below meth c H1 locs1 (cells + mc) (slots + ms) Q (F0 m (pc + 3) ls (.double r0 :: rest))) : W p l e R s m args below meth c H locs cells slots Q (F0 m pc ls st0) := by
  have hF := va_free (wc := wc) hD hS hA isC hC
  refine va_calld hr hS (fun q _ h => hF q h) hF (fun r u t H1 locs1 ht hvm hw hB hz1 hk1 hS1 => ?_)
  obtain ⟨hP1, hD1⟩ := hB
  rw [ht] at hP1
  obtain ⟨h1, h2⟩ := jn hP hD isC isR isN hC hR hn hdis hN hN' hnN hk1 hF hP1 hD1
  subst hw
  exact kk H1 locs1 h1 h2 hS1
theorem af_iu {r0 : Int32} {w1 wn : (Nat → Nat) → va_W} (hr : va_Run p l e R s m args below meth c H locs cells slots mc ms (F0 m pc ls st0) rest (QIu D r0 w1 (va_A wc H.size) a) (va_A wc H.size)) (hP : va_P D vwCl ws H) (hD : va_D A0 ws) (hS : va_S A0 s.heap H locs) (hA : ∀ q : Nat, s.heap.size ≤ q → A0 q)
    (isC isR isN : List Nat) (hC : isC.map (fun i => ws[i]?) = wc.map some) (hR : isR.map (fun i => ws[i]?) = wr.map some) (hn : va_nd isR = true) (hdis : ∀ i ∈ isR, i ∉ isC) (hN : ∀ u, isN.map (fun i => (wr ++ w1 u)[i]?) = (wn u).map some) (hN' : ∀ u, isN.filterMap (fun i => (wr ++ w1 u)[i]?) = wn u) (hnN : va_nd isN = true)
    (kk : ∀ (u : Nat → Nat) (H1 : Heap) (locs1 : List Loc), va_P D vwCl (wn u) H1 → va_D A0 (wn u) → va_S A0 s.heap H1 locs1 → W p l e R s m args below meth c H1 locs1 (cells + mc) (slots + ms) Q (F0 m (pc + 3) ls (.int r0 :: rest))) : W p l e R s m args below meth c H locs cells slots Q (F0 m pc ls st0) := by
  have hF := va_free (wc := wc) hD hS hA isC hC
  refine va_calli hr hS (fun q _ h => hF q h) hF (fun r u t H1 locs1 ht hvm hw hB hz1 hk1 hS1 => ?_)
  obtain ⟨hP1, hD1⟩ := hB
  rw [ht] at hP1
  obtain ⟨h1, h2⟩ := jn hP hD isC isR isN hC hR hn hdis (hN u) (hN' u) hnN hk1 hF hP1 hD1
  subst hw
  exact kk u H1 locs1 h1 h2 hS1
theorem af_vu {w1 wn : (Nat → Nat) → va_W} (hr : va_Run p l e R s m args below meth c H locs cells slots mc ms (F0 m pc ls st0) rest (QVu D w1 (va_A wc H.size) a) (va_A wc H.size)) (hP : va_P D vwCl ws H) (hD : va_D A0 ws) (hS : va_S A0 s.heap H locs) (hA : ∀ q : Nat, s.heap.size ≤ q → A0 q)
    (isC isR isN : List Nat) (hC : isC.map (fun i => ws[i]?) = wc.map some) (hR : isR.map (fun i => ws[i]?) = wr.map some) (hn : va_nd isR = true) (hdis : ∀ i ∈ isR, i ∉ isC) (hN : ∀ u, isN.map (fun i => (wr ++ w1 u)[i]?) = (wn u).map some) (hN' : ∀ u, isN.filterMap (fun i => (wr ++ w1 u)[i]?) = wn u) (hnN : va_nd isN = true)
    (kk : ∀ (u : Nat → Nat) (H1 : Heap) (locs1 : List Loc), va_P D vwCl (wn u) H1 → va_D A0 (wn u) → va_S A0 s.heap H1 locs1 → W p l e R s m args below meth c H1 locs1 (cells + mc) (slots + ms) Q (F0 m (pc + 3) ls rest)) : W p l e R s m args below meth c H locs cells slots Q (F0 m pc ls st0) := by
  have hF := va_free (wc := wc) hD hS hA isC hC
  refine va_callv hr hS (fun q _ h => hF q h) hF (fun u t H1 locs1 ht hvm hw hB hz1 hk1 hS1 => ?_)
  obtain ⟨hP1, hD1⟩ := hB
  rw [ht] at hP1
  obtain ⟨h1, h2⟩ := jn hP hD isC isR isN hC hR hn hdis (hN u) (hN' u) hnN hk1 hF hP1 hD1
  exact kk u H1 locs1 h1 h2 hS1
end CA
end
section
theorem qw0 : Cond.selects RX10 yX10_begin yX10_begin ∈ lw_all := lw_in (List.mem_of_getElem? (i := 0) (by decide +kernel)) rfl
theorem qw1 : Cond.selects RX10 yX10_readStart yX10_readStart ∈ lw_all := lw_in (List.mem_of_getElem? (i := 1) (by decide +kernel)) rfl
theorem qw2 : Cond.selects RX2 yX2_beginChange yX2_beginChange ∈ lw_all := lw_in (List.mem_of_getElem? (i := 2) (by decide +kernel)) rfl
theorem qw3 : Cond.selects RX2 yX2_accepts yX2_accepts ∈ lw_all := lw_in (List.mem_of_getElem? (i := 3) (by decide +kernel)) rfl
theorem qw4 : Cond.selects RX2 yX2_acceptsDot yX2_acceptsDot ∈ lw_all := lw_in (List.mem_of_getElem? (i := 4) (by decide +kernel)) rfl
theorem qw5 : Cond.selects RX2 yX2_isChangeComplete yX2_isChangeComplete ∈ lw_all := lw_in (List.mem_of_getElem? (i := 5) (by decide +kernel)) rfl
theorem qw6 : Cond.selects RX2 yX2_keepChange yX2_keepChange ∈ lw_all := lw_in (List.mem_of_getElem? (i := 6) (by decide +kernel)) rfl
theorem qw7 : Cond.selects RX2 yX2_acceptsCross yX2_acceptsCross ∈ lw_all := lw_in (List.mem_of_getElem? (i := 7) (by decide +kernel)) rfl
theorem qw8 : Cond.selects RX2 yX2_acceptsPlace yX2_acceptsPlace ∈ lw_all := lw_in (List.mem_of_getElem? (i := 8) (by decide +kernel)) rfl
theorem qw9 : Cond.selects RX0 yX0_dropOldest yX0_dropOldest ∈ lw_all := lw_in (List.mem_of_getElem? (i := 9) (by decide +kernel)) rfl
theorem qw10 : Cond.selects RX10 yX10_isBell yX10_isBell ∈ lw_all := lw_in (List.mem_of_getElem? (i := 10) (by decide +kernel)) rfl
theorem qw11 : Cond.selects RX5 yX5_keep yX5_keep ∈ lw_all := lw_in (List.mem_of_getElem? (i := 11) (by decide +kernel)) rfl
theorem qw12 : Cond.selects RX5 yX5_findFirsts yX5_findFirsts ∈ lw_all := lw_in (List.mem_of_getElem? (i := 12) (by decide +kernel)) rfl
theorem qw13 : Cond.selects RX5 yX5_firstWithRank yX5_firstWithRank ∈ lw_all := lw_in (List.mem_of_getElem? (i := 13) (by decide +kernel)) rfl
theorem qw14 : Cond.selects RX7 yX7_reach yX7_reach ∈ lw_all := lw_in (List.mem_of_getElem? (i := 14) (by decide +kernel)) rfl
theorem qw15 : Cond.selects RX5 yX5_dodgesAt yX5_dodgesAt ∈ lw_all := lw_in (List.mem_of_getElem? (i := 15) (by decide +kernel)) rfl
theorem qw16 : Cond.selects RX10 yX10_countRows yX10_countRows ∈ lw_all := lw_in (List.mem_of_getElem? (i := 16) (by decide +kernel)) rfl
theorem qw17 : Cond.selects RX5 yX5_isFirst yX5_isFirst ∈ lw_all := lw_in (List.mem_of_getElem? (i := 17) (by decide +kernel)) rfl
theorem qw18 : Cond.selects RX5 yX5_areFalse yX5_areFalse ∈ lw_all := lw_in (List.mem_of_getElem? (i := 18) (by decide +kernel)) rfl
theorem qw19 : Cond.selects RX10 yX10_lastOrder yX10_lastOrder ∈ lw_all := lw_in (List.mem_of_getElem? (i := 19) (by decide +kernel)) rfl
theorem qw20 : Cond.selects RX1 yX1_callFrom yX1_callFrom ∈ lw_all := lw_in (List.mem_of_getElem? (i := 20) (by decide +kernel)) rfl
theorem qw21 : Cond.selects RX1 yX1_behind yX1_behind ∈ lw_all := lw_in (List.mem_of_getElem? (i := 21) (by decide +kernel)) rfl
theorem qw22 : Cond.selects RX11 yX11_lays yX11_lays ∈ lw_all := lw_in (List.mem_of_getElem? (i := 22) (by decide +kernel)) rfl
theorem qw23 : Cond.selects RX11 yX11_changes yX11_changes ∈ lw_all := lw_in (List.mem_of_getElem? (i := 23) (by decide +kernel)) rfl
theorem qw24 : Cond.selects RX11 yX11_methodFault yX11_methodFault ∈ lw_all := lw_in (List.mem_of_getElem? (i := 24) (by decide +kernel)) rfl
theorem qw25 : Cond.selects RX11 yX11_readsChange yX11_readsChange ∈ lw_all := lw_in (List.mem_of_getElem? (i := 25) (by decide +kernel)) rfl
theorem qw26 : Cond.selects RX11 yX11_isAt yX11_isAt ∈ lw_all := lw_in (List.mem_of_getElem? (i := 26) (by decide +kernel)) rfl
theorem qw27 : Cond.selects RX11 yX11_isRight yX11_isRight ∈ lw_all := lw_in (List.mem_of_getElem? (i := 27) (by decide +kernel)) rfl
theorem qw28 : Cond.selects RX11 yX11_couldBeRight yX11_couldBeRight ∈ lw_all := lw_in (List.mem_of_getElem? (i := 28) (by decide +kernel)) rfl
theorem qw29 : Cond.selects RX11 yX11_touchFault yX11_touchFault ∈ lw_all := lw_in (List.mem_of_getElem? (i := 29) (by decide +kernel)) rfl
theorem qw30 : Cond.selects RX11 yX11_isRow yX11_isRow ∈ lw_all := lw_in (List.mem_of_getElem? (i := 30) (by decide +kernel)) rfl
theorem qw31 : Cond.selects RX11 yX11_last yX11_last ∈ lw_all := lw_in (List.mem_of_getElem? (i := 31) (by decide +kernel)) rfl
theorem qw32 : Cond.selects RX11 yX11_isPlace yX11_isPlace ∈ lw_all := lw_in (List.mem_of_getElem? (i := 32) (by decide +kernel)) rfl
theorem qw33 : Cond.selects RX11 yX11_ringsAll yX11_ringsAll ∈ lw_all := lw_in (List.mem_of_getElem? (i := 33) (by decide +kernel)) rfl
theorem qw34 : Cond.selects RX11 yX11_toRounds yX11_toRounds ∈ lw_all := lw_in (List.mem_of_getElem? (i := 34) (by decide +kernel)) rfl
theorem qw35 : Cond.selects RX11 yX11_ringsLead yX11_ringsLead ∈ lw_all := lw_in (List.mem_of_getElem? (i := 35) (by decide +kernel)) rfl
theorem qw36 : Cond.selects RX11 yX11_changeOf yX11_changeOf ∈ lw_all := lw_in (List.mem_of_getElem? (i := 36) (by decide +kernel)) rfl
theorem qw37 : Cond.selects RX11 yX11_rings yX11_rings ∈ lw_all := lw_in (List.mem_of_getElem? (i := 37) (by decide +kernel)) rfl
theorem qw38 : Cond.selects RX11 yX11_rank yX11_rank ∈ lw_all := lw_in (List.mem_of_getElem? (i := 38) (by decide +kernel)) rfl
theorem qw39 : Cond.selects RX11 yX11_unrank yX11_unrank ∈ lw_all := lw_in (List.mem_of_getElem? (i := 39) (by decide +kernel)) rfl
theorem qw40 : Cond.selects RX11 yX11_signByPairs yX11_signByPairs ∈ lw_all := lw_in (List.mem_of_getElem? (i := 40) (by decide +kernel)) rfl
theorem qw41 : Cond.selects RX11 yX11_signByRings yX11_signByRings ∈ lw_all := lw_in (List.mem_of_getElem? (i := 41) (by decide +kernel)) rfl
theorem qw42 : Cond.selects RX11 yX11_soundsWell yX11_soundsWell ∈ lw_all := lw_in (List.mem_of_getElem? (i := 42) (by decide +kernel)) rfl
theorem qw43 : Cond.selects RX11 yX11_atHome yX11_atHome ∈ lw_all := lw_in (List.mem_of_getElem? (i := 43) (by decide +kernel)) rfl
theorem qw44 : Cond.selects RX11 yX11_firstSame yX11_firstSame ∈ lw_all := lw_in (List.mem_of_getElem? (i := 44) (by decide +kernel)) rfl
theorem qw45 : Cond.selects RX11 yX11_spreads yX11_spreads ∈ lw_all := lw_in (List.mem_of_getElem? (i := 45) (by decide +kernel)) rfl
theorem qw46 : Cond.selects RX11 yX11_spreadsFrom yX11_spreadsFrom ∈ lw_all := lw_in (List.mem_of_getElem? (i := 46) (by decide +kernel)) rfl
theorem qw47 : Cond.selects RX11 yX11_takesLeads yX11_takesLeads ∈ lw_all := lw_in (List.mem_of_getElem? (i := 47) (by decide +kernel)) rfl
theorem qw48 : Cond.selects RX11 yX11_moved yX11_moved ∈ lw_all := lw_in (List.mem_of_getElem? (i := 48) (by decide +kernel)) rfl
theorem qw49 : Cond.selects RX11 yX11_follows yX11_follows ∈ lw_all := lw_in (List.mem_of_getElem? (i := 49) (by decide +kernel)) rfl
theorem qw50 : Cond.selects RX11 yX11_dodges yX11_dodges ∈ lw_all := lw_in (List.mem_of_getElem? (i := 50) (by decide +kernel)) rfl
theorem qw51 : Cond.selects RX11 yX11_rowsAt yX11_rowsAt ∈ lw_all := lw_in (List.mem_of_getElem? (i := 51) (by decide +kernel)) rfl
theorem qw52 : Cond.selects RX11 yX11_stays yX11_stays ∈ lw_all := lw_in (List.mem_of_getElem? (i := 52) (by decide +kernel)) rfl
theorem qw53 : Cond.selects RX11 yX11_roundAt yX11_roundAt ∈ lw_all := lw_in (List.mem_of_getElem? (i := 53) (by decide +kernel)) rfl
theorem qw54 : Cond.selects RX11 yX11_firstTwice yX11_firstTwice ∈ lw_all := lw_in (List.mem_of_getElem? (i := 54) (by decide +kernel)) rfl
theorem qw55 : Cond.selects RX11 yX11_unlike yX11_unlike ∈ lw_all := lw_in (List.mem_of_getElem? (i := 55) (by decide +kernel)) rfl
theorem qw56 : Cond.selects RX11 yX11_falsePairs yX11_falsePairs ∈ lw_all := lw_in (List.mem_of_getElem? (i := 56) (by decide +kernel)) rfl
theorem qw57 : Cond.selects RX11 yX11_areFalse yX11_areFalse ∈ lw_all := lw_in (List.mem_of_getElem? (i := 57) (by decide +kernel)) rfl
theorem qw58 : Cond.selects RX11 yX11_musical yX11_musical ∈ lw_all := lw_in (List.mem_of_getElem? (i := 58) (by decide +kernel)) rfl
theorem qw59 : Cond.selects RX11 yX11_called yX11_called ∈ lw_all := lw_in (List.mem_of_getElem? (i := 59) (by decide +kernel)) rfl
theorem qw60 : Cond.selects RX11 yX11_plainCourse yX11_plainCourse ∈ lw_all := lw_in (List.mem_of_getElem? (i := 60) (by decide +kernel)) rfl
theorem qw61 : Cond.initialized RL ∈ lw_all := lw_in (List.mem_of_getElem? (i := 61) (by decide +kernel)) rfl
theorem qw62 : Cond.initialized RX10 ∈ lw_all := lw_in (List.mem_of_getElem? (i := 62) (by decide +kernel)) rfl
theorem qw63 : Cond.initialized RX9 ∈ lw_all := lw_in (List.mem_of_getElem? (i := 63) (by decide +kernel)) rfl
theorem qw64 : Cond.initialized RX0 ∈ lw_all := lw_in (List.mem_of_getElem? (i := 64) (by decide +kernel)) rfl
theorem qw65 : Cond.initialized RX3 ∈ lw_all := lw_in (List.mem_of_getElem? (i := 65) (by decide +kernel)) rfl
theorem qw66 : Cond.initialized RX2 ∈ lw_all := lw_in (List.mem_of_getElem? (i := 66) (by decide +kernel)) rfl
theorem qw67 : Cond.initialized RX5 ∈ lw_all := lw_in (List.mem_of_getElem? (i := 67) (by decide +kernel)) rfl
theorem qw68 : Cond.initialized RX1 ∈ lw_all := lw_in (List.mem_of_getElem? (i := 68) (by decide +kernel)) rfl
theorem qw69 : Cond.initialized RX7 ∈ lw_all := lw_in (List.mem_of_getElem? (i := 69) (by decide +kernel)) rfl
theorem qw70 : Cond.initialized RX8 ∈ lw_all := lw_in (List.mem_of_getElem? (i := 70) (by decide +kernel)) rfl
theorem qw71 : Cond.initialized RJ0 ∈ lw_all := lw_in (List.mem_of_getElem? (i := 71) (by decide +kernel)) rfl
theorem qw72 : Cond.initialized RJ1 ∈ lw_all := lw_in (List.mem_of_getElem? (i := 72) (by decide +kernel)) rfl
theorem qw73 : Cond.initialized RJ2 ∈ lw_all := lw_in (List.mem_of_getElem? (i := 73) (by decide +kernel)) rfl
theorem qw74 : Cond.initialized RJ3 ∈ lw_all := lw_in (List.mem_of_getElem? (i := 74) (by decide +kernel)) rfl
theorem qw75 : Cond.initialized RX4 ∈ lw_all := lw_in (List.mem_of_getElem? (i := 75) (by decide +kernel)) rfl
theorem qw76 : Cond.initialized RJ10 ∈ lw_all := lw_in (List.mem_of_getElem? (i := 76) (by decide +kernel)) rfl
theorem qw77 : Cond.initialized RX11 ∈ lw_all := lw_in (List.mem_of_getElem? (i := 77) (by decide +kernel)) rfl
theorem qw78 : Cond.initialized RX6 ∈ lw_all := lw_in (List.mem_of_getElem? (i := 78) (by decide +kernel)) rfl
theorem qw79 : Cond.initialized RJ6 ∈ lw_all := lw_in (List.mem_of_getElem? (i := 79) (by decide +kernel)) rfl
theorem qw80 : Cond.initialized RJ7 ∈ lw_all := lw_in (List.mem_of_getElem? (i := 80) (by decide +kernel)) rfl
theorem qw81 : Cond.classLink RL 7 RX10 ∈ lw_all := lw_in (List.mem_of_getElem? (i := 81) (by decide +kernel)) rfl
theorem qw82 : Cond.instantiable RX10 9 ∈ lw_all := lw_in (List.mem_of_getElem? (i := 82) (by decide +kernel)) rfl
theorem qw83 : Cond.methodLink RL 9 yX10_init ∈ lw_all := lw_in (List.mem_of_getElem? (i := 83) (by decide +kernel)) rfl
theorem qw84 : Cond.instanceMethod yX10_init ∈ lw_all := lw_in (List.mem_of_getElem? (i := 84) (by decide +kernel)) rfl
theorem qw85 : Cond.code yX10_init cX10_init 1 none ∈ lw_all := lw_in (List.mem_of_getElem? (i := 85) (by decide +kernel)) rfl
theorem qw86 : Cond.methodLink RX10 3 ⟨"java/lang/Object", "<init>", "()V"⟩ ∈ lw_all := lw_in (List.mem_of_getElem? (i := 86) (by decide +kernel)) rfl
theorem qw87 : Cond.instanceMethod ⟨"java/lang/Object", "<init>", "()V"⟩ ∈ lw_all := lw_in (List.mem_of_getElem? (i := 87) (by decide +kernel)) rfl
theorem qw89 : Cond.classLink RX10 9 RX9 ∈ lw_all := lw_in (List.mem_of_getElem? (i := 89) (by decide +kernel)) rfl
theorem qw90 : Cond.instantiable RX9 7 ∈ lw_all := lw_in (List.mem_of_getElem? (i := 90) (by decide +kernel)) rfl
theorem qw91 : Cond.methodLinkNest RX10 11 yX9_init "CalledTouches" ∈ lw_nest := lw_inN (List.mem_of_getElem? (i := 91) (by decide +kernel)) rfl
theorem qw92 : Cond.instanceMethod yX9_init ∈ lw_all := lw_in (List.mem_of_getElem? (i := 92) (by decide +kernel)) rfl
theorem qw93 : Cond.code yX9_init cX9_init 1 none ∈ lw_all := lw_in (List.mem_of_getElem? (i := 93) (by decide +kernel)) rfl
theorem qw94 : Cond.methodLink RX9 3 ⟨"java/lang/Object", "<init>", "()V"⟩ ∈ lw_all := lw_in (List.mem_of_getElem? (i := 94) (by decide +kernel)) rfl
theorem qw95 : Cond.fieldLink RX9 18 "CalledTouches$Touch" "bells" "I" ∈ lw_all := lw_in (List.mem_of_getElem? (i := 95) (by decide +kernel)) rfl
theorem qw96 : Cond.fieldLinkNest RX5 21 "CalledTouches$Touch" "bells" "I" "CalledTouches" ∈ lw_nest := lw_inN (List.mem_of_getElem? (i := 96) (by decide +kernel)) rfl
theorem qw97 : Cond.fieldLinkNest RX1 32 "CalledTouches$Touch" "bells" "I" "CalledTouches" ∈ lw_nest := lw_inN (List.mem_of_getElem? (i := 97) (by decide +kernel)) rfl
theorem qw98 : Cond.fieldLinkNest RX10 65 "CalledTouches$Touch" "bells" "I" "CalledTouches" ∈ lw_nest := lw_inN (List.mem_of_getElem? (i := 98) (by decide +kernel)) rfl
theorem qw99 : Cond.fieldLink RX9 22 "CalledTouches$Touch" "changes" "I" ∈ lw_all := lw_in (List.mem_of_getElem? (i := 99) (by decide +kernel)) rfl
theorem qw100 : Cond.fieldLinkNest RX5 28 "CalledTouches$Touch" "changes" "I" "CalledTouches" ∈ lw_nest := lw_inN (List.mem_of_getElem? (i := 100) (by decide +kernel)) rfl
theorem qw101 : Cond.fieldLinkNest RX10 88 "CalledTouches$Touch" "changes" "I" "CalledTouches" ∈ lw_nest := lw_inN (List.mem_of_getElem? (i := 101) (by decide +kernel)) rfl
theorem qw102 : Cond.fieldLink RX9 25 "CalledTouches$Touch" "bob" "I" ∈ lw_all := lw_in (List.mem_of_getElem? (i := 102) (by decide +kernel)) rfl
theorem qw103 : Cond.fieldLinkNest RX10 97 "CalledTouches$Touch" "bob" "I" "CalledTouches" ∈ lw_nest := lw_inN (List.mem_of_getElem? (i := 103) (by decide +kernel)) rfl
theorem qw104 : Cond.fieldLink RX9 28 "CalledTouches$Touch" "single" "I" ∈ lw_all := lw_in (List.mem_of_getElem? (i := 104) (by decide +kernel)) rfl
theorem qw105 : Cond.fieldLinkNest RX10 100 "CalledTouches$Touch" "single" "I" "CalledTouches" ∈ lw_nest := lw_inN (List.mem_of_getElem? (i := 105) (by decide +kernel)) rfl
theorem qw106 : Cond.fieldLinkNest RX5 32 "CalledTouches$Touch" "leads" "I" "CalledTouches" ∈ lw_nest := lw_inN (List.mem_of_getElem? (i := 106) (by decide +kernel)) rfl
theorem qw107 : Cond.fieldLink RX9 31 "CalledTouches$Touch" "leads" "I" ∈ lw_all := lw_in (List.mem_of_getElem? (i := 107) (by decide +kernel)) rfl
theorem qw108 : Cond.fieldLinkNest RX10 107 "CalledTouches$Touch" "leads" "I" "CalledTouches" ∈ lw_nest := lw_inN (List.mem_of_getElem? (i := 108) (by decide +kernel)) rfl
theorem qw109 : Cond.fieldLink RX9 9 "CalledTouches$Touch" "places" "[I" ∈ lw_all := lw_in (List.mem_of_getElem? (i := 109) (by decide +kernel)) rfl
theorem qw110 : Cond.fieldLink RX9 15 "CalledTouches$Touch" "kinds" "[I" ∈ lw_all := lw_in (List.mem_of_getElem? (i := 110) (by decide +kernel)) rfl
theorem qw126 : Cond.arrayClass .int ∈ lw_all := lw_in (List.mem_of_getElem? (i := 126) (by decide +kernel)) rfl
theorem qw127 : Cond.classLink RX10 22 RX0 ∈ lw_all := lw_in (List.mem_of_getElem? (i := 127) (by decide +kernel)) rfl
theorem qw128 : Cond.instantiable RX0 2 ∈ lw_all := lw_in (List.mem_of_getElem? (i := 128) (by decide +kernel)) rfl
theorem qw129 : Cond.methodLink RX10 24 yX0_init ∈ lw_all := lw_in (List.mem_of_getElem? (i := 129) (by decide +kernel)) rfl
theorem qw130 : Cond.instanceMethod yX0_init ∈ lw_all := lw_in (List.mem_of_getElem? (i := 130) (by decide +kernel)) rfl
theorem qw131 : Cond.code yX0_init cX0_init 2 none ∈ lw_all := lw_in (List.mem_of_getElem? (i := 131) (by decide +kernel)) rfl
theorem qw132 : Cond.methodLink RX0 3 ⟨"java/lang/Object", "<init>", "()V"⟩ ∈ lw_all := lw_in (List.mem_of_getElem? (i := 132) (by decide +kernel)) rfl
theorem qw133 : Cond.classLink RX0 9 RX9 ∈ lw_all := lw_in (List.mem_of_getElem? (i := 133) (by decide +kernel)) rfl
theorem qw135 : Cond.methodLinkNest RX0 17 yX9_init "CalledTouches" ∈ lw_nest := lw_inN (List.mem_of_getElem? (i := 135) (by decide +kernel)) rfl
theorem qw136 : Cond.fieldLink RX0 11 "CalledTouches$History" "states" "[LCalledTouches$Touch;" ∈ lw_all := lw_in (List.mem_of_getElem? (i := 136) (by decide +kernel)) rfl
theorem qw137 : Cond.fieldLink RX0 18 "CalledTouches$History" "size" "I" ∈ lw_all := lw_in (List.mem_of_getElem? (i := 137) (by decide +kernel)) rfl
theorem qw138 : Cond.fieldLinkNest RX10 192 "CalledTouches$History" "size" "I" "CalledTouches" ∈ lw_nest := lw_inN (List.mem_of_getElem? (i := 138) (by decide +kernel)) rfl
theorem qw144 : Cond.classLink RX10 29 RX3 ∈ lw_all := lw_in (List.mem_of_getElem? (i := 144) (by decide +kernel)) rfl
theorem qw145 : Cond.instantiable RX3 2 ∈ lw_all := lw_in (List.mem_of_getElem? (i := 145) (by decide +kernel)) rfl
theorem qw146 : Cond.methodLinkNest RX10 31 yX3_init "CalledTouches" ∈ lw_nest := lw_inN (List.mem_of_getElem? (i := 146) (by decide +kernel)) rfl
theorem qw147 : Cond.instanceMethod yX3_init ∈ lw_all := lw_in (List.mem_of_getElem? (i := 147) (by decide +kernel)) rfl
theorem qw148 : Cond.code yX3_init cX3_init 1 none ∈ lw_all := lw_in (List.mem_of_getElem? (i := 148) (by decide +kernel)) rfl
theorem qw149 : Cond.methodLink RX3 3 ⟨"java/lang/Object", "<init>", "()V"⟩ ∈ lw_all := lw_in (List.mem_of_getElem? (i := 149) (by decide +kernel)) rfl
theorem qw150 : Cond.fieldLink RX3 9 "CalledTouches$Pad" "signs" "[C" ∈ lw_all := lw_in (List.mem_of_getElem? (i := 150) (by decide +kernel)) rfl
theorem qw151 : Cond.fieldLinkNest RX10 73 "CalledTouches$Pad" "signs" "[C" "CalledTouches" ∈ lw_nest := lw_inN (List.mem_of_getElem? (i := 151) (by decide +kernel)) rfl
theorem qw152 : Cond.fieldLink RX3 15 "CalledTouches$Pad" "length" "I" ∈ lw_all := lw_in (List.mem_of_getElem? (i := 152) (by decide +kernel)) rfl
theorem qw153 : Cond.fieldLinkNest RX10 77 "CalledTouches$Pad" "length" "I" "CalledTouches" ∈ lw_nest := lw_inN (List.mem_of_getElem? (i := 153) (by decide +kernel)) rfl
theorem qw159 : Cond.arrayClass .char ∈ lw_all := lw_in (List.mem_of_getElem? (i := 159) (by decide +kernel)) rfl
theorem qw160 : Cond.classLink RX10 36 RX2 ∈ lw_all := lw_in (List.mem_of_getElem? (i := 160) (by decide +kernel)) rfl
theorem qw161 : Cond.instantiable RX2 5 ∈ lw_all := lw_in (List.mem_of_getElem? (i := 161) (by decide +kernel)) rfl
theorem qw162 : Cond.methodLinkNest RX10 38 yX2_init "CalledTouches" ∈ lw_nest := lw_inN (List.mem_of_getElem? (i := 162) (by decide +kernel)) rfl
theorem qw163 : Cond.instanceMethod yX2_init ∈ lw_all := lw_in (List.mem_of_getElem? (i := 163) (by decide +kernel)) rfl
theorem qw164 : Cond.code yX2_init cX2_init 1 none ∈ lw_all := lw_in (List.mem_of_getElem? (i := 164) (by decide +kernel)) rfl
theorem qw165 : Cond.methodLink RX2 3 ⟨"java/lang/Object", "<init>", "()V"⟩ ∈ lw_all := lw_in (List.mem_of_getElem? (i := 165) (by decide +kernel)) rfl
theorem qw166 : Cond.fieldLink RX2 9 "CalledTouches$MethodReader" "places" "[I" ∈ lw_all := lw_in (List.mem_of_getElem? (i := 166) (by decide +kernel)) rfl
theorem qw167 : Cond.fieldLinkNest RX9 43 "CalledTouches$MethodReader" "places" "[I" "CalledTouches" ∈ lw_nest := lw_inN (List.mem_of_getElem? (i := 167) (by decide +kernel)) rfl
theorem qw168 : Cond.fieldLinkNest RX10 243 "CalledTouches$MethodReader" "places" "[I" "CalledTouches" ∈ lw_nest := lw_inN (List.mem_of_getElem? (i := 168) (by decide +kernel)) rfl
theorem qw169 : Cond.fieldLink RX2 15 "CalledTouches$MethodReader" "changes" "I" ∈ lw_all := lw_in (List.mem_of_getElem? (i := 169) (by decide +kernel)) rfl
theorem qw170 : Cond.fieldLinkNest RX9 40 "CalledTouches$MethodReader" "changes" "I" "CalledTouches" ∈ lw_nest := lw_inN (List.mem_of_getElem? (i := 170) (by decide +kernel)) rfl
theorem qw171 : Cond.fieldLink RX2 47 "CalledTouches$MethodReader" "made" "I" ∈ lw_all := lw_in (List.mem_of_getElem? (i := 171) (by decide +kernel)) rfl
theorem qw172 : Cond.fieldLink RX2 55 "CalledTouches$MethodReader" "lastPlace" "I" ∈ lw_all := lw_in (List.mem_of_getElem? (i := 172) (by decide +kernel)) rfl
theorem qw173 : Cond.fieldLink RX2 43 "CalledTouches$MethodReader" "crossed" "Z" ∈ lw_all := lw_in (List.mem_of_getElem? (i := 173) (by decide +kernel)) rfl
theorem qw185 : Cond.classLink RX10 43 RX5 ∈ lw_all := lw_in (List.mem_of_getElem? (i := 185) (by decide +kernel)) rfl
theorem qw186 : Cond.instantiable RX5 7 ∈ lw_all := lw_in (List.mem_of_getElem? (i := 186) (by decide +kernel)) rfl
theorem qw187 : Cond.methodLinkNest RX10 45 yX5_init "CalledTouches" ∈ lw_nest := lw_inN (List.mem_of_getElem? (i := 187) (by decide +kernel)) rfl
theorem qw188 : Cond.instanceMethod yX5_init ∈ lw_all := lw_in (List.mem_of_getElem? (i := 188) (by decide +kernel)) rfl
theorem qw189 : Cond.code yX5_init cX5_init 1 none ∈ lw_all := lw_in (List.mem_of_getElem? (i := 189) (by decide +kernel)) rfl
theorem qw190 : Cond.methodLink RX5 3 ⟨"java/lang/Object", "<init>", "()V"⟩ ∈ lw_all := lw_in (List.mem_of_getElem? (i := 190) (by decide +kernel)) rfl
theorem qw191 : Cond.fieldLink RX5 9 "CalledTouches$Ringing" "rows" "[I" ∈ lw_all := lw_in (List.mem_of_getElem? (i := 191) (by decide +kernel)) rfl
theorem qw192 : Cond.fieldLink RX5 15 "CalledTouches$Ringing" "firsts" "[I" ∈ lw_all := lw_in (List.mem_of_getElem? (i := 192) (by decide +kernel)) rfl
theorem qw193 : Cond.fieldLink RX5 18 "CalledTouches$Ringing" "firstOfRank" "[I" ∈ lw_all := lw_in (List.mem_of_getElem? (i := 193) (by decide +kernel)) rfl
theorem qw194 : Cond.fieldLink RX5 27 "CalledTouches$Ringing" "bells" "I" ∈ lw_all := lw_in (List.mem_of_getElem? (i := 194) (by decide +kernel)) rfl
theorem qw195 : Cond.fieldLink RX5 31 "CalledTouches$Ringing" "changes" "I" ∈ lw_all := lw_in (List.mem_of_getElem? (i := 195) (by decide +kernel)) rfl
theorem qw196 : Cond.fieldLink RX5 35 "CalledTouches$Ringing" "leads" "I" ∈ lw_all := lw_in (List.mem_of_getElem? (i := 196) (by decide +kernel)) rfl
theorem qw197 : Cond.fieldLink RX5 42 "CalledTouches$Ringing" "last" "I" ∈ lw_all := lw_in (List.mem_of_getElem? (i := 197) (by decide +kernel)) rfl
theorem qw198 : Cond.fieldLinkNest RX10 180 "CalledTouches$Ringing" "last" "I" "CalledTouches" ∈ lw_nest := lw_inN (List.mem_of_getElem? (i := 198) (by decide +kernel)) rfl
theorem qw214 : Cond.classLink RX10 50 RX1 ∈ lw_all := lw_in (List.mem_of_getElem? (i := 214) (by decide +kernel)) rfl
theorem qw215 : Cond.instantiable RX1 5 ∈ lw_all := lw_in (List.mem_of_getElem? (i := 215) (by decide +kernel)) rfl
theorem qw216 : Cond.methodLinkNest RX10 52 yX1_init "CalledTouches" ∈ lw_nest := lw_inN (List.mem_of_getElem? (i := 216) (by decide +kernel)) rfl
theorem qw217 : Cond.instanceMethod yX1_init ∈ lw_all := lw_in (List.mem_of_getElem? (i := 217) (by decide +kernel)) rfl
theorem qw218 : Cond.code yX1_init cX1_init 1 none ∈ lw_all := lw_in (List.mem_of_getElem? (i := 218) (by decide +kernel)) rfl
theorem qw219 : Cond.methodLink RX1 3 ⟨"java/lang/Object", "<init>", "()V"⟩ ∈ lw_all := lw_in (List.mem_of_getElem? (i := 219) (by decide +kernel)) rfl
theorem qw220 : Cond.classLink RX1 9 RX7 ∈ lw_all := lw_in (List.mem_of_getElem? (i := 220) (by decide +kernel)) rfl
theorem qw221 : Cond.instantiable RX7 4 ∈ lw_all := lw_in (List.mem_of_getElem? (i := 221) (by decide +kernel)) rfl
theorem qw222 : Cond.methodLinkNest RX1 11 yX7_init "CalledTouches" ∈ lw_nest := lw_inN (List.mem_of_getElem? (i := 222) (by decide +kernel)) rfl
theorem qw223 : Cond.instanceMethod yX7_init ∈ lw_all := lw_in (List.mem_of_getElem? (i := 223) (by decide +kernel)) rfl
theorem qw224 : Cond.code yX7_init cX7_init 1 none ∈ lw_all := lw_in (List.mem_of_getElem? (i := 224) (by decide +kernel)) rfl
theorem qw225 : Cond.methodLink RX7 3 ⟨"java/lang/Object", "<init>", "()V"⟩ ∈ lw_all := lw_in (List.mem_of_getElem? (i := 225) (by decide +kernel)) rfl
theorem qw226 : Cond.fieldLink RX7 9 "CalledTouches$Spread" "fewest" "[I" ∈ lw_all := lw_in (List.mem_of_getElem? (i := 226) (by decide +kernel)) rfl
theorem qw227 : Cond.fieldLink RX7 15 "CalledTouches$Spread" "reached" "[I" ∈ lw_all := lw_in (List.mem_of_getElem? (i := 227) (by decide +kernel)) rfl
theorem qw228 : Cond.fieldLink RX7 18 "CalledTouches$Spread" "bells" "I" ∈ lw_all := lw_in (List.mem_of_getElem? (i := 228) (by decide +kernel)) rfl
theorem qw229 : Cond.fieldLink RX7 22 "CalledTouches$Spread" "size" "I" ∈ lw_all := lw_in (List.mem_of_getElem? (i := 229) (by decide +kernel)) rfl
theorem qw239 : Cond.fieldLink RX1 12 "CalledTouches$Homeward" "fromRounds" "LCalledTouches$Spread;" ∈ lw_all := lw_in (List.mem_of_getElem? (i := 239) (by decide +kernel)) rfl
theorem qw240 : Cond.fieldLink RX1 18 "CalledTouches$Homeward" "fromRow" "LCalledTouches$Spread;" ∈ lw_all := lw_in (List.mem_of_getElem? (i := 240) (by decide +kernel)) rfl
theorem qw241 : Cond.fieldLink RX1 21 "CalledTouches$Homeward" "leads" "[I" ∈ lw_all := lw_in (List.mem_of_getElem? (i := 241) (by decide +kernel)) rfl
theorem qw242 : Cond.fieldLink RX1 25 "CalledTouches$Homeward" "leadsBack" "[I" ∈ lw_all := lw_in (List.mem_of_getElem? (i := 242) (by decide +kernel)) rfl
theorem qw243 : Cond.fieldLink RX1 28 "CalledTouches$Homeward" "bells" "I" ∈ lw_all := lw_in (List.mem_of_getElem? (i := 243) (by decide +kernel)) rfl
theorem qw255 : Cond.methodLink RX10 57 yX10_begin ∈ lw_all := lw_in (List.mem_of_getElem? (i := 255) (by decide +kernel)) rfl
theorem qw257 : Cond.instanceMethod yX10_begin ∈ lw_all := lw_in (List.mem_of_getElem? (i := 257) (by decide +kernel)) rfl
theorem qw258 : Cond.code yX10_begin cX10_begin 2 none ∈ lw_all := lw_in (List.mem_of_getElem? (i := 258) (by decide +kernel)) rfl
theorem qw259 : Cond.methodLink RX10 234 yX8_bob ∈ lw_all := lw_in (List.mem_of_getElem? (i := 259) (by decide +kernel)) rfl
theorem qw260 : Cond.static yX8_bob ∈ lw_all := lw_in (List.mem_of_getElem? (i := 260) (by decide +kernel)) rfl
theorem qw261 : Cond.code yX8_bob cX8_bob 1 (some (.object RJ0)) ∈ lw_all := lw_in (List.mem_of_getElem? (i := 261) (by decide +kernel)) rfl
theorem qw265 : Cond.methodLink RX10 239 yX10_readStart ∈ lw_all := lw_in (List.mem_of_getElem? (i := 265) (by decide +kernel)) rfl
theorem qw267 : Cond.instanceMethod yX10_readStart ∈ lw_all := lw_in (List.mem_of_getElem? (i := 267) (by decide +kernel)) rfl
theorem qw268 : Cond.code yX10_readStart cX10_readStart 3 none ∈ lw_all := lw_in (List.mem_of_getElem? (i := 268) (by decide +kernel)) rfl
theorem qw269 : Cond.methodLink RX10 252 yJ0_toCharArray_70df3 ∈ lw_all := lw_in (List.mem_of_getElem? (i := 269) (by decide +kernel)) rfl
theorem qw270 : Cond.instanceMethod yJ0_toCharArray_70df3 ∈ lw_all := lw_in (List.mem_of_getElem? (i := 270) (by decide +kernel)) rfl
theorem qw271 : Cond.selects RJ0 yJ0_toCharArray_70df3 yJ0_toCharArray_70df3 ∈ lw_all := lw_in (List.mem_of_getElem? (i := 271) (by decide +kernel)) rfl
theorem qw272 : Cond.code yJ0_toCharArray_70df3 cJ0_toCharArray_70df3 1 (some (.array .char)) ∈ lw_all := lw_in (List.mem_of_getElem? (i := 272) (by decide +kernel)) rfl
theorem qw273 : Cond.methodLink RJ0 492 yJ0_isLatin1_aae02 ∈ lw_all := lw_in (List.mem_of_getElem? (i := 273) (by decide +kernel)) rfl
theorem qw274 : Cond.instanceMethod yJ0_isLatin1_aae02 ∈ lw_all := lw_in (List.mem_of_getElem? (i := 274) (by decide +kernel)) rfl
theorem qw275 : Cond.selects RJ0 yJ0_isLatin1_aae02 yJ0_isLatin1_aae02 ∈ lw_all := lw_in (List.mem_of_getElem? (i := 275) (by decide +kernel)) rfl
theorem qw276 : Cond.code yJ0_isLatin1_aae02 cJ0_isLatin1_aae02 1 (some .boolean) ∈ lw_all := lw_in (List.mem_of_getElem? (i := 276) (by decide +kernel)) rfl
theorem qw277 : Cond.fieldLink RJ0 38 "java/lang/String" "COMPACT_STRINGS" "Z" ∈ lw_all := lw_in (List.mem_of_getElem? (i := 277) (by decide +kernel)) rfl
theorem qw279 : Cond.methodLink RJ0 299 yJ1_toChars_9d188 ∈ lw_all := lw_in (List.mem_of_getElem? (i := 279) (by decide +kernel)) rfl
theorem qw280 : Cond.static yJ1_toChars_9d188 ∈ lw_all := lw_in (List.mem_of_getElem? (i := 280) (by decide +kernel)) rfl
theorem qw281 : Cond.code yJ1_toChars_9d188 cJ1_toChars_9d188 2 (some (.array .char)) ∈ lw_all := lw_in (List.mem_of_getElem? (i := 281) (by decide +kernel)) rfl
theorem qw282 : Cond.methodLink RJ1 13 yJ1_inflate_03870 ∈ lw_all := lw_in (List.mem_of_getElem? (i := 282) (by decide +kernel)) rfl
theorem qw283 : Cond.static yJ1_inflate_03870 ∈ lw_all := lw_in (List.mem_of_getElem? (i := 283) (by decide +kernel)) rfl
theorem qw284 : Cond.code yJ1_inflate_03870 cJ1_inflate_03870 6 none ∈ lw_all := lw_in (List.mem_of_getElem? (i := 284) (by decide +kernel)) rfl
theorem qw285 : Cond.methodLink RJ0 303 yJ2_toChars_9d188 ∈ lw_all := lw_in (List.mem_of_getElem? (i := 285) (by decide +kernel)) rfl
theorem qw286 : Cond.static yJ2_toChars_9d188 ∈ lw_all := lw_in (List.mem_of_getElem? (i := 286) (by decide +kernel)) rfl
theorem qw287 : Cond.code yJ2_toChars_9d188 cJ2_toChars_9d188 2 (some (.array .char)) ∈ lw_all := lw_in (List.mem_of_getElem? (i := 287) (by decide +kernel)) rfl
theorem qw288 : Cond.methodLink RJ2 103 yJ2_getChars_a1a8b ∈ lw_all := lw_in (List.mem_of_getElem? (i := 288) (by decide +kernel)) rfl
theorem qw289 : Cond.static yJ2_getChars_a1a8b ∈ lw_all := lw_in (List.mem_of_getElem? (i := 289) (by decide +kernel)) rfl
theorem qw290 : Cond.code yJ2_getChars_a1a8b cJ2_getChars_a1a8b 6 none ∈ lw_all := lw_in (List.mem_of_getElem? (i := 290) (by decide +kernel)) rfl
theorem qw291 : Cond.methodLink RJ2 173 yJ2_checkBoundsOffCount_d044e ∈ lw_all := lw_in (List.mem_of_getElem? (i := 291) (by decide +kernel)) rfl
theorem qw292 : Cond.static yJ2_checkBoundsOffCount_d044e ∈ lw_all := lw_in (List.mem_of_getElem? (i := 292) (by decide +kernel)) rfl
theorem qw293 : Cond.code yJ2_checkBoundsOffCount_d044e cJ2_checkBoundsOffCount_d044e 3 none ∈ lw_all := lw_in (List.mem_of_getElem? (i := 293) (by decide +kernel)) rfl
theorem qw294 : Cond.methodLink RJ2 48 yJ2_length_9d52b ∈ lw_all := lw_in (List.mem_of_getElem? (i := 294) (by decide +kernel)) rfl
theorem qw295 : Cond.static yJ2_length_9d52b ∈ lw_all := lw_in (List.mem_of_getElem? (i := 295) (by decide +kernel)) rfl
theorem qw296 : Cond.code yJ2_length_9d52b cJ2_length_9d52b 1 (some .int) ∈ lw_all := lw_in (List.mem_of_getElem? (i := 296) (by decide +kernel)) rfl
theorem qw297 : Cond.methodLink RJ2 419 yJ0_checkBoundsOffCount_cabcc ∈ lw_all := lw_in (List.mem_of_getElem? (i := 297) (by decide +kernel)) rfl
theorem qw298 : Cond.static yJ0_checkBoundsOffCount_cabcc ∈ lw_all := lw_in (List.mem_of_getElem? (i := 298) (by decide +kernel)) rfl
theorem qw299 : Cond.code yJ0_checkBoundsOffCount_cabcc cJ0_checkBoundsOffCount_cabcc 3 (some .int) ∈ lw_all := lw_in (List.mem_of_getElem? (i := 299) (by decide +kernel)) rfl
theorem qw300 : Cond.fieldLink RJ0 1053 "jdk/internal/util/Preconditions" "SIOOBE_FORMATTER" "Ljava/util/function/BiFunction;" ∈ lw_all := lw_in (List.mem_of_getElem? (i := 300) (by decide +kernel)) rfl
theorem qw302 : Cond.methodLink RJ0 1065 yJ3_checkFromIndexSize_8c36e ∈ lw_all := lw_in (List.mem_of_getElem? (i := 302) (by decide +kernel)) rfl
theorem qw303 : Cond.static yJ3_checkFromIndexSize_8c36e ∈ lw_all := lw_in (List.mem_of_getElem? (i := 303) (by decide +kernel)) rfl
theorem qw304 : Cond.code yJ3_checkFromIndexSize_8c36e cJ3_checkFromIndexSize_8c36e 4 (some .int) ∈ lw_all := lw_in (List.mem_of_getElem? (i := 304) (by decide +kernel)) rfl
theorem qw305 : Cond.methodLink RJ2 71 yJ2_getChar_3b067 ∈ lw_all := lw_in (List.mem_of_getElem? (i := 305) (by decide +kernel)) rfl
theorem qw306 : Cond.static yJ2_getChar_3b067 ∈ lw_all := lw_in (List.mem_of_getElem? (i := 306) (by decide +kernel)) rfl
theorem qw307 : Cond.code yJ2_getChar_3b067 cJ2_getChar_3b067 2 (some .char) ∈ lw_all := lw_in (List.mem_of_getElem? (i := 307) (by decide +kernel)) rfl
theorem qw308 : Cond.fieldLink RJ2 44 "java/lang/StringUTF16" "$assertionsDisabled" "Z" ∈ lw_all := lw_in (List.mem_of_getElem? (i := 308) (by decide +kernel)) rfl
theorem qw310 : Cond.fieldLink RJ2 59 "java/lang/StringUTF16" "HI_BYTE_SHIFT" "I" ∈ lw_all := lw_in (List.mem_of_getElem? (i := 310) (by decide +kernel)) rfl
theorem qw312 : Cond.fieldLink RJ2 63 "java/lang/StringUTF16" "LO_BYTE_SHIFT" "I" ∈ lw_all := lw_in (List.mem_of_getElem? (i := 312) (by decide +kernel)) rfl
theorem qw314 : Cond.methodLink RX10 258 yJ0_length_8abf5 ∈ lw_all := lw_in (List.mem_of_getElem? (i := 314) (by decide +kernel)) rfl
theorem qw315 : Cond.instanceMethod yJ0_length_8abf5 ∈ lw_all := lw_in (List.mem_of_getElem? (i := 315) (by decide +kernel)) rfl
theorem qw316 : Cond.selects RJ0 yJ0_length_8abf5 yJ0_length_8abf5 ∈ lw_all := lw_in (List.mem_of_getElem? (i := 316) (by decide +kernel)) rfl
theorem qw317 : Cond.code yJ0_length_8abf5 cJ0_length_8abf5 1 (some .int) ∈ lw_all := lw_in (List.mem_of_getElem? (i := 317) (by decide +kernel)) rfl
theorem qw318 : Cond.methodLink RJ0 335 yJ0_coder_7d493 ∈ lw_all := lw_in (List.mem_of_getElem? (i := 318) (by decide +kernel)) rfl
theorem qw319 : Cond.instanceMethod yJ0_coder_7d493 ∈ lw_all := lw_in (List.mem_of_getElem? (i := 319) (by decide +kernel)) rfl
theorem qw320 : Cond.selects RJ0 yJ0_coder_7d493 yJ0_coder_7d493 ∈ lw_all := lw_in (List.mem_of_getElem? (i := 320) (by decide +kernel)) rfl
theorem qw321 : Cond.code yJ0_coder_7d493 cJ0_coder_7d493 1 (some .byte) ∈ lw_all := lw_in (List.mem_of_getElem? (i := 321) (by decide +kernel)) rfl
theorem qw322 : Cond.methodLink RX10 80 yX2_read ∈ lw_all := lw_in (List.mem_of_getElem? (i := 322) (by decide +kernel)) rfl
theorem qw323 : Cond.instanceMethod yX2_read ∈ lw_all := lw_in (List.mem_of_getElem? (i := 323) (by decide +kernel)) rfl
theorem qw324 : Cond.selects RX2 yX2_read yX2_read ∈ lw_all := lw_in (List.mem_of_getElem? (i := 324) (by decide +kernel)) rfl
theorem qw325 : Cond.code yX2_read cX2_read 5 (some .int) ∈ lw_all := lw_in (List.mem_of_getElem? (i := 325) (by decide +kernel)) rfl
theorem qw326 : Cond.methodLink RX2 19 yX2_beginChange ∈ lw_all := lw_in (List.mem_of_getElem? (i := 326) (by decide +kernel)) rfl
theorem qw328 : Cond.instanceMethod yX2_beginChange ∈ lw_all := lw_in (List.mem_of_getElem? (i := 328) (by decide +kernel)) rfl
theorem qw329 : Cond.code yX2_beginChange cX2_beginChange 1 none ∈ lw_all := lw_in (List.mem_of_getElem? (i := 329) (by decide +kernel)) rfl
theorem qw330 : Cond.methodLink RX2 22 yX2_accepts ∈ lw_all := lw_in (List.mem_of_getElem? (i := 330) (by decide +kernel)) rfl
theorem qw332 : Cond.instanceMethod yX2_accepts ∈ lw_all := lw_in (List.mem_of_getElem? (i := 332) (by decide +kernel)) rfl
theorem qw333 : Cond.code yX2_accepts cX2_accepts 3 (some .boolean) ∈ lw_all := lw_in (List.mem_of_getElem? (i := 333) (by decide +kernel)) rfl
theorem qw334 : Cond.methodLink RX2 33 yX2_acceptsDot ∈ lw_all := lw_in (List.mem_of_getElem? (i := 334) (by decide +kernel)) rfl
theorem qw336 : Cond.instanceMethod yX2_acceptsDot ∈ lw_all := lw_in (List.mem_of_getElem? (i := 336) (by decide +kernel)) rfl
theorem qw337 : Cond.code yX2_acceptsDot cX2_acceptsDot 2 (some .boolean) ∈ lw_all := lw_in (List.mem_of_getElem? (i := 337) (by decide +kernel)) rfl
theorem qw338 : Cond.methodLink RX2 26 yX2_isChangeComplete ∈ lw_all := lw_in (List.mem_of_getElem? (i := 338) (by decide +kernel)) rfl
theorem qw340 : Cond.instanceMethod yX2_isChangeComplete ∈ lw_all := lw_in (List.mem_of_getElem? (i := 340) (by decide +kernel)) rfl
theorem qw341 : Cond.code yX2_isChangeComplete cX2_isChangeComplete 2 (some .boolean) ∈ lw_all := lw_in (List.mem_of_getElem? (i := 341) (by decide +kernel)) rfl
theorem qw342 : Cond.methodLink RX2 50 yX4_areRight ∈ lw_all := lw_in (List.mem_of_getElem? (i := 342) (by decide +kernel)) rfl
theorem qw343 : Cond.static yX4_areRight ∈ lw_all := lw_in (List.mem_of_getElem? (i := 343) (by decide +kernel)) rfl
theorem qw344 : Cond.code yX4_areRight cX4_areRight 4 (some .boolean) ∈ lw_all := lw_in (List.mem_of_getElem? (i := 344) (by decide +kernel)) rfl
theorem qw345 : Cond.methodLink RX4 7 yX4_bit ∈ lw_all := lw_in (List.mem_of_getElem? (i := 345) (by decide +kernel)) rfl
theorem qw346 : Cond.static yX4_bit ∈ lw_all := lw_in (List.mem_of_getElem? (i := 346) (by decide +kernel)) rfl
theorem qw347 : Cond.code yX4_bit cX4_bit 1 (some .int) ∈ lw_all := lw_in (List.mem_of_getElem? (i := 347) (by decide +kernel)) rfl
theorem qw348 : Cond.methodLink RX4 13 yX4_has ∈ lw_all := lw_in (List.mem_of_getElem? (i := 348) (by decide +kernel)) rfl
theorem qw349 : Cond.static yX4_has ∈ lw_all := lw_in (List.mem_of_getElem? (i := 349) (by decide +kernel)) rfl
theorem qw350 : Cond.code yX4_has cX4_has 2 (some .boolean) ∈ lw_all := lw_in (List.mem_of_getElem? (i := 350) (by decide +kernel)) rfl
theorem qw351 : Cond.methodLink RX2 30 yX2_keepChange ∈ lw_all := lw_in (List.mem_of_getElem? (i := 351) (by decide +kernel)) rfl
theorem qw353 : Cond.instanceMethod yX2_keepChange ∈ lw_all := lw_in (List.mem_of_getElem? (i := 353) (by decide +kernel)) rfl
theorem qw354 : Cond.code yX2_keepChange cX2_keepChange 1 none ∈ lw_all := lw_in (List.mem_of_getElem? (i := 354) (by decide +kernel)) rfl
theorem qw355 : Cond.methodLink RX2 36 yX2_acceptsCross ∈ lw_all := lw_in (List.mem_of_getElem? (i := 355) (by decide +kernel)) rfl
theorem qw357 : Cond.instanceMethod yX2_acceptsCross ∈ lw_all := lw_in (List.mem_of_getElem? (i := 357) (by decide +kernel)) rfl
theorem qw358 : Cond.code yX2_acceptsCross cX2_acceptsCross 2 (some .boolean) ∈ lw_all := lw_in (List.mem_of_getElem? (i := 358) (by decide +kernel)) rfl
theorem qw359 : Cond.methodLink RX2 39 yX2_acceptsPlace ∈ lw_all := lw_in (List.mem_of_getElem? (i := 359) (by decide +kernel)) rfl
theorem qw361 : Cond.instanceMethod yX2_acceptsPlace ∈ lw_all := lw_in (List.mem_of_getElem? (i := 361) (by decide +kernel)) rfl
theorem qw362 : Cond.code yX2_acceptsPlace cX2_acceptsPlace 4 (some .boolean) ∈ lw_all := lw_in (List.mem_of_getElem? (i := 362) (by decide +kernel)) rfl
theorem qw363 : Cond.methodLink RX2 58 yX4_bit ∈ lw_all := lw_in (List.mem_of_getElem? (i := 363) (by decide +kernel)) rfl
theorem qw364 : Cond.methodLink RX2 62 yX4_canBecomeRight ∈ lw_all := lw_in (List.mem_of_getElem? (i := 364) (by decide +kernel)) rfl
theorem qw365 : Cond.static yX4_canBecomeRight ∈ lw_all := lw_in (List.mem_of_getElem? (i := 365) (by decide +kernel)) rfl
theorem qw366 : Cond.code yX4_canBecomeRight cX4_canBecomeRight 4 (some .boolean) ∈ lw_all := lw_in (List.mem_of_getElem? (i := 366) (by decide +kernel)) rfl
theorem qw367 : Cond.methodLink RX4 17 yX4_areRight ∈ lw_all := lw_in (List.mem_of_getElem? (i := 367) (by decide +kernel)) rfl
theorem qw368 : Cond.methodLink RX10 247 yX8_single ∈ lw_all := lw_in (List.mem_of_getElem? (i := 368) (by decide +kernel)) rfl
theorem qw369 : Cond.static yX8_single ∈ lw_all := lw_in (List.mem_of_getElem? (i := 369) (by decide +kernel)) rfl
theorem qw370 : Cond.code yX8_single cX8_single 1 (some (.object RJ0)) ∈ lw_all := lw_in (List.mem_of_getElem? (i := 370) (by decide +kernel)) rfl
theorem qw375 : Cond.methodLink RX10 249 yX8_lead ∈ lw_all := lw_in (List.mem_of_getElem? (i := 375) (by decide +kernel)) rfl
theorem qw376 : Cond.static yX8_lead ∈ lw_all := lw_in (List.mem_of_getElem? (i := 376) (by decide +kernel)) rfl
theorem qw377 : Cond.code yX8_lead cX8_lead 1 (some (.object RJ0)) ∈ lw_all := lw_in (List.mem_of_getElem? (i := 377) (by decide +kernel)) rfl
theorem qw382 : Cond.methodLink RX10 84 yX9_takeMethod ∈ lw_all := lw_in (List.mem_of_getElem? (i := 382) (by decide +kernel)) rfl
theorem qw383 : Cond.instanceMethod yX9_takeMethod ∈ lw_all := lw_in (List.mem_of_getElem? (i := 383) (by decide +kernel)) rfl
theorem qw384 : Cond.selects RX9 yX9_takeMethod yX9_takeMethod ∈ lw_all := lw_in (List.mem_of_getElem? (i := 384) (by decide +kernel)) rfl
theorem qw385 : Cond.code yX9_takeMethod cX9_takeMethod 2 none ∈ lw_all := lw_in (List.mem_of_getElem? (i := 385) (by decide +kernel)) rfl
theorem qw386 : Cond.methodLink RX9 34 ⟨RJ10, "arraycopy", "(Ljava/lang/Object;ILjava/lang/Object;II)V"⟩ ∈ lw_all := lw_in (List.mem_of_getElem? (i := 386) (by decide +kernel)) rfl
theorem qw387 : Cond.static ⟨RJ10, "arraycopy", "(Ljava/lang/Object;ILjava/lang/Object;II)V"⟩ ∈ lw_all := lw_in (List.mem_of_getElem? (i := 387) (by decide +kernel)) rfl
theorem qw388 : Cond.native ⟨RJ10, "arraycopy", "(Ljava/lang/Object;ILjava/lang/Object;II)V"⟩ ∈ lw_all := lw_in (List.mem_of_getElem? (i := 388) (by decide +kernel)) rfl
theorem qw389 : Cond.fieldLink RX10 12 "CalledTouches" "now" "LCalledTouches$Touch;" ∈ lw_all := lw_in (List.mem_of_getElem? (i := 389) (by decide +kernel)) rfl
theorem qw390 : Cond.fieldLink RX10 16 "CalledTouches" "trial" "LCalledTouches$Touch;" ∈ lw_all := lw_in (List.mem_of_getElem? (i := 390) (by decide +kernel)) rfl
theorem qw391 : Cond.fieldLink RX10 19 "CalledTouches" "snapshot" "LCalledTouches$Touch;" ∈ lw_all := lw_in (List.mem_of_getElem? (i := 391) (by decide +kernel)) rfl
theorem qw392 : Cond.fieldLink RX10 230 "CalledTouches" "hasSnapshot" "Z" ∈ lw_all := lw_in (List.mem_of_getElem? (i := 392) (by decide +kernel)) rfl
theorem qw393 : Cond.fieldLink RX10 25 "CalledTouches" "history" "LCalledTouches$History;" ∈ lw_all := lw_in (List.mem_of_getElem? (i := 393) (by decide +kernel)) rfl
theorem qw394 : Cond.fieldLink RX10 32 "CalledTouches" "pad" "LCalledTouches$Pad;" ∈ lw_all := lw_in (List.mem_of_getElem? (i := 394) (by decide +kernel)) rfl
theorem qw395 : Cond.fieldLink RX10 39 "CalledTouches" "reader" "LCalledTouches$MethodReader;" ∈ lw_all := lw_in (List.mem_of_getElem? (i := 395) (by decide +kernel)) rfl
theorem qw396 : Cond.fieldLink RX10 46 "CalledTouches" "ringing" "LCalledTouches$Ringing;" ∈ lw_all := lw_in (List.mem_of_getElem? (i := 396) (by decide +kernel)) rfl
theorem qw397 : Cond.fieldLink RX10 53 "CalledTouches" "homeward" "LCalledTouches$Homeward;" ∈ lw_all := lw_in (List.mem_of_getElem? (i := 397) (by decide +kernel)) rfl
theorem qw417 : Cond.arrayClass .byte ∈ lw_all := lw_in (List.mem_of_getElem? (i := 417) (by decide +kernel)) rfl
theorem qw418 : Cond.methodLink RL 13 yX10_bells ∈ lw_all := lw_in (List.mem_of_getElem? (i := 418) (by decide +kernel)) rfl
theorem qw419 : Cond.instanceMethod yX10_bells ∈ lw_all := lw_in (List.mem_of_getElem? (i := 419) (by decide +kernel)) rfl
theorem qw420 : Cond.selects RX10 yX10_bells yX10_bells ∈ lw_all := lw_in (List.mem_of_getElem? (i := 420) (by decide +kernel)) rfl
theorem qw421 : Cond.code yX10_bells cX10_bells 3 (some .int) ∈ lw_all := lw_in (List.mem_of_getElem? (i := 421) (by decide +kernel)) rfl
theorem qw422 : Cond.methodLink RX10 61 yX10_isWithin ∈ lw_all := lw_in (List.mem_of_getElem? (i := 422) (by decide +kernel)) rfl
theorem qw423 : Cond.static yX10_isWithin ∈ lw_all := lw_in (List.mem_of_getElem? (i := 423) (by decide +kernel)) rfl
theorem qw424 : Cond.code yX10_isWithin cX10_isWithin 3 (some .boolean) ∈ lw_all := lw_in (List.mem_of_getElem? (i := 424) (by decide +kernel)) rfl
theorem qw425 : Cond.methodLink RX10 69 yX0_record ∈ lw_all := lw_in (List.mem_of_getElem? (i := 425) (by decide +kernel)) rfl
theorem qw426 : Cond.instanceMethod yX0_record ∈ lw_all := lw_in (List.mem_of_getElem? (i := 426) (by decide +kernel)) rfl
theorem qw427 : Cond.selects RX0 yX0_record yX0_record ∈ lw_all := lw_in (List.mem_of_getElem? (i := 427) (by decide +kernel)) rfl
theorem qw428 : Cond.code yX0_record cX0_record 2 none ∈ lw_all := lw_in (List.mem_of_getElem? (i := 428) (by decide +kernel)) rfl
theorem qw429 : Cond.methodLink RX0 22 yX0_dropOldest ∈ lw_all := lw_in (List.mem_of_getElem? (i := 429) (by decide +kernel)) rfl
theorem qw431 : Cond.instanceMethod yX0_dropOldest ∈ lw_all := lw_in (List.mem_of_getElem? (i := 431) (by decide +kernel)) rfl
theorem qw432 : Cond.code yX0_dropOldest cX0_dropOldest 3 none ∈ lw_all := lw_in (List.mem_of_getElem? (i := 432) (by decide +kernel)) rfl
theorem qw433 : Cond.methodLink RX0 25 yX9_become ∈ lw_all := lw_in (List.mem_of_getElem? (i := 433) (by decide +kernel)) rfl
theorem qw434 : Cond.instanceMethod yX9_become ∈ lw_all := lw_in (List.mem_of_getElem? (i := 434) (by decide +kernel)) rfl
theorem qw435 : Cond.selects RX9 yX9_become yX9_become ∈ lw_all := lw_in (List.mem_of_getElem? (i := 435) (by decide +kernel)) rfl
theorem qw436 : Cond.code yX9_become cX9_become 2 none ∈ lw_all := lw_in (List.mem_of_getElem? (i := 436) (by decide +kernel)) rfl
theorem qw437 : Cond.methodLink RL 18 yX10_method ∈ lw_all := lw_in (List.mem_of_getElem? (i := 437) (by decide +kernel)) rfl
theorem qw438 : Cond.instanceMethod yX10_method ∈ lw_all := lw_in (List.mem_of_getElem? (i := 438) (by decide +kernel)) rfl
theorem qw439 : Cond.selects RX10 yX10_method yX10_method ∈ lw_all := lw_in (List.mem_of_getElem? (i := 439) (by decide +kernel)) rfl
theorem qw440 : Cond.code yX10_method cX10_method 1 (some .int) ∈ lw_all := lw_in (List.mem_of_getElem? (i := 440) (by decide +kernel)) rfl
theorem qw441 : Cond.methodLink RL 23 yX10_call ∈ lw_all := lw_in (List.mem_of_getElem? (i := 441) (by decide +kernel)) rfl
theorem qw442 : Cond.instanceMethod yX10_call ∈ lw_all := lw_in (List.mem_of_getElem? (i := 442) (by decide +kernel)) rfl
theorem qw443 : Cond.selects RX10 yX10_call yX10_call ∈ lw_all := lw_in (List.mem_of_getElem? (i := 443) (by decide +kernel)) rfl
theorem qw444 : Cond.code yX10_call cX10_call 4 (some .int) ∈ lw_all := lw_in (List.mem_of_getElem? (i := 444) (by decide +kernel)) rfl
theorem qw445 : Cond.methodLink RX10 91 yX4_areRight ∈ lw_all := lw_in (List.mem_of_getElem? (i := 445) (by decide +kernel)) rfl
theorem qw446 : Cond.methodLink RL 28 yX10_touch ∈ lw_all := lw_in (List.mem_of_getElem? (i := 446) (by decide +kernel)) rfl
theorem qw447 : Cond.instanceMethod yX10_touch ∈ lw_all := lw_in (List.mem_of_getElem? (i := 447) (by decide +kernel)) rfl
theorem qw448 : Cond.selects RX10 yX10_touch yX10_touch ∈ lw_all := lw_in (List.mem_of_getElem? (i := 448) (by decide +kernel)) rfl
theorem qw449 : Cond.code yX10_touch cX10_touch 2 (some .int) ∈ lw_all := lw_in (List.mem_of_getElem? (i := 449) (by decide +kernel)) rfl
theorem qw450 : Cond.methodLink RX10 103 yX3_faultAsTouch ∈ lw_all := lw_in (List.mem_of_getElem? (i := 450) (by decide +kernel)) rfl
theorem qw451 : Cond.instanceMethod yX3_faultAsTouch ∈ lw_all := lw_in (List.mem_of_getElem? (i := 451) (by decide +kernel)) rfl
theorem qw452 : Cond.selects RX3 yX3_faultAsTouch yX3_faultAsTouch ∈ lw_all := lw_in (List.mem_of_getElem? (i := 452) (by decide +kernel)) rfl
theorem qw453 : Cond.code yX3_faultAsTouch cX3_faultAsTouch 2 (some .int) ∈ lw_all := lw_in (List.mem_of_getElem? (i := 453) (by decide +kernel)) rfl
theorem qw454 : Cond.methodLink RX3 19 yX3_kindOf ∈ lw_all := lw_in (List.mem_of_getElem? (i := 454) (by decide +kernel)) rfl
theorem qw455 : Cond.static yX3_kindOf ∈ lw_all := lw_in (List.mem_of_getElem? (i := 455) (by decide +kernel)) rfl
theorem qw456 : Cond.code yX3_kindOf cX3_kindOf 1 (some .int) ∈ lw_all := lw_in (List.mem_of_getElem? (i := 456) (by decide +kernel)) rfl
theorem qw457 : Cond.methodLink RX10 110 yX3_kindOf ∈ lw_all := lw_in (List.mem_of_getElem? (i := 457) (by decide +kernel)) rfl
theorem qw458 : Cond.methodLink RX10 114 yX9_addLead ∈ lw_all := lw_in (List.mem_of_getElem? (i := 458) (by decide +kernel)) rfl
theorem qw459 : Cond.instanceMethod yX9_addLead ∈ lw_all := lw_in (List.mem_of_getElem? (i := 459) (by decide +kernel)) rfl
theorem qw460 : Cond.selects RX9 yX9_addLead yX9_addLead ∈ lw_all := lw_in (List.mem_of_getElem? (i := 460) (by decide +kernel)) rfl
theorem qw461 : Cond.code yX9_addLead cX9_addLead 2 none ∈ lw_all := lw_in (List.mem_of_getElem? (i := 461) (by decide +kernel)) rfl
theorem qw462 : Cond.methodLink RL 32 yX10_add ∈ lw_all := lw_in (List.mem_of_getElem? (i := 462) (by decide +kernel)) rfl
theorem qw463 : Cond.instanceMethod yX10_add ∈ lw_all := lw_in (List.mem_of_getElem? (i := 463) (by decide +kernel)) rfl
theorem qw464 : Cond.selects RX10 yX10_add yX10_add ∈ lw_all := lw_in (List.mem_of_getElem? (i := 464) (by decide +kernel)) rfl
theorem qw465 : Cond.code yX10_add cX10_add 2 (some .int) ∈ lw_all := lw_in (List.mem_of_getElem? (i := 465) (by decide +kernel)) rfl
theorem qw466 : Cond.methodLink RL 36 yX10_cut ∈ lw_all := lw_in (List.mem_of_getElem? (i := 466) (by decide +kernel)) rfl
theorem qw467 : Cond.instanceMethod yX10_cut ∈ lw_all := lw_in (List.mem_of_getElem? (i := 467) (by decide +kernel)) rfl
theorem qw468 : Cond.selects RX10 yX10_cut yX10_cut ∈ lw_all := lw_in (List.mem_of_getElem? (i := 468) (by decide +kernel)) rfl
theorem qw469 : Cond.code yX10_cut cX10_cut 3 (some .int) ∈ lw_all := lw_in (List.mem_of_getElem? (i := 469) (by decide +kernel)) rfl
theorem qw470 : Cond.methodLink RL 40 yX10_append ∈ lw_all := lw_in (List.mem_of_getElem? (i := 470) (by decide +kernel)) rfl
theorem qw471 : Cond.instanceMethod yX10_append ∈ lw_all := lw_in (List.mem_of_getElem? (i := 471) (by decide +kernel)) rfl
theorem qw472 : Cond.selects RX10 yX10_append yX10_append ∈ lw_all := lw_in (List.mem_of_getElem? (i := 472) (by decide +kernel)) rfl
theorem qw473 : Cond.code yX10_append cX10_append 2 (some .int) ∈ lw_all := lw_in (List.mem_of_getElem? (i := 473) (by decide +kernel)) rfl
theorem qw474 : Cond.methodLink RX10 117 yX3_put ∈ lw_all := lw_in (List.mem_of_getElem? (i := 474) (by decide +kernel)) rfl
theorem qw475 : Cond.instanceMethod yX3_put ∈ lw_all := lw_in (List.mem_of_getElem? (i := 475) (by decide +kernel)) rfl
theorem qw476 : Cond.selects RX3 yX3_put yX3_put ∈ lw_all := lw_in (List.mem_of_getElem? (i := 476) (by decide +kernel)) rfl
theorem qw477 : Cond.code yX3_put cX3_put 2 none ∈ lw_all := lw_in (List.mem_of_getElem? (i := 477) (by decide +kernel)) rfl
theorem qw478 : Cond.methodLink RL 44 yX10_clear ∈ lw_all := lw_in (List.mem_of_getElem? (i := 478) (by decide +kernel)) rfl
theorem qw479 : Cond.instanceMethod yX10_clear ∈ lw_all := lw_in (List.mem_of_getElem? (i := 479) (by decide +kernel)) rfl
theorem qw480 : Cond.selects RX10 yX10_clear yX10_clear ∈ lw_all := lw_in (List.mem_of_getElem? (i := 480) (by decide +kernel)) rfl
theorem qw481 : Cond.code yX10_clear cX10_clear 2 (some .int) ∈ lw_all := lw_in (List.mem_of_getElem? (i := 481) (by decide +kernel)) rfl
theorem qw482 : Cond.methodLink RL 48 yX10_fault ∈ lw_all := lw_in (List.mem_of_getElem? (i := 482) (by decide +kernel)) rfl
theorem qw483 : Cond.instanceMethod yX10_fault ∈ lw_all := lw_in (List.mem_of_getElem? (i := 483) (by decide +kernel)) rfl
theorem qw484 : Cond.selects RX10 yX10_fault yX10_fault ∈ lw_all := lw_in (List.mem_of_getElem? (i := 484) (by decide +kernel)) rfl
theorem qw485 : Cond.code yX10_fault cX10_fault 2 (some .int) ∈ lw_all := lw_in (List.mem_of_getElem? (i := 485) (by decide +kernel)) rfl
theorem qw486 : Cond.methodLink RL 52 yX10_bell ∈ lw_all := lw_in (List.mem_of_getElem? (i := 486) (by decide +kernel)) rfl
theorem qw487 : Cond.instanceMethod yX10_bell ∈ lw_all := lw_in (List.mem_of_getElem? (i := 487) (by decide +kernel)) rfl
theorem qw488 : Cond.selects RX10 yX10_bell yX10_bell ∈ lw_all := lw_in (List.mem_of_getElem? (i := 488) (by decide +kernel)) rfl
theorem qw489 : Cond.code yX10_bell cX10_bell 3 (some .int) ∈ lw_all := lw_in (List.mem_of_getElem? (i := 489) (by decide +kernel)) rfl
theorem qw490 : Cond.methodLink RX10 121 yX9_lastRow ∈ lw_all := lw_in (List.mem_of_getElem? (i := 490) (by decide +kernel)) rfl
theorem qw491 : Cond.instanceMethod yX9_lastRow ∈ lw_all := lw_in (List.mem_of_getElem? (i := 491) (by decide +kernel)) rfl
theorem qw492 : Cond.selects RX9 yX9_lastRow yX9_lastRow ∈ lw_all := lw_in (List.mem_of_getElem? (i := 492) (by decide +kernel)) rfl
theorem qw493 : Cond.code yX9_lastRow cX9_lastRow 1 (some .int) ∈ lw_all := lw_in (List.mem_of_getElem? (i := 493) (by decide +kernel)) rfl
theorem qw494 : Cond.methodLink RX10 124 yX10_isBell ∈ lw_all := lw_in (List.mem_of_getElem? (i := 494) (by decide +kernel)) rfl
theorem qw496 : Cond.instanceMethod yX10_isBell ∈ lw_all := lw_in (List.mem_of_getElem? (i := 496) (by decide +kernel)) rfl
theorem qw497 : Cond.code yX10_isBell cX10_isBell 2 (some .boolean) ∈ lw_all := lw_in (List.mem_of_getElem? (i := 497) (by decide +kernel)) rfl
theorem qw498 : Cond.methodLink RX10 128 yX5_ring ∈ lw_all := lw_in (List.mem_of_getElem? (i := 498) (by decide +kernel)) rfl
theorem qw499 : Cond.instanceMethod yX5_ring ∈ lw_all := lw_in (List.mem_of_getElem? (i := 499) (by decide +kernel)) rfl
theorem qw500 : Cond.selects RX5 yX5_ring yX5_ring ∈ lw_all := lw_in (List.mem_of_getElem? (i := 500) (by decide +kernel)) rfl
theorem qw501 : Cond.code yX5_ring cX5_ring 6 none ∈ lw_all := lw_in (List.mem_of_getElem? (i := 501) (by decide +kernel)) rfl
theorem qw502 : Cond.methodLink RX5 36 yX6_rounds ∈ lw_all := lw_in (List.mem_of_getElem? (i := 502) (by decide +kernel)) rfl
theorem qw503 : Cond.static yX6_rounds ∈ lw_all := lw_in (List.mem_of_getElem? (i := 503) (by decide +kernel)) rfl
theorem qw504 : Cond.code yX6_rounds cX6_rounds 3 (some .int) ∈ lw_all := lw_in (List.mem_of_getElem? (i := 504) (by decide +kernel)) rfl
theorem qw505 : Cond.methodLink RX6 7 yX6_put ∈ lw_all := lw_in (List.mem_of_getElem? (i := 505) (by decide +kernel)) rfl
theorem qw506 : Cond.static yX6_put ∈ lw_all := lw_in (List.mem_of_getElem? (i := 506) (by decide +kernel)) rfl
theorem qw507 : Cond.code yX6_put cX6_put 3 (some .int) ∈ lw_all := lw_in (List.mem_of_getElem? (i := 507) (by decide +kernel)) rfl
theorem qw508 : Cond.methodLink RX5 45 yX9_kindOfLead ∈ lw_all := lw_in (List.mem_of_getElem? (i := 508) (by decide +kernel)) rfl
theorem qw509 : Cond.instanceMethod yX9_kindOfLead ∈ lw_all := lw_in (List.mem_of_getElem? (i := 509) (by decide +kernel)) rfl
theorem qw510 : Cond.selects RX9 yX9_kindOfLead yX9_kindOfLead ∈ lw_all := lw_in (List.mem_of_getElem? (i := 510) (by decide +kernel)) rfl
theorem qw511 : Cond.code yX9_kindOfLead cX9_kindOfLead 2 (some .int) ∈ lw_all := lw_in (List.mem_of_getElem? (i := 511) (by decide +kernel)) rfl
theorem qw512 : Cond.methodLink RX5 48 yX9_placesMade ∈ lw_all := lw_in (List.mem_of_getElem? (i := 512) (by decide +kernel)) rfl
theorem qw513 : Cond.instanceMethod yX9_placesMade ∈ lw_all := lw_in (List.mem_of_getElem? (i := 513) (by decide +kernel)) rfl
theorem qw514 : Cond.selects RX9 yX9_placesMade yX9_placesMade ∈ lw_all := lw_in (List.mem_of_getElem? (i := 514) (by decide +kernel)) rfl
theorem qw515 : Cond.code yX9_placesMade cX9_placesMade 3 (some .int) ∈ lw_all := lw_in (List.mem_of_getElem? (i := 515) (by decide +kernel)) rfl
theorem qw516 : Cond.methodLink RX5 52 yX6_behindChange ∈ lw_all := lw_in (List.mem_of_getElem? (i := 516) (by decide +kernel)) rfl
theorem qw517 : Cond.static yX6_behindChange ∈ lw_all := lw_in (List.mem_of_getElem? (i := 517) (by decide +kernel)) rfl
theorem qw518 : Cond.code yX6_behindChange cX6_behindChange 5 (some .int) ∈ lw_all := lw_in (List.mem_of_getElem? (i := 518) (by decide +kernel)) rfl
theorem qw519 : Cond.methodLink RX6 17 yX4_has ∈ lw_all := lw_in (List.mem_of_getElem? (i := 519) (by decide +kernel)) rfl
theorem qw520 : Cond.methodLink RX6 13 yX6_bellAt ∈ lw_all := lw_in (List.mem_of_getElem? (i := 520) (by decide +kernel)) rfl
theorem qw521 : Cond.static yX6_bellAt ∈ lw_all := lw_in (List.mem_of_getElem? (i := 521) (by decide +kernel)) rfl
theorem qw522 : Cond.code yX6_bellAt cX6_bellAt 2 (some .int) ∈ lw_all := lw_in (List.mem_of_getElem? (i := 522) (by decide +kernel)) rfl
theorem qw523 : Cond.methodLink RX5 56 yX5_keep ∈ lw_all := lw_in (List.mem_of_getElem? (i := 523) (by decide +kernel)) rfl
theorem qw525 : Cond.instanceMethod yX5_keep ∈ lw_all := lw_in (List.mem_of_getElem? (i := 525) (by decide +kernel)) rfl
theorem qw526 : Cond.code yX5_keep cX5_keep 2 none ∈ lw_all := lw_in (List.mem_of_getElem? (i := 526) (by decide +kernel)) rfl
theorem qw527 : Cond.methodLink RX5 60 yX5_findFirsts ∈ lw_all := lw_in (List.mem_of_getElem? (i := 527) (by decide +kernel)) rfl
theorem qw529 : Cond.instanceMethod yX5_findFirsts ∈ lw_all := lw_in (List.mem_of_getElem? (i := 529) (by decide +kernel)) rfl
theorem qw530 : Cond.code yX5_findFirsts cX5_findFirsts 3 none ∈ lw_all := lw_in (List.mem_of_getElem? (i := 530) (by decide +kernel)) rfl
theorem qw531 : Cond.methodLink RX5 63 yX5_rowAt ∈ lw_all := lw_in (List.mem_of_getElem? (i := 531) (by decide +kernel)) rfl
theorem qw532 : Cond.instanceMethod yX5_rowAt ∈ lw_all := lw_in (List.mem_of_getElem? (i := 532) (by decide +kernel)) rfl
theorem qw533 : Cond.selects RX5 yX5_rowAt yX5_rowAt ∈ lw_all := lw_in (List.mem_of_getElem? (i := 533) (by decide +kernel)) rfl
theorem qw534 : Cond.code yX5_rowAt cX5_rowAt 2 (some .int) ∈ lw_all := lw_in (List.mem_of_getElem? (i := 534) (by decide +kernel)) rfl
theorem qw535 : Cond.methodLink RX5 66 yX6_rank ∈ lw_all := lw_in (List.mem_of_getElem? (i := 535) (by decide +kernel)) rfl
theorem qw536 : Cond.static yX6_rank ∈ lw_all := lw_in (List.mem_of_getElem? (i := 536) (by decide +kernel)) rfl
theorem qw537 : Cond.code yX6_rank cX6_rank 8 (some .int) ∈ lw_all := lw_in (List.mem_of_getElem? (i := 537) (by decide +kernel)) rfl
theorem qw538 : Cond.methodLink RX6 23 yX4_bit ∈ lw_all := lw_in (List.mem_of_getElem? (i := 538) (by decide +kernel)) rfl
theorem qw539 : Cond.methodLink RX6 27 yJ6_bitCount_0f7a4 ∈ lw_all := lw_in (List.mem_of_getElem? (i := 539) (by decide +kernel)) rfl
theorem qw540 : Cond.static yJ6_bitCount_0f7a4 ∈ lw_all := lw_in (List.mem_of_getElem? (i := 540) (by decide +kernel)) rfl
theorem qw541 : Cond.code yJ6_bitCount_0f7a4 cJ6_bitCount_0f7a4 1 (some .int) ∈ lw_all := lw_in (List.mem_of_getElem? (i := 541) (by decide +kernel)) rfl
theorem qw542 : Cond.constant RJ6 265 (1431655765) ∈ lw_all := lw_in (List.mem_of_getElem? (i := 542) (by decide +kernel)) rfl
theorem qw543 : Cond.constant RJ6 266 (858993459) ∈ lw_all := lw_in (List.mem_of_getElem? (i := 543) (by decide +kernel)) rfl
theorem qw544 : Cond.constant RJ6 267 (252645135) ∈ lw_all := lw_in (List.mem_of_getElem? (i := 544) (by decide +kernel)) rfl
theorem qw545 : Cond.methodLink RX5 69 yX5_firstWithRank ∈ lw_all := lw_in (List.mem_of_getElem? (i := 545) (by decide +kernel)) rfl
theorem qw547 : Cond.instanceMethod yX5_firstWithRank ∈ lw_all := lw_in (List.mem_of_getElem? (i := 547) (by decide +kernel)) rfl
theorem qw548 : Cond.code yX5_firstWithRank cX5_firstWithRank 3 (some .int) ∈ lw_all := lw_in (List.mem_of_getElem? (i := 548) (by decide +kernel)) rfl
theorem qw549 : Cond.methodLink RX10 131 yX5_rowAt ∈ lw_all := lw_in (List.mem_of_getElem? (i := 549) (by decide +kernel)) rfl
theorem qw550 : Cond.methodLink RX10 135 yX6_bellAt ∈ lw_all := lw_in (List.mem_of_getElem? (i := 550) (by decide +kernel)) rfl
theorem qw551 : Cond.methodLink RL 56 yX10_change ∈ lw_all := lw_in (List.mem_of_getElem? (i := 551) (by decide +kernel)) rfl
theorem qw552 : Cond.instanceMethod yX10_change ∈ lw_all := lw_in (List.mem_of_getElem? (i := 552) (by decide +kernel)) rfl
theorem qw553 : Cond.selects RX10 yX10_change yX10_change ∈ lw_all := lw_in (List.mem_of_getElem? (i := 553) (by decide +kernel)) rfl
theorem qw554 : Cond.code yX10_change cX10_change 3 (some .int) ∈ lw_all := lw_in (List.mem_of_getElem? (i := 554) (by decide +kernel)) rfl
theorem qw555 : Cond.methodLink RX10 141 yX9_kindOfLead ∈ lw_all := lw_in (List.mem_of_getElem? (i := 555) (by decide +kernel)) rfl
theorem qw556 : Cond.methodLink RX10 144 yX9_placesMade ∈ lw_all := lw_in (List.mem_of_getElem? (i := 556) (by decide +kernel)) rfl
theorem qw557 : Cond.methodLink RL 60 yX10_row ∈ lw_all := lw_in (List.mem_of_getElem? (i := 557) (by decide +kernel)) rfl
theorem qw558 : Cond.instanceMethod yX10_row ∈ lw_all := lw_in (List.mem_of_getElem? (i := 558) (by decide +kernel)) rfl
theorem qw559 : Cond.selects RX10 yX10_row yX10_row ∈ lw_all := lw_in (List.mem_of_getElem? (i := 559) (by decide +kernel)) rfl
theorem qw560 : Cond.code yX10_row cX10_row 4 (some .int) ∈ lw_all := lw_in (List.mem_of_getElem? (i := 560) (by decide +kernel)) rfl
theorem qw561 : Cond.methodLink RX10 147 yX6_signByPairs ∈ lw_all := lw_in (List.mem_of_getElem? (i := 561) (by decide +kernel)) rfl
theorem qw562 : Cond.static yX6_signByPairs ∈ lw_all := lw_in (List.mem_of_getElem? (i := 562) (by decide +kernel)) rfl
theorem qw563 : Cond.code yX6_signByPairs cX6_signByPairs 5 (some .int) ∈ lw_all := lw_in (List.mem_of_getElem? (i := 563) (by decide +kernel)) rfl
theorem qw564 : Cond.methodLink RX10 150 yX6_signByCycles ∈ lw_all := lw_in (List.mem_of_getElem? (i := 564) (by decide +kernel)) rfl
theorem qw565 : Cond.static yX6_signByCycles ∈ lw_all := lw_in (List.mem_of_getElem? (i := 565) (by decide +kernel)) rfl
theorem qw566 : Cond.code yX6_signByCycles cX6_signByCycles 7 (some .int) ∈ lw_all := lw_in (List.mem_of_getElem? (i := 566) (by decide +kernel)) rfl
theorem qw567 : Cond.methodLink RX10 153 yX6_soundsWell ∈ lw_all := lw_in (List.mem_of_getElem? (i := 567) (by decide +kernel)) rfl
theorem qw568 : Cond.static yX6_soundsWell ∈ lw_all := lw_in (List.mem_of_getElem? (i := 568) (by decide +kernel)) rfl
theorem qw569 : Cond.code yX6_soundsWell cX6_soundsWell 4 (some .boolean) ∈ lw_all := lw_in (List.mem_of_getElem? (i := 569) (by decide +kernel)) rfl
theorem qw570 : Cond.methodLink RX10 156 yX6_bellsInPlace ∈ lw_all := lw_in (List.mem_of_getElem? (i := 570) (by decide +kernel)) rfl
theorem qw571 : Cond.static yX6_bellsInPlace ∈ lw_all := lw_in (List.mem_of_getElem? (i := 571) (by decide +kernel)) rfl
theorem qw572 : Cond.code yX6_bellsInPlace cX6_bellsInPlace 4 (some .int) ∈ lw_all := lw_in (List.mem_of_getElem? (i := 572) (by decide +kernel)) rfl
theorem qw573 : Cond.methodLink RX10 159 yX5_firstLike ∈ lw_all := lw_in (List.mem_of_getElem? (i := 573) (by decide +kernel)) rfl
theorem qw574 : Cond.instanceMethod yX5_firstLike ∈ lw_all := lw_in (List.mem_of_getElem? (i := 574) (by decide +kernel)) rfl
theorem qw575 : Cond.selects RX5 yX5_firstLike yX5_firstLike ∈ lw_all := lw_in (List.mem_of_getElem? (i := 575) (by decide +kernel)) rfl
theorem qw576 : Cond.code yX5_firstLike cX5_firstLike 2 (some .int) ∈ lw_all := lw_in (List.mem_of_getElem? (i := 576) (by decide +kernel)) rfl
theorem qw577 : Cond.methodLink RX10 162 yX1_learn ∈ lw_all := lw_in (List.mem_of_getElem? (i := 577) (by decide +kernel)) rfl
theorem qw578 : Cond.instanceMethod yX1_learn ∈ lw_all := lw_in (List.mem_of_getElem? (i := 578) (by decide +kernel)) rfl
theorem qw579 : Cond.selects RX1 yX1_learn yX1_learn ∈ lw_all := lw_in (List.mem_of_getElem? (i := 579) (by decide +kernel)) rfl
theorem qw580 : Cond.code yX1_learn cX1_learn 5 none ∈ lw_all := lw_in (List.mem_of_getElem? (i := 580) (by decide +kernel)) rfl
theorem qw581 : Cond.methodLink RX1 35 yX9_roundsBehindLead ∈ lw_all := lw_in (List.mem_of_getElem? (i := 581) (by decide +kernel)) rfl
theorem qw582 : Cond.instanceMethod yX9_roundsBehindLead ∈ lw_all := lw_in (List.mem_of_getElem? (i := 582) (by decide +kernel)) rfl
theorem qw583 : Cond.selects RX9 yX9_roundsBehindLead yX9_roundsBehindLead ∈ lw_all := lw_in (List.mem_of_getElem? (i := 583) (by decide +kernel)) rfl
theorem qw584 : Cond.code yX9_roundsBehindLead cX9_roundsBehindLead 4 (some .int) ∈ lw_all := lw_in (List.mem_of_getElem? (i := 584) (by decide +kernel)) rfl
theorem qw585 : Cond.methodLink RX9 48 yX6_rounds ∈ lw_all := lw_in (List.mem_of_getElem? (i := 585) (by decide +kernel)) rfl
theorem qw586 : Cond.methodLink RX9 53 yX9_placesMade ∈ lw_all := lw_in (List.mem_of_getElem? (i := 586) (by decide +kernel)) rfl
theorem qw587 : Cond.methodLink RX9 57 yX6_behindChange ∈ lw_all := lw_in (List.mem_of_getElem? (i := 587) (by decide +kernel)) rfl
theorem qw588 : Cond.methodLink RX1 39 yX6_backwards ∈ lw_all := lw_in (List.mem_of_getElem? (i := 588) (by decide +kernel)) rfl
theorem qw589 : Cond.static yX6_backwards ∈ lw_all := lw_in (List.mem_of_getElem? (i := 589) (by decide +kernel)) rfl
theorem qw590 : Cond.code yX6_backwards cX6_backwards 4 (some .int) ∈ lw_all := lw_in (List.mem_of_getElem? (i := 590) (by decide +kernel)) rfl
theorem qw591 : Cond.methodLink RX1 45 yX6_rounds ∈ lw_all := lw_in (List.mem_of_getElem? (i := 591) (by decide +kernel)) rfl
theorem qw592 : Cond.methodLink RX1 48 yX7_from ∈ lw_all := lw_in (List.mem_of_getElem? (i := 592) (by decide +kernel)) rfl
theorem qw593 : Cond.instanceMethod yX7_from ∈ lw_all := lw_in (List.mem_of_getElem? (i := 593) (by decide +kernel)) rfl
theorem qw594 : Cond.selects RX7 yX7_from yX7_from ∈ lw_all := lw_in (List.mem_of_getElem? (i := 594) (by decide +kernel)) rfl
theorem qw595 : Cond.code yX7_from cX7_from 9 none ∈ lw_all := lw_in (List.mem_of_getElem? (i := 595) (by decide +kernel)) rfl
theorem qw596 : Cond.methodLink RX7 25 yJ7_fill_53178 ∈ lw_all := lw_in (List.mem_of_getElem? (i := 596) (by decide +kernel)) rfl
theorem qw597 : Cond.static yJ7_fill_53178 ∈ lw_all := lw_in (List.mem_of_getElem? (i := 597) (by decide +kernel)) rfl
theorem qw598 : Cond.code yJ7_fill_53178 cJ7_fill_53178 4 none ∈ lw_all := lw_in (List.mem_of_getElem? (i := 598) (by decide +kernel)) rfl
theorem qw599 : Cond.methodLink RX7 31 yX7_reach ∈ lw_all := lw_in (List.mem_of_getElem? (i := 599) (by decide +kernel)) rfl
theorem qw601 : Cond.instanceMethod yX7_reach ∈ lw_all := lw_in (List.mem_of_getElem? (i := 601) (by decide +kernel)) rfl
theorem qw602 : Cond.code yX7_reach cX7_reach 4 none ∈ lw_all := lw_in (List.mem_of_getElem? (i := 602) (by decide +kernel)) rfl
theorem qw603 : Cond.methodLink RX7 45 yX6_rank ∈ lw_all := lw_in (List.mem_of_getElem? (i := 603) (by decide +kernel)) rfl
theorem qw604 : Cond.methodLink RX7 35 yX7_fewestTo ∈ lw_all := lw_in (List.mem_of_getElem? (i := 604) (by decide +kernel)) rfl
theorem qw605 : Cond.instanceMethod yX7_fewestTo ∈ lw_all := lw_in (List.mem_of_getElem? (i := 605) (by decide +kernel)) rfl
theorem qw606 : Cond.selects RX7 yX7_fewestTo yX7_fewestTo ∈ lw_all := lw_in (List.mem_of_getElem? (i := 606) (by decide +kernel)) rfl
theorem qw607 : Cond.code yX7_fewestTo cX7_fewestTo 3 (some .int) ∈ lw_all := lw_in (List.mem_of_getElem? (i := 607) (by decide +kernel)) rfl
theorem qw608 : Cond.methodLink RX7 39 yX6_behindLead ∈ lw_all := lw_in (List.mem_of_getElem? (i := 608) (by decide +kernel)) rfl
theorem qw609 : Cond.static yX6_behindLead ∈ lw_all := lw_in (List.mem_of_getElem? (i := 609) (by decide +kernel)) rfl
theorem qw610 : Cond.code yX6_behindLead cX6_behindLead 5 (some .int) ∈ lw_all := lw_in (List.mem_of_getElem? (i := 610) (by decide +kernel)) rfl
theorem qw611 : Cond.methodLink RX10 165 yX1_leadsFrom ∈ lw_all := lw_in (List.mem_of_getElem? (i := 611) (by decide +kernel)) rfl
theorem qw612 : Cond.instanceMethod yX1_leadsFrom ∈ lw_all := lw_in (List.mem_of_getElem? (i := 612) (by decide +kernel)) rfl
theorem qw613 : Cond.selects RX1 yX1_leadsFrom yX1_leadsFrom ∈ lw_all := lw_in (List.mem_of_getElem? (i := 613) (by decide +kernel)) rfl
theorem qw614 : Cond.code yX1_leadsFrom cX1_leadsFrom 2 (some .int) ∈ lw_all := lw_in (List.mem_of_getElem? (i := 614) (by decide +kernel)) rfl
theorem qw615 : Cond.methodLink RX1 52 yX7_fewestTo ∈ lw_all := lw_in (List.mem_of_getElem? (i := 615) (by decide +kernel)) rfl
theorem qw616 : Cond.methodLink RL 64 yX10_path ∈ lw_all := lw_in (List.mem_of_getElem? (i := 616) (by decide +kernel)) rfl
theorem qw617 : Cond.instanceMethod yX10_path ∈ lw_all := lw_in (List.mem_of_getElem? (i := 617) (by decide +kernel)) rfl
theorem qw618 : Cond.selects RX10 yX10_path yX10_path ∈ lw_all := lw_in (List.mem_of_getElem? (i := 618) (by decide +kernel)) rfl
theorem qw619 : Cond.code yX10_path cX10_path 3 (some .int) ∈ lw_all := lw_in (List.mem_of_getElem? (i := 619) (by decide +kernel)) rfl
theorem qw620 : Cond.methodLink RX10 168 yX5_dodges ∈ lw_all := lw_in (List.mem_of_getElem? (i := 620) (by decide +kernel)) rfl
theorem qw621 : Cond.instanceMethod yX5_dodges ∈ lw_all := lw_in (List.mem_of_getElem? (i := 621) (by decide +kernel)) rfl
theorem qw622 : Cond.selects RX5 yX5_dodges yX5_dodges ∈ lw_all := lw_in (List.mem_of_getElem? (i := 622) (by decide +kernel)) rfl
theorem qw623 : Cond.code yX5_dodges cX5_dodges 4 (some .int) ∈ lw_all := lw_in (List.mem_of_getElem? (i := 623) (by decide +kernel)) rfl
theorem qw624 : Cond.methodLink RX5 93 yX5_dodgesAt ∈ lw_all := lw_in (List.mem_of_getElem? (i := 624) (by decide +kernel)) rfl
theorem qw626 : Cond.instanceMethod yX5_dodgesAt ∈ lw_all := lw_in (List.mem_of_getElem? (i := 626) (by decide +kernel)) rfl
theorem qw627 : Cond.code yX5_dodgesAt cX5_dodgesAt 5 (some .boolean) ∈ lw_all := lw_in (List.mem_of_getElem? (i := 627) (by decide +kernel)) rfl
theorem qw628 : Cond.methodLink RX5 90 yX5_placeIn ∈ lw_all := lw_in (List.mem_of_getElem? (i := 628) (by decide +kernel)) rfl
theorem qw629 : Cond.instanceMethod yX5_placeIn ∈ lw_all := lw_in (List.mem_of_getElem? (i := 629) (by decide +kernel)) rfl
theorem qw630 : Cond.selects RX5 yX5_placeIn yX5_placeIn ∈ lw_all := lw_in (List.mem_of_getElem? (i := 630) (by decide +kernel)) rfl
theorem qw631 : Cond.code yX5_placeIn cX5_placeIn 3 (some .int) ∈ lw_all := lw_in (List.mem_of_getElem? (i := 631) (by decide +kernel)) rfl
theorem qw632 : Cond.methodLink RX5 72 yX6_placeOf ∈ lw_all := lw_in (List.mem_of_getElem? (i := 632) (by decide +kernel)) rfl
theorem qw633 : Cond.static yX6_placeOf ∈ lw_all := lw_in (List.mem_of_getElem? (i := 633) (by decide +kernel)) rfl
theorem qw634 : Cond.code yX6_placeOf cX6_placeOf 4 (some .int) ∈ lw_all := lw_in (List.mem_of_getElem? (i := 634) (by decide +kernel)) rfl
theorem qw635 : Cond.methodLink RX10 171 yX5_firstDodge ∈ lw_all := lw_in (List.mem_of_getElem? (i := 635) (by decide +kernel)) rfl
theorem qw636 : Cond.instanceMethod yX5_firstDodge ∈ lw_all := lw_in (List.mem_of_getElem? (i := 636) (by decide +kernel)) rfl
theorem qw637 : Cond.selects RX5 yX5_firstDodge yX5_firstDodge ∈ lw_all := lw_in (List.mem_of_getElem? (i := 637) (by decide +kernel)) rfl
theorem qw638 : Cond.code yX5_firstDodge cX5_firstDodge 3 (some .int) ∈ lw_all := lw_in (List.mem_of_getElem? (i := 638) (by decide +kernel)) rfl
theorem qw639 : Cond.methodLink RX10 174 yX5_blowsAt ∈ lw_all := lw_in (List.mem_of_getElem? (i := 639) (by decide +kernel)) rfl
theorem qw640 : Cond.instanceMethod yX5_blowsAt ∈ lw_all := lw_in (List.mem_of_getElem? (i := 640) (by decide +kernel)) rfl
theorem qw641 : Cond.selects RX5 yX5_blowsAt yX5_blowsAt ∈ lw_all := lw_in (List.mem_of_getElem? (i := 641) (by decide +kernel)) rfl
theorem qw642 : Cond.code yX5_blowsAt cX5_blowsAt 5 (some .int) ∈ lw_all := lw_in (List.mem_of_getElem? (i := 642) (by decide +kernel)) rfl
theorem qw643 : Cond.methodLink RX5 96 yX6_bellAt ∈ lw_all := lw_in (List.mem_of_getElem? (i := 643) (by decide +kernel)) rfl
theorem qw644 : Cond.methodLink RX10 177 yX5_stays ∈ lw_all := lw_in (List.mem_of_getElem? (i := 644) (by decide +kernel)) rfl
theorem qw645 : Cond.instanceMethod yX5_stays ∈ lw_all := lw_in (List.mem_of_getElem? (i := 645) (by decide +kernel)) rfl
theorem qw646 : Cond.selects RX5 yX5_stays yX5_stays ∈ lw_all := lw_in (List.mem_of_getElem? (i := 646) (by decide +kernel)) rfl
theorem qw647 : Cond.code yX5_stays cX5_stays 4 (some .int) ∈ lw_all := lw_in (List.mem_of_getElem? (i := 647) (by decide +kernel)) rfl
theorem qw648 : Cond.methodLink RX10 183 yX5_placeIn ∈ lw_all := lw_in (List.mem_of_getElem? (i := 648) (by decide +kernel)) rfl
theorem qw649 : Cond.methodLink RL 68 yX10_blows ∈ lw_all := lw_in (List.mem_of_getElem? (i := 649) (by decide +kernel)) rfl
theorem qw650 : Cond.instanceMethod yX10_blows ∈ lw_all := lw_in (List.mem_of_getElem? (i := 650) (by decide +kernel)) rfl
theorem qw651 : Cond.selects RX10 yX10_blows yX10_blows ∈ lw_all := lw_in (List.mem_of_getElem? (i := 651) (by decide +kernel)) rfl
theorem qw652 : Cond.code yX10_blows cX10_blows 3 (some .int) ∈ lw_all := lw_in (List.mem_of_getElem? (i := 652) (by decide +kernel)) rfl
theorem qw653 : Cond.methodLink RL 72 yX10_count ∈ lw_all := lw_in (List.mem_of_getElem? (i := 653) (by decide +kernel)) rfl
theorem qw654 : Cond.instanceMethod yX10_count ∈ lw_all := lw_in (List.mem_of_getElem? (i := 654) (by decide +kernel)) rfl
theorem qw655 : Cond.selects RX10 yX10_count yX10_count ∈ lw_all := lw_in (List.mem_of_getElem? (i := 655) (by decide +kernel)) rfl
theorem qw656 : Cond.code yX10_count cX10_count 2 (some .int) ∈ lw_all := lw_in (List.mem_of_getElem? (i := 656) (by decide +kernel)) rfl
theorem qw657 : Cond.methodLink RX10 186 yX9_calledLeads ∈ lw_all := lw_in (List.mem_of_getElem? (i := 657) (by decide +kernel)) rfl
theorem qw658 : Cond.instanceMethod yX9_calledLeads ∈ lw_all := lw_in (List.mem_of_getElem? (i := 658) (by decide +kernel)) rfl
theorem qw659 : Cond.selects RX9 yX9_calledLeads yX9_calledLeads ∈ lw_all := lw_in (List.mem_of_getElem? (i := 659) (by decide +kernel)) rfl
theorem qw660 : Cond.code yX9_calledLeads cX9_calledLeads 3 (some .int) ∈ lw_all := lw_in (List.mem_of_getElem? (i := 660) (by decide +kernel)) rfl
theorem qw661 : Cond.methodLink RX9 44 yX9_kindOfLead ∈ lw_all := lw_in (List.mem_of_getElem? (i := 661) (by decide +kernel)) rfl
theorem qw662 : Cond.methodLink RX10 189 yX9_plainCourse ∈ lw_all := lw_in (List.mem_of_getElem? (i := 662) (by decide +kernel)) rfl
theorem qw663 : Cond.instanceMethod yX9_plainCourse ∈ lw_all := lw_in (List.mem_of_getElem? (i := 663) (by decide +kernel)) rfl
theorem qw664 : Cond.selects RX9 yX9_plainCourse yX9_plainCourse ∈ lw_all := lw_in (List.mem_of_getElem? (i := 664) (by decide +kernel)) rfl
theorem qw665 : Cond.code yX9_plainCourse cX9_plainCourse 5 (some .int) ∈ lw_all := lw_in (List.mem_of_getElem? (i := 665) (by decide +kernel)) rfl
theorem qw666 : Cond.methodLink RX9 61 yX9_roundsBehindLead ∈ lw_all := lw_in (List.mem_of_getElem? (i := 666) (by decide +kernel)) rfl
theorem qw667 : Cond.methodLink RX9 64 yX6_behindLead ∈ lw_all := lw_in (List.mem_of_getElem? (i := 667) (by decide +kernel)) rfl
theorem qw668 : Cond.methodLink RX10 195 yX10_countRows ∈ lw_all := lw_in (List.mem_of_getElem? (i := 668) (by decide +kernel)) rfl
theorem qw670 : Cond.instanceMethod yX10_countRows ∈ lw_all := lw_in (List.mem_of_getElem? (i := 670) (by decide +kernel)) rfl
theorem qw671 : Cond.code yX10_countRows cX10_countRows 2 (some .int) ∈ lw_all := lw_in (List.mem_of_getElem? (i := 671) (by decide +kernel)) rfl
theorem qw672 : Cond.methodLink RX10 221 yX5_comesRound ∈ lw_all := lw_in (List.mem_of_getElem? (i := 672) (by decide +kernel)) rfl
theorem qw673 : Cond.instanceMethod yX5_comesRound ∈ lw_all := lw_in (List.mem_of_getElem? (i := 673) (by decide +kernel)) rfl
theorem qw674 : Cond.selects RX5 yX5_comesRound yX5_comesRound ∈ lw_all := lw_in (List.mem_of_getElem? (i := 674) (by decide +kernel)) rfl
theorem qw675 : Cond.code yX5_comesRound cX5_comesRound 2 (some .int) ∈ lw_all := lw_in (List.mem_of_getElem? (i := 675) (by decide +kernel)) rfl
theorem qw676 : Cond.methodLink RX10 217 yX5_isTrue ∈ lw_all := lw_in (List.mem_of_getElem? (i := 676) (by decide +kernel)) rfl
theorem qw677 : Cond.instanceMethod yX5_isTrue ∈ lw_all := lw_in (List.mem_of_getElem? (i := 677) (by decide +kernel)) rfl
theorem qw678 : Cond.selects RX5 yX5_isTrue yX5_isTrue ∈ lw_all := lw_in (List.mem_of_getElem? (i := 678) (by decide +kernel)) rfl
theorem qw679 : Cond.code yX5_isTrue cX5_isTrue 1 (some .boolean) ∈ lw_all := lw_in (List.mem_of_getElem? (i := 679) (by decide +kernel)) rfl
theorem qw680 : Cond.methodLink RX5 79 yX5_firstRepeat ∈ lw_all := lw_in (List.mem_of_getElem? (i := 680) (by decide +kernel)) rfl
theorem qw681 : Cond.instanceMethod yX5_firstRepeat ∈ lw_all := lw_in (List.mem_of_getElem? (i := 681) (by decide +kernel)) rfl
theorem qw682 : Cond.selects RX5 yX5_firstRepeat yX5_firstRepeat ∈ lw_all := lw_in (List.mem_of_getElem? (i := 682) (by decide +kernel)) rfl
theorem qw683 : Cond.code yX5_firstRepeat cX5_firstRepeat 2 (some .int) ∈ lw_all := lw_in (List.mem_of_getElem? (i := 683) (by decide +kernel)) rfl
theorem qw684 : Cond.methodLink RX5 75 yX5_isFirst ∈ lw_all := lw_in (List.mem_of_getElem? (i := 684) (by decide +kernel)) rfl
theorem qw686 : Cond.instanceMethod yX5_isFirst ∈ lw_all := lw_in (List.mem_of_getElem? (i := 686) (by decide +kernel)) rfl
theorem qw687 : Cond.code yX5_isFirst cX5_isFirst 2 (some .boolean) ∈ lw_all := lw_in (List.mem_of_getElem? (i := 687) (by decide +kernel)) rfl
theorem qw688 : Cond.methodLink RX10 260 yX5_firstRepeat ∈ lw_all := lw_in (List.mem_of_getElem? (i := 688) (by decide +kernel)) rfl
theorem qw689 : Cond.methodLink RX10 224 yX5_differentRows ∈ lw_all := lw_in (List.mem_of_getElem? (i := 689) (by decide +kernel)) rfl
theorem qw690 : Cond.instanceMethod yX5_differentRows ∈ lw_all := lw_in (List.mem_of_getElem? (i := 690) (by decide +kernel)) rfl
theorem qw691 : Cond.selects RX5 yX5_differentRows yX5_differentRows ∈ lw_all := lw_in (List.mem_of_getElem? (i := 691) (by decide +kernel)) rfl
theorem qw692 : Cond.code yX5_differentRows cX5_differentRows 3 (some .int) ∈ lw_all := lw_in (List.mem_of_getElem? (i := 692) (by decide +kernel)) rfl
theorem qw693 : Cond.methodLink RX10 263 yX5_falsePairs ∈ lw_all := lw_in (List.mem_of_getElem? (i := 693) (by decide +kernel)) rfl
theorem qw694 : Cond.instanceMethod yX5_falsePairs ∈ lw_all := lw_in (List.mem_of_getElem? (i := 694) (by decide +kernel)) rfl
theorem qw695 : Cond.selects RX5 yX5_falsePairs yX5_falsePairs ∈ lw_all := lw_in (List.mem_of_getElem? (i := 695) (by decide +kernel)) rfl
theorem qw696 : Cond.code yX5_falsePairs cX5_falsePairs 4 (some .int) ∈ lw_all := lw_in (List.mem_of_getElem? (i := 696) (by decide +kernel)) rfl
theorem qw697 : Cond.methodLink RX5 87 yX5_areFalse ∈ lw_all := lw_in (List.mem_of_getElem? (i := 697) (by decide +kernel)) rfl
theorem qw699 : Cond.instanceMethod yX5_areFalse ∈ lw_all := lw_in (List.mem_of_getElem? (i := 699) (by decide +kernel)) rfl
theorem qw700 : Cond.code yX5_areFalse cX5_areFalse 5 (some .boolean) ∈ lw_all := lw_in (List.mem_of_getElem? (i := 700) (by decide +kernel)) rfl
theorem qw701 : Cond.methodLink RX10 198 yX5_wellSounding ∈ lw_all := lw_in (List.mem_of_getElem? (i := 701) (by decide +kernel)) rfl
theorem qw702 : Cond.instanceMethod yX5_wellSounding ∈ lw_all := lw_in (List.mem_of_getElem? (i := 702) (by decide +kernel)) rfl
theorem qw703 : Cond.selects RX5 yX5_wellSounding yX5_wellSounding ∈ lw_all := lw_in (List.mem_of_getElem? (i := 703) (by decide +kernel)) rfl
theorem qw704 : Cond.code yX5_wellSounding cX5_wellSounding 3 (some .int) ∈ lw_all := lw_in (List.mem_of_getElem? (i := 704) (by decide +kernel)) rfl
theorem qw705 : Cond.methodLink RX5 83 yX6_soundsWell ∈ lw_all := lw_in (List.mem_of_getElem? (i := 705) (by decide +kernel)) rfl
theorem qw706 : Cond.methodLink RL 76 yX10_music ∈ lw_all := lw_in (List.mem_of_getElem? (i := 706) (by decide +kernel)) rfl
theorem qw707 : Cond.instanceMethod yX10_music ∈ lw_all := lw_in (List.mem_of_getElem? (i := 707) (by decide +kernel)) rfl
theorem qw708 : Cond.selects RX10 yX10_music yX10_music ∈ lw_all := lw_in (List.mem_of_getElem? (i := 708) (by decide +kernel)) rfl
theorem qw709 : Cond.code yX10_music cX10_music 1 (some .double) ∈ lw_all := lw_in (List.mem_of_getElem? (i := 709) (by decide +kernel)) rfl
theorem qw710 : Cond.methodLink RL 81 yX10_home ∈ lw_all := lw_in (List.mem_of_getElem? (i := 710) (by decide +kernel)) rfl
theorem qw711 : Cond.instanceMethod yX10_home ∈ lw_all := lw_in (List.mem_of_getElem? (i := 711) (by decide +kernel)) rfl
theorem qw712 : Cond.selects RX10 yX10_home yX10_home ∈ lw_all := lw_in (List.mem_of_getElem? (i := 712) (by decide +kernel)) rfl
theorem qw713 : Cond.code yX10_home cX10_home 3 (some .int) ∈ lw_all := lw_in (List.mem_of_getElem? (i := 713) (by decide +kernel)) rfl
theorem qw714 : Cond.methodLink RX10 201 yX10_lastOrder ∈ lw_all := lw_in (List.mem_of_getElem? (i := 714) (by decide +kernel)) rfl
theorem qw716 : Cond.instanceMethod yX10_lastOrder ∈ lw_all := lw_in (List.mem_of_getElem? (i := 716) (by decide +kernel)) rfl
theorem qw717 : Cond.code yX10_lastOrder cX10_lastOrder 1 (some .int) ∈ lw_all := lw_in (List.mem_of_getElem? (i := 717) (by decide +kernel)) rfl
theorem qw718 : Cond.methodLink RX10 204 yX1_leadsBySearch ∈ lw_all := lw_in (List.mem_of_getElem? (i := 718) (by decide +kernel)) rfl
theorem qw719 : Cond.instanceMethod yX1_leadsBySearch ∈ lw_all := lw_in (List.mem_of_getElem? (i := 719) (by decide +kernel)) rfl
theorem qw720 : Cond.selects RX1 yX1_leadsBySearch yX1_leadsBySearch ∈ lw_all := lw_in (List.mem_of_getElem? (i := 720) (by decide +kernel)) rfl
theorem qw721 : Cond.code yX1_leadsBySearch cX1_leadsBySearch 3 (some .int) ∈ lw_all := lw_in (List.mem_of_getElem? (i := 721) (by decide +kernel)) rfl
theorem qw722 : Cond.methodLink RL 85 yX10_homeCall ∈ lw_all := lw_in (List.mem_of_getElem? (i := 722) (by decide +kernel)) rfl
theorem qw723 : Cond.instanceMethod yX10_homeCall ∈ lw_all := lw_in (List.mem_of_getElem? (i := 723) (by decide +kernel)) rfl
theorem qw724 : Cond.selects RX10 yX10_homeCall yX10_homeCall ∈ lw_all := lw_in (List.mem_of_getElem? (i := 724) (by decide +kernel)) rfl
theorem qw725 : Cond.code yX10_homeCall cX10_homeCall 3 (some .int) ∈ lw_all := lw_in (List.mem_of_getElem? (i := 725) (by decide +kernel)) rfl
theorem qw726 : Cond.methodLink RX10 207 yX1_callAt ∈ lw_all := lw_in (List.mem_of_getElem? (i := 726) (by decide +kernel)) rfl
theorem qw727 : Cond.instanceMethod yX1_callAt ∈ lw_all := lw_in (List.mem_of_getElem? (i := 727) (by decide +kernel)) rfl
theorem qw728 : Cond.selects RX1 yX1_callAt yX1_callAt ∈ lw_all := lw_in (List.mem_of_getElem? (i := 728) (by decide +kernel)) rfl
theorem qw729 : Cond.code yX1_callAt cX1_callAt 6 (some .int) ∈ lw_all := lw_in (List.mem_of_getElem? (i := 729) (by decide +kernel)) rfl
theorem qw730 : Cond.methodLink RX1 55 yX1_leadsFrom ∈ lw_all := lw_in (List.mem_of_getElem? (i := 730) (by decide +kernel)) rfl
theorem qw731 : Cond.methodLink RX1 58 yX1_callFrom ∈ lw_all := lw_in (List.mem_of_getElem? (i := 731) (by decide +kernel)) rfl
theorem qw733 : Cond.instanceMethod yX1_callFrom ∈ lw_all := lw_in (List.mem_of_getElem? (i := 733) (by decide +kernel)) rfl
theorem qw734 : Cond.code yX1_callFrom cX1_callFrom 4 (some .int) ∈ lw_all := lw_in (List.mem_of_getElem? (i := 734) (by decide +kernel)) rfl
theorem qw735 : Cond.methodLink RX1 61 yX1_behind ∈ lw_all := lw_in (List.mem_of_getElem? (i := 735) (by decide +kernel)) rfl
theorem qw737 : Cond.instanceMethod yX1_behind ∈ lw_all := lw_in (List.mem_of_getElem? (i := 737) (by decide +kernel)) rfl
theorem qw738 : Cond.code yX1_behind cX1_behind 3 (some .int) ∈ lw_all := lw_in (List.mem_of_getElem? (i := 738) (by decide +kernel)) rfl
theorem qw739 : Cond.methodLink RX1 64 yX6_behindLead ∈ lw_all := lw_in (List.mem_of_getElem? (i := 739) (by decide +kernel)) rfl
theorem qw740 : Cond.methodLink RL 89 yX10_ifCalled ∈ lw_all := lw_in (List.mem_of_getElem? (i := 740) (by decide +kernel)) rfl
theorem qw741 : Cond.instanceMethod yX10_ifCalled ∈ lw_all := lw_in (List.mem_of_getElem? (i := 741) (by decide +kernel)) rfl
theorem qw742 : Cond.selects RX10 yX10_ifCalled yX10_ifCalled ∈ lw_all := lw_in (List.mem_of_getElem? (i := 742) (by decide +kernel)) rfl
theorem qw743 : Cond.code yX10_ifCalled cX10_ifCalled 4 (some .int) ∈ lw_all := lw_in (List.mem_of_getElem? (i := 743) (by decide +kernel)) rfl
theorem qw744 : Cond.methodLink RX10 210 yX9_become ∈ lw_all := lw_in (List.mem_of_getElem? (i := 744) (by decide +kernel)) rfl
theorem qw745 : Cond.methodLink RX10 213 yX9_callLead ∈ lw_all := lw_in (List.mem_of_getElem? (i := 745) (by decide +kernel)) rfl
theorem qw746 : Cond.instanceMethod yX9_callLead ∈ lw_all := lw_in (List.mem_of_getElem? (i := 746) (by decide +kernel)) rfl
theorem qw747 : Cond.selects RX9 yX9_callLead yX9_callLead ∈ lw_all := lw_in (List.mem_of_getElem? (i := 747) (by decide +kernel)) rfl
theorem qw748 : Cond.code yX9_callLead cX9_callLead 3 none ∈ lw_all := lw_in (List.mem_of_getElem? (i := 748) (by decide +kernel)) rfl
theorem qw749 : Cond.methodLink RL 94 yX10_best ∈ lw_all := lw_in (List.mem_of_getElem? (i := 749) (by decide +kernel)) rfl
theorem qw750 : Cond.instanceMethod yX10_best ∈ lw_all := lw_in (List.mem_of_getElem? (i := 750) (by decide +kernel)) rfl
theorem qw751 : Cond.selects RX10 yX10_best yX10_best ∈ lw_all := lw_in (List.mem_of_getElem? (i := 751) (by decide +kernel)) rfl
theorem qw752 : Cond.code yX10_best cX10_best 5 (some .int) ∈ lw_all := lw_in (List.mem_of_getElem? (i := 752) (by decide +kernel)) rfl
theorem qw753 : Cond.methodLink RL 98 yX10_undo ∈ lw_all := lw_in (List.mem_of_getElem? (i := 753) (by decide +kernel)) rfl
theorem qw754 : Cond.instanceMethod yX10_undo ∈ lw_all := lw_in (List.mem_of_getElem? (i := 754) (by decide +kernel)) rfl
theorem qw755 : Cond.selects RX10 yX10_undo yX10_undo ∈ lw_all := lw_in (List.mem_of_getElem? (i := 755) (by decide +kernel)) rfl
theorem qw756 : Cond.code yX10_undo cX10_undo 1 (some .int) ∈ lw_all := lw_in (List.mem_of_getElem? (i := 756) (by decide +kernel)) rfl
theorem qw757 : Cond.methodLink RX10 227 yX0_takeBack ∈ lw_all := lw_in (List.mem_of_getElem? (i := 757) (by decide +kernel)) rfl
theorem qw758 : Cond.instanceMethod yX0_takeBack ∈ lw_all := lw_in (List.mem_of_getElem? (i := 758) (by decide +kernel)) rfl
theorem qw759 : Cond.selects RX0 yX0_takeBack yX0_takeBack ∈ lw_all := lw_in (List.mem_of_getElem? (i := 759) (by decide +kernel)) rfl
theorem qw760 : Cond.code yX0_takeBack cX0_takeBack 2 none ∈ lw_all := lw_in (List.mem_of_getElem? (i := 760) (by decide +kernel)) rfl
theorem qw761 : Cond.methodLink RL 102 yX10_save ∈ lw_all := lw_in (List.mem_of_getElem? (i := 761) (by decide +kernel)) rfl
theorem qw762 : Cond.instanceMethod yX10_save ∈ lw_all := lw_in (List.mem_of_getElem? (i := 762) (by decide +kernel)) rfl
theorem qw763 : Cond.selects RX10 yX10_save yX10_save ∈ lw_all := lw_in (List.mem_of_getElem? (i := 763) (by decide +kernel)) rfl
theorem qw764 : Cond.code yX10_save cX10_save 1 (some .int) ∈ lw_all := lw_in (List.mem_of_getElem? (i := 764) (by decide +kernel)) rfl
theorem qw765 : Cond.methodLink RL 106 yX10_restore ∈ lw_all := lw_in (List.mem_of_getElem? (i := 765) (by decide +kernel)) rfl
theorem qw766 : Cond.instanceMethod yX10_restore ∈ lw_all := lw_in (List.mem_of_getElem? (i := 766) (by decide +kernel)) rfl
theorem qw767 : Cond.selects RX10 yX10_restore yX10_restore ∈ lw_all := lw_in (List.mem_of_getElem? (i := 767) (by decide +kernel)) rfl
theorem qw768 : Cond.code yX10_restore cX10_restore 1 (some .int) ∈ lw_all := lw_in (List.mem_of_getElem? (i := 768) (by decide +kernel)) rfl
theorem qw769 : Cond.classLink RL 10 RX11 ∈ lw_all := lw_in (List.mem_of_getElem? (i := 769) (by decide +kernel)) rfl
theorem qw770 : Cond.instantiable RX11 18 ∈ lw_all := lw_in (List.mem_of_getElem? (i := 770) (by decide +kernel)) rfl
theorem qw771 : Cond.methodLink RL 12 yX11_init ∈ lw_all := lw_in (List.mem_of_getElem? (i := 771) (by decide +kernel)) rfl
theorem qw772 : Cond.instanceMethod yX11_init ∈ lw_all := lw_in (List.mem_of_getElem? (i := 772) (by decide +kernel)) rfl
theorem qw773 : Cond.code yX11_init cX11_init 1 none ∈ lw_all := lw_in (List.mem_of_getElem? (i := 773) (by decide +kernel)) rfl
theorem qw774 : Cond.methodLink RX11 1 ⟨"java/lang/Object", "<init>", "()V"⟩ ∈ lw_all := lw_in (List.mem_of_getElem? (i := 774) (by decide +kernel)) rfl
theorem qw775 : Cond.methodLink RX11 46 yX11_lays ∈ lw_all := lw_in (List.mem_of_getElem? (i := 775) (by decide +kernel)) rfl
theorem qw777 : Cond.instanceMethod yX11_lays ∈ lw_all := lw_in (List.mem_of_getElem? (i := 777) (by decide +kernel)) rfl
theorem qw778 : Cond.code yX11_lays cX11_lays 6 none ∈ lw_all := lw_in (List.mem_of_getElem? (i := 778) (by decide +kernel)) rfl
theorem qw779 : Cond.fieldLink RX11 7 "CalledTouchesModel" "s" "[I" ∈ lw_all := lw_in (List.mem_of_getElem? (i := 779) (by decide +kernel)) rfl
theorem qw780 : Cond.fieldLink RX11 13 "CalledTouchesModel" "past" "[I" ∈ lw_all := lw_in (List.mem_of_getElem? (i := 780) (by decide +kernel)) rfl
theorem qw781 : Cond.fieldLink RX11 16 "CalledTouchesModel" "kept" "[I" ∈ lw_all := lw_in (List.mem_of_getElem? (i := 781) (by decide +kernel)) rfl
theorem qw782 : Cond.fieldLink RX11 196 "CalledTouchesModel" "isKept" "Z" ∈ lw_all := lw_in (List.mem_of_getElem? (i := 782) (by decide +kernel)) rfl
theorem qw783 : Cond.fieldLink RX11 50 "CalledTouchesModel" "pasts" "I" ∈ lw_all := lw_in (List.mem_of_getElem? (i := 783) (by decide +kernel)) rfl
theorem qw784 : Cond.fieldLink RX11 19 "CalledTouchesModel" "pad" "[I" ∈ lw_all := lw_in (List.mem_of_getElem? (i := 784) (by decide +kernel)) rfl
theorem qw785 : Cond.fieldLink RX11 84 "CalledTouchesModel" "typed" "I" ∈ lw_all := lw_in (List.mem_of_getElem? (i := 785) (by decide +kernel)) rfl
theorem qw786 : Cond.fieldLink RX11 22 "CalledTouchesModel" "cell" "[I" ∈ lw_all := lw_in (List.mem_of_getElem? (i := 786) (by decide +kernel)) rfl
theorem qw787 : Cond.fieldLink RX11 25 "CalledTouchesModel" "other" "[I" ∈ lw_all := lw_in (List.mem_of_getElem? (i := 787) (by decide +kernel)) rfl
theorem qw788 : Cond.fieldLink RX11 28 "CalledTouchesModel" "rows" "[I" ∈ lw_all := lw_in (List.mem_of_getElem? (i := 788) (by decide +kernel)) rfl
theorem qw789 : Cond.fieldLink RX11 65 "CalledTouchesModel" "ends" "I" ∈ lw_all := lw_in (List.mem_of_getElem? (i := 789) (by decide +kernel)) rfl
theorem qw790 : Cond.fieldLink RX11 31 "CalledTouchesModel" "read" "[I" ∈ lw_all := lw_in (List.mem_of_getElem? (i := 790) (by decide +kernel)) rfl
theorem qw791 : Cond.fieldLink RX11 91 "CalledTouchesModel" "many" "I" ∈ lw_all := lw_in (List.mem_of_getElem? (i := 791) (by decide +kernel)) rfl
theorem qw792 : Cond.fieldLink RX11 81 "CalledTouchesModel" "spot" "I" ∈ lw_all := lw_in (List.mem_of_getElem? (i := 792) (by decide +kernel)) rfl
theorem qw793 : Cond.fieldLink RX11 34 "CalledTouchesModel" "track" "[I" ∈ lw_all := lw_in (List.mem_of_getElem? (i := 793) (by decide +kernel)) rfl
theorem qw794 : Cond.fieldLink RX11 37 "CalledTouchesModel" "lead" "[I" ∈ lw_all := lw_in (List.mem_of_getElem? (i := 794) (by decide +kernel)) rfl
theorem qw795 : Cond.fieldLink RX11 40 "CalledTouchesModel" "distance" "[I" ∈ lw_all := lw_in (List.mem_of_getElem? (i := 795) (by decide +kernel)) rfl
theorem qw796 : Cond.fieldLink RX11 43 "CalledTouchesModel" "line" "[I" ∈ lw_all := lw_in (List.mem_of_getElem? (i := 796) (by decide +kernel)) rfl
theorem qw834 : Cond.methodLink RL 17 yX11_bells ∈ lw_all := lw_in (List.mem_of_getElem? (i := 834) (by decide +kernel)) rfl
theorem qw835 : Cond.instanceMethod yX11_bells ∈ lw_all := lw_in (List.mem_of_getElem? (i := 835) (by decide +kernel)) rfl
theorem qw836 : Cond.selects RX11 yX11_bells yX11_bells ∈ lw_all := lw_in (List.mem_of_getElem? (i := 836) (by decide +kernel)) rfl
theorem qw837 : Cond.code yX11_bells cX11_bells 3 (some .int) ∈ lw_all := lw_in (List.mem_of_getElem? (i := 837) (by decide +kernel)) rfl
theorem qw838 : Cond.methodLink RX11 54 yX11_in ∈ lw_all := lw_in (List.mem_of_getElem? (i := 838) (by decide +kernel)) rfl
theorem qw839 : Cond.static yX11_in ∈ lw_all := lw_in (List.mem_of_getElem? (i := 839) (by decide +kernel)) rfl
theorem qw840 : Cond.code yX11_in cX11_in 3 (some .boolean) ∈ lw_all := lw_in (List.mem_of_getElem? (i := 840) (by decide +kernel)) rfl
theorem qw841 : Cond.methodLink RX11 78 yX11_changes ∈ lw_all := lw_in (List.mem_of_getElem? (i := 841) (by decide +kernel)) rfl
theorem qw843 : Cond.instanceMethod yX11_changes ∈ lw_all := lw_in (List.mem_of_getElem? (i := 843) (by decide +kernel)) rfl
theorem qw844 : Cond.code yX11_changes cX11_changes 2 none ∈ lw_all := lw_in (List.mem_of_getElem? (i := 844) (by decide +kernel)) rfl
theorem qw845 : Cond.methodLink RL 22 yX11_method ∈ lw_all := lw_in (List.mem_of_getElem? (i := 845) (by decide +kernel)) rfl
theorem qw846 : Cond.instanceMethod yX11_method ∈ lw_all := lw_in (List.mem_of_getElem? (i := 846) (by decide +kernel)) rfl
theorem qw847 : Cond.selects RX11 yX11_method yX11_method ∈ lw_all := lw_in (List.mem_of_getElem? (i := 847) (by decide +kernel)) rfl
theorem qw848 : Cond.code yX11_method cX11_method 2 (some .int) ∈ lw_all := lw_in (List.mem_of_getElem? (i := 848) (by decide +kernel)) rfl
theorem qw849 : Cond.methodLink RX11 109 yX11_methodFault ∈ lw_all := lw_in (List.mem_of_getElem? (i := 849) (by decide +kernel)) rfl
theorem qw851 : Cond.instanceMethod yX11_methodFault ∈ lw_all := lw_in (List.mem_of_getElem? (i := 851) (by decide +kernel)) rfl
theorem qw852 : Cond.code yX11_methodFault cX11_methodFault 2 (some .int) ∈ lw_all := lw_in (List.mem_of_getElem? (i := 852) (by decide +kernel)) rfl
theorem qw853 : Cond.methodLink RX11 101 yX11_readsChange ∈ lw_all := lw_in (List.mem_of_getElem? (i := 853) (by decide +kernel)) rfl
theorem qw855 : Cond.instanceMethod yX11_readsChange ∈ lw_all := lw_in (List.mem_of_getElem? (i := 855) (by decide +kernel)) rfl
theorem qw856 : Cond.code yX11_readsChange cX11_readsChange 4 (some .boolean) ∈ lw_all := lw_in (List.mem_of_getElem? (i := 856) (by decide +kernel)) rfl
theorem qw857 : Cond.methodLink RX11 94 yX11_isAt ∈ lw_all := lw_in (List.mem_of_getElem? (i := 857) (by decide +kernel)) rfl
theorem qw859 : Cond.instanceMethod yX11_isAt ∈ lw_all := lw_in (List.mem_of_getElem? (i := 859) (by decide +kernel)) rfl
theorem qw860 : Cond.code yX11_isAt cX11_isAt 3 (some .boolean) ∈ lw_all := lw_in (List.mem_of_getElem? (i := 860) (by decide +kernel)) rfl
theorem qw861 : Cond.methodLink RX11 87 yX11_isRight ∈ lw_all := lw_in (List.mem_of_getElem? (i := 861) (by decide +kernel)) rfl
theorem qw863 : Cond.instanceMethod yX11_isRight ∈ lw_all := lw_in (List.mem_of_getElem? (i := 863) (by decide +kernel)) rfl
theorem qw864 : Cond.code yX11_isRight cX11_isRight 4 (some .boolean) ∈ lw_all := lw_in (List.mem_of_getElem? (i := 864) (by decide +kernel)) rfl
theorem qw865 : Cond.methodLink RX11 98 yX11_couldBeRight ∈ lw_all := lw_in (List.mem_of_getElem? (i := 865) (by decide +kernel)) rfl
theorem qw867 : Cond.instanceMethod yX11_couldBeRight ∈ lw_all := lw_in (List.mem_of_getElem? (i := 867) (by decide +kernel)) rfl
theorem qw868 : Cond.code yX11_couldBeRight cX11_couldBeRight 5 (some .boolean) ∈ lw_all := lw_in (List.mem_of_getElem? (i := 868) (by decide +kernel)) rfl
theorem qw869 : Cond.methodLink RL 27 yX11_call ∈ lw_all := lw_in (List.mem_of_getElem? (i := 869) (by decide +kernel)) rfl
theorem qw870 : Cond.instanceMethod yX11_call ∈ lw_all := lw_in (List.mem_of_getElem? (i := 870) (by decide +kernel)) rfl
theorem qw871 : Cond.selects RX11 yX11_call yX11_call ∈ lw_all := lw_in (List.mem_of_getElem? (i := 871) (by decide +kernel)) rfl
theorem qw872 : Cond.code yX11_call cX11_call 4 (some .int) ∈ lw_all := lw_in (List.mem_of_getElem? (i := 872) (by decide +kernel)) rfl
theorem qw873 : Cond.methodLink RL 31 yX11_touch ∈ lw_all := lw_in (List.mem_of_getElem? (i := 873) (by decide +kernel)) rfl
theorem qw874 : Cond.instanceMethod yX11_touch ∈ lw_all := lw_in (List.mem_of_getElem? (i := 874) (by decide +kernel)) rfl
theorem qw875 : Cond.selects RX11 yX11_touch yX11_touch ∈ lw_all := lw_in (List.mem_of_getElem? (i := 875) (by decide +kernel)) rfl
theorem qw876 : Cond.code yX11_touch cX11_touch 2 (some .int) ∈ lw_all := lw_in (List.mem_of_getElem? (i := 876) (by decide +kernel)) rfl
theorem qw877 : Cond.methodLink RX11 112 yX11_touchFault ∈ lw_all := lw_in (List.mem_of_getElem? (i := 877) (by decide +kernel)) rfl
theorem qw879 : Cond.instanceMethod yX11_touchFault ∈ lw_all := lw_in (List.mem_of_getElem? (i := 879) (by decide +kernel)) rfl
theorem qw880 : Cond.code yX11_touchFault cX11_touchFault 2 (some .int) ∈ lw_all := lw_in (List.mem_of_getElem? (i := 880) (by decide +kernel)) rfl
theorem qw881 : Cond.methodLink RX11 105 yX11_kindOf ∈ lw_all := lw_in (List.mem_of_getElem? (i := 881) (by decide +kernel)) rfl
theorem qw882 : Cond.static yX11_kindOf ∈ lw_all := lw_in (List.mem_of_getElem? (i := 882) (by decide +kernel)) rfl
theorem qw883 : Cond.code yX11_kindOf cX11_kindOf 1 (some .int) ∈ lw_all := lw_in (List.mem_of_getElem? (i := 883) (by decide +kernel)) rfl
theorem qw884 : Cond.methodLink RL 35 yX11_add ∈ lw_all := lw_in (List.mem_of_getElem? (i := 884) (by decide +kernel)) rfl
theorem qw885 : Cond.instanceMethod yX11_add ∈ lw_all := lw_in (List.mem_of_getElem? (i := 885) (by decide +kernel)) rfl
theorem qw886 : Cond.selects RX11 yX11_add yX11_add ∈ lw_all := lw_in (List.mem_of_getElem? (i := 886) (by decide +kernel)) rfl
theorem qw887 : Cond.code yX11_add cX11_add 2 (some .int) ∈ lw_all := lw_in (List.mem_of_getElem? (i := 887) (by decide +kernel)) rfl
theorem qw888 : Cond.methodLink RL 39 yX11_cut ∈ lw_all := lw_in (List.mem_of_getElem? (i := 888) (by decide +kernel)) rfl
theorem qw889 : Cond.instanceMethod yX11_cut ∈ lw_all := lw_in (List.mem_of_getElem? (i := 889) (by decide +kernel)) rfl
theorem qw890 : Cond.selects RX11 yX11_cut yX11_cut ∈ lw_all := lw_in (List.mem_of_getElem? (i := 890) (by decide +kernel)) rfl
theorem qw891 : Cond.code yX11_cut cX11_cut 4 (some .int) ∈ lw_all := lw_in (List.mem_of_getElem? (i := 891) (by decide +kernel)) rfl
theorem qw892 : Cond.methodLink RL 43 yX11_append ∈ lw_all := lw_in (List.mem_of_getElem? (i := 892) (by decide +kernel)) rfl
theorem qw893 : Cond.instanceMethod yX11_append ∈ lw_all := lw_in (List.mem_of_getElem? (i := 893) (by decide +kernel)) rfl
theorem qw894 : Cond.selects RX11 yX11_append yX11_append ∈ lw_all := lw_in (List.mem_of_getElem? (i := 894) (by decide +kernel)) rfl
theorem qw895 : Cond.code yX11_append cX11_append 2 (some .int) ∈ lw_all := lw_in (List.mem_of_getElem? (i := 895) (by decide +kernel)) rfl
theorem qw896 : Cond.methodLink RL 47 yX11_clear ∈ lw_all := lw_in (List.mem_of_getElem? (i := 896) (by decide +kernel)) rfl
theorem qw897 : Cond.instanceMethod yX11_clear ∈ lw_all := lw_in (List.mem_of_getElem? (i := 897) (by decide +kernel)) rfl
theorem qw898 : Cond.selects RX11 yX11_clear yX11_clear ∈ lw_all := lw_in (List.mem_of_getElem? (i := 898) (by decide +kernel)) rfl
theorem qw899 : Cond.code yX11_clear cX11_clear 2 (some .int) ∈ lw_all := lw_in (List.mem_of_getElem? (i := 899) (by decide +kernel)) rfl
theorem qw900 : Cond.methodLink RL 51 yX11_fault ∈ lw_all := lw_in (List.mem_of_getElem? (i := 900) (by decide +kernel)) rfl
theorem qw901 : Cond.instanceMethod yX11_fault ∈ lw_all := lw_in (List.mem_of_getElem? (i := 901) (by decide +kernel)) rfl
theorem qw902 : Cond.selects RX11 yX11_fault yX11_fault ∈ lw_all := lw_in (List.mem_of_getElem? (i := 902) (by decide +kernel)) rfl
theorem qw903 : Cond.code yX11_fault cX11_fault 2 (some .int) ∈ lw_all := lw_in (List.mem_of_getElem? (i := 903) (by decide +kernel)) rfl
theorem qw904 : Cond.methodLink RL 55 yX11_bell ∈ lw_all := lw_in (List.mem_of_getElem? (i := 904) (by decide +kernel)) rfl
theorem qw905 : Cond.instanceMethod yX11_bell ∈ lw_all := lw_in (List.mem_of_getElem? (i := 905) (by decide +kernel)) rfl
theorem qw906 : Cond.selects RX11 yX11_bell yX11_bell ∈ lw_all := lw_in (List.mem_of_getElem? (i := 906) (by decide +kernel)) rfl
theorem qw907 : Cond.code yX11_bell cX11_bell 3 (some .int) ∈ lw_all := lw_in (List.mem_of_getElem? (i := 907) (by decide +kernel)) rfl
theorem qw908 : Cond.methodLink RX11 118 yX11_isRow ∈ lw_all := lw_in (List.mem_of_getElem? (i := 908) (by decide +kernel)) rfl
theorem qw910 : Cond.instanceMethod yX11_isRow ∈ lw_all := lw_in (List.mem_of_getElem? (i := 910) (by decide +kernel)) rfl
theorem qw911 : Cond.code yX11_isRow cX11_isRow 2 (some .boolean) ∈ lw_all := lw_in (List.mem_of_getElem? (i := 911) (by decide +kernel)) rfl
theorem qw912 : Cond.methodLink RX11 115 yX11_last ∈ lw_all := lw_in (List.mem_of_getElem? (i := 912) (by decide +kernel)) rfl
theorem qw914 : Cond.instanceMethod yX11_last ∈ lw_all := lw_in (List.mem_of_getElem? (i := 914) (by decide +kernel)) rfl
theorem qw915 : Cond.code yX11_last cX11_last 1 (some .int) ∈ lw_all := lw_in (List.mem_of_getElem? (i := 915) (by decide +kernel)) rfl
theorem qw916 : Cond.methodLink RX11 121 yX11_isPlace ∈ lw_all := lw_in (List.mem_of_getElem? (i := 916) (by decide +kernel)) rfl
theorem qw918 : Cond.instanceMethod yX11_isPlace ∈ lw_all := lw_in (List.mem_of_getElem? (i := 918) (by decide +kernel)) rfl
theorem qw919 : Cond.code yX11_isPlace cX11_isPlace 2 (some .boolean) ∈ lw_all := lw_in (List.mem_of_getElem? (i := 919) (by decide +kernel)) rfl
theorem qw920 : Cond.methodLink RX11 124 yX11_ringsAll ∈ lw_all := lw_in (List.mem_of_getElem? (i := 920) (by decide +kernel)) rfl
theorem qw922 : Cond.instanceMethod yX11_ringsAll ∈ lw_all := lw_in (List.mem_of_getElem? (i := 922) (by decide +kernel)) rfl
theorem qw923 : Cond.code yX11_ringsAll cX11_ringsAll 3 none ∈ lw_all := lw_in (List.mem_of_getElem? (i := 923) (by decide +kernel)) rfl
theorem qw924 : Cond.methodLink RX11 72 yX11_toRounds ∈ lw_all := lw_in (List.mem_of_getElem? (i := 924) (by decide +kernel)) rfl
theorem qw926 : Cond.instanceMethod yX11_toRounds ∈ lw_all := lw_in (List.mem_of_getElem? (i := 926) (by decide +kernel)) rfl
theorem qw927 : Cond.code yX11_toRounds cX11_toRounds 2 none ∈ lw_all := lw_in (List.mem_of_getElem? (i := 927) (by decide +kernel)) rfl
theorem qw928 : Cond.methodLink RX11 75 yX11_ringsLead ∈ lw_all := lw_in (List.mem_of_getElem? (i := 928) (by decide +kernel)) rfl
theorem qw930 : Cond.instanceMethod yX11_ringsLead ∈ lw_all := lw_in (List.mem_of_getElem? (i := 930) (by decide +kernel)) rfl
theorem qw931 : Cond.code yX11_ringsLead cX11_ringsLead 3 none ∈ lw_all := lw_in (List.mem_of_getElem? (i := 931) (by decide +kernel)) rfl
theorem qw932 : Cond.methodLink RX11 58 yX11_changeOf ∈ lw_all := lw_in (List.mem_of_getElem? (i := 932) (by decide +kernel)) rfl
theorem qw934 : Cond.instanceMethod yX11_changeOf ∈ lw_all := lw_in (List.mem_of_getElem? (i := 934) (by decide +kernel)) rfl
theorem qw935 : Cond.code yX11_changeOf cX11_changeOf 3 (some .int) ∈ lw_all := lw_in (List.mem_of_getElem? (i := 935) (by decide +kernel)) rfl
theorem qw936 : Cond.methodLink RX11 62 yX11_rings ∈ lw_all := lw_in (List.mem_of_getElem? (i := 936) (by decide +kernel)) rfl
theorem qw938 : Cond.instanceMethod yX11_rings ∈ lw_all := lw_in (List.mem_of_getElem? (i := 938) (by decide +kernel)) rfl
theorem qw939 : Cond.code yX11_rings cX11_rings 4 none ∈ lw_all := lw_in (List.mem_of_getElem? (i := 939) (by decide +kernel)) rfl
theorem qw940 : Cond.methodLink RX11 68 yX11_rank ∈ lw_all := lw_in (List.mem_of_getElem? (i := 940) (by decide +kernel)) rfl
theorem qw942 : Cond.instanceMethod yX11_rank ∈ lw_all := lw_in (List.mem_of_getElem? (i := 942) (by decide +kernel)) rfl
theorem qw943 : Cond.code yX11_rank cX11_rank 6 (some .int) ∈ lw_all := lw_in (List.mem_of_getElem? (i := 943) (by decide +kernel)) rfl
theorem qw944 : Cond.methodLink RX11 127 yX11_unrank ∈ lw_all := lw_in (List.mem_of_getElem? (i := 944) (by decide +kernel)) rfl
theorem qw946 : Cond.instanceMethod yX11_unrank ∈ lw_all := lw_in (List.mem_of_getElem? (i := 946) (by decide +kernel)) rfl
theorem qw947 : Cond.code yX11_unrank cX11_unrank 6 none ∈ lw_all := lw_in (List.mem_of_getElem? (i := 947) (by decide +kernel)) rfl
theorem qw948 : Cond.methodLink RL 59 yX11_change ∈ lw_all := lw_in (List.mem_of_getElem? (i := 948) (by decide +kernel)) rfl
theorem qw949 : Cond.instanceMethod yX11_change ∈ lw_all := lw_in (List.mem_of_getElem? (i := 949) (by decide +kernel)) rfl
theorem qw950 : Cond.selects RX11 yX11_change yX11_change ∈ lw_all := lw_in (List.mem_of_getElem? (i := 950) (by decide +kernel)) rfl
theorem qw951 : Cond.code yX11_change cX11_change 3 (some .int) ∈ lw_all := lw_in (List.mem_of_getElem? (i := 951) (by decide +kernel)) rfl
theorem qw952 : Cond.methodLink RL 63 yX11_row ∈ lw_all := lw_in (List.mem_of_getElem? (i := 952) (by decide +kernel)) rfl
theorem qw953 : Cond.instanceMethod yX11_row ∈ lw_all := lw_in (List.mem_of_getElem? (i := 953) (by decide +kernel)) rfl
theorem qw954 : Cond.selects RX11 yX11_row yX11_row ∈ lw_all := lw_in (List.mem_of_getElem? (i := 954) (by decide +kernel)) rfl
theorem qw955 : Cond.code yX11_row cX11_row 4 (some .int) ∈ lw_all := lw_in (List.mem_of_getElem? (i := 955) (by decide +kernel)) rfl
theorem qw956 : Cond.methodLink RX11 130 yX11_signByPairs ∈ lw_all := lw_in (List.mem_of_getElem? (i := 956) (by decide +kernel)) rfl
theorem qw958 : Cond.instanceMethod yX11_signByPairs ∈ lw_all := lw_in (List.mem_of_getElem? (i := 958) (by decide +kernel)) rfl
theorem qw959 : Cond.code yX11_signByPairs cX11_signByPairs 4 (some .int) ∈ lw_all := lw_in (List.mem_of_getElem? (i := 959) (by decide +kernel)) rfl
theorem qw960 : Cond.methodLink RX11 133 yX11_signByRings ∈ lw_all := lw_in (List.mem_of_getElem? (i := 960) (by decide +kernel)) rfl
theorem qw962 : Cond.instanceMethod yX11_signByRings ∈ lw_all := lw_in (List.mem_of_getElem? (i := 962) (by decide +kernel)) rfl
theorem qw963 : Cond.code yX11_signByRings cX11_signByRings 5 (some .int) ∈ lw_all := lw_in (List.mem_of_getElem? (i := 963) (by decide +kernel)) rfl
theorem qw964 : Cond.methodLink RX11 136 yX11_soundsWell ∈ lw_all := lw_in (List.mem_of_getElem? (i := 964) (by decide +kernel)) rfl
theorem qw966 : Cond.instanceMethod yX11_soundsWell ∈ lw_all := lw_in (List.mem_of_getElem? (i := 966) (by decide +kernel)) rfl
theorem qw967 : Cond.code yX11_soundsWell cX11_soundsWell 2 (some .boolean) ∈ lw_all := lw_in (List.mem_of_getElem? (i := 967) (by decide +kernel)) rfl
theorem qw968 : Cond.methodLink RX11 139 yX11_atHome ∈ lw_all := lw_in (List.mem_of_getElem? (i := 968) (by decide +kernel)) rfl
theorem qw970 : Cond.instanceMethod yX11_atHome ∈ lw_all := lw_in (List.mem_of_getElem? (i := 970) (by decide +kernel)) rfl
theorem qw971 : Cond.code yX11_atHome cX11_atHome 3 (some .int) ∈ lw_all := lw_in (List.mem_of_getElem? (i := 971) (by decide +kernel)) rfl
theorem qw972 : Cond.methodLink RX11 142 yX11_firstSame ∈ lw_all := lw_in (List.mem_of_getElem? (i := 972) (by decide +kernel)) rfl
theorem qw974 : Cond.instanceMethod yX11_firstSame ∈ lw_all := lw_in (List.mem_of_getElem? (i := 974) (by decide +kernel)) rfl
theorem qw975 : Cond.code yX11_firstSame cX11_firstSame 4 (some .int) ∈ lw_all := lw_in (List.mem_of_getElem? (i := 975) (by decide +kernel)) rfl
theorem qw976 : Cond.methodLink RX11 145 yX11_spreads ∈ lw_all := lw_in (List.mem_of_getElem? (i := 976) (by decide +kernel)) rfl
theorem qw978 : Cond.instanceMethod yX11_spreads ∈ lw_all := lw_in (List.mem_of_getElem? (i := 978) (by decide +kernel)) rfl
theorem qw979 : Cond.code yX11_spreads cX11_spreads 1 none ∈ lw_all := lw_in (List.mem_of_getElem? (i := 979) (by decide +kernel)) rfl
theorem qw980 : Cond.methodLink RX11 192 yX11_spreadsFrom ∈ lw_all := lw_in (List.mem_of_getElem? (i := 980) (by decide +kernel)) rfl
theorem qw982 : Cond.instanceMethod yX11_spreadsFrom ∈ lw_all := lw_in (List.mem_of_getElem? (i := 982) (by decide +kernel)) rfl
theorem qw983 : Cond.code yX11_spreadsFrom cX11_spreadsFrom 7 none ∈ lw_all := lw_in (List.mem_of_getElem? (i := 983) (by decide +kernel)) rfl
theorem qw984 : Cond.methodLink RX11 185 yX11_takesLeads ∈ lw_all := lw_in (List.mem_of_getElem? (i := 984) (by decide +kernel)) rfl
theorem qw986 : Cond.instanceMethod yX11_takesLeads ∈ lw_all := lw_in (List.mem_of_getElem? (i := 986) (by decide +kernel)) rfl
theorem qw987 : Cond.code yX11_takesLeads cX11_takesLeads 3 none ∈ lw_all := lw_in (List.mem_of_getElem? (i := 987) (by decide +kernel)) rfl
theorem qw988 : Cond.methodLink RX11 188 yX11_moved ∈ lw_all := lw_in (List.mem_of_getElem? (i := 988) (by decide +kernel)) rfl
theorem qw990 : Cond.instanceMethod yX11_moved ∈ lw_all := lw_in (List.mem_of_getElem? (i := 990) (by decide +kernel)) rfl
theorem qw991 : Cond.code yX11_moved cX11_moved 6 (some .int) ∈ lw_all := lw_in (List.mem_of_getElem? (i := 991) (by decide +kernel)) rfl
theorem qw992 : Cond.methodLink RL 67 yX11_path ∈ lw_all := lw_in (List.mem_of_getElem? (i := 992) (by decide +kernel)) rfl
theorem qw993 : Cond.instanceMethod yX11_path ∈ lw_all := lw_in (List.mem_of_getElem? (i := 993) (by decide +kernel)) rfl
theorem qw994 : Cond.selects RX11 yX11_path yX11_path ∈ lw_all := lw_in (List.mem_of_getElem? (i := 994) (by decide +kernel)) rfl
theorem qw995 : Cond.code yX11_path cX11_path 3 (some .int) ∈ lw_all := lw_in (List.mem_of_getElem? (i := 995) (by decide +kernel)) rfl
theorem qw996 : Cond.methodLink RX11 148 yX11_follows ∈ lw_all := lw_in (List.mem_of_getElem? (i := 996) (by decide +kernel)) rfl
theorem qw998 : Cond.instanceMethod yX11_follows ∈ lw_all := lw_in (List.mem_of_getElem? (i := 998) (by decide +kernel)) rfl
theorem qw999 : Cond.code yX11_follows cX11_follows 4 none ∈ lw_all := lw_in (List.mem_of_getElem? (i := 999) (by decide +kernel)) rfl
theorem qw1000 : Cond.methodLink RX11 151 yX11_dodges ∈ lw_all := lw_in (List.mem_of_getElem? (i := 1000) (by decide +kernel)) rfl
theorem qw1002 : Cond.instanceMethod yX11_dodges ∈ lw_all := lw_in (List.mem_of_getElem? (i := 1002) (by decide +kernel)) rfl
theorem qw1003 : Cond.code yX11_dodges cX11_dodges 4 (some .int) ∈ lw_all := lw_in (List.mem_of_getElem? (i := 1003) (by decide +kernel)) rfl
theorem qw1004 : Cond.methodLink RX11 155 yX11_rowsAt ∈ lw_all := lw_in (List.mem_of_getElem? (i := 1004) (by decide +kernel)) rfl
theorem qw1006 : Cond.instanceMethod yX11_rowsAt ∈ lw_all := lw_in (List.mem_of_getElem? (i := 1006) (by decide +kernel)) rfl
theorem qw1007 : Cond.code yX11_rowsAt cX11_rowsAt 4 (some .int) ∈ lw_all := lw_in (List.mem_of_getElem? (i := 1007) (by decide +kernel)) rfl
theorem qw1008 : Cond.methodLink RX11 158 yX11_stays ∈ lw_all := lw_in (List.mem_of_getElem? (i := 1008) (by decide +kernel)) rfl
theorem qw1010 : Cond.instanceMethod yX11_stays ∈ lw_all := lw_in (List.mem_of_getElem? (i := 1010) (by decide +kernel)) rfl
theorem qw1011 : Cond.code yX11_stays cX11_stays 3 (some .int) ∈ lw_all := lw_in (List.mem_of_getElem? (i := 1011) (by decide +kernel)) rfl
theorem qw1012 : Cond.methodLink RL 71 yX11_blows ∈ lw_all := lw_in (List.mem_of_getElem? (i := 1012) (by decide +kernel)) rfl
theorem qw1013 : Cond.instanceMethod yX11_blows ∈ lw_all := lw_in (List.mem_of_getElem? (i := 1013) (by decide +kernel)) rfl
theorem qw1014 : Cond.selects RX11 yX11_blows yX11_blows ∈ lw_all := lw_in (List.mem_of_getElem? (i := 1014) (by decide +kernel)) rfl
theorem qw1015 : Cond.code yX11_blows cX11_blows 3 (some .int) ∈ lw_all := lw_in (List.mem_of_getElem? (i := 1015) (by decide +kernel)) rfl
theorem qw1016 : Cond.methodLink RL 75 yX11_count ∈ lw_all := lw_in (List.mem_of_getElem? (i := 1016) (by decide +kernel)) rfl
theorem qw1017 : Cond.instanceMethod yX11_count ∈ lw_all := lw_in (List.mem_of_getElem? (i := 1017) (by decide +kernel)) rfl
theorem qw1018 : Cond.selects RX11 yX11_count yX11_count ∈ lw_all := lw_in (List.mem_of_getElem? (i := 1018) (by decide +kernel)) rfl
theorem qw1019 : Cond.code yX11_count cX11_count 2 (some .int) ∈ lw_all := lw_in (List.mem_of_getElem? (i := 1019) (by decide +kernel)) rfl
theorem qw1020 : Cond.methodLink RX11 164 yX11_roundAt ∈ lw_all := lw_in (List.mem_of_getElem? (i := 1020) (by decide +kernel)) rfl
theorem qw1022 : Cond.instanceMethod yX11_roundAt ∈ lw_all := lw_in (List.mem_of_getElem? (i := 1022) (by decide +kernel)) rfl
theorem qw1023 : Cond.code yX11_roundAt cX11_roundAt 2 (some .int) ∈ lw_all := lw_in (List.mem_of_getElem? (i := 1023) (by decide +kernel)) rfl
theorem qw1024 : Cond.methodLink RX11 167 yX11_firstTwice ∈ lw_all := lw_in (List.mem_of_getElem? (i := 1024) (by decide +kernel)) rfl
theorem qw1026 : Cond.instanceMethod yX11_firstTwice ∈ lw_all := lw_in (List.mem_of_getElem? (i := 1026) (by decide +kernel)) rfl
theorem qw1027 : Cond.code yX11_firstTwice cX11_firstTwice 2 (some .int) ∈ lw_all := lw_in (List.mem_of_getElem? (i := 1027) (by decide +kernel)) rfl
theorem qw1028 : Cond.methodLink RX11 170 yX11_unlike ∈ lw_all := lw_in (List.mem_of_getElem? (i := 1028) (by decide +kernel)) rfl
theorem qw1030 : Cond.instanceMethod yX11_unlike ∈ lw_all := lw_in (List.mem_of_getElem? (i := 1030) (by decide +kernel)) rfl
theorem qw1031 : Cond.code yX11_unlike cX11_unlike 3 (some .int) ∈ lw_all := lw_in (List.mem_of_getElem? (i := 1031) (by decide +kernel)) rfl
theorem qw1032 : Cond.methodLink RX11 173 yX11_falsePairs ∈ lw_all := lw_in (List.mem_of_getElem? (i := 1032) (by decide +kernel)) rfl
theorem qw1034 : Cond.instanceMethod yX11_falsePairs ∈ lw_all := lw_in (List.mem_of_getElem? (i := 1034) (by decide +kernel)) rfl
theorem qw1035 : Cond.code yX11_falsePairs cX11_falsePairs 4 (some .int) ∈ lw_all := lw_in (List.mem_of_getElem? (i := 1035) (by decide +kernel)) rfl
theorem qw1036 : Cond.methodLink RX11 161 yX11_areFalse ∈ lw_all := lw_in (List.mem_of_getElem? (i := 1036) (by decide +kernel)) rfl
theorem qw1038 : Cond.instanceMethod yX11_areFalse ∈ lw_all := lw_in (List.mem_of_getElem? (i := 1038) (by decide +kernel)) rfl
theorem qw1039 : Cond.code yX11_areFalse cX11_areFalse 7 (some .boolean) ∈ lw_all := lw_in (List.mem_of_getElem? (i := 1039) (by decide +kernel)) rfl
theorem qw1040 : Cond.methodLink RX11 176 yX11_musical ∈ lw_all := lw_in (List.mem_of_getElem? (i := 1040) (by decide +kernel)) rfl
theorem qw1042 : Cond.instanceMethod yX11_musical ∈ lw_all := lw_in (List.mem_of_getElem? (i := 1042) (by decide +kernel)) rfl
theorem qw1043 : Cond.code yX11_musical cX11_musical 3 (some .int) ∈ lw_all := lw_in (List.mem_of_getElem? (i := 1043) (by decide +kernel)) rfl
theorem qw1044 : Cond.methodLink RX11 179 yX11_called ∈ lw_all := lw_in (List.mem_of_getElem? (i := 1044) (by decide +kernel)) rfl
theorem qw1046 : Cond.instanceMethod yX11_called ∈ lw_all := lw_in (List.mem_of_getElem? (i := 1046) (by decide +kernel)) rfl
theorem qw1047 : Cond.code yX11_called cX11_called 3 (some .int) ∈ lw_all := lw_in (List.mem_of_getElem? (i := 1047) (by decide +kernel)) rfl
theorem qw1048 : Cond.methodLink RX11 182 yX11_plainCourse ∈ lw_all := lw_in (List.mem_of_getElem? (i := 1048) (by decide +kernel)) rfl
theorem qw1050 : Cond.instanceMethod yX11_plainCourse ∈ lw_all := lw_in (List.mem_of_getElem? (i := 1050) (by decide +kernel)) rfl
theorem qw1051 : Cond.code yX11_plainCourse cX11_plainCourse 4 (some .int) ∈ lw_all := lw_in (List.mem_of_getElem? (i := 1051) (by decide +kernel)) rfl
theorem qw1052 : Cond.methodLink RL 80 yX11_music ∈ lw_all := lw_in (List.mem_of_getElem? (i := 1052) (by decide +kernel)) rfl
theorem qw1053 : Cond.instanceMethod yX11_music ∈ lw_all := lw_in (List.mem_of_getElem? (i := 1053) (by decide +kernel)) rfl
theorem qw1054 : Cond.selects RX11 yX11_music yX11_music ∈ lw_all := lw_in (List.mem_of_getElem? (i := 1054) (by decide +kernel)) rfl
theorem qw1055 : Cond.code yX11_music cX11_music 3 (some .double) ∈ lw_all := lw_in (List.mem_of_getElem? (i := 1055) (by decide +kernel)) rfl
theorem qw1056 : Cond.methodLink RL 84 yX11_home ∈ lw_all := lw_in (List.mem_of_getElem? (i := 1056) (by decide +kernel)) rfl
theorem qw1057 : Cond.instanceMethod yX11_home ∈ lw_all := lw_in (List.mem_of_getElem? (i := 1057) (by decide +kernel)) rfl
theorem qw1058 : Cond.selects RX11 yX11_home yX11_home ∈ lw_all := lw_in (List.mem_of_getElem? (i := 1058) (by decide +kernel)) rfl
theorem qw1059 : Cond.code yX11_home cX11_home 3 (some .int) ∈ lw_all := lw_in (List.mem_of_getElem? (i := 1059) (by decide +kernel)) rfl
theorem qw1060 : Cond.methodLink RL 88 yX11_homeCall ∈ lw_all := lw_in (List.mem_of_getElem? (i := 1060) (by decide +kernel)) rfl
theorem qw1061 : Cond.instanceMethod yX11_homeCall ∈ lw_all := lw_in (List.mem_of_getElem? (i := 1061) (by decide +kernel)) rfl
theorem qw1062 : Cond.selects RX11 yX11_homeCall yX11_homeCall ∈ lw_all := lw_in (List.mem_of_getElem? (i := 1062) (by decide +kernel)) rfl
theorem qw1063 : Cond.code yX11_homeCall cX11_homeCall 6 (some .int) ∈ lw_all := lw_in (List.mem_of_getElem? (i := 1063) (by decide +kernel)) rfl
theorem qw1064 : Cond.methodLink RL 93 yX11_ifCalled ∈ lw_all := lw_in (List.mem_of_getElem? (i := 1064) (by decide +kernel)) rfl
theorem qw1065 : Cond.instanceMethod yX11_ifCalled ∈ lw_all := lw_in (List.mem_of_getElem? (i := 1065) (by decide +kernel)) rfl
theorem qw1066 : Cond.selects RX11 yX11_ifCalled yX11_ifCalled ∈ lw_all := lw_in (List.mem_of_getElem? (i := 1066) (by decide +kernel)) rfl
theorem qw1067 : Cond.code yX11_ifCalled cX11_ifCalled 6 (some .int) ∈ lw_all := lw_in (List.mem_of_getElem? (i := 1067) (by decide +kernel)) rfl
theorem qw1068 : Cond.methodLink RL 97 yX11_best ∈ lw_all := lw_in (List.mem_of_getElem? (i := 1068) (by decide +kernel)) rfl
theorem qw1069 : Cond.instanceMethod yX11_best ∈ lw_all := lw_in (List.mem_of_getElem? (i := 1069) (by decide +kernel)) rfl
theorem qw1070 : Cond.selects RX11 yX11_best yX11_best ∈ lw_all := lw_in (List.mem_of_getElem? (i := 1070) (by decide +kernel)) rfl
theorem qw1071 : Cond.code yX11_best cX11_best 5 (some .int) ∈ lw_all := lw_in (List.mem_of_getElem? (i := 1071) (by decide +kernel)) rfl
theorem qw1072 : Cond.methodLink RL 101 yX11_undo ∈ lw_all := lw_in (List.mem_of_getElem? (i := 1072) (by decide +kernel)) rfl
theorem qw1073 : Cond.instanceMethod yX11_undo ∈ lw_all := lw_in (List.mem_of_getElem? (i := 1073) (by decide +kernel)) rfl
theorem qw1074 : Cond.selects RX11 yX11_undo yX11_undo ∈ lw_all := lw_in (List.mem_of_getElem? (i := 1074) (by decide +kernel)) rfl
theorem qw1075 : Cond.code yX11_undo cX11_undo 2 (some .int) ∈ lw_all := lw_in (List.mem_of_getElem? (i := 1075) (by decide +kernel)) rfl
theorem qw1076 : Cond.methodLink RL 105 yX11_save ∈ lw_all := lw_in (List.mem_of_getElem? (i := 1076) (by decide +kernel)) rfl
theorem qw1077 : Cond.instanceMethod yX11_save ∈ lw_all := lw_in (List.mem_of_getElem? (i := 1077) (by decide +kernel)) rfl
theorem qw1078 : Cond.selects RX11 yX11_save yX11_save ∈ lw_all := lw_in (List.mem_of_getElem? (i := 1078) (by decide +kernel)) rfl
theorem qw1079 : Cond.code yX11_save cX11_save 2 (some .int) ∈ lw_all := lw_in (List.mem_of_getElem? (i := 1079) (by decide +kernel)) rfl
theorem qw1080 : Cond.methodLink RL 109 yX11_restore ∈ lw_all := lw_in (List.mem_of_getElem? (i := 1080) (by decide +kernel)) rfl
theorem qw1081 : Cond.instanceMethod yX11_restore ∈ lw_all := lw_in (List.mem_of_getElem? (i := 1081) (by decide +kernel)) rfl
theorem qw1082 : Cond.selects RX11 yX11_restore yX11_restore ∈ lw_all := lw_in (List.mem_of_getElem? (i := 1082) (by decide +kernel)) rfl
theorem qw1083 : Cond.code yX11_restore cX11_restore 2 (some .int) ∈ lw_all := lw_in (List.mem_of_getElem? (i := 1083) (by decide +kernel)) rfl
theorem qw1084 : Cond.fieldLink RJ0 15 "java/lang/String" "coder" "B" ∈ lw_all := lw_in (List.mem_of_getElem? (i := 1084) (by decide +kernel)) rfl
theorem qw1085 : Cond.fieldLink RJ0 9 "java/lang/String" "value" "[B" ∈ lw_all := lw_in (List.mem_of_getElem? (i := 1085) (by decide +kernel)) rfl
set_option maxRecDepth 100000 in
theorem inX0 : ∀ w ∈ wsX00, w ∈ lw_all := by decide +kernel
set_option maxRecDepth 100000 in
theorem inX1 : ∀ w ∈ wsX10, w ∈ lw_all := by decide +kernel
set_option maxRecDepth 100000 in
theorem inX2 : ∀ w ∈ wsX20, w ∈ lw_all := by decide +kernel
set_option maxRecDepth 100000 in
theorem inX3 : ∀ w ∈ wsX30, w ∈ lw_all := by decide +kernel
set_option maxRecDepth 100000 in
theorem inX5 : ∀ w ∈ wsX50, w ∈ lw_all := by decide +kernel
set_option maxRecDepth 100000 in
theorem inX7 : ∀ w ∈ wsX70, w ∈ lw_all := by decide +kernel
set_option maxRecDepth 100000 in
theorem inX9 : ∀ w ∈ wsX90, w ∈ lw_all := by decide +kernel
set_option maxRecDepth 100000 in
theorem inX10 : ∀ w ∈ wsX100, w ∈ lw_all := by decide +kernel
set_option maxRecDepth 100000 in
theorem inX11 : ∀ w ∈ wsX110, w ∈ lw_all := by decide +kernel
theorem hd_X10_init : yX10_init.cls ≠ "java/lang/invoke/MethodHandle" ∧ yX10_init.cls ≠ "java/lang/invoke/VarHandle" ∧ (parseMethodDescriptor yX10_init.desc).map (fun d => d.parameters.length) = some 0 := by decide +kernel
theorem hd_X10_bells : yX10_bells.cls ≠ "java/lang/invoke/MethodHandle" ∧ yX10_bells.cls ≠ "java/lang/invoke/VarHandle" ∧ (parseMethodDescriptor yX10_bells.desc).map (fun d => d.parameters.length) = some 1 := by decide +kernel
theorem hd_X10_method : yX10_method.cls ≠ "java/lang/invoke/MethodHandle" ∧ yX10_method.cls ≠ "java/lang/invoke/VarHandle" ∧ (parseMethodDescriptor yX10_method.desc).map (fun d => d.parameters.length) = some 0 := by decide +kernel
theorem hd_X10_call : yX10_call.cls ≠ "java/lang/invoke/MethodHandle" ∧ yX10_call.cls ≠ "java/lang/invoke/VarHandle" ∧ (parseMethodDescriptor yX10_call.desc).map (fun d => d.parameters.length) = some 2 := by decide +kernel
theorem hd_X10_touch : yX10_touch.cls ≠ "java/lang/invoke/MethodHandle" ∧ yX10_touch.cls ≠ "java/lang/invoke/VarHandle" ∧ (parseMethodDescriptor yX10_touch.desc).map (fun d => d.parameters.length) = some 0 := by decide +kernel
theorem hd_X10_add : yX10_add.cls ≠ "java/lang/invoke/MethodHandle" ∧ yX10_add.cls ≠ "java/lang/invoke/VarHandle" ∧ (parseMethodDescriptor yX10_add.desc).map (fun d => d.parameters.length) = some 1 := by decide +kernel
theorem hd_X10_cut : yX10_cut.cls ≠ "java/lang/invoke/MethodHandle" ∧ yX10_cut.cls ≠ "java/lang/invoke/VarHandle" ∧ (parseMethodDescriptor yX10_cut.desc).map (fun d => d.parameters.length) = some 1 := by decide +kernel
theorem hd_X10_append : yX10_append.cls ≠ "java/lang/invoke/MethodHandle" ∧ yX10_append.cls ≠ "java/lang/invoke/VarHandle" ∧ (parseMethodDescriptor yX10_append.desc).map (fun d => d.parameters.length) = some 1 := by decide +kernel
theorem hd_X10_clear : yX10_clear.cls ≠ "java/lang/invoke/MethodHandle" ∧ yX10_clear.cls ≠ "java/lang/invoke/VarHandle" ∧ (parseMethodDescriptor yX10_clear.desc).map (fun d => d.parameters.length) = some 0 := by decide +kernel
theorem hd_X10_fault : yX10_fault.cls ≠ "java/lang/invoke/MethodHandle" ∧ yX10_fault.cls ≠ "java/lang/invoke/VarHandle" ∧ (parseMethodDescriptor yX10_fault.desc).map (fun d => d.parameters.length) = some 1 := by decide +kernel
theorem hd_X10_bell : yX10_bell.cls ≠ "java/lang/invoke/MethodHandle" ∧ yX10_bell.cls ≠ "java/lang/invoke/VarHandle" ∧ (parseMethodDescriptor yX10_bell.desc).map (fun d => d.parameters.length) = some 2 := by decide +kernel
theorem hd_X10_change : yX10_change.cls ≠ "java/lang/invoke/MethodHandle" ∧ yX10_change.cls ≠ "java/lang/invoke/VarHandle" ∧ (parseMethodDescriptor yX10_change.desc).map (fun d => d.parameters.length) = some 2 := by decide +kernel
theorem hd_X10_row : yX10_row.cls ≠ "java/lang/invoke/MethodHandle" ∧ yX10_row.cls ≠ "java/lang/invoke/VarHandle" ∧ (parseMethodDescriptor yX10_row.desc).map (fun d => d.parameters.length) = some 2 := by decide +kernel
theorem hd_X10_path : yX10_path.cls ≠ "java/lang/invoke/MethodHandle" ∧ yX10_path.cls ≠ "java/lang/invoke/VarHandle" ∧ (parseMethodDescriptor yX10_path.desc).map (fun d => d.parameters.length) = some 2 := by decide +kernel
theorem hd_X10_blows : yX10_blows.cls ≠ "java/lang/invoke/MethodHandle" ∧ yX10_blows.cls ≠ "java/lang/invoke/VarHandle" ∧ (parseMethodDescriptor yX10_blows.desc).map (fun d => d.parameters.length) = some 2 := by decide +kernel
theorem hd_X10_count : yX10_count.cls ≠ "java/lang/invoke/MethodHandle" ∧ yX10_count.cls ≠ "java/lang/invoke/VarHandle" ∧ (parseMethodDescriptor yX10_count.desc).map (fun d => d.parameters.length) = some 1 := by decide +kernel
theorem hd_X10_music : yX10_music.cls ≠ "java/lang/invoke/MethodHandle" ∧ yX10_music.cls ≠ "java/lang/invoke/VarHandle" ∧ (parseMethodDescriptor yX10_music.desc).map (fun d => d.parameters.length) = some 0 := by decide +kernel
theorem hd_X10_home : yX10_home.cls ≠ "java/lang/invoke/MethodHandle" ∧ yX10_home.cls ≠ "java/lang/invoke/VarHandle" ∧ (parseMethodDescriptor yX10_home.desc).map (fun d => d.parameters.length) = some 1 := by decide +kernel
theorem hd_X10_homeCall : yX10_homeCall.cls ≠ "java/lang/invoke/MethodHandle" ∧ yX10_homeCall.cls ≠ "java/lang/invoke/VarHandle" ∧ (parseMethodDescriptor yX10_homeCall.desc).map (fun d => d.parameters.length) = some 1 := by decide +kernel
theorem hd_X10_ifCalled : yX10_ifCalled.cls ≠ "java/lang/invoke/MethodHandle" ∧ yX10_ifCalled.cls ≠ "java/lang/invoke/VarHandle" ∧ (parseMethodDescriptor yX10_ifCalled.desc).map (fun d => d.parameters.length) = some 3 := by decide +kernel
theorem hd_X10_best : yX10_best.cls ≠ "java/lang/invoke/MethodHandle" ∧ yX10_best.cls ≠ "java/lang/invoke/VarHandle" ∧ (parseMethodDescriptor yX10_best.desc).map (fun d => d.parameters.length) = some 0 := by decide +kernel
theorem hd_X10_undo : yX10_undo.cls ≠ "java/lang/invoke/MethodHandle" ∧ yX10_undo.cls ≠ "java/lang/invoke/VarHandle" ∧ (parseMethodDescriptor yX10_undo.desc).map (fun d => d.parameters.length) = some 0 := by decide +kernel
theorem hd_X10_save : yX10_save.cls ≠ "java/lang/invoke/MethodHandle" ∧ yX10_save.cls ≠ "java/lang/invoke/VarHandle" ∧ (parseMethodDescriptor yX10_save.desc).map (fun d => d.parameters.length) = some 0 := by decide +kernel
theorem hd_X10_restore : yX10_restore.cls ≠ "java/lang/invoke/MethodHandle" ∧ yX10_restore.cls ≠ "java/lang/invoke/VarHandle" ∧ (parseMethodDescriptor yX10_restore.desc).map (fun d => d.parameters.length) = some 0 := by decide +kernel
theorem hd_X10_begin : yX10_begin.cls ≠ "java/lang/invoke/MethodHandle" ∧ yX10_begin.cls ≠ "java/lang/invoke/VarHandle" ∧ (parseMethodDescriptor yX10_begin.desc).map (fun d => d.parameters.length) = some 1 := by decide +kernel
theorem hd_X10_readStart : yX10_readStart.cls ≠ "java/lang/invoke/MethodHandle" ∧ yX10_readStart.cls ≠ "java/lang/invoke/VarHandle" ∧ (parseMethodDescriptor yX10_readStart.desc).map (fun d => d.parameters.length) = some 2 := by decide +kernel
theorem hd_X10_countRows : yX10_countRows.cls ≠ "java/lang/invoke/MethodHandle" ∧ yX10_countRows.cls ≠ "java/lang/invoke/VarHandle" ∧ (parseMethodDescriptor yX10_countRows.desc).map (fun d => d.parameters.length) = some 1 := by decide +kernel
theorem hd_X10_lastOrder : yX10_lastOrder.cls ≠ "java/lang/invoke/MethodHandle" ∧ yX10_lastOrder.cls ≠ "java/lang/invoke/VarHandle" ∧ (parseMethodDescriptor yX10_lastOrder.desc).map (fun d => d.parameters.length) = some 0 := by decide +kernel
theorem hd_X10_isBell : yX10_isBell.cls ≠ "java/lang/invoke/MethodHandle" ∧ yX10_isBell.cls ≠ "java/lang/invoke/VarHandle" ∧ (parseMethodDescriptor yX10_isBell.desc).map (fun d => d.parameters.length) = some 1 := by decide +kernel
theorem hd_X10_isWithin : yX10_isWithin.cls ≠ "java/lang/invoke/MethodHandle" ∧ yX10_isWithin.cls ≠ "java/lang/invoke/VarHandle" ∧ (parseMethodDescriptor yX10_isWithin.desc).map (fun d => d.parameters.length) = some 3 := by decide +kernel
theorem hd_X11_init : yX11_init.cls ≠ "java/lang/invoke/MethodHandle" ∧ yX11_init.cls ≠ "java/lang/invoke/VarHandle" ∧ (parseMethodDescriptor yX11_init.desc).map (fun d => d.parameters.length) = some 0 := by decide +kernel
theorem hd_X11_in : yX11_in.cls ≠ "java/lang/invoke/MethodHandle" ∧ yX11_in.cls ≠ "java/lang/invoke/VarHandle" ∧ (parseMethodDescriptor yX11_in.desc).map (fun d => d.parameters.length) = some 3 := by decide +kernel
theorem hd_X11_changes : yX11_changes.cls ≠ "java/lang/invoke/MethodHandle" ∧ yX11_changes.cls ≠ "java/lang/invoke/VarHandle" ∧ (parseMethodDescriptor yX11_changes.desc).map (fun d => d.parameters.length) = some 0 := by decide +kernel
theorem hd_X11_lays : yX11_lays.cls ≠ "java/lang/invoke/MethodHandle" ∧ yX11_lays.cls ≠ "java/lang/invoke/VarHandle" ∧ (parseMethodDescriptor yX11_lays.desc).map (fun d => d.parameters.length) = some 1 := by decide +kernel
theorem hd_X11_last : yX11_last.cls ≠ "java/lang/invoke/MethodHandle" ∧ yX11_last.cls ≠ "java/lang/invoke/VarHandle" ∧ (parseMethodDescriptor yX11_last.desc).map (fun d => d.parameters.length) = some 0 := by decide +kernel
theorem hd_X11_isRight : yX11_isRight.cls ≠ "java/lang/invoke/MethodHandle" ∧ yX11_isRight.cls ≠ "java/lang/invoke/VarHandle" ∧ (parseMethodDescriptor yX11_isRight.desc).map (fun d => d.parameters.length) = some 1 := by decide +kernel
theorem hd_X11_toRounds : yX11_toRounds.cls ≠ "java/lang/invoke/MethodHandle" ∧ yX11_toRounds.cls ≠ "java/lang/invoke/VarHandle" ∧ (parseMethodDescriptor yX11_toRounds.desc).map (fun d => d.parameters.length) = some 0 := by decide +kernel
theorem hd_X11_rings : yX11_rings.cls ≠ "java/lang/invoke/MethodHandle" ∧ yX11_rings.cls ≠ "java/lang/invoke/VarHandle" ∧ (parseMethodDescriptor yX11_rings.desc).map (fun d => d.parameters.length) = some 1 := by decide +kernel
theorem hd_X11_rank : yX11_rank.cls ≠ "java/lang/invoke/MethodHandle" ∧ yX11_rank.cls ≠ "java/lang/invoke/VarHandle" ∧ (parseMethodDescriptor yX11_rank.desc).map (fun d => d.parameters.length) = some 0 := by decide +kernel
theorem hd_X11_unrank : yX11_unrank.cls ≠ "java/lang/invoke/MethodHandle" ∧ yX11_unrank.cls ≠ "java/lang/invoke/VarHandle" ∧ (parseMethodDescriptor yX11_unrank.desc).map (fun d => d.parameters.length) = some 1 := by decide +kernel
theorem hd_X11_changeOf : yX11_changeOf.cls ≠ "java/lang/invoke/MethodHandle" ∧ yX11_changeOf.cls ≠ "java/lang/invoke/VarHandle" ∧ (parseMethodDescriptor yX11_changeOf.desc).map (fun d => d.parameters.length) = some 2 := by decide +kernel
theorem hd_X11_ringsLead : yX11_ringsLead.cls ≠ "java/lang/invoke/MethodHandle" ∧ yX11_ringsLead.cls ≠ "java/lang/invoke/VarHandle" ∧ (parseMethodDescriptor yX11_ringsLead.desc).map (fun d => d.parameters.length) = some 1 := by decide +kernel
theorem hd_X11_ringsAll : yX11_ringsAll.cls ≠ "java/lang/invoke/MethodHandle" ∧ yX11_ringsAll.cls ≠ "java/lang/invoke/VarHandle" ∧ (parseMethodDescriptor yX11_ringsAll.desc).map (fun d => d.parameters.length) = some 1 := by decide +kernel
theorem hd_X11_bells : yX11_bells.cls ≠ "java/lang/invoke/MethodHandle" ∧ yX11_bells.cls ≠ "java/lang/invoke/VarHandle" ∧ (parseMethodDescriptor yX11_bells.desc).map (fun d => d.parameters.length) = some 1 := by decide +kernel
theorem hd_X11_isAt : yX11_isAt.cls ≠ "java/lang/invoke/MethodHandle" ∧ yX11_isAt.cls ≠ "java/lang/invoke/VarHandle" ∧ (parseMethodDescriptor yX11_isAt.desc).map (fun d => d.parameters.length) = some 2 := by decide +kernel
theorem hd_X11_couldBeRight : yX11_couldBeRight.cls ≠ "java/lang/invoke/MethodHandle" ∧ yX11_couldBeRight.cls ≠ "java/lang/invoke/VarHandle" ∧ (parseMethodDescriptor yX11_couldBeRight.desc).map (fun d => d.parameters.length) = some 2 := by decide +kernel
theorem hd_X11_readsChange : yX11_readsChange.cls ≠ "java/lang/invoke/MethodHandle" ∧ yX11_readsChange.cls ≠ "java/lang/invoke/VarHandle" ∧ (parseMethodDescriptor yX11_readsChange.desc).map (fun d => d.parameters.length) = some 0 := by decide +kernel
theorem hd_X11_methodFault : yX11_methodFault.cls ≠ "java/lang/invoke/MethodHandle" ∧ yX11_methodFault.cls ≠ "java/lang/invoke/VarHandle" ∧ (parseMethodDescriptor yX11_methodFault.desc).map (fun d => d.parameters.length) = some 0 := by decide +kernel
theorem hd_X11_kindOf : yX11_kindOf.cls ≠ "java/lang/invoke/MethodHandle" ∧ yX11_kindOf.cls ≠ "java/lang/invoke/VarHandle" ∧ (parseMethodDescriptor yX11_kindOf.desc).map (fun d => d.parameters.length) = some 1 := by decide +kernel
theorem hd_X11_touchFault : yX11_touchFault.cls ≠ "java/lang/invoke/MethodHandle" ∧ yX11_touchFault.cls ≠ "java/lang/invoke/VarHandle" ∧ (parseMethodDescriptor yX11_touchFault.desc).map (fun d => d.parameters.length) = some 0 := by decide +kernel
theorem hd_X11_method : yX11_method.cls ≠ "java/lang/invoke/MethodHandle" ∧ yX11_method.cls ≠ "java/lang/invoke/VarHandle" ∧ (parseMethodDescriptor yX11_method.desc).map (fun d => d.parameters.length) = some 0 := by decide +kernel
theorem hd_X11_call : yX11_call.cls ≠ "java/lang/invoke/MethodHandle" ∧ yX11_call.cls ≠ "java/lang/invoke/VarHandle" ∧ (parseMethodDescriptor yX11_call.desc).map (fun d => d.parameters.length) = some 2 := by decide +kernel
theorem hd_X11_touch : yX11_touch.cls ≠ "java/lang/invoke/MethodHandle" ∧ yX11_touch.cls ≠ "java/lang/invoke/VarHandle" ∧ (parseMethodDescriptor yX11_touch.desc).map (fun d => d.parameters.length) = some 0 := by decide +kernel
theorem hd_X11_add : yX11_add.cls ≠ "java/lang/invoke/MethodHandle" ∧ yX11_add.cls ≠ "java/lang/invoke/VarHandle" ∧ (parseMethodDescriptor yX11_add.desc).map (fun d => d.parameters.length) = some 1 := by decide +kernel
theorem hd_X11_cut : yX11_cut.cls ≠ "java/lang/invoke/MethodHandle" ∧ yX11_cut.cls ≠ "java/lang/invoke/VarHandle" ∧ (parseMethodDescriptor yX11_cut.desc).map (fun d => d.parameters.length) = some 1 := by decide +kernel
theorem hd_X11_append : yX11_append.cls ≠ "java/lang/invoke/MethodHandle" ∧ yX11_append.cls ≠ "java/lang/invoke/VarHandle" ∧ (parseMethodDescriptor yX11_append.desc).map (fun d => d.parameters.length) = some 1 := by decide +kernel
theorem hd_X11_clear : yX11_clear.cls ≠ "java/lang/invoke/MethodHandle" ∧ yX11_clear.cls ≠ "java/lang/invoke/VarHandle" ∧ (parseMethodDescriptor yX11_clear.desc).map (fun d => d.parameters.length) = some 0 := by decide +kernel
theorem hd_X11_fault : yX11_fault.cls ≠ "java/lang/invoke/MethodHandle" ∧ yX11_fault.cls ≠ "java/lang/invoke/VarHandle" ∧ (parseMethodDescriptor yX11_fault.desc).map (fun d => d.parameters.length) = some 1 := by decide +kernel
theorem hd_X11_isPlace : yX11_isPlace.cls ≠ "java/lang/invoke/MethodHandle" ∧ yX11_isPlace.cls ≠ "java/lang/invoke/VarHandle" ∧ (parseMethodDescriptor yX11_isPlace.desc).map (fun d => d.parameters.length) = some 1 := by decide +kernel
theorem hd_X11_isRow : yX11_isRow.cls ≠ "java/lang/invoke/MethodHandle" ∧ yX11_isRow.cls ≠ "java/lang/invoke/VarHandle" ∧ (parseMethodDescriptor yX11_isRow.desc).map (fun d => d.parameters.length) = some 1 := by decide +kernel
theorem hd_X11_bell : yX11_bell.cls ≠ "java/lang/invoke/MethodHandle" ∧ yX11_bell.cls ≠ "java/lang/invoke/VarHandle" ∧ (parseMethodDescriptor yX11_bell.desc).map (fun d => d.parameters.length) = some 2 := by decide +kernel
theorem hd_X11_change : yX11_change.cls ≠ "java/lang/invoke/MethodHandle" ∧ yX11_change.cls ≠ "java/lang/invoke/VarHandle" ∧ (parseMethodDescriptor yX11_change.desc).map (fun d => d.parameters.length) = some 2 := by decide +kernel
theorem hd_X11_signByPairs : yX11_signByPairs.cls ≠ "java/lang/invoke/MethodHandle" ∧ yX11_signByPairs.cls ≠ "java/lang/invoke/VarHandle" ∧ (parseMethodDescriptor yX11_signByPairs.desc).map (fun d => d.parameters.length) = some 0 := by decide +kernel
theorem hd_X11_signByRings : yX11_signByRings.cls ≠ "java/lang/invoke/MethodHandle" ∧ yX11_signByRings.cls ≠ "java/lang/invoke/VarHandle" ∧ (parseMethodDescriptor yX11_signByRings.desc).map (fun d => d.parameters.length) = some 0 := by decide +kernel
theorem hd_X11_soundsWell : yX11_soundsWell.cls ≠ "java/lang/invoke/MethodHandle" ∧ yX11_soundsWell.cls ≠ "java/lang/invoke/VarHandle" ∧ (parseMethodDescriptor yX11_soundsWell.desc).map (fun d => d.parameters.length) = some 0 := by decide +kernel
theorem hd_X11_atHome : yX11_atHome.cls ≠ "java/lang/invoke/MethodHandle" ∧ yX11_atHome.cls ≠ "java/lang/invoke/VarHandle" ∧ (parseMethodDescriptor yX11_atHome.desc).map (fun d => d.parameters.length) = some 0 := by decide +kernel
theorem hd_X11_firstSame : yX11_firstSame.cls ≠ "java/lang/invoke/MethodHandle" ∧ yX11_firstSame.cls ≠ "java/lang/invoke/VarHandle" ∧ (parseMethodDescriptor yX11_firstSame.desc).map (fun d => d.parameters.length) = some 2 := by decide +kernel
theorem hd_X11_row : yX11_row.cls ≠ "java/lang/invoke/MethodHandle" ∧ yX11_row.cls ≠ "java/lang/invoke/VarHandle" ∧ (parseMethodDescriptor yX11_row.desc).map (fun d => d.parameters.length) = some 2 := by decide +kernel
theorem hd_X11_follows : yX11_follows.cls ≠ "java/lang/invoke/MethodHandle" ∧ yX11_follows.cls ≠ "java/lang/invoke/VarHandle" ∧ (parseMethodDescriptor yX11_follows.desc).map (fun d => d.parameters.length) = some 1 := by decide +kernel
theorem hd_X11_dodges : yX11_dodges.cls ≠ "java/lang/invoke/MethodHandle" ∧ yX11_dodges.cls ≠ "java/lang/invoke/VarHandle" ∧ (parseMethodDescriptor yX11_dodges.desc).map (fun d => d.parameters.length) = some 1 := by decide +kernel
theorem hd_X11_stays : yX11_stays.cls ≠ "java/lang/invoke/MethodHandle" ∧ yX11_stays.cls ≠ "java/lang/invoke/VarHandle" ∧ (parseMethodDescriptor yX11_stays.desc).map (fun d => d.parameters.length) = some 0 := by decide +kernel
theorem hd_X11_rowsAt : yX11_rowsAt.cls ≠ "java/lang/invoke/MethodHandle" ∧ yX11_rowsAt.cls ≠ "java/lang/invoke/VarHandle" ∧ (parseMethodDescriptor yX11_rowsAt.desc).map (fun d => d.parameters.length) = some 1 := by decide +kernel
theorem hd_X11_path : yX11_path.cls ≠ "java/lang/invoke/MethodHandle" ∧ yX11_path.cls ≠ "java/lang/invoke/VarHandle" ∧ (parseMethodDescriptor yX11_path.desc).map (fun d => d.parameters.length) = some 2 := by decide +kernel
theorem hd_X11_blows : yX11_blows.cls ≠ "java/lang/invoke/MethodHandle" ∧ yX11_blows.cls ≠ "java/lang/invoke/VarHandle" ∧ (parseMethodDescriptor yX11_blows.desc).map (fun d => d.parameters.length) = some 2 := by decide +kernel
theorem hd_X11_roundAt : yX11_roundAt.cls ≠ "java/lang/invoke/MethodHandle" ∧ yX11_roundAt.cls ≠ "java/lang/invoke/VarHandle" ∧ (parseMethodDescriptor yX11_roundAt.desc).map (fun d => d.parameters.length) = some 0 := by decide +kernel
theorem hd_X11_firstTwice : yX11_firstTwice.cls ≠ "java/lang/invoke/MethodHandle" ∧ yX11_firstTwice.cls ≠ "java/lang/invoke/VarHandle" ∧ (parseMethodDescriptor yX11_firstTwice.desc).map (fun d => d.parameters.length) = some 0 := by decide +kernel
theorem hd_X11_unlike : yX11_unlike.cls ≠ "java/lang/invoke/MethodHandle" ∧ yX11_unlike.cls ≠ "java/lang/invoke/VarHandle" ∧ (parseMethodDescriptor yX11_unlike.desc).map (fun d => d.parameters.length) = some 0 := by decide +kernel
theorem hd_X11_areFalse : yX11_areFalse.cls ≠ "java/lang/invoke/MethodHandle" ∧ yX11_areFalse.cls ≠ "java/lang/invoke/VarHandle" ∧ (parseMethodDescriptor yX11_areFalse.desc).map (fun d => d.parameters.length) = some 2 := by decide +kernel
theorem hd_X11_falsePairs : yX11_falsePairs.cls ≠ "java/lang/invoke/MethodHandle" ∧ yX11_falsePairs.cls ≠ "java/lang/invoke/VarHandle" ∧ (parseMethodDescriptor yX11_falsePairs.desc).map (fun d => d.parameters.length) = some 0 := by decide +kernel
theorem hd_X11_musical : yX11_musical.cls ≠ "java/lang/invoke/MethodHandle" ∧ yX11_musical.cls ≠ "java/lang/invoke/VarHandle" ∧ (parseMethodDescriptor yX11_musical.desc).map (fun d => d.parameters.length) = some 0 := by decide +kernel
theorem hd_X11_called : yX11_called.cls ≠ "java/lang/invoke/MethodHandle" ∧ yX11_called.cls ≠ "java/lang/invoke/VarHandle" ∧ (parseMethodDescriptor yX11_called.desc).map (fun d => d.parameters.length) = some 0 := by decide +kernel
theorem hd_X11_plainCourse : yX11_plainCourse.cls ≠ "java/lang/invoke/MethodHandle" ∧ yX11_plainCourse.cls ≠ "java/lang/invoke/VarHandle" ∧ (parseMethodDescriptor yX11_plainCourse.desc).map (fun d => d.parameters.length) = some 0 := by decide +kernel
theorem hd_X11_count : yX11_count.cls ≠ "java/lang/invoke/MethodHandle" ∧ yX11_count.cls ≠ "java/lang/invoke/VarHandle" ∧ (parseMethodDescriptor yX11_count.desc).map (fun d => d.parameters.length) = some 1 := by decide +kernel
theorem hd_X11_music : yX11_music.cls ≠ "java/lang/invoke/MethodHandle" ∧ yX11_music.cls ≠ "java/lang/invoke/VarHandle" ∧ (parseMethodDescriptor yX11_music.desc).map (fun d => d.parameters.length) = some 0 := by decide +kernel
theorem hd_X11_takesLeads : yX11_takesLeads.cls ≠ "java/lang/invoke/MethodHandle" ∧ yX11_takesLeads.cls ≠ "java/lang/invoke/VarHandle" ∧ (parseMethodDescriptor yX11_takesLeads.desc).map (fun d => d.parameters.length) = some 0 := by decide +kernel
theorem hd_X11_moved : yX11_moved.cls ≠ "java/lang/invoke/MethodHandle" ∧ yX11_moved.cls ≠ "java/lang/invoke/VarHandle" ∧ (parseMethodDescriptor yX11_moved.desc).map (fun d => d.parameters.length) = some 3 := by decide +kernel
theorem hd_X11_spreadsFrom : yX11_spreadsFrom.cls ≠ "java/lang/invoke/MethodHandle" ∧ yX11_spreadsFrom.cls ≠ "java/lang/invoke/VarHandle" ∧ (parseMethodDescriptor yX11_spreadsFrom.desc).map (fun d => d.parameters.length) = some 2 := by decide +kernel
theorem hd_X11_spreads : yX11_spreads.cls ≠ "java/lang/invoke/MethodHandle" ∧ yX11_spreads.cls ≠ "java/lang/invoke/VarHandle" ∧ (parseMethodDescriptor yX11_spreads.desc).map (fun d => d.parameters.length) = some 0 := by decide +kernel
theorem hd_X11_home : yX11_home.cls ≠ "java/lang/invoke/MethodHandle" ∧ yX11_home.cls ≠ "java/lang/invoke/VarHandle" ∧ (parseMethodDescriptor yX11_home.desc).map (fun d => d.parameters.length) = some 1 := by decide +kernel
theorem hd_X11_homeCall : yX11_homeCall.cls ≠ "java/lang/invoke/MethodHandle" ∧ yX11_homeCall.cls ≠ "java/lang/invoke/VarHandle" ∧ (parseMethodDescriptor yX11_homeCall.desc).map (fun d => d.parameters.length) = some 1 := by decide +kernel
theorem hd_X11_ifCalled : yX11_ifCalled.cls ≠ "java/lang/invoke/MethodHandle" ∧ yX11_ifCalled.cls ≠ "java/lang/invoke/VarHandle" ∧ (parseMethodDescriptor yX11_ifCalled.desc).map (fun d => d.parameters.length) = some 3 := by decide +kernel
theorem hd_X11_best : yX11_best.cls ≠ "java/lang/invoke/MethodHandle" ∧ yX11_best.cls ≠ "java/lang/invoke/VarHandle" ∧ (parseMethodDescriptor yX11_best.desc).map (fun d => d.parameters.length) = some 0 := by decide +kernel
theorem hd_X11_undo : yX11_undo.cls ≠ "java/lang/invoke/MethodHandle" ∧ yX11_undo.cls ≠ "java/lang/invoke/VarHandle" ∧ (parseMethodDescriptor yX11_undo.desc).map (fun d => d.parameters.length) = some 0 := by decide +kernel
theorem hd_X11_save : yX11_save.cls ≠ "java/lang/invoke/MethodHandle" ∧ yX11_save.cls ≠ "java/lang/invoke/VarHandle" ∧ (parseMethodDescriptor yX11_save.desc).map (fun d => d.parameters.length) = some 0 := by decide +kernel
theorem hd_X11_restore : yX11_restore.cls ≠ "java/lang/invoke/MethodHandle" ∧ yX11_restore.cls ≠ "java/lang/invoke/VarHandle" ∧ (parseMethodDescriptor yX11_restore.desc).map (fun d => d.parameters.length) = some 0 := by decide +kernel
theorem hd_X0_init : yX0_init.cls ≠ "java/lang/invoke/MethodHandle" ∧ yX0_init.cls ≠ "java/lang/invoke/VarHandle" ∧ (parseMethodDescriptor yX0_init.desc).map (fun d => d.parameters.length) = some 0 := by decide +kernel
theorem hd_X0_record : yX0_record.cls ≠ "java/lang/invoke/MethodHandle" ∧ yX0_record.cls ≠ "java/lang/invoke/VarHandle" ∧ (parseMethodDescriptor yX0_record.desc).map (fun d => d.parameters.length) = some 1 := by decide +kernel
theorem hd_X0_takeBack : yX0_takeBack.cls ≠ "java/lang/invoke/MethodHandle" ∧ yX0_takeBack.cls ≠ "java/lang/invoke/VarHandle" ∧ (parseMethodDescriptor yX0_takeBack.desc).map (fun d => d.parameters.length) = some 1 := by decide +kernel
theorem hd_X0_dropOldest : yX0_dropOldest.cls ≠ "java/lang/invoke/MethodHandle" ∧ yX0_dropOldest.cls ≠ "java/lang/invoke/VarHandle" ∧ (parseMethodDescriptor yX0_dropOldest.desc).map (fun d => d.parameters.length) = some 0 := by decide +kernel
theorem hd_X1_init : yX1_init.cls ≠ "java/lang/invoke/MethodHandle" ∧ yX1_init.cls ≠ "java/lang/invoke/VarHandle" ∧ (parseMethodDescriptor yX1_init.desc).map (fun d => d.parameters.length) = some 0 := by decide +kernel
theorem hd_X1_learn : yX1_learn.cls ≠ "java/lang/invoke/MethodHandle" ∧ yX1_learn.cls ≠ "java/lang/invoke/VarHandle" ∧ (parseMethodDescriptor yX1_learn.desc).map (fun d => d.parameters.length) = some 1 := by decide +kernel
theorem hd_X1_leadsFrom : yX1_leadsFrom.cls ≠ "java/lang/invoke/MethodHandle" ∧ yX1_leadsFrom.cls ≠ "java/lang/invoke/VarHandle" ∧ (parseMethodDescriptor yX1_leadsFrom.desc).map (fun d => d.parameters.length) = some 1 := by decide +kernel
theorem hd_X1_leadsBySearch : yX1_leadsBySearch.cls ≠ "java/lang/invoke/MethodHandle" ∧ yX1_leadsBySearch.cls ≠ "java/lang/invoke/VarHandle" ∧ (parseMethodDescriptor yX1_leadsBySearch.desc).map (fun d => d.parameters.length) = some 1 := by decide +kernel
theorem hd_X1_callAt : yX1_callAt.cls ≠ "java/lang/invoke/MethodHandle" ∧ yX1_callAt.cls ≠ "java/lang/invoke/VarHandle" ∧ (parseMethodDescriptor yX1_callAt.desc).map (fun d => d.parameters.length) = some 2 := by decide +kernel
theorem hd_X1_callFrom : yX1_callFrom.cls ≠ "java/lang/invoke/MethodHandle" ∧ yX1_callFrom.cls ≠ "java/lang/invoke/VarHandle" ∧ (parseMethodDescriptor yX1_callFrom.desc).map (fun d => d.parameters.length) = some 1 := by decide +kernel
theorem hd_X1_behind : yX1_behind.cls ≠ "java/lang/invoke/MethodHandle" ∧ yX1_behind.cls ≠ "java/lang/invoke/VarHandle" ∧ (parseMethodDescriptor yX1_behind.desc).map (fun d => d.parameters.length) = some 2 := by decide +kernel
theorem hd_X2_init : yX2_init.cls ≠ "java/lang/invoke/MethodHandle" ∧ yX2_init.cls ≠ "java/lang/invoke/VarHandle" ∧ (parseMethodDescriptor yX2_init.desc).map (fun d => d.parameters.length) = some 0 := by decide +kernel
theorem hd_X2_read : yX2_read.cls ≠ "java/lang/invoke/MethodHandle" ∧ yX2_read.cls ≠ "java/lang/invoke/VarHandle" ∧ (parseMethodDescriptor yX2_read.desc).map (fun d => d.parameters.length) = some 3 := by decide +kernel
theorem hd_X2_accepts : yX2_accepts.cls ≠ "java/lang/invoke/MethodHandle" ∧ yX2_accepts.cls ≠ "java/lang/invoke/VarHandle" ∧ (parseMethodDescriptor yX2_accepts.desc).map (fun d => d.parameters.length) = some 2 := by decide +kernel
theorem hd_X2_acceptsDot : yX2_acceptsDot.cls ≠ "java/lang/invoke/MethodHandle" ∧ yX2_acceptsDot.cls ≠ "java/lang/invoke/VarHandle" ∧ (parseMethodDescriptor yX2_acceptsDot.desc).map (fun d => d.parameters.length) = some 1 := by decide +kernel
theorem hd_X2_acceptsCross : yX2_acceptsCross.cls ≠ "java/lang/invoke/MethodHandle" ∧ yX2_acceptsCross.cls ≠ "java/lang/invoke/VarHandle" ∧ (parseMethodDescriptor yX2_acceptsCross.desc).map (fun d => d.parameters.length) = some 1 := by decide +kernel
theorem hd_X2_acceptsPlace : yX2_acceptsPlace.cls ≠ "java/lang/invoke/MethodHandle" ∧ yX2_acceptsPlace.cls ≠ "java/lang/invoke/VarHandle" ∧ (parseMethodDescriptor yX2_acceptsPlace.desc).map (fun d => d.parameters.length) = some 2 := by decide +kernel
theorem hd_X2_isChangeComplete : yX2_isChangeComplete.cls ≠ "java/lang/invoke/MethodHandle" ∧ yX2_isChangeComplete.cls ≠ "java/lang/invoke/VarHandle" ∧ (parseMethodDescriptor yX2_isChangeComplete.desc).map (fun d => d.parameters.length) = some 1 := by decide +kernel
theorem hd_X2_keepChange : yX2_keepChange.cls ≠ "java/lang/invoke/MethodHandle" ∧ yX2_keepChange.cls ≠ "java/lang/invoke/VarHandle" ∧ (parseMethodDescriptor yX2_keepChange.desc).map (fun d => d.parameters.length) = some 0 := by decide +kernel
theorem hd_X2_beginChange : yX2_beginChange.cls ≠ "java/lang/invoke/MethodHandle" ∧ yX2_beginChange.cls ≠ "java/lang/invoke/VarHandle" ∧ (parseMethodDescriptor yX2_beginChange.desc).map (fun d => d.parameters.length) = some 0 := by decide +kernel
theorem hd_X3_init : yX3_init.cls ≠ "java/lang/invoke/MethodHandle" ∧ yX3_init.cls ≠ "java/lang/invoke/VarHandle" ∧ (parseMethodDescriptor yX3_init.desc).map (fun d => d.parameters.length) = some 0 := by decide +kernel
theorem hd_X3_put : yX3_put.cls ≠ "java/lang/invoke/MethodHandle" ∧ yX3_put.cls ≠ "java/lang/invoke/VarHandle" ∧ (parseMethodDescriptor yX3_put.desc).map (fun d => d.parameters.length) = some 1 := by decide +kernel
theorem hd_X3_faultAsTouch : yX3_faultAsTouch.cls ≠ "java/lang/invoke/MethodHandle" ∧ yX3_faultAsTouch.cls ≠ "java/lang/invoke/VarHandle" ∧ (parseMethodDescriptor yX3_faultAsTouch.desc).map (fun d => d.parameters.length) = some 0 := by decide +kernel
theorem hd_X3_kindOf : yX3_kindOf.cls ≠ "java/lang/invoke/MethodHandle" ∧ yX3_kindOf.cls ≠ "java/lang/invoke/VarHandle" ∧ (parseMethodDescriptor yX3_kindOf.desc).map (fun d => d.parameters.length) = some 1 := by decide +kernel
theorem hd_X4_bit : yX4_bit.cls ≠ "java/lang/invoke/MethodHandle" ∧ yX4_bit.cls ≠ "java/lang/invoke/VarHandle" ∧ (parseMethodDescriptor yX4_bit.desc).map (fun d => d.parameters.length) = some 1 := by decide +kernel
theorem hd_X4_has : yX4_has.cls ≠ "java/lang/invoke/MethodHandle" ∧ yX4_has.cls ≠ "java/lang/invoke/VarHandle" ∧ (parseMethodDescriptor yX4_has.desc).map (fun d => d.parameters.length) = some 2 := by decide +kernel
theorem hd_X4_areRight : yX4_areRight.cls ≠ "java/lang/invoke/MethodHandle" ∧ yX4_areRight.cls ≠ "java/lang/invoke/VarHandle" ∧ (parseMethodDescriptor yX4_areRight.desc).map (fun d => d.parameters.length) = some 2 := by decide +kernel
theorem hd_X4_canBecomeRight : yX4_canBecomeRight.cls ≠ "java/lang/invoke/MethodHandle" ∧ yX4_canBecomeRight.cls ≠ "java/lang/invoke/VarHandle" ∧ (parseMethodDescriptor yX4_canBecomeRight.desc).map (fun d => d.parameters.length) = some 3 := by decide +kernel
theorem hd_X5_init : yX5_init.cls ≠ "java/lang/invoke/MethodHandle" ∧ yX5_init.cls ≠ "java/lang/invoke/VarHandle" ∧ (parseMethodDescriptor yX5_init.desc).map (fun d => d.parameters.length) = some 0 := by decide +kernel
theorem hd_X5_ring : yX5_ring.cls ≠ "java/lang/invoke/MethodHandle" ∧ yX5_ring.cls ≠ "java/lang/invoke/VarHandle" ∧ (parseMethodDescriptor yX5_ring.desc).map (fun d => d.parameters.length) = some 1 := by decide +kernel
theorem hd_X5_keep : yX5_keep.cls ≠ "java/lang/invoke/MethodHandle" ∧ yX5_keep.cls ≠ "java/lang/invoke/VarHandle" ∧ (parseMethodDescriptor yX5_keep.desc).map (fun d => d.parameters.length) = some 1 := by decide +kernel
theorem hd_X5_findFirsts : yX5_findFirsts.cls ≠ "java/lang/invoke/MethodHandle" ∧ yX5_findFirsts.cls ≠ "java/lang/invoke/VarHandle" ∧ (parseMethodDescriptor yX5_findFirsts.desc).map (fun d => d.parameters.length) = some 0 := by decide +kernel
theorem hd_X5_firstWithRank : yX5_firstWithRank.cls ≠ "java/lang/invoke/MethodHandle" ∧ yX5_firstWithRank.cls ≠ "java/lang/invoke/VarHandle" ∧ (parseMethodDescriptor yX5_firstWithRank.desc).map (fun d => d.parameters.length) = some 2 := by decide +kernel
theorem hd_X5_rowAt : yX5_rowAt.cls ≠ "java/lang/invoke/MethodHandle" ∧ yX5_rowAt.cls ≠ "java/lang/invoke/VarHandle" ∧ (parseMethodDescriptor yX5_rowAt.desc).map (fun d => d.parameters.length) = some 1 := by decide +kernel
theorem hd_X5_placeIn : yX5_placeIn.cls ≠ "java/lang/invoke/MethodHandle" ∧ yX5_placeIn.cls ≠ "java/lang/invoke/VarHandle" ∧ (parseMethodDescriptor yX5_placeIn.desc).map (fun d => d.parameters.length) = some 2 := by decide +kernel
theorem hd_X5_isFirst : yX5_isFirst.cls ≠ "java/lang/invoke/MethodHandle" ∧ yX5_isFirst.cls ≠ "java/lang/invoke/VarHandle" ∧ (parseMethodDescriptor yX5_isFirst.desc).map (fun d => d.parameters.length) = some 1 := by decide +kernel
theorem hd_X5_firstLike : yX5_firstLike.cls ≠ "java/lang/invoke/MethodHandle" ∧ yX5_firstLike.cls ≠ "java/lang/invoke/VarHandle" ∧ (parseMethodDescriptor yX5_firstLike.desc).map (fun d => d.parameters.length) = some 1 := by decide +kernel
theorem hd_X5_comesRound : yX5_comesRound.cls ≠ "java/lang/invoke/MethodHandle" ∧ yX5_comesRound.cls ≠ "java/lang/invoke/VarHandle" ∧ (parseMethodDescriptor yX5_comesRound.desc).map (fun d => d.parameters.length) = some 0 := by decide +kernel
theorem hd_X5_firstRepeat : yX5_firstRepeat.cls ≠ "java/lang/invoke/MethodHandle" ∧ yX5_firstRepeat.cls ≠ "java/lang/invoke/VarHandle" ∧ (parseMethodDescriptor yX5_firstRepeat.desc).map (fun d => d.parameters.length) = some 0 := by decide +kernel
theorem hd_X5_isTrue : yX5_isTrue.cls ≠ "java/lang/invoke/MethodHandle" ∧ yX5_isTrue.cls ≠ "java/lang/invoke/VarHandle" ∧ (parseMethodDescriptor yX5_isTrue.desc).map (fun d => d.parameters.length) = some 0 := by decide +kernel
theorem hd_X5_differentRows : yX5_differentRows.cls ≠ "java/lang/invoke/MethodHandle" ∧ yX5_differentRows.cls ≠ "java/lang/invoke/VarHandle" ∧ (parseMethodDescriptor yX5_differentRows.desc).map (fun d => d.parameters.length) = some 0 := by decide +kernel
theorem hd_X5_wellSounding : yX5_wellSounding.cls ≠ "java/lang/invoke/MethodHandle" ∧ yX5_wellSounding.cls ≠ "java/lang/invoke/VarHandle" ∧ (parseMethodDescriptor yX5_wellSounding.desc).map (fun d => d.parameters.length) = some 0 := by decide +kernel
theorem hd_X5_falsePairs : yX5_falsePairs.cls ≠ "java/lang/invoke/MethodHandle" ∧ yX5_falsePairs.cls ≠ "java/lang/invoke/VarHandle" ∧ (parseMethodDescriptor yX5_falsePairs.desc).map (fun d => d.parameters.length) = some 0 := by decide +kernel
theorem hd_X5_areFalse : yX5_areFalse.cls ≠ "java/lang/invoke/MethodHandle" ∧ yX5_areFalse.cls ≠ "java/lang/invoke/VarHandle" ∧ (parseMethodDescriptor yX5_areFalse.desc).map (fun d => d.parameters.length) = some 2 := by decide +kernel
theorem hd_X5_dodgesAt : yX5_dodgesAt.cls ≠ "java/lang/invoke/MethodHandle" ∧ yX5_dodgesAt.cls ≠ "java/lang/invoke/VarHandle" ∧ (parseMethodDescriptor yX5_dodgesAt.desc).map (fun d => d.parameters.length) = some 2 := by decide +kernel
theorem hd_X5_dodges : yX5_dodges.cls ≠ "java/lang/invoke/MethodHandle" ∧ yX5_dodges.cls ≠ "java/lang/invoke/VarHandle" ∧ (parseMethodDescriptor yX5_dodges.desc).map (fun d => d.parameters.length) = some 1 := by decide +kernel
theorem hd_X5_firstDodge : yX5_firstDodge.cls ≠ "java/lang/invoke/MethodHandle" ∧ yX5_firstDodge.cls ≠ "java/lang/invoke/VarHandle" ∧ (parseMethodDescriptor yX5_firstDodge.desc).map (fun d => d.parameters.length) = some 1 := by decide +kernel
theorem hd_X5_stays : yX5_stays.cls ≠ "java/lang/invoke/MethodHandle" ∧ yX5_stays.cls ≠ "java/lang/invoke/VarHandle" ∧ (parseMethodDescriptor yX5_stays.desc).map (fun d => d.parameters.length) = some 1 := by decide +kernel
theorem hd_X5_blowsAt : yX5_blowsAt.cls ≠ "java/lang/invoke/MethodHandle" ∧ yX5_blowsAt.cls ≠ "java/lang/invoke/VarHandle" ∧ (parseMethodDescriptor yX5_blowsAt.desc).map (fun d => d.parameters.length) = some 2 := by decide +kernel
theorem hd_X6_rounds : yX6_rounds.cls ≠ "java/lang/invoke/MethodHandle" ∧ yX6_rounds.cls ≠ "java/lang/invoke/VarHandle" ∧ (parseMethodDescriptor yX6_rounds.desc).map (fun d => d.parameters.length) = some 1 := by decide +kernel
theorem hd_X6_bellAt : yX6_bellAt.cls ≠ "java/lang/invoke/MethodHandle" ∧ yX6_bellAt.cls ≠ "java/lang/invoke/VarHandle" ∧ (parseMethodDescriptor yX6_bellAt.desc).map (fun d => d.parameters.length) = some 2 := by decide +kernel
theorem hd_X6_put : yX6_put.cls ≠ "java/lang/invoke/MethodHandle" ∧ yX6_put.cls ≠ "java/lang/invoke/VarHandle" ∧ (parseMethodDescriptor yX6_put.desc).map (fun d => d.parameters.length) = some 3 := by decide +kernel
theorem hd_X6_placeOf : yX6_placeOf.cls ≠ "java/lang/invoke/MethodHandle" ∧ yX6_placeOf.cls ≠ "java/lang/invoke/VarHandle" ∧ (parseMethodDescriptor yX6_placeOf.desc).map (fun d => d.parameters.length) = some 3 := by decide +kernel
theorem hd_X6_behindChange : yX6_behindChange.cls ≠ "java/lang/invoke/MethodHandle" ∧ yX6_behindChange.cls ≠ "java/lang/invoke/VarHandle" ∧ (parseMethodDescriptor yX6_behindChange.desc).map (fun d => d.parameters.length) = some 3 := by decide +kernel
theorem hd_X6_behindLead : yX6_behindLead.cls ≠ "java/lang/invoke/MethodHandle" ∧ yX6_behindLead.cls ≠ "java/lang/invoke/VarHandle" ∧ (parseMethodDescriptor yX6_behindLead.desc).map (fun d => d.parameters.length) = some 3 := by decide +kernel
theorem hd_X6_backwards : yX6_backwards.cls ≠ "java/lang/invoke/MethodHandle" ∧ yX6_backwards.cls ≠ "java/lang/invoke/VarHandle" ∧ (parseMethodDescriptor yX6_backwards.desc).map (fun d => d.parameters.length) = some 2 := by decide +kernel
theorem hd_X6_rank : yX6_rank.cls ≠ "java/lang/invoke/MethodHandle" ∧ yX6_rank.cls ≠ "java/lang/invoke/VarHandle" ∧ (parseMethodDescriptor yX6_rank.desc).map (fun d => d.parameters.length) = some 2 := by decide +kernel
theorem hd_X6_signByPairs : yX6_signByPairs.cls ≠ "java/lang/invoke/MethodHandle" ∧ yX6_signByPairs.cls ≠ "java/lang/invoke/VarHandle" ∧ (parseMethodDescriptor yX6_signByPairs.desc).map (fun d => d.parameters.length) = some 2 := by decide +kernel
theorem hd_X6_signByCycles : yX6_signByCycles.cls ≠ "java/lang/invoke/MethodHandle" ∧ yX6_signByCycles.cls ≠ "java/lang/invoke/VarHandle" ∧ (parseMethodDescriptor yX6_signByCycles.desc).map (fun d => d.parameters.length) = some 2 := by decide +kernel
theorem hd_X6_soundsWell : yX6_soundsWell.cls ≠ "java/lang/invoke/MethodHandle" ∧ yX6_soundsWell.cls ≠ "java/lang/invoke/VarHandle" ∧ (parseMethodDescriptor yX6_soundsWell.desc).map (fun d => d.parameters.length) = some 2 := by decide +kernel
theorem hd_X6_bellsInPlace : yX6_bellsInPlace.cls ≠ "java/lang/invoke/MethodHandle" ∧ yX6_bellsInPlace.cls ≠ "java/lang/invoke/VarHandle" ∧ (parseMethodDescriptor yX6_bellsInPlace.desc).map (fun d => d.parameters.length) = some 2 := by decide +kernel
theorem hd_X7_init : yX7_init.cls ≠ "java/lang/invoke/MethodHandle" ∧ yX7_init.cls ≠ "java/lang/invoke/VarHandle" ∧ (parseMethodDescriptor yX7_init.desc).map (fun d => d.parameters.length) = some 0 := by decide +kernel
theorem hd_X7_from : yX7_from.cls ≠ "java/lang/invoke/MethodHandle" ∧ yX7_from.cls ≠ "java/lang/invoke/VarHandle" ∧ (parseMethodDescriptor yX7_from.desc).map (fun d => d.parameters.length) = some 4 := by decide +kernel
theorem hd_X7_reach : yX7_reach.cls ≠ "java/lang/invoke/MethodHandle" ∧ yX7_reach.cls ≠ "java/lang/invoke/VarHandle" ∧ (parseMethodDescriptor yX7_reach.desc).map (fun d => d.parameters.length) = some 2 := by decide +kernel
theorem hd_X7_fewestTo : yX7_fewestTo.cls ≠ "java/lang/invoke/MethodHandle" ∧ yX7_fewestTo.cls ≠ "java/lang/invoke/VarHandle" ∧ (parseMethodDescriptor yX7_fewestTo.desc).map (fun d => d.parameters.length) = some 1 := by decide +kernel
theorem hd_X8_lead : yX8_lead.cls ≠ "java/lang/invoke/MethodHandle" ∧ yX8_lead.cls ≠ "java/lang/invoke/VarHandle" ∧ (parseMethodDescriptor yX8_lead.desc).map (fun d => d.parameters.length) = some 1 := by decide +kernel
theorem hd_X8_bob : yX8_bob.cls ≠ "java/lang/invoke/MethodHandle" ∧ yX8_bob.cls ≠ "java/lang/invoke/VarHandle" ∧ (parseMethodDescriptor yX8_bob.desc).map (fun d => d.parameters.length) = some 1 := by decide +kernel
theorem hd_X8_single : yX8_single.cls ≠ "java/lang/invoke/MethodHandle" ∧ yX8_single.cls ≠ "java/lang/invoke/VarHandle" ∧ (parseMethodDescriptor yX8_single.desc).map (fun d => d.parameters.length) = some 1 := by decide +kernel
theorem hd_X9_init : yX9_init.cls ≠ "java/lang/invoke/MethodHandle" ∧ yX9_init.cls ≠ "java/lang/invoke/VarHandle" ∧ (parseMethodDescriptor yX9_init.desc).map (fun d => d.parameters.length) = some 0 := by decide +kernel
theorem hd_X9_become : yX9_become.cls ≠ "java/lang/invoke/MethodHandle" ∧ yX9_become.cls ≠ "java/lang/invoke/VarHandle" ∧ (parseMethodDescriptor yX9_become.desc).map (fun d => d.parameters.length) = some 1 := by decide +kernel
theorem hd_X9_takeMethod : yX9_takeMethod.cls ≠ "java/lang/invoke/MethodHandle" ∧ yX9_takeMethod.cls ≠ "java/lang/invoke/VarHandle" ∧ (parseMethodDescriptor yX9_takeMethod.desc).map (fun d => d.parameters.length) = some 1 := by decide +kernel
theorem hd_X9_addLead : yX9_addLead.cls ≠ "java/lang/invoke/MethodHandle" ∧ yX9_addLead.cls ≠ "java/lang/invoke/VarHandle" ∧ (parseMethodDescriptor yX9_addLead.desc).map (fun d => d.parameters.length) = some 1 := by decide +kernel
theorem hd_X9_callLead : yX9_callLead.cls ≠ "java/lang/invoke/MethodHandle" ∧ yX9_callLead.cls ≠ "java/lang/invoke/VarHandle" ∧ (parseMethodDescriptor yX9_callLead.desc).map (fun d => d.parameters.length) = some 2 := by decide +kernel
theorem hd_X9_kindOfLead : yX9_kindOfLead.cls ≠ "java/lang/invoke/MethodHandle" ∧ yX9_kindOfLead.cls ≠ "java/lang/invoke/VarHandle" ∧ (parseMethodDescriptor yX9_kindOfLead.desc).map (fun d => d.parameters.length) = some 1 := by decide +kernel
theorem hd_X9_lastRow : yX9_lastRow.cls ≠ "java/lang/invoke/MethodHandle" ∧ yX9_lastRow.cls ≠ "java/lang/invoke/VarHandle" ∧ (parseMethodDescriptor yX9_lastRow.desc).map (fun d => d.parameters.length) = some 0 := by decide +kernel
theorem hd_X9_placesMade : yX9_placesMade.cls ≠ "java/lang/invoke/MethodHandle" ∧ yX9_placesMade.cls ≠ "java/lang/invoke/VarHandle" ∧ (parseMethodDescriptor yX9_placesMade.desc).map (fun d => d.parameters.length) = some 2 := by decide +kernel
theorem hd_X9_calledLeads : yX9_calledLeads.cls ≠ "java/lang/invoke/MethodHandle" ∧ yX9_calledLeads.cls ≠ "java/lang/invoke/VarHandle" ∧ (parseMethodDescriptor yX9_calledLeads.desc).map (fun d => d.parameters.length) = some 0 := by decide +kernel
theorem hd_X9_roundsBehindLead : yX9_roundsBehindLead.cls ≠ "java/lang/invoke/MethodHandle" ∧ yX9_roundsBehindLead.cls ≠ "java/lang/invoke/VarHandle" ∧ (parseMethodDescriptor yX9_roundsBehindLead.desc).map (fun d => d.parameters.length) = some 1 := by decide +kernel
theorem hd_X9_plainCourse : yX9_plainCourse.cls ≠ "java/lang/invoke/MethodHandle" ∧ yX9_plainCourse.cls ≠ "java/lang/invoke/VarHandle" ∧ (parseMethodDescriptor yX9_plainCourse.desc).map (fun d => d.parameters.length) = some 0 := by decide +kernel
theorem hd_J6_bitCount_0f7a4 : yJ6_bitCount_0f7a4.cls ≠ "java/lang/invoke/MethodHandle" ∧ yJ6_bitCount_0f7a4.cls ≠ "java/lang/invoke/VarHandle" ∧ (parseMethodDescriptor yJ6_bitCount_0f7a4.desc).map (fun d => d.parameters.length) = some 1 := by decide +kernel
theorem hd_J0_checkBoundsOffCount_cabcc : yJ0_checkBoundsOffCount_cabcc.cls ≠ "java/lang/invoke/MethodHandle" ∧ yJ0_checkBoundsOffCount_cabcc.cls ≠ "java/lang/invoke/VarHandle" ∧ (parseMethodDescriptor yJ0_checkBoundsOffCount_cabcc.desc).map (fun d => d.parameters.length) = some 3 := by decide +kernel
theorem hd_J0_coder_7d493 : yJ0_coder_7d493.cls ≠ "java/lang/invoke/MethodHandle" ∧ yJ0_coder_7d493.cls ≠ "java/lang/invoke/VarHandle" ∧ (parseMethodDescriptor yJ0_coder_7d493.desc).map (fun d => d.parameters.length) = some 0 := by decide +kernel
theorem hd_J0_isLatin1_aae02 : yJ0_isLatin1_aae02.cls ≠ "java/lang/invoke/MethodHandle" ∧ yJ0_isLatin1_aae02.cls ≠ "java/lang/invoke/VarHandle" ∧ (parseMethodDescriptor yJ0_isLatin1_aae02.desc).map (fun d => d.parameters.length) = some 0 := by decide +kernel
theorem hd_J0_length_8abf5 : yJ0_length_8abf5.cls ≠ "java/lang/invoke/MethodHandle" ∧ yJ0_length_8abf5.cls ≠ "java/lang/invoke/VarHandle" ∧ (parseMethodDescriptor yJ0_length_8abf5.desc).map (fun d => d.parameters.length) = some 0 := by decide +kernel
theorem hd_J0_toCharArray_70df3 : yJ0_toCharArray_70df3.cls ≠ "java/lang/invoke/MethodHandle" ∧ yJ0_toCharArray_70df3.cls ≠ "java/lang/invoke/VarHandle" ∧ (parseMethodDescriptor yJ0_toCharArray_70df3.desc).map (fun d => d.parameters.length) = some 0 := by decide +kernel
theorem hd_J1_inflate_03870 : yJ1_inflate_03870.cls ≠ "java/lang/invoke/MethodHandle" ∧ yJ1_inflate_03870.cls ≠ "java/lang/invoke/VarHandle" ∧ (parseMethodDescriptor yJ1_inflate_03870.desc).map (fun d => d.parameters.length) = some 5 := by decide +kernel
theorem hd_J1_toChars_9d188 : yJ1_toChars_9d188.cls ≠ "java/lang/invoke/MethodHandle" ∧ yJ1_toChars_9d188.cls ≠ "java/lang/invoke/VarHandle" ∧ (parseMethodDescriptor yJ1_toChars_9d188.desc).map (fun d => d.parameters.length) = some 1 := by decide +kernel
theorem hd_J2_checkBoundsOffCount_d044e : yJ2_checkBoundsOffCount_d044e.cls ≠ "java/lang/invoke/MethodHandle" ∧ yJ2_checkBoundsOffCount_d044e.cls ≠ "java/lang/invoke/VarHandle" ∧ (parseMethodDescriptor yJ2_checkBoundsOffCount_d044e.desc).map (fun d => d.parameters.length) = some 3 := by decide +kernel
theorem hd_J2_getChar_3b067 : yJ2_getChar_3b067.cls ≠ "java/lang/invoke/MethodHandle" ∧ yJ2_getChar_3b067.cls ≠ "java/lang/invoke/VarHandle" ∧ (parseMethodDescriptor yJ2_getChar_3b067.desc).map (fun d => d.parameters.length) = some 2 := by decide +kernel
theorem hd_J2_getChars_a1a8b : yJ2_getChars_a1a8b.cls ≠ "java/lang/invoke/MethodHandle" ∧ yJ2_getChars_a1a8b.cls ≠ "java/lang/invoke/VarHandle" ∧ (parseMethodDescriptor yJ2_getChars_a1a8b.desc).map (fun d => d.parameters.length) = some 5 := by decide +kernel
theorem hd_J2_length_9d52b : yJ2_length_9d52b.cls ≠ "java/lang/invoke/MethodHandle" ∧ yJ2_length_9d52b.cls ≠ "java/lang/invoke/VarHandle" ∧ (parseMethodDescriptor yJ2_length_9d52b.desc).map (fun d => d.parameters.length) = some 1 := by decide +kernel
theorem hd_J2_toChars_9d188 : yJ2_toChars_9d188.cls ≠ "java/lang/invoke/MethodHandle" ∧ yJ2_toChars_9d188.cls ≠ "java/lang/invoke/VarHandle" ∧ (parseMethodDescriptor yJ2_toChars_9d188.desc).map (fun d => d.parameters.length) = some 1 := by decide +kernel
theorem hd_J7_fill_53178 : yJ7_fill_53178.cls ≠ "java/lang/invoke/MethodHandle" ∧ yJ7_fill_53178.cls ≠ "java/lang/invoke/VarHandle" ∧ (parseMethodDescriptor yJ7_fill_53178.desc).map (fun d => d.parameters.length) = some 2 := by decide +kernel
end
section
theorem dX0_init_0 : decode cX0_init 0 = .ok (.aload_n 0, 1) := by decide +kernel
theorem dX0_init_1 : decode cX0_init 1 = .ok (.invokespecial 3, 3) := by decide +kernel
theorem dX0_init_4 : decode cX0_init 4 = .ok (.aload_n 0, 1) := by decide +kernel
theorem dX0_init_5 : decode cX0_init 5 = .ok (.iconst 4, 1) := by decide +kernel
theorem dX0_init_6 : decode cX0_init 6 = .ok (.anewarray 9, 3) := by decide +kernel
theorem dX0_init_9 : decode cX0_init 9 = .ok (.putfield 11, 3) := by decide +kernel
theorem dX0_init_12 : decode cX0_init 12 = .ok (.iconst 0, 1) := by decide +kernel
theorem dX0_init_13 : decode cX0_init 13 = .ok (.istore_n 1, 1) := by decide +kernel
theorem dX0_init_14 : decode cX0_init 14 = .ok (.iload_n 1, 1) := by decide +kernel
theorem dX0_init_15 : decode cX0_init 15 = .ok (.aload_n 0, 1) := by decide +kernel
theorem dX0_init_16 : decode cX0_init 16 = .ok (.getfield 11, 3) := by decide +kernel
theorem dX0_init_19 : decode cX0_init 19 = .ok (.arraylength, 1) := by decide +kernel
theorem dX0_init_20 : decode cX0_init 20 = .ok (.if_icmp .ge 22, 3) := by decide +kernel
theorem dX0_init_23 : decode cX0_init 23 = .ok (.aload_n 0, 1) := by decide +kernel
theorem dX0_init_24 : decode cX0_init 24 = .ok (.getfield 11, 3) := by decide +kernel
theorem dX0_init_27 : decode cX0_init 27 = .ok (.iload_n 1, 1) := by decide +kernel
theorem dX0_init_28 : decode cX0_init 28 = .ok (.new 9, 3) := by decide +kernel
theorem dX0_init_31 : decode cX0_init 31 = .ok (.dup, 1) := by decide +kernel
theorem dX0_init_32 : decode cX0_init 32 = .ok (.invokespecial 17, 3) := by decide +kernel
theorem dX0_init_35 : decode cX0_init 35 = .ok (.aastore, 1) := by decide +kernel
theorem dX0_init_36 : decode cX0_init 36 = .ok (.iinc 1 1, 3) := by decide +kernel
theorem dX0_init_39 : decode cX0_init 39 = .ok (.goto (-25), 3) := by decide +kernel
theorem dX0_init_42 : decode cX0_init 42 = .ok (.return_, 1) := by decide +kernel
theorem dX0_record_0 : decode cX0_record 0 = .ok (.aload_n 0, 1) := by decide +kernel
theorem dX0_record_1 : decode cX0_record 1 = .ok (.getfield 18, 3) := by decide +kernel
theorem dX0_record_4 : decode cX0_record 4 = .ok (.aload_n 0, 1) := by decide +kernel
theorem dX0_record_5 : decode cX0_record 5 = .ok (.getfield 11, 3) := by decide +kernel
theorem dX0_record_8 : decode cX0_record 8 = .ok (.arraylength, 1) := by decide +kernel
theorem dX0_record_9 : decode cX0_record 9 = .ok (.if_icmp .lt 7, 3) := by decide +kernel
theorem dX0_record_12 : decode cX0_record 12 = .ok (.aload_n 0, 1) := by decide +kernel
theorem dX0_record_13 : decode cX0_record 13 = .ok (.invokevirtual 22, 3) := by decide +kernel
theorem dX0_record_16 : decode cX0_record 16 = .ok (.aload_n 0, 1) := by decide +kernel
theorem dX0_record_17 : decode cX0_record 17 = .ok (.getfield 18, 3) := by decide +kernel
theorem dX0_record_20 : decode cX0_record 20 = .ok (.ifCond .lt 38, 3) := by decide +kernel
theorem dX0_record_23 : decode cX0_record 23 = .ok (.aload_n 0, 1) := by decide +kernel
theorem dX0_record_24 : decode cX0_record 24 = .ok (.getfield 18, 3) := by decide +kernel
theorem dX0_record_27 : decode cX0_record 27 = .ok (.aload_n 0, 1) := by decide +kernel
theorem dX0_record_28 : decode cX0_record 28 = .ok (.getfield 11, 3) := by decide +kernel
theorem dX0_record_31 : decode cX0_record 31 = .ok (.arraylength, 1) := by decide +kernel
theorem dX0_record_32 : decode cX0_record 32 = .ok (.if_icmp .ge 26, 3) := by decide +kernel
theorem dX0_record_35 : decode cX0_record 35 = .ok (.aload_n 0, 1) := by decide +kernel
theorem dX0_record_36 : decode cX0_record 36 = .ok (.getfield 11, 3) := by decide +kernel
theorem dX0_record_39 : decode cX0_record 39 = .ok (.aload_n 0, 1) := by decide +kernel
theorem dX0_record_40 : decode cX0_record 40 = .ok (.getfield 18, 3) := by decide +kernel
theorem dX0_record_43 : decode cX0_record 43 = .ok (.aaload, 1) := by decide +kernel
theorem dX0_record_44 : decode cX0_record 44 = .ok (.aload_n 1, 1) := by decide +kernel
theorem dX0_record_45 : decode cX0_record 45 = .ok (.invokevirtual 25, 3) := by decide +kernel
theorem dX0_record_48 : decode cX0_record 48 = .ok (.aload_n 0, 1) := by decide +kernel
theorem dX0_record_49 : decode cX0_record 49 = .ok (.dup, 1) := by decide +kernel
theorem dX0_record_50 : decode cX0_record 50 = .ok (.getfield 18, 3) := by decide +kernel
theorem dX0_record_53 : decode cX0_record 53 = .ok (.iconst 1, 1) := by decide +kernel
theorem dX0_record_54 : decode cX0_record 54 = .ok (.iadd, 1) := by decide +kernel
theorem dX0_record_55 : decode cX0_record 55 = .ok (.putfield 18, 3) := by decide +kernel
theorem dX0_record_58 : decode cX0_record 58 = .ok (.return_, 1) := by decide +kernel
theorem dX0_takeBack_0 : decode cX0_takeBack 0 = .ok (.aload_n 0, 1) := by decide +kernel
theorem dX0_takeBack_1 : decode cX0_takeBack 1 = .ok (.getfield 18, 3) := by decide +kernel
theorem dX0_takeBack_4 : decode cX0_takeBack 4 = .ok (.ifCond .le 38, 3) := by decide +kernel
theorem dX0_takeBack_7 : decode cX0_takeBack 7 = .ok (.aload_n 0, 1) := by decide +kernel
theorem dX0_takeBack_8 : decode cX0_takeBack 8 = .ok (.getfield 18, 3) := by decide +kernel
theorem dX0_takeBack_11 : decode cX0_takeBack 11 = .ok (.aload_n 0, 1) := by decide +kernel
theorem dX0_takeBack_12 : decode cX0_takeBack 12 = .ok (.getfield 11, 3) := by decide +kernel
theorem dX0_takeBack_15 : decode cX0_takeBack 15 = .ok (.arraylength, 1) := by decide +kernel
theorem dX0_takeBack_16 : decode cX0_takeBack 16 = .ok (.if_icmp .gt 26, 3) := by decide +kernel
theorem dX0_takeBack_19 : decode cX0_takeBack 19 = .ok (.aload_n 0, 1) := by decide +kernel
theorem dX0_takeBack_20 : decode cX0_takeBack 20 = .ok (.dup, 1) := by decide +kernel
theorem dX0_takeBack_21 : decode cX0_takeBack 21 = .ok (.getfield 18, 3) := by decide +kernel
theorem dX0_takeBack_24 : decode cX0_takeBack 24 = .ok (.iconst 1, 1) := by decide +kernel
theorem dX0_takeBack_25 : decode cX0_takeBack 25 = .ok (.isub, 1) := by decide +kernel
theorem dX0_takeBack_26 : decode cX0_takeBack 26 = .ok (.putfield 18, 3) := by decide +kernel
theorem dX0_takeBack_29 : decode cX0_takeBack 29 = .ok (.aload_n 1, 1) := by decide +kernel
theorem dX0_takeBack_30 : decode cX0_takeBack 30 = .ok (.aload_n 0, 1) := by decide +kernel
theorem dX0_takeBack_31 : decode cX0_takeBack 31 = .ok (.getfield 11, 3) := by decide +kernel
theorem dX0_takeBack_34 : decode cX0_takeBack 34 = .ok (.aload_n 0, 1) := by decide +kernel
theorem dX0_takeBack_35 : decode cX0_takeBack 35 = .ok (.getfield 18, 3) := by decide +kernel
theorem dX0_takeBack_38 : decode cX0_takeBack 38 = .ok (.aaload, 1) := by decide +kernel
theorem dX0_takeBack_39 : decode cX0_takeBack 39 = .ok (.invokevirtual 25, 3) := by decide +kernel
theorem dX0_takeBack_42 : decode cX0_takeBack 42 = .ok (.return_, 1) := by decide +kernel
theorem dX0_dropOldest_0 : decode cX0_dropOldest 0 = .ok (.aload_n 0, 1) := by decide +kernel
theorem dX0_dropOldest_1 : decode cX0_dropOldest 1 = .ok (.getfield 11, 3) := by decide +kernel
theorem dX0_dropOldest_4 : decode cX0_dropOldest 4 = .ok (.iconst 0, 1) := by decide +kernel
theorem dX0_dropOldest_5 : decode cX0_dropOldest 5 = .ok (.aaload, 1) := by decide +kernel
theorem dX0_dropOldest_6 : decode cX0_dropOldest 6 = .ok (.astore_n 1, 1) := by decide +kernel
theorem dX0_dropOldest_7 : decode cX0_dropOldest 7 = .ok (.iconst 1, 1) := by decide +kernel
theorem dX0_dropOldest_8 : decode cX0_dropOldest 8 = .ok (.istore_n 2, 1) := by decide +kernel
theorem dX0_dropOldest_9 : decode cX0_dropOldest 9 = .ok (.iload_n 2, 1) := by decide +kernel
theorem dX0_dropOldest_10 : decode cX0_dropOldest 10 = .ok (.aload_n 0, 1) := by decide +kernel
theorem dX0_dropOldest_11 : decode cX0_dropOldest 11 = .ok (.getfield 11, 3) := by decide +kernel
theorem dX0_dropOldest_14 : decode cX0_dropOldest 14 = .ok (.arraylength, 1) := by decide +kernel
theorem dX0_dropOldest_15 : decode cX0_dropOldest 15 = .ok (.if_icmp .ge 23, 3) := by decide +kernel
theorem dX0_dropOldest_18 : decode cX0_dropOldest 18 = .ok (.aload_n 0, 1) := by decide +kernel
theorem dX0_dropOldest_19 : decode cX0_dropOldest 19 = .ok (.getfield 11, 3) := by decide +kernel
theorem dX0_dropOldest_22 : decode cX0_dropOldest 22 = .ok (.iload_n 2, 1) := by decide +kernel
theorem dX0_dropOldest_23 : decode cX0_dropOldest 23 = .ok (.iconst 1, 1) := by decide +kernel
theorem dX0_dropOldest_24 : decode cX0_dropOldest 24 = .ok (.isub, 1) := by decide +kernel
theorem dX0_dropOldest_25 : decode cX0_dropOldest 25 = .ok (.aload_n 0, 1) := by decide +kernel
theorem dX0_dropOldest_26 : decode cX0_dropOldest 26 = .ok (.getfield 11, 3) := by decide +kernel
theorem dX0_dropOldest_29 : decode cX0_dropOldest 29 = .ok (.iload_n 2, 1) := by decide +kernel
theorem dX0_dropOldest_30 : decode cX0_dropOldest 30 = .ok (.aaload, 1) := by decide +kernel
theorem dX0_dropOldest_31 : decode cX0_dropOldest 31 = .ok (.aastore, 1) := by decide +kernel
theorem dX0_dropOldest_32 : decode cX0_dropOldest 32 = .ok (.iinc 2 1, 3) := by decide +kernel
theorem dX0_dropOldest_35 : decode cX0_dropOldest 35 = .ok (.goto (-26), 3) := by decide +kernel
theorem dX0_dropOldest_38 : decode cX0_dropOldest 38 = .ok (.aload_n 0, 1) := by decide +kernel
theorem dX0_dropOldest_39 : decode cX0_dropOldest 39 = .ok (.getfield 11, 3) := by decide +kernel
theorem dX0_dropOldest_42 : decode cX0_dropOldest 42 = .ok (.aload_n 0, 1) := by decide +kernel
theorem dX0_dropOldest_43 : decode cX0_dropOldest 43 = .ok (.getfield 11, 3) := by decide +kernel
theorem dX0_dropOldest_46 : decode cX0_dropOldest 46 = .ok (.arraylength, 1) := by decide +kernel
theorem dX0_dropOldest_47 : decode cX0_dropOldest 47 = .ok (.iconst 1, 1) := by decide +kernel
theorem dX0_dropOldest_48 : decode cX0_dropOldest 48 = .ok (.isub, 1) := by decide +kernel
theorem dX0_dropOldest_49 : decode cX0_dropOldest 49 = .ok (.aload_n 1, 1) := by decide +kernel
theorem dX0_dropOldest_50 : decode cX0_dropOldest 50 = .ok (.aastore, 1) := by decide +kernel
theorem dX0_dropOldest_51 : decode cX0_dropOldest 51 = .ok (.aload_n 0, 1) := by decide +kernel
theorem dX0_dropOldest_52 : decode cX0_dropOldest 52 = .ok (.aload_n 0, 1) := by decide +kernel
theorem dX0_dropOldest_53 : decode cX0_dropOldest 53 = .ok (.getfield 11, 3) := by decide +kernel
theorem dX0_dropOldest_56 : decode cX0_dropOldest 56 = .ok (.arraylength, 1) := by decide +kernel
theorem dX0_dropOldest_57 : decode cX0_dropOldest 57 = .ok (.iconst 1, 1) := by decide +kernel
theorem dX0_dropOldest_58 : decode cX0_dropOldest 58 = .ok (.isub, 1) := by decide +kernel
theorem dX0_dropOldest_59 : decode cX0_dropOldest 59 = .ok (.putfield 18, 3) := by decide +kernel
theorem dX0_dropOldest_62 : decode cX0_dropOldest 62 = .ok (.return_, 1) := by decide +kernel
theorem dX1_init_0 : decode cX1_init 0 = .ok (.aload_n 0, 1) := by decide +kernel
theorem dX1_init_1 : decode cX1_init 1 = .ok (.invokespecial 3, 3) := by decide +kernel
theorem dX1_init_4 : decode cX1_init 4 = .ok (.aload_n 0, 1) := by decide +kernel
theorem dX1_init_5 : decode cX1_init 5 = .ok (.new 9, 3) := by decide +kernel
theorem dX1_init_8 : decode cX1_init 8 = .ok (.dup, 1) := by decide +kernel
theorem dX1_init_9 : decode cX1_init 9 = .ok (.invokespecial 11, 3) := by decide +kernel
theorem dX1_init_12 : decode cX1_init 12 = .ok (.putfield 12, 3) := by decide +kernel
theorem dX1_init_15 : decode cX1_init 15 = .ok (.aload_n 0, 1) := by decide +kernel
theorem dX1_init_16 : decode cX1_init 16 = .ok (.new 9, 3) := by decide +kernel
theorem dX1_init_19 : decode cX1_init 19 = .ok (.dup, 1) := by decide +kernel
theorem dX1_init_20 : decode cX1_init 20 = .ok (.invokespecial 11, 3) := by decide +kernel
theorem dX1_init_23 : decode cX1_init 23 = .ok (.putfield 18, 3) := by decide +kernel
theorem dX1_init_26 : decode cX1_init 26 = .ok (.aload_n 0, 1) := by decide +kernel
theorem dX1_init_27 : decode cX1_init 27 = .ok (.iconst 3, 1) := by decide +kernel
theorem dX1_init_28 : decode cX1_init 28 = .ok (.newarray .int, 2) := by decide +kernel
theorem dX1_init_30 : decode cX1_init 30 = .ok (.putfield 21, 3) := by decide +kernel
theorem dX1_init_33 : decode cX1_init 33 = .ok (.aload_n 0, 1) := by decide +kernel
theorem dX1_init_34 : decode cX1_init 34 = .ok (.iconst 3, 1) := by decide +kernel
theorem dX1_init_35 : decode cX1_init 35 = .ok (.newarray .int, 2) := by decide +kernel
theorem dX1_init_37 : decode cX1_init 37 = .ok (.putfield 25, 3) := by decide +kernel
theorem dX1_init_40 : decode cX1_init 40 = .ok (.return_, 1) := by decide +kernel
theorem dX1_learn_0 : decode cX1_learn 0 = .ok (.aload_n 0, 1) := by decide +kernel
theorem dX1_learn_1 : decode cX1_learn 1 = .ok (.getfield 28, 3) := by decide +kernel
theorem dX1_learn_4 : decode cX1_learn 4 = .ok (.aload_n 1, 1) := by decide +kernel
theorem dX1_learn_5 : decode cX1_learn 5 = .ok (.getfield 32, 3) := by decide +kernel
theorem dX1_learn_8 : decode cX1_learn 8 = .ok (.if_icmp .ne 7, 3) := by decide +kernel
theorem dX1_learn_11 : decode cX1_learn 11 = .ok (.iconst 1, 1) := by decide +kernel
theorem dX1_learn_12 : decode cX1_learn 12 = .ok (.goto 4, 3) := by decide +kernel
theorem dX1_learn_15 : decode cX1_learn 15 = .ok (.iconst 0, 1) := by decide +kernel
theorem dX1_learn_16 : decode cX1_learn 16 = .ok (.istore_n 2, 1) := by decide +kernel
theorem dX1_learn_17 : decode cX1_learn 17 = .ok (.aload_n 0, 1) := by decide +kernel
theorem dX1_learn_18 : decode cX1_learn 18 = .ok (.aload_n 1, 1) := by decide +kernel
theorem dX1_learn_19 : decode cX1_learn 19 = .ok (.getfield 32, 3) := by decide +kernel
theorem dX1_learn_22 : decode cX1_learn 22 = .ok (.putfield 28, 3) := by decide +kernel
theorem dX1_learn_25 : decode cX1_learn 25 = .ok (.iconst 0, 1) := by decide +kernel
theorem dX1_learn_26 : decode cX1_learn 26 = .ok (.istore_n 3, 1) := by decide +kernel
theorem dX1_learn_27 : decode cX1_learn 27 = .ok (.iload_n 3, 1) := by decide +kernel
theorem dX1_learn_28 : decode cX1_learn 28 = .ok (.aload_n 0, 1) := by decide +kernel
theorem dX1_learn_29 : decode cX1_learn 29 = .ok (.getfield 21, 3) := by decide +kernel
theorem dX1_learn_32 : decode cX1_learn 32 = .ok (.arraylength, 1) := by decide +kernel
theorem dX1_learn_33 : decode cX1_learn 33 = .ok (.if_icmp .ge 69, 3) := by decide +kernel
theorem dX1_learn_36 : decode cX1_learn 36 = .ok (.iload_n 3, 1) := by decide +kernel
theorem dX1_learn_37 : decode cX1_learn 37 = .ok (.aload_n 0, 1) := by decide +kernel
theorem dX1_learn_38 : decode cX1_learn 38 = .ok (.getfield 25, 3) := by decide +kernel
theorem dX1_learn_41 : decode cX1_learn 41 = .ok (.arraylength, 1) := by decide +kernel
theorem dX1_learn_42 : decode cX1_learn 42 = .ok (.if_icmp .ge 60, 3) := by decide +kernel
theorem dX1_learn_45 : decode cX1_learn 45 = .ok (.aload_n 1, 1) := by decide +kernel
theorem dX1_learn_46 : decode cX1_learn 46 = .ok (.iload_n 3, 1) := by decide +kernel
theorem dX1_learn_47 : decode cX1_learn 47 = .ok (.invokevirtual 35, 3) := by decide +kernel
theorem dX1_learn_50 : decode cX1_learn 50 = .ok (.istore 4, 2) := by decide +kernel
theorem dX1_learn_52 : decode cX1_learn 52 = .ok (.iload_n 2, 1) := by decide +kernel
theorem dX1_learn_53 : decode cX1_learn 53 = .ok (.ifCond .eq 18, 3) := by decide +kernel
theorem dX1_learn_56 : decode cX1_learn 56 = .ok (.iload 4, 2) := by decide +kernel
theorem dX1_learn_58 : decode cX1_learn 58 = .ok (.aload_n 0, 1) := by decide +kernel
theorem dX1_learn_59 : decode cX1_learn 59 = .ok (.getfield 21, 3) := by decide +kernel
theorem dX1_learn_62 : decode cX1_learn 62 = .ok (.iload_n 3, 1) := by decide +kernel
theorem dX1_learn_63 : decode cX1_learn 63 = .ok (.iaload, 1) := by decide +kernel
theorem dX1_learn_64 : decode cX1_learn 64 = .ok (.if_icmp .ne 7, 3) := by decide +kernel
theorem dX1_learn_67 : decode cX1_learn 67 = .ok (.iconst 1, 1) := by decide +kernel
theorem dX1_learn_68 : decode cX1_learn 68 = .ok (.goto 4, 3) := by decide +kernel
theorem dX1_learn_71 : decode cX1_learn 71 = .ok (.iconst 0, 1) := by decide +kernel
theorem dX1_learn_72 : decode cX1_learn 72 = .ok (.istore_n 2, 1) := by decide +kernel
theorem dX1_learn_73 : decode cX1_learn 73 = .ok (.aload_n 0, 1) := by decide +kernel
theorem dX1_learn_74 : decode cX1_learn 74 = .ok (.getfield 21, 3) := by decide +kernel
theorem dX1_learn_77 : decode cX1_learn 77 = .ok (.iload_n 3, 1) := by decide +kernel
theorem dX1_learn_78 : decode cX1_learn 78 = .ok (.iload 4, 2) := by decide +kernel
theorem dX1_learn_80 : decode cX1_learn 80 = .ok (.iastore, 1) := by decide +kernel
theorem dX1_learn_81 : decode cX1_learn 81 = .ok (.aload_n 0, 1) := by decide +kernel
theorem dX1_learn_82 : decode cX1_learn 82 = .ok (.getfield 25, 3) := by decide +kernel
theorem dX1_learn_85 : decode cX1_learn 85 = .ok (.iload_n 3, 1) := by decide +kernel
theorem dX1_learn_86 : decode cX1_learn 86 = .ok (.iload 4, 2) := by decide +kernel
theorem dX1_learn_88 : decode cX1_learn 88 = .ok (.aload_n 0, 1) := by decide +kernel
theorem dX1_learn_89 : decode cX1_learn 89 = .ok (.getfield 28, 3) := by decide +kernel
theorem dX1_learn_92 : decode cX1_learn 92 = .ok (.invokestatic 39, 3) := by decide +kernel
theorem dX1_learn_95 : decode cX1_learn 95 = .ok (.iastore, 1) := by decide +kernel
theorem dX1_learn_96 : decode cX1_learn 96 = .ok (.iinc 3 1, 3) := by decide +kernel
theorem dX1_learn_99 : decode cX1_learn 99 = .ok (.goto (-72), 3) := by decide +kernel
theorem dX1_learn_102 : decode cX1_learn 102 = .ok (.iload_n 2, 1) := by decide +kernel
theorem dX1_learn_103 : decode cX1_learn 103 = .ok (.ifCond .ne 26, 3) := by decide +kernel
theorem dX1_learn_106 : decode cX1_learn 106 = .ok (.aload_n 0, 1) := by decide +kernel
theorem dX1_learn_107 : decode cX1_learn 107 = .ok (.getfield 12, 3) := by decide +kernel
theorem dX1_learn_110 : decode cX1_learn 110 = .ok (.aload_n 0, 1) := by decide +kernel
theorem dX1_learn_111 : decode cX1_learn 111 = .ok (.getfield 28, 3) := by decide +kernel
theorem dX1_learn_114 : decode cX1_learn 114 = .ok (.invokestatic 45, 3) := by decide +kernel
theorem dX1_learn_117 : decode cX1_learn 117 = .ok (.iconst 0, 1) := by decide +kernel
theorem dX1_learn_118 : decode cX1_learn 118 = .ok (.aload_n 0, 1) := by decide +kernel
theorem dX1_learn_119 : decode cX1_learn 119 = .ok (.getfield 25, 3) := by decide +kernel
theorem dX1_learn_122 : decode cX1_learn 122 = .ok (.aload_n 0, 1) := by decide +kernel
theorem dX1_learn_123 : decode cX1_learn 123 = .ok (.getfield 28, 3) := by decide +kernel
theorem dX1_learn_126 : decode cX1_learn 126 = .ok (.invokevirtual 48, 3) := by decide +kernel
theorem dX1_learn_129 : decode cX1_learn 129 = .ok (.return_, 1) := by decide +kernel
theorem dX1_leadsFrom_0 : decode cX1_leadsFrom 0 = .ok (.aload_n 0, 1) := by decide +kernel
theorem dX1_leadsFrom_1 : decode cX1_leadsFrom 1 = .ok (.getfield 12, 3) := by decide +kernel
theorem dX1_leadsFrom_4 : decode cX1_leadsFrom 4 = .ok (.iload_n 1, 1) := by decide +kernel
theorem dX1_leadsFrom_5 : decode cX1_leadsFrom 5 = .ok (.invokevirtual 52, 3) := by decide +kernel
theorem dX1_leadsFrom_8 : decode cX1_leadsFrom 8 = .ok (.ireturn, 1) := by decide +kernel
theorem dX1_leadsBySearch_0 : decode cX1_leadsBySearch 0 = .ok (.aload_n 0, 1) := by decide +kernel
theorem dX1_leadsBySearch_1 : decode cX1_leadsBySearch 1 = .ok (.getfield 28, 3) := by decide +kernel
theorem dX1_leadsBySearch_4 : decode cX1_leadsBySearch 4 = .ok (.invokestatic 45, 3) := by decide +kernel
theorem dX1_leadsBySearch_7 : decode cX1_leadsBySearch 7 = .ok (.istore_n 2, 1) := by decide +kernel
theorem dX1_leadsBySearch_8 : decode cX1_leadsBySearch 8 = .ok (.aload_n 0, 1) := by decide +kernel
theorem dX1_leadsBySearch_9 : decode cX1_leadsBySearch 9 = .ok (.getfield 18, 3) := by decide +kernel
theorem dX1_leadsBySearch_12 : decode cX1_leadsBySearch 12 = .ok (.iload_n 1, 1) := by decide +kernel
theorem dX1_leadsBySearch_13 : decode cX1_leadsBySearch 13 = .ok (.iload_n 2, 1) := by decide +kernel
theorem dX1_leadsBySearch_14 : decode cX1_leadsBySearch 14 = .ok (.aload_n 0, 1) := by decide +kernel
theorem dX1_leadsBySearch_15 : decode cX1_leadsBySearch 15 = .ok (.getfield 21, 3) := by decide +kernel
theorem dX1_leadsBySearch_18 : decode cX1_leadsBySearch 18 = .ok (.aload_n 0, 1) := by decide +kernel
theorem dX1_leadsBySearch_19 : decode cX1_leadsBySearch 19 = .ok (.getfield 28, 3) := by decide +kernel
theorem dX1_leadsBySearch_22 : decode cX1_leadsBySearch 22 = .ok (.invokevirtual 48, 3) := by decide +kernel
theorem dX1_leadsBySearch_25 : decode cX1_leadsBySearch 25 = .ok (.aload_n 0, 1) := by decide +kernel
theorem dX1_leadsBySearch_26 : decode cX1_leadsBySearch 26 = .ok (.getfield 18, 3) := by decide +kernel
theorem dX1_leadsBySearch_29 : decode cX1_leadsBySearch 29 = .ok (.iload_n 2, 1) := by decide +kernel
theorem dX1_leadsBySearch_30 : decode cX1_leadsBySearch 30 = .ok (.invokevirtual 52, 3) := by decide +kernel
theorem dX1_leadsBySearch_33 : decode cX1_leadsBySearch 33 = .ok (.ireturn, 1) := by decide +kernel
theorem dX1_callAt_0 : decode cX1_callAt 0 = .ok (.aload_n 0, 1) := by decide +kernel
theorem dX1_callAt_1 : decode cX1_callAt 1 = .ok (.iload_n 1, 1) := by decide +kernel
theorem dX1_callAt_2 : decode cX1_callAt 2 = .ok (.invokevirtual 55, 3) := by decide +kernel
theorem dX1_callAt_5 : decode cX1_callAt 5 = .ok (.istore_n 3, 1) := by decide +kernel
theorem dX1_callAt_6 : decode cX1_callAt 6 = .ok (.iload_n 2, 1) := by decide +kernel
theorem dX1_callAt_7 : decode cX1_callAt 7 = .ok (.ifCond .lt 8, 3) := by decide +kernel
theorem dX1_callAt_10 : decode cX1_callAt 10 = .ok (.iload_n 2, 1) := by decide +kernel
theorem dX1_callAt_11 : decode cX1_callAt 11 = .ok (.iload_n 3, 1) := by decide +kernel
theorem dX1_callAt_12 : decode cX1_callAt 12 = .ok (.if_icmp .lt 6, 3) := by decide +kernel
theorem dX1_callAt_15 : decode cX1_callAt 15 = .ok (.bipush (-4), 2) := by decide +kernel
theorem dX1_callAt_17 : decode cX1_callAt 17 = .ok (.ireturn, 1) := by decide +kernel
theorem dX1_callAt_18 : decode cX1_callAt 18 = .ok (.iload_n 1, 1) := by decide +kernel
theorem dX1_callAt_19 : decode cX1_callAt 19 = .ok (.istore 4, 2) := by decide +kernel
theorem dX1_callAt_21 : decode cX1_callAt 21 = .ok (.iconst 0, 1) := by decide +kernel
theorem dX1_callAt_22 : decode cX1_callAt 22 = .ok (.istore 5, 2) := by decide +kernel
theorem dX1_callAt_24 : decode cX1_callAt 24 = .ok (.iload 5, 2) := by decide +kernel
theorem dX1_callAt_26 : decode cX1_callAt 26 = .ok (.iload_n 2, 1) := by decide +kernel
theorem dX1_callAt_27 : decode cX1_callAt 27 = .ok (.if_icmp .ge 23, 3) := by decide +kernel
theorem dX1_callAt_30 : decode cX1_callAt 30 = .ok (.aload_n 0, 1) := by decide +kernel
theorem dX1_callAt_31 : decode cX1_callAt 31 = .ok (.iload 4, 2) := by decide +kernel
theorem dX1_callAt_33 : decode cX1_callAt 33 = .ok (.aload_n 0, 1) := by decide +kernel
theorem dX1_callAt_34 : decode cX1_callAt 34 = .ok (.iload 4, 2) := by decide +kernel
theorem dX1_callAt_36 : decode cX1_callAt 36 = .ok (.invokevirtual 58, 3) := by decide +kernel
theorem dX1_callAt_39 : decode cX1_callAt 39 = .ok (.invokevirtual 61, 3) := by decide +kernel
theorem dX1_callAt_42 : decode cX1_callAt 42 = .ok (.istore 4, 2) := by decide +kernel
theorem dX1_callAt_44 : decode cX1_callAt 44 = .ok (.iinc 5 1, 3) := by decide +kernel
theorem dX1_callAt_47 : decode cX1_callAt 47 = .ok (.goto (-23), 3) := by decide +kernel
theorem dX1_callAt_50 : decode cX1_callAt 50 = .ok (.aload_n 0, 1) := by decide +kernel
theorem dX1_callAt_51 : decode cX1_callAt 51 = .ok (.iload 4, 2) := by decide +kernel
theorem dX1_callAt_53 : decode cX1_callAt 53 = .ok (.invokevirtual 58, 3) := by decide +kernel
theorem dX1_callAt_56 : decode cX1_callAt 56 = .ok (.ireturn, 1) := by decide +kernel
theorem dX1_callFrom_0 : decode cX1_callFrom 0 = .ok (.aload_n 0, 1) := by decide +kernel
theorem dX1_callFrom_1 : decode cX1_callFrom 1 = .ok (.iload_n 1, 1) := by decide +kernel
theorem dX1_callFrom_2 : decode cX1_callFrom 2 = .ok (.invokevirtual 55, 3) := by decide +kernel
theorem dX1_callFrom_5 : decode cX1_callFrom 5 = .ok (.istore_n 2, 1) := by decide +kernel
theorem dX1_callFrom_6 : decode cX1_callFrom 6 = .ok (.iconst 0, 1) := by decide +kernel
theorem dX1_callFrom_7 : decode cX1_callFrom 7 = .ok (.istore_n 3, 1) := by decide +kernel
theorem dX1_callFrom_8 : decode cX1_callFrom 8 = .ok (.iload_n 3, 1) := by decide +kernel
theorem dX1_callFrom_9 : decode cX1_callFrom 9 = .ok (.aload_n 0, 1) := by decide +kernel
theorem dX1_callFrom_10 : decode cX1_callFrom 10 = .ok (.getfield 21, 3) := by decide +kernel
theorem dX1_callFrom_13 : decode cX1_callFrom 13 = .ok (.arraylength, 1) := by decide +kernel
theorem dX1_callFrom_14 : decode cX1_callFrom 14 = .ok (.if_icmp .ge 27, 3) := by decide +kernel
theorem dX1_callFrom_17 : decode cX1_callFrom 17 = .ok (.aload_n 0, 1) := by decide +kernel
theorem dX1_callFrom_18 : decode cX1_callFrom 18 = .ok (.aload_n 0, 1) := by decide +kernel
theorem dX1_callFrom_19 : decode cX1_callFrom 19 = .ok (.iload_n 1, 1) := by decide +kernel
theorem dX1_callFrom_20 : decode cX1_callFrom 20 = .ok (.iload_n 3, 1) := by decide +kernel
theorem dX1_callFrom_21 : decode cX1_callFrom 21 = .ok (.invokevirtual 61, 3) := by decide +kernel
theorem dX1_callFrom_24 : decode cX1_callFrom 24 = .ok (.invokevirtual 55, 3) := by decide +kernel
theorem dX1_callFrom_27 : decode cX1_callFrom 27 = .ok (.iload_n 2, 1) := by decide +kernel
theorem dX1_callFrom_28 : decode cX1_callFrom 28 = .ok (.iconst 1, 1) := by decide +kernel
theorem dX1_callFrom_29 : decode cX1_callFrom 29 = .ok (.isub, 1) := by decide +kernel
theorem dX1_callFrom_30 : decode cX1_callFrom 30 = .ok (.if_icmp .ne 5, 3) := by decide +kernel
theorem dX1_callFrom_33 : decode cX1_callFrom 33 = .ok (.iload_n 3, 1) := by decide +kernel
theorem dX1_callFrom_34 : decode cX1_callFrom 34 = .ok (.ireturn, 1) := by decide +kernel
theorem dX1_callFrom_35 : decode cX1_callFrom 35 = .ok (.iinc 3 1, 3) := by decide +kernel
theorem dX1_callFrom_38 : decode cX1_callFrom 38 = .ok (.goto (-30), 3) := by decide +kernel
theorem dX1_callFrom_41 : decode cX1_callFrom 41 = .ok (.bipush (-4), 2) := by decide +kernel
theorem dX1_callFrom_43 : decode cX1_callFrom 43 = .ok (.ireturn, 1) := by decide +kernel
theorem dX1_behind_0 : decode cX1_behind 0 = .ok (.iload_n 2, 1) := by decide +kernel
theorem dX1_behind_1 : decode cX1_behind 1 = .ok (.ifCond .lt 29, 3) := by decide +kernel
theorem dX1_behind_4 : decode cX1_behind 4 = .ok (.iload_n 2, 1) := by decide +kernel
theorem dX1_behind_5 : decode cX1_behind 5 = .ok (.aload_n 0, 1) := by decide +kernel
theorem dX1_behind_6 : decode cX1_behind 6 = .ok (.getfield 21, 3) := by decide +kernel
theorem dX1_behind_9 : decode cX1_behind 9 = .ok (.arraylength, 1) := by decide +kernel
theorem dX1_behind_10 : decode cX1_behind 10 = .ok (.if_icmp .ge 20, 3) := by decide +kernel
theorem dX1_behind_13 : decode cX1_behind 13 = .ok (.iload_n 1, 1) := by decide +kernel
theorem dX1_behind_14 : decode cX1_behind 14 = .ok (.aload_n 0, 1) := by decide +kernel
theorem dX1_behind_15 : decode cX1_behind 15 = .ok (.getfield 21, 3) := by decide +kernel
theorem dX1_behind_18 : decode cX1_behind 18 = .ok (.iload_n 2, 1) := by decide +kernel
theorem dX1_behind_19 : decode cX1_behind 19 = .ok (.iaload, 1) := by decide +kernel
theorem dX1_behind_20 : decode cX1_behind 20 = .ok (.aload_n 0, 1) := by decide +kernel
theorem dX1_behind_21 : decode cX1_behind 21 = .ok (.getfield 28, 3) := by decide +kernel
theorem dX1_behind_24 : decode cX1_behind 24 = .ok (.invokestatic 64, 3) := by decide +kernel
theorem dX1_behind_27 : decode cX1_behind 27 = .ok (.goto 4, 3) := by decide +kernel
theorem dX1_behind_30 : decode cX1_behind 30 = .ok (.iload_n 1, 1) := by decide +kernel
theorem dX1_behind_31 : decode cX1_behind 31 = .ok (.ireturn, 1) := by decide +kernel
theorem dX2_init_0 : decode cX2_init 0 = .ok (.aload_n 0, 1) := by decide +kernel
theorem dX2_init_1 : decode cX2_init 1 = .ok (.invokespecial 3, 3) := by decide +kernel
theorem dX2_init_4 : decode cX2_init 4 = .ok (.aload_n 0, 1) := by decide +kernel
theorem dX2_init_5 : decode cX2_init 5 = .ok (.bipush 20, 2) := by decide +kernel
theorem dX2_init_7 : decode cX2_init 7 = .ok (.newarray .int, 2) := by decide +kernel
theorem dX2_init_9 : decode cX2_init 9 = .ok (.putfield 9, 3) := by decide +kernel
theorem dX2_init_12 : decode cX2_init 12 = .ok (.return_, 1) := by decide +kernel
theorem dX2_read_0 : decode cX2_read 0 = .ok (.aload_n 0, 1) := by decide +kernel
theorem dX2_read_1 : decode cX2_read 1 = .ok (.iconst 0, 1) := by decide +kernel
theorem dX2_read_2 : decode cX2_read 2 = .ok (.putfield 15, 3) := by decide +kernel
theorem dX2_read_5 : decode cX2_read 5 = .ok (.aload_n 0, 1) := by decide +kernel
theorem dX2_read_6 : decode cX2_read 6 = .ok (.invokevirtual 19, 3) := by decide +kernel
theorem dX2_read_9 : decode cX2_read 9 = .ok (.iconst 0, 1) := by decide +kernel
theorem dX2_read_10 : decode cX2_read 10 = .ok (.istore 4, 2) := by decide +kernel
theorem dX2_read_12 : decode cX2_read 12 = .ok (.iload 4, 2) := by decide +kernel
theorem dX2_read_14 : decode cX2_read 14 = .ok (.iload_n 2, 1) := by decide +kernel
theorem dX2_read_15 : decode cX2_read 15 = .ok (.if_icmp .ge 31, 3) := by decide +kernel
theorem dX2_read_18 : decode cX2_read 18 = .ok (.iload 4, 2) := by decide +kernel
theorem dX2_read_20 : decode cX2_read 20 = .ok (.aload_n 1, 1) := by decide +kernel
theorem dX2_read_21 : decode cX2_read 21 = .ok (.arraylength, 1) := by decide +kernel
theorem dX2_read_22 : decode cX2_read 22 = .ok (.if_icmp .ge 24, 3) := by decide +kernel
theorem dX2_read_25 : decode cX2_read 25 = .ok (.aload_n 0, 1) := by decide +kernel
theorem dX2_read_26 : decode cX2_read 26 = .ok (.aload_n 1, 1) := by decide +kernel
theorem dX2_read_27 : decode cX2_read 27 = .ok (.iload 4, 2) := by decide +kernel
theorem dX2_read_29 : decode cX2_read 29 = .ok (.caload, 1) := by decide +kernel
theorem dX2_read_30 : decode cX2_read 30 = .ok (.iload_n 3, 1) := by decide +kernel
theorem dX2_read_31 : decode cX2_read 31 = .ok (.invokevirtual 22, 3) := by decide +kernel
theorem dX2_read_34 : decode cX2_read 34 = .ok (.ifCond .ne 6, 3) := by decide +kernel
theorem dX2_read_37 : decode cX2_read 37 = .ok (.iload 4, 2) := by decide +kernel
theorem dX2_read_39 : decode cX2_read 39 = .ok (.ireturn, 1) := by decide +kernel
theorem dX2_read_40 : decode cX2_read 40 = .ok (.iinc 4 1, 3) := by decide +kernel
theorem dX2_read_43 : decode cX2_read 43 = .ok (.goto (-31), 3) := by decide +kernel
theorem dX2_read_46 : decode cX2_read 46 = .ok (.aload_n 0, 1) := by decide +kernel
theorem dX2_read_47 : decode cX2_read 47 = .ok (.iload_n 3, 1) := by decide +kernel
theorem dX2_read_48 : decode cX2_read 48 = .ok (.invokevirtual 26, 3) := by decide +kernel
theorem dX2_read_51 : decode cX2_read 51 = .ok (.ifCond .ne 5, 3) := by decide +kernel
theorem dX2_read_54 : decode cX2_read 54 = .ok (.iload_n 2, 1) := by decide +kernel
theorem dX2_read_55 : decode cX2_read 55 = .ok (.ireturn, 1) := by decide +kernel
theorem dX2_read_56 : decode cX2_read 56 = .ok (.aload_n 0, 1) := by decide +kernel
theorem dX2_read_57 : decode cX2_read 57 = .ok (.invokevirtual 30, 3) := by decide +kernel
theorem dX2_read_60 : decode cX2_read 60 = .ok (.bipush (-4), 2) := by decide +kernel
theorem dX2_read_62 : decode cX2_read 62 = .ok (.ireturn, 1) := by decide +kernel
theorem dX2_accepts_0 : decode cX2_accepts 0 = .ok (.iload_n 1, 1) := by decide +kernel
theorem dX2_accepts_1 : decode cX2_accepts 1 = .ok (.bipush 46, 2) := by decide +kernel
theorem dX2_accepts_3 : decode cX2_accepts 3 = .ok (.if_icmp .ne 9, 3) := by decide +kernel
theorem dX2_accepts_6 : decode cX2_accepts 6 = .ok (.aload_n 0, 1) := by decide +kernel
theorem dX2_accepts_7 : decode cX2_accepts 7 = .ok (.iload_n 2, 1) := by decide +kernel
theorem dX2_accepts_8 : decode cX2_accepts 8 = .ok (.invokevirtual 33, 3) := by decide +kernel
theorem dX2_accepts_11 : decode cX2_accepts 11 = .ok (.ireturn, 1) := by decide +kernel
theorem dX2_accepts_12 : decode cX2_accepts 12 = .ok (.iload_n 1, 1) := by decide +kernel
theorem dX2_accepts_13 : decode cX2_accepts 13 = .ok (.bipush 120, 2) := by decide +kernel
theorem dX2_accepts_15 : decode cX2_accepts 15 = .ok (.if_icmp .ne 9, 3) := by decide +kernel
theorem dX2_accepts_18 : decode cX2_accepts 18 = .ok (.aload_n 0, 1) := by decide +kernel
theorem dX2_accepts_19 : decode cX2_accepts 19 = .ok (.iload_n 2, 1) := by decide +kernel
theorem dX2_accepts_20 : decode cX2_accepts 20 = .ok (.invokevirtual 36, 3) := by decide +kernel
theorem dX2_accepts_23 : decode cX2_accepts 23 = .ok (.ireturn, 1) := by decide +kernel
theorem dX2_accepts_24 : decode cX2_accepts 24 = .ok (.aload_n 0, 1) := by decide +kernel
theorem dX2_accepts_25 : decode cX2_accepts 25 = .ok (.iload_n 1, 1) := by decide +kernel
theorem dX2_accepts_26 : decode cX2_accepts 26 = .ok (.bipush 48, 2) := by decide +kernel
theorem dX2_accepts_28 : decode cX2_accepts 28 = .ok (.isub, 1) := by decide +kernel
theorem dX2_accepts_29 : decode cX2_accepts 29 = .ok (.iload_n 2, 1) := by decide +kernel
theorem dX2_accepts_30 : decode cX2_accepts 30 = .ok (.invokevirtual 39, 3) := by decide +kernel
theorem dX2_accepts_33 : decode cX2_accepts 33 = .ok (.ireturn, 1) := by decide +kernel
theorem dX2_acceptsDot_0 : decode cX2_acceptsDot 0 = .ok (.aload_n 0, 1) := by decide +kernel
theorem dX2_acceptsDot_1 : decode cX2_acceptsDot 1 = .ok (.getfield 15, 3) := by decide +kernel
theorem dX2_acceptsDot_4 : decode cX2_acceptsDot 4 = .ok (.bipush 19, 2) := by decide +kernel
theorem dX2_acceptsDot_6 : decode cX2_acceptsDot 6 = .ok (.if_icmp .ge 11, 3) := by decide +kernel
theorem dX2_acceptsDot_9 : decode cX2_acceptsDot 9 = .ok (.aload_n 0, 1) := by decide +kernel
theorem dX2_acceptsDot_10 : decode cX2_acceptsDot 10 = .ok (.iload_n 1, 1) := by decide +kernel
theorem dX2_acceptsDot_11 : decode cX2_acceptsDot 11 = .ok (.invokevirtual 26, 3) := by decide +kernel
theorem dX2_acceptsDot_14 : decode cX2_acceptsDot 14 = .ok (.ifCond .ne 5, 3) := by decide +kernel
theorem dX2_acceptsDot_17 : decode cX2_acceptsDot 17 = .ok (.iconst 0, 1) := by decide +kernel
theorem dX2_acceptsDot_18 : decode cX2_acceptsDot 18 = .ok (.ireturn, 1) := by decide +kernel
theorem dX2_acceptsDot_19 : decode cX2_acceptsDot 19 = .ok (.aload_n 0, 1) := by decide +kernel
theorem dX2_acceptsDot_20 : decode cX2_acceptsDot 20 = .ok (.invokevirtual 30, 3) := by decide +kernel
theorem dX2_acceptsDot_23 : decode cX2_acceptsDot 23 = .ok (.iconst 1, 1) := by decide +kernel
theorem dX2_acceptsDot_24 : decode cX2_acceptsDot 24 = .ok (.ireturn, 1) := by decide +kernel
theorem dX2_acceptsCross_0 : decode cX2_acceptsCross 0 = .ok (.aload_n 0, 1) := by decide +kernel
theorem dX2_acceptsCross_1 : decode cX2_acceptsCross 1 = .ok (.getfield 43, 3) := by decide +kernel
theorem dX2_acceptsCross_4 : decode cX2_acceptsCross 4 = .ok (.ifCond .ne 18, 3) := by decide +kernel
theorem dX2_acceptsCross_7 : decode cX2_acceptsCross 7 = .ok (.aload_n 0, 1) := by decide +kernel
theorem dX2_acceptsCross_8 : decode cX2_acceptsCross 8 = .ok (.getfield 47, 3) := by decide +kernel
theorem dX2_acceptsCross_11 : decode cX2_acceptsCross 11 = .ok (.ifCond .ne 11, 3) := by decide +kernel
theorem dX2_acceptsCross_14 : decode cX2_acceptsCross 14 = .ok (.iconst 0, 1) := by decide +kernel
theorem dX2_acceptsCross_15 : decode cX2_acceptsCross 15 = .ok (.iload_n 1, 1) := by decide +kernel
theorem dX2_acceptsCross_16 : decode cX2_acceptsCross 16 = .ok (.invokestatic 50, 3) := by decide +kernel
theorem dX2_acceptsCross_19 : decode cX2_acceptsCross 19 = .ok (.ifCond .ne 5, 3) := by decide +kernel
theorem dX2_acceptsCross_22 : decode cX2_acceptsCross 22 = .ok (.iconst 0, 1) := by decide +kernel
theorem dX2_acceptsCross_23 : decode cX2_acceptsCross 23 = .ok (.ireturn, 1) := by decide +kernel
theorem dX2_acceptsCross_24 : decode cX2_acceptsCross 24 = .ok (.aload_n 0, 1) := by decide +kernel
theorem dX2_acceptsCross_25 : decode cX2_acceptsCross 25 = .ok (.iconst 1, 1) := by decide +kernel
theorem dX2_acceptsCross_26 : decode cX2_acceptsCross 26 = .ok (.putfield 43, 3) := by decide +kernel
theorem dX2_acceptsCross_29 : decode cX2_acceptsCross 29 = .ok (.iconst 1, 1) := by decide +kernel
theorem dX2_acceptsCross_30 : decode cX2_acceptsCross 30 = .ok (.ireturn, 1) := by decide +kernel
theorem dX2_acceptsPlace_0 : decode cX2_acceptsPlace 0 = .ok (.aload_n 0, 1) := by decide +kernel
theorem dX2_acceptsPlace_1 : decode cX2_acceptsPlace 1 = .ok (.getfield 43, 3) := by decide +kernel
theorem dX2_acceptsPlace_4 : decode cX2_acceptsPlace 4 = .ok (.ifCond .ne 16, 3) := by decide +kernel
theorem dX2_acceptsPlace_7 : decode cX2_acceptsPlace 7 = .ok (.iload_n 1, 1) := by decide +kernel
theorem dX2_acceptsPlace_8 : decode cX2_acceptsPlace 8 = .ok (.aload_n 0, 1) := by decide +kernel
theorem dX2_acceptsPlace_9 : decode cX2_acceptsPlace 9 = .ok (.getfield 55, 3) := by decide +kernel
theorem dX2_acceptsPlace_12 : decode cX2_acceptsPlace 12 = .ok (.if_icmp .le 8, 3) := by decide +kernel
theorem dX2_acceptsPlace_15 : decode cX2_acceptsPlace 15 = .ok (.iload_n 1, 1) := by decide +kernel
theorem dX2_acceptsPlace_16 : decode cX2_acceptsPlace 16 = .ok (.iload_n 2, 1) := by decide +kernel
theorem dX2_acceptsPlace_17 : decode cX2_acceptsPlace 17 = .ok (.if_icmp .le 5, 3) := by decide +kernel
theorem dX2_acceptsPlace_20 : decode cX2_acceptsPlace 20 = .ok (.iconst 0, 1) := by decide +kernel
theorem dX2_acceptsPlace_21 : decode cX2_acceptsPlace 21 = .ok (.ireturn, 1) := by decide +kernel
theorem dX2_acceptsPlace_22 : decode cX2_acceptsPlace 22 = .ok (.aload_n 0, 1) := by decide +kernel
theorem dX2_acceptsPlace_23 : decode cX2_acceptsPlace 23 = .ok (.getfield 47, 3) := by decide +kernel
theorem dX2_acceptsPlace_26 : decode cX2_acceptsPlace 26 = .ok (.iload_n 1, 1) := by decide +kernel
theorem dX2_acceptsPlace_27 : decode cX2_acceptsPlace 27 = .ok (.invokestatic 58, 3) := by decide +kernel
theorem dX2_acceptsPlace_30 : decode cX2_acceptsPlace 30 = .ok (.ior, 1) := by decide +kernel
theorem dX2_acceptsPlace_31 : decode cX2_acceptsPlace 31 = .ok (.istore_n 3, 1) := by decide +kernel
theorem dX2_acceptsPlace_32 : decode cX2_acceptsPlace 32 = .ok (.iload_n 3, 1) := by decide +kernel
theorem dX2_acceptsPlace_33 : decode cX2_acceptsPlace 33 = .ok (.iload_n 1, 1) := by decide +kernel
theorem dX2_acceptsPlace_34 : decode cX2_acceptsPlace 34 = .ok (.iload_n 2, 1) := by decide +kernel
theorem dX2_acceptsPlace_35 : decode cX2_acceptsPlace 35 = .ok (.invokestatic 62, 3) := by decide +kernel
theorem dX2_acceptsPlace_38 : decode cX2_acceptsPlace 38 = .ok (.ifCond .ne 5, 3) := by decide +kernel
theorem dX2_acceptsPlace_41 : decode cX2_acceptsPlace 41 = .ok (.iconst 0, 1) := by decide +kernel
theorem dX2_acceptsPlace_42 : decode cX2_acceptsPlace 42 = .ok (.ireturn, 1) := by decide +kernel
theorem dX2_acceptsPlace_43 : decode cX2_acceptsPlace 43 = .ok (.aload_n 0, 1) := by decide +kernel
theorem dX2_acceptsPlace_44 : decode cX2_acceptsPlace 44 = .ok (.iload_n 3, 1) := by decide +kernel
theorem dX2_acceptsPlace_45 : decode cX2_acceptsPlace 45 = .ok (.putfield 47, 3) := by decide +kernel
theorem dX2_acceptsPlace_48 : decode cX2_acceptsPlace 48 = .ok (.aload_n 0, 1) := by decide +kernel
theorem dX2_acceptsPlace_49 : decode cX2_acceptsPlace 49 = .ok (.iload_n 1, 1) := by decide +kernel
theorem dX2_acceptsPlace_50 : decode cX2_acceptsPlace 50 = .ok (.putfield 55, 3) := by decide +kernel
theorem dX2_acceptsPlace_53 : decode cX2_acceptsPlace 53 = .ok (.iconst 1, 1) := by decide +kernel
theorem dX2_acceptsPlace_54 : decode cX2_acceptsPlace 54 = .ok (.ireturn, 1) := by decide +kernel
theorem dX2_isChangeComplete_0 : decode cX2_isChangeComplete 0 = .ok (.aload_n 0, 1) := by decide +kernel
theorem dX2_isChangeComplete_1 : decode cX2_isChangeComplete 1 = .ok (.getfield 43, 3) := by decide +kernel
theorem dX2_isChangeComplete_4 : decode cX2_isChangeComplete 4 = .ok (.ifCond .ne 21, 3) := by decide +kernel
theorem dX2_isChangeComplete_7 : decode cX2_isChangeComplete 7 = .ok (.aload_n 0, 1) := by decide +kernel
theorem dX2_isChangeComplete_8 : decode cX2_isChangeComplete 8 = .ok (.getfield 47, 3) := by decide +kernel
theorem dX2_isChangeComplete_11 : decode cX2_isChangeComplete 11 = .ok (.ifCond .eq 18, 3) := by decide +kernel
theorem dX2_isChangeComplete_14 : decode cX2_isChangeComplete 14 = .ok (.aload_n 0, 1) := by decide +kernel
theorem dX2_isChangeComplete_15 : decode cX2_isChangeComplete 15 = .ok (.getfield 47, 3) := by decide +kernel
theorem dX2_isChangeComplete_18 : decode cX2_isChangeComplete 18 = .ok (.iload_n 1, 1) := by decide +kernel
theorem dX2_isChangeComplete_19 : decode cX2_isChangeComplete 19 = .ok (.invokestatic 50, 3) := by decide +kernel
theorem dX2_isChangeComplete_22 : decode cX2_isChangeComplete 22 = .ok (.ifCond .eq 7, 3) := by decide +kernel
theorem dX2_isChangeComplete_25 : decode cX2_isChangeComplete 25 = .ok (.iconst 1, 1) := by decide +kernel
theorem dX2_isChangeComplete_26 : decode cX2_isChangeComplete 26 = .ok (.goto 4, 3) := by decide +kernel
theorem dX2_isChangeComplete_29 : decode cX2_isChangeComplete 29 = .ok (.iconst 0, 1) := by decide +kernel
theorem dX2_isChangeComplete_30 : decode cX2_isChangeComplete 30 = .ok (.ireturn, 1) := by decide +kernel
theorem dX2_keepChange_0 : decode cX2_keepChange 0 = .ok (.aload_n 0, 1) := by decide +kernel
theorem dX2_keepChange_1 : decode cX2_keepChange 1 = .ok (.getfield 15, 3) := by decide +kernel
theorem dX2_keepChange_4 : decode cX2_keepChange 4 = .ok (.ifCond .lt 38, 3) := by decide +kernel
theorem dX2_keepChange_7 : decode cX2_keepChange 7 = .ok (.aload_n 0, 1) := by decide +kernel
theorem dX2_keepChange_8 : decode cX2_keepChange 8 = .ok (.getfield 15, 3) := by decide +kernel
theorem dX2_keepChange_11 : decode cX2_keepChange 11 = .ok (.aload_n 0, 1) := by decide +kernel
theorem dX2_keepChange_12 : decode cX2_keepChange 12 = .ok (.getfield 9, 3) := by decide +kernel
theorem dX2_keepChange_15 : decode cX2_keepChange 15 = .ok (.arraylength, 1) := by decide +kernel
theorem dX2_keepChange_16 : decode cX2_keepChange 16 = .ok (.if_icmp .ge 26, 3) := by decide +kernel
theorem dX2_keepChange_19 : decode cX2_keepChange 19 = .ok (.aload_n 0, 1) := by decide +kernel
theorem dX2_keepChange_20 : decode cX2_keepChange 20 = .ok (.getfield 9, 3) := by decide +kernel
theorem dX2_keepChange_23 : decode cX2_keepChange 23 = .ok (.aload_n 0, 1) := by decide +kernel
theorem dX2_keepChange_24 : decode cX2_keepChange 24 = .ok (.getfield 15, 3) := by decide +kernel
theorem dX2_keepChange_27 : decode cX2_keepChange 27 = .ok (.aload_n 0, 1) := by decide +kernel
theorem dX2_keepChange_28 : decode cX2_keepChange 28 = .ok (.getfield 47, 3) := by decide +kernel
theorem dX2_keepChange_31 : decode cX2_keepChange 31 = .ok (.iastore, 1) := by decide +kernel
theorem dX2_keepChange_32 : decode cX2_keepChange 32 = .ok (.aload_n 0, 1) := by decide +kernel
theorem dX2_keepChange_33 : decode cX2_keepChange 33 = .ok (.dup, 1) := by decide +kernel
theorem dX2_keepChange_34 : decode cX2_keepChange 34 = .ok (.getfield 15, 3) := by decide +kernel
theorem dX2_keepChange_37 : decode cX2_keepChange 37 = .ok (.iconst 1, 1) := by decide +kernel
theorem dX2_keepChange_38 : decode cX2_keepChange 38 = .ok (.iadd, 1) := by decide +kernel
theorem dX2_keepChange_39 : decode cX2_keepChange 39 = .ok (.putfield 15, 3) := by decide +kernel
theorem dX2_keepChange_42 : decode cX2_keepChange 42 = .ok (.aload_n 0, 1) := by decide +kernel
theorem dX2_keepChange_43 : decode cX2_keepChange 43 = .ok (.invokevirtual 19, 3) := by decide +kernel
theorem dX2_keepChange_46 : decode cX2_keepChange 46 = .ok (.return_, 1) := by decide +kernel
theorem dX2_beginChange_0 : decode cX2_beginChange 0 = .ok (.aload_n 0, 1) := by decide +kernel
theorem dX2_beginChange_1 : decode cX2_beginChange 1 = .ok (.iconst 0, 1) := by decide +kernel
theorem dX2_beginChange_2 : decode cX2_beginChange 2 = .ok (.putfield 47, 3) := by decide +kernel
theorem dX2_beginChange_5 : decode cX2_beginChange 5 = .ok (.aload_n 0, 1) := by decide +kernel
theorem dX2_beginChange_6 : decode cX2_beginChange 6 = .ok (.iconst 0, 1) := by decide +kernel
theorem dX2_beginChange_7 : decode cX2_beginChange 7 = .ok (.putfield 55, 3) := by decide +kernel
theorem dX2_beginChange_10 : decode cX2_beginChange 10 = .ok (.aload_n 0, 1) := by decide +kernel
theorem dX2_beginChange_11 : decode cX2_beginChange 11 = .ok (.iconst 0, 1) := by decide +kernel
theorem dX2_beginChange_12 : decode cX2_beginChange 12 = .ok (.putfield 43, 3) := by decide +kernel
theorem dX2_beginChange_15 : decode cX2_beginChange 15 = .ok (.return_, 1) := by decide +kernel
theorem dX3_init_0 : decode cX3_init 0 = .ok (.aload_n 0, 1) := by decide +kernel
theorem dX3_init_1 : decode cX3_init 1 = .ok (.invokespecial 3, 3) := by decide +kernel
theorem dX3_init_4 : decode cX3_init 4 = .ok (.aload_n 0, 1) := by decide +kernel
theorem dX3_init_5 : decode cX3_init 5 = .ok (.bipush 80, 2) := by decide +kernel
theorem dX3_init_7 : decode cX3_init 7 = .ok (.newarray .char, 2) := by decide +kernel
theorem dX3_init_9 : decode cX3_init 9 = .ok (.putfield 9, 3) := by decide +kernel
theorem dX3_init_12 : decode cX3_init 12 = .ok (.return_, 1) := by decide +kernel
theorem dX3_put_0 : decode cX3_put 0 = .ok (.aload_n 0, 1) := by decide +kernel
theorem dX3_put_1 : decode cX3_put 1 = .ok (.getfield 15, 3) := by decide +kernel
theorem dX3_put_4 : decode cX3_put 4 = .ok (.ifCond .lt 35, 3) := by decide +kernel
theorem dX3_put_7 : decode cX3_put 7 = .ok (.aload_n 0, 1) := by decide +kernel
theorem dX3_put_8 : decode cX3_put 8 = .ok (.getfield 15, 3) := by decide +kernel
theorem dX3_put_11 : decode cX3_put 11 = .ok (.aload_n 0, 1) := by decide +kernel
theorem dX3_put_12 : decode cX3_put 12 = .ok (.getfield 9, 3) := by decide +kernel
theorem dX3_put_15 : decode cX3_put 15 = .ok (.arraylength, 1) := by decide +kernel
theorem dX3_put_16 : decode cX3_put 16 = .ok (.if_icmp .ge 23, 3) := by decide +kernel
theorem dX3_put_19 : decode cX3_put 19 = .ok (.aload_n 0, 1) := by decide +kernel
theorem dX3_put_20 : decode cX3_put 20 = .ok (.getfield 9, 3) := by decide +kernel
theorem dX3_put_23 : decode cX3_put 23 = .ok (.aload_n 0, 1) := by decide +kernel
theorem dX3_put_24 : decode cX3_put 24 = .ok (.getfield 15, 3) := by decide +kernel
theorem dX3_put_27 : decode cX3_put 27 = .ok (.iload_n 1, 1) := by decide +kernel
theorem dX3_put_28 : decode cX3_put 28 = .ok (.castore, 1) := by decide +kernel
theorem dX3_put_29 : decode cX3_put 29 = .ok (.aload_n 0, 1) := by decide +kernel
theorem dX3_put_30 : decode cX3_put 30 = .ok (.dup, 1) := by decide +kernel
theorem dX3_put_31 : decode cX3_put 31 = .ok (.getfield 15, 3) := by decide +kernel
theorem dX3_put_34 : decode cX3_put 34 = .ok (.iconst 1, 1) := by decide +kernel
theorem dX3_put_35 : decode cX3_put 35 = .ok (.iadd, 1) := by decide +kernel
theorem dX3_put_36 : decode cX3_put 36 = .ok (.putfield 15, 3) := by decide +kernel
theorem dX3_put_39 : decode cX3_put 39 = .ok (.return_, 1) := by decide +kernel
theorem dX3_faultAsTouch_0 : decode cX3_faultAsTouch 0 = .ok (.iconst 0, 1) := by decide +kernel
theorem dX3_faultAsTouch_1 : decode cX3_faultAsTouch 1 = .ok (.istore_n 1, 1) := by decide +kernel
theorem dX3_faultAsTouch_2 : decode cX3_faultAsTouch 2 = .ok (.iload_n 1, 1) := by decide +kernel
theorem dX3_faultAsTouch_3 : decode cX3_faultAsTouch 3 = .ok (.aload_n 0, 1) := by decide +kernel
theorem dX3_faultAsTouch_4 : decode cX3_faultAsTouch 4 = .ok (.getfield 15, 3) := by decide +kernel
theorem dX3_faultAsTouch_7 : decode cX3_faultAsTouch 7 = .ok (.if_icmp .ge 40, 3) := by decide +kernel
theorem dX3_faultAsTouch_10 : decode cX3_faultAsTouch 10 = .ok (.iload_n 1, 1) := by decide +kernel
theorem dX3_faultAsTouch_11 : decode cX3_faultAsTouch 11 = .ok (.aload_n 0, 1) := by decide +kernel
theorem dX3_faultAsTouch_12 : decode cX3_faultAsTouch 12 = .ok (.getfield 9, 3) := by decide +kernel
theorem dX3_faultAsTouch_15 : decode cX3_faultAsTouch 15 = .ok (.arraylength, 1) := by decide +kernel
theorem dX3_faultAsTouch_16 : decode cX3_faultAsTouch 16 = .ok (.if_icmp .ge 31, 3) := by decide +kernel
theorem dX3_faultAsTouch_19 : decode cX3_faultAsTouch 19 = .ok (.iload_n 1, 1) := by decide +kernel
theorem dX3_faultAsTouch_20 : decode cX3_faultAsTouch 20 = .ok (.bipush 16, 2) := by decide +kernel
theorem dX3_faultAsTouch_22 : decode cX3_faultAsTouch 22 = .ok (.if_icmp .ge 17, 3) := by decide +kernel
theorem dX3_faultAsTouch_25 : decode cX3_faultAsTouch 25 = .ok (.aload_n 0, 1) := by decide +kernel
theorem dX3_faultAsTouch_26 : decode cX3_faultAsTouch 26 = .ok (.getfield 9, 3) := by decide +kernel
theorem dX3_faultAsTouch_29 : decode cX3_faultAsTouch 29 = .ok (.iload_n 1, 1) := by decide +kernel
theorem dX3_faultAsTouch_30 : decode cX3_faultAsTouch 30 = .ok (.caload, 1) := by decide +kernel
theorem dX3_faultAsTouch_31 : decode cX3_faultAsTouch 31 = .ok (.invokestatic 19, 3) := by decide +kernel
theorem dX3_faultAsTouch_34 : decode cX3_faultAsTouch 34 = .ok (.bipush (-4), 2) := by decide +kernel
theorem dX3_faultAsTouch_36 : decode cX3_faultAsTouch 36 = .ok (.if_icmp .ne 5, 3) := by decide +kernel
theorem dX3_faultAsTouch_39 : decode cX3_faultAsTouch 39 = .ok (.iload_n 1, 1) := by decide +kernel
theorem dX3_faultAsTouch_40 : decode cX3_faultAsTouch 40 = .ok (.ireturn, 1) := by decide +kernel
theorem dX3_faultAsTouch_41 : decode cX3_faultAsTouch 41 = .ok (.iinc 1 1, 3) := by decide +kernel
theorem dX3_faultAsTouch_44 : decode cX3_faultAsTouch 44 = .ok (.goto (-42), 3) := by decide +kernel
theorem dX3_faultAsTouch_47 : decode cX3_faultAsTouch 47 = .ok (.aload_n 0, 1) := by decide +kernel
theorem dX3_faultAsTouch_48 : decode cX3_faultAsTouch 48 = .ok (.getfield 15, 3) := by decide +kernel
theorem dX3_faultAsTouch_51 : decode cX3_faultAsTouch 51 = .ok (.ifCond .ne 10, 3) := by decide +kernel
theorem dX3_faultAsTouch_54 : decode cX3_faultAsTouch 54 = .ok (.aload_n 0, 1) := by decide +kernel
theorem dX3_faultAsTouch_55 : decode cX3_faultAsTouch 55 = .ok (.getfield 15, 3) := by decide +kernel
theorem dX3_faultAsTouch_58 : decode cX3_faultAsTouch 58 = .ok (.goto 5, 3) := by decide +kernel
theorem dX3_faultAsTouch_61 : decode cX3_faultAsTouch 61 = .ok (.bipush (-4), 2) := by decide +kernel
theorem dX3_faultAsTouch_63 : decode cX3_faultAsTouch 63 = .ok (.ireturn, 1) := by decide +kernel
theorem dX3_kindOf_0 : decode cX3_kindOf 0 = .ok (.iload_n 0, 1) := by decide +kernel
theorem dX3_kindOf_1 : decode cX3_kindOf 1 = .ok (.lookupswitch 41 #[(98, 37), (112, 35), (115, 39)], 35) := by decide +kernel
theorem dX3_kindOf_36 : decode cX3_kindOf 36 = .ok (.iconst 0, 1) := by decide +kernel
theorem dX3_kindOf_37 : decode cX3_kindOf 37 = .ok (.ireturn, 1) := by decide +kernel
theorem dX3_kindOf_38 : decode cX3_kindOf 38 = .ok (.iconst 1, 1) := by decide +kernel
theorem dX3_kindOf_39 : decode cX3_kindOf 39 = .ok (.ireturn, 1) := by decide +kernel
theorem dX3_kindOf_40 : decode cX3_kindOf 40 = .ok (.iconst 2, 1) := by decide +kernel
theorem dX3_kindOf_41 : decode cX3_kindOf 41 = .ok (.ireturn, 1) := by decide +kernel
theorem dX3_kindOf_42 : decode cX3_kindOf 42 = .ok (.bipush (-4), 2) := by decide +kernel
theorem dX3_kindOf_44 : decode cX3_kindOf 44 = .ok (.ireturn, 1) := by decide +kernel
theorem dX4_bit_0 : decode cX4_bit 0 = .ok (.iconst 1, 1) := by decide +kernel
theorem dX4_bit_1 : decode cX4_bit 1 = .ok (.iload_n 0, 1) := by decide +kernel
theorem dX4_bit_2 : decode cX4_bit 2 = .ok (.iconst 1, 1) := by decide +kernel
theorem dX4_bit_3 : decode cX4_bit 3 = .ok (.isub, 1) := by decide +kernel
theorem dX4_bit_4 : decode cX4_bit 4 = .ok (.ishl, 1) := by decide +kernel
theorem dX4_bit_5 : decode cX4_bit 5 = .ok (.ireturn, 1) := by decide +kernel
theorem dX4_has_0 : decode cX4_has 0 = .ok (.iload_n 0, 1) := by decide +kernel
theorem dX4_has_1 : decode cX4_has 1 = .ok (.iload_n 1, 1) := by decide +kernel
theorem dX4_has_2 : decode cX4_has 2 = .ok (.invokestatic 7, 3) := by decide +kernel
theorem dX4_has_5 : decode cX4_has 5 = .ok (.iand, 1) := by decide +kernel
theorem dX4_has_6 : decode cX4_has 6 = .ok (.ifCond .eq 7, 3) := by decide +kernel
theorem dX4_has_9 : decode cX4_has 9 = .ok (.iconst 1, 1) := by decide +kernel
theorem dX4_has_10 : decode cX4_has 10 = .ok (.goto 4, 3) := by decide +kernel
theorem dX4_has_13 : decode cX4_has 13 = .ok (.iconst 0, 1) := by decide +kernel
theorem dX4_has_14 : decode cX4_has 14 = .ok (.ireturn, 1) := by decide +kernel
theorem dX4_areRight_0 : decode cX4_areRight 0 = .ok (.iload_n 1, 1) := by decide +kernel
theorem dX4_areRight_1 : decode cX4_areRight 1 = .ok (.iconst 1, 1) := by decide +kernel
theorem dX4_areRight_2 : decode cX4_areRight 2 = .ok (.iadd, 1) := by decide +kernel
theorem dX4_areRight_3 : decode cX4_areRight 3 = .ok (.invokestatic 7, 3) := by decide +kernel
theorem dX4_areRight_6 : decode cX4_areRight 6 = .ok (.iconst 1, 1) := by decide +kernel
theorem dX4_areRight_7 : decode cX4_areRight 7 = .ok (.isub, 1) := by decide +kernel
theorem dX4_areRight_8 : decode cX4_areRight 8 = .ok (.istore_n 2, 1) := by decide +kernel
theorem dX4_areRight_9 : decode cX4_areRight 9 = .ok (.iload_n 0, 1) := by decide +kernel
theorem dX4_areRight_10 : decode cX4_areRight 10 = .ok (.ifCond .lt 8, 3) := by decide +kernel
theorem dX4_areRight_13 : decode cX4_areRight 13 = .ok (.iload_n 0, 1) := by decide +kernel
theorem dX4_areRight_14 : decode cX4_areRight 14 = .ok (.iload_n 2, 1) := by decide +kernel
theorem dX4_areRight_15 : decode cX4_areRight 15 = .ok (.if_icmp .lt 5, 3) := by decide +kernel
theorem dX4_areRight_18 : decode cX4_areRight 18 = .ok (.iconst 0, 1) := by decide +kernel
theorem dX4_areRight_19 : decode cX4_areRight 19 = .ok (.ireturn, 1) := by decide +kernel
theorem dX4_areRight_20 : decode cX4_areRight 20 = .ok (.iconst 1, 1) := by decide +kernel
theorem dX4_areRight_21 : decode cX4_areRight 21 = .ok (.istore_n 3, 1) := by decide +kernel
theorem dX4_areRight_22 : decode cX4_areRight 22 = .ok (.iload_n 3, 1) := by decide +kernel
theorem dX4_areRight_23 : decode cX4_areRight 23 = .ok (.iload_n 1, 1) := by decide +kernel
theorem dX4_areRight_24 : decode cX4_areRight 24 = .ok (.if_icmp .gt 40, 3) := by decide +kernel
theorem dX4_areRight_27 : decode cX4_areRight 27 = .ok (.iload_n 0, 1) := by decide +kernel
theorem dX4_areRight_28 : decode cX4_areRight 28 = .ok (.iload_n 3, 1) := by decide +kernel
theorem dX4_areRight_29 : decode cX4_areRight 29 = .ok (.invokestatic 13, 3) := by decide +kernel
theorem dX4_areRight_32 : decode cX4_areRight 32 = .ok (.ifCond .eq 9, 3) := by decide +kernel
theorem dX4_areRight_35 : decode cX4_areRight 35 = .ok (.iinc 3 1, 3) := by decide +kernel
theorem dX4_areRight_38 : decode cX4_areRight 38 = .ok (.goto (-16), 3) := by decide +kernel
theorem dX4_areRight_41 : decode cX4_areRight 41 = .ok (.iload_n 3, 1) := by decide +kernel
theorem dX4_areRight_42 : decode cX4_areRight 42 = .ok (.iload_n 1, 1) := by decide +kernel
theorem dX4_areRight_43 : decode cX4_areRight 43 = .ok (.if_icmp .eq 13, 3) := by decide +kernel
theorem dX4_areRight_46 : decode cX4_areRight 46 = .ok (.iload_n 0, 1) := by decide +kernel
theorem dX4_areRight_47 : decode cX4_areRight 47 = .ok (.iload_n 3, 1) := by decide +kernel
theorem dX4_areRight_48 : decode cX4_areRight 48 = .ok (.iconst 1, 1) := by decide +kernel
theorem dX4_areRight_49 : decode cX4_areRight 49 = .ok (.iadd, 1) := by decide +kernel
theorem dX4_areRight_50 : decode cX4_areRight 50 = .ok (.invokestatic 13, 3) := by decide +kernel
theorem dX4_areRight_53 : decode cX4_areRight 53 = .ok (.ifCond .eq 5, 3) := by decide +kernel
theorem dX4_areRight_56 : decode cX4_areRight 56 = .ok (.iconst 0, 1) := by decide +kernel
theorem dX4_areRight_57 : decode cX4_areRight 57 = .ok (.ireturn, 1) := by decide +kernel
theorem dX4_areRight_58 : decode cX4_areRight 58 = .ok (.iinc 3 2, 3) := by decide +kernel
theorem dX4_areRight_61 : decode cX4_areRight 61 = .ok (.goto (-39), 3) := by decide +kernel
theorem dX4_areRight_64 : decode cX4_areRight 64 = .ok (.iconst 1, 1) := by decide +kernel
theorem dX4_areRight_65 : decode cX4_areRight 65 = .ok (.ireturn, 1) := by decide +kernel
theorem dX4_canBecomeRight_0 : decode cX4_canBecomeRight 0 = .ok (.iload_n 0, 1) := by decide +kernel
theorem dX4_canBecomeRight_1 : decode cX4_canBecomeRight 1 = .ok (.iload_n 2, 1) := by decide +kernel
theorem dX4_canBecomeRight_2 : decode cX4_canBecomeRight 2 = .ok (.invokestatic 17, 3) := by decide +kernel
theorem dX4_canBecomeRight_5 : decode cX4_canBecomeRight 5 = .ok (.ifCond .eq 5, 3) := by decide +kernel
theorem dX4_canBecomeRight_8 : decode cX4_canBecomeRight 8 = .ok (.iconst 1, 1) := by decide +kernel
theorem dX4_canBecomeRight_9 : decode cX4_canBecomeRight 9 = .ok (.ireturn, 1) := by decide +kernel
theorem dX4_canBecomeRight_10 : decode cX4_canBecomeRight 10 = .ok (.iload_n 1, 1) := by decide +kernel
theorem dX4_canBecomeRight_11 : decode cX4_canBecomeRight 11 = .ok (.iconst 1, 1) := by decide +kernel
theorem dX4_canBecomeRight_12 : decode cX4_canBecomeRight 12 = .ok (.iadd, 1) := by decide +kernel
theorem dX4_canBecomeRight_13 : decode cX4_canBecomeRight 13 = .ok (.istore_n 3, 1) := by decide +kernel
theorem dX4_canBecomeRight_14 : decode cX4_canBecomeRight 14 = .ok (.iload_n 3, 1) := by decide +kernel
theorem dX4_canBecomeRight_15 : decode cX4_canBecomeRight 15 = .ok (.iload_n 2, 1) := by decide +kernel
theorem dX4_canBecomeRight_16 : decode cX4_canBecomeRight 16 = .ok (.if_icmp .gt 24, 3) := by decide +kernel
theorem dX4_canBecomeRight_19 : decode cX4_canBecomeRight 19 = .ok (.iload_n 0, 1) := by decide +kernel
theorem dX4_canBecomeRight_20 : decode cX4_canBecomeRight 20 = .ok (.iload_n 3, 1) := by decide +kernel
theorem dX4_canBecomeRight_21 : decode cX4_canBecomeRight 21 = .ok (.invokestatic 7, 3) := by decide +kernel
theorem dX4_canBecomeRight_24 : decode cX4_canBecomeRight 24 = .ok (.ior, 1) := by decide +kernel
theorem dX4_canBecomeRight_25 : decode cX4_canBecomeRight 25 = .ok (.iload_n 2, 1) := by decide +kernel
theorem dX4_canBecomeRight_26 : decode cX4_canBecomeRight 26 = .ok (.invokestatic 17, 3) := by decide +kernel
theorem dX4_canBecomeRight_29 : decode cX4_canBecomeRight 29 = .ok (.ifCond .eq 5, 3) := by decide +kernel
theorem dX4_canBecomeRight_32 : decode cX4_canBecomeRight 32 = .ok (.iconst 1, 1) := by decide +kernel
theorem dX4_canBecomeRight_33 : decode cX4_canBecomeRight 33 = .ok (.ireturn, 1) := by decide +kernel
theorem dX4_canBecomeRight_34 : decode cX4_canBecomeRight 34 = .ok (.iinc 3 1, 3) := by decide +kernel
theorem dX4_canBecomeRight_37 : decode cX4_canBecomeRight 37 = .ok (.goto (-23), 3) := by decide +kernel
theorem dX4_canBecomeRight_40 : decode cX4_canBecomeRight 40 = .ok (.iconst 0, 1) := by decide +kernel
theorem dX4_canBecomeRight_41 : decode cX4_canBecomeRight 41 = .ok (.ireturn, 1) := by decide +kernel
end
section
theorem dX5_init_0 : decode cX5_init 0 = .ok (.aload_n 0, 1) := by decide +kernel
theorem dX5_init_1 : decode cX5_init 1 = .ok (.invokespecial 3, 3) := by decide +kernel
theorem dX5_init_4 : decode cX5_init 4 = .ok (.aload_n 0, 1) := by decide +kernel
theorem dX5_init_5 : decode cX5_init 5 = .ok (.sipush 341, 3) := by decide +kernel
theorem dX5_init_8 : decode cX5_init 8 = .ok (.newarray .int, 2) := by decide +kernel
theorem dX5_init_10 : decode cX5_init 10 = .ok (.putfield 9, 3) := by decide +kernel
theorem dX5_init_13 : decode cX5_init 13 = .ok (.aload_n 0, 1) := by decide +kernel
theorem dX5_init_14 : decode cX5_init 14 = .ok (.sipush 341, 3) := by decide +kernel
theorem dX5_init_17 : decode cX5_init 17 = .ok (.newarray .int, 2) := by decide +kernel
theorem dX5_init_19 : decode cX5_init 19 = .ok (.putfield 15, 3) := by decide +kernel
theorem dX5_init_22 : decode cX5_init 22 = .ok (.aload_n 0, 1) := by decide +kernel
theorem dX5_init_23 : decode cX5_init 23 = .ok (.sipush 5040, 3) := by decide +kernel
theorem dX5_init_26 : decode cX5_init 26 = .ok (.newarray .int, 2) := by decide +kernel
theorem dX5_init_28 : decode cX5_init 28 = .ok (.putfield 18, 3) := by decide +kernel
theorem dX5_init_31 : decode cX5_init 31 = .ok (.return_, 1) := by decide +kernel
theorem dX5_ring_0 : decode cX5_ring 0 = .ok (.aload_n 0, 1) := by decide +kernel
theorem dX5_ring_1 : decode cX5_ring 1 = .ok (.aload_n 1, 1) := by decide +kernel
theorem dX5_ring_2 : decode cX5_ring 2 = .ok (.getfield 21, 3) := by decide +kernel
theorem dX5_ring_5 : decode cX5_ring 5 = .ok (.putfield 27, 3) := by decide +kernel
theorem dX5_ring_8 : decode cX5_ring 8 = .ok (.aload_n 0, 1) := by decide +kernel
theorem dX5_ring_9 : decode cX5_ring 9 = .ok (.aload_n 1, 1) := by decide +kernel
theorem dX5_ring_10 : decode cX5_ring 10 = .ok (.getfield 28, 3) := by decide +kernel
theorem dX5_ring_13 : decode cX5_ring 13 = .ok (.putfield 31, 3) := by decide +kernel
theorem dX5_ring_16 : decode cX5_ring 16 = .ok (.aload_n 0, 1) := by decide +kernel
theorem dX5_ring_17 : decode cX5_ring 17 = .ok (.aload_n 1, 1) := by decide +kernel
theorem dX5_ring_18 : decode cX5_ring 18 = .ok (.getfield 32, 3) := by decide +kernel
theorem dX5_ring_21 : decode cX5_ring 21 = .ok (.putfield 35, 3) := by decide +kernel
theorem dX5_ring_24 : decode cX5_ring 24 = .ok (.aload_n 0, 1) := by decide +kernel
theorem dX5_ring_25 : decode cX5_ring 25 = .ok (.getfield 27, 3) := by decide +kernel
theorem dX5_ring_28 : decode cX5_ring 28 = .ok (.invokestatic 36, 3) := by decide +kernel
theorem dX5_ring_31 : decode cX5_ring 31 = .ok (.istore_n 2, 1) := by decide +kernel
theorem dX5_ring_32 : decode cX5_ring 32 = .ok (.aload_n 0, 1) := by decide +kernel
theorem dX5_ring_33 : decode cX5_ring 33 = .ok (.getfield 9, 3) := by decide +kernel
theorem dX5_ring_36 : decode cX5_ring 36 = .ok (.iconst 0, 1) := by decide +kernel
theorem dX5_ring_37 : decode cX5_ring 37 = .ok (.iload_n 2, 1) := by decide +kernel
theorem dX5_ring_38 : decode cX5_ring 38 = .ok (.iastore, 1) := by decide +kernel
theorem dX5_ring_39 : decode cX5_ring 39 = .ok (.aload_n 0, 1) := by decide +kernel
theorem dX5_ring_40 : decode cX5_ring 40 = .ok (.iconst 0, 1) := by decide +kernel
theorem dX5_ring_41 : decode cX5_ring 41 = .ok (.putfield 42, 3) := by decide +kernel
theorem dX5_ring_44 : decode cX5_ring 44 = .ok (.iconst 0, 1) := by decide +kernel
theorem dX5_ring_45 : decode cX5_ring 45 = .ok (.istore_n 3, 1) := by decide +kernel
theorem dX5_ring_46 : decode cX5_ring 46 = .ok (.iload_n 3, 1) := by decide +kernel
theorem dX5_ring_47 : decode cX5_ring 47 = .ok (.aload_n 0, 1) := by decide +kernel
theorem dX5_ring_48 : decode cX5_ring 48 = .ok (.getfield 35, 3) := by decide +kernel
theorem dX5_ring_51 : decode cX5_ring 51 = .ok (.if_icmp .ge 56, 3) := by decide +kernel
theorem dX5_ring_54 : decode cX5_ring 54 = .ok (.aload_n 1, 1) := by decide +kernel
theorem dX5_ring_55 : decode cX5_ring 55 = .ok (.iload_n 3, 1) := by decide +kernel
theorem dX5_ring_56 : decode cX5_ring 56 = .ok (.invokevirtual 45, 3) := by decide +kernel
theorem dX5_ring_59 : decode cX5_ring 59 = .ok (.istore 4, 2) := by decide +kernel
theorem dX5_ring_61 : decode cX5_ring 61 = .ok (.iconst 0, 1) := by decide +kernel
theorem dX5_ring_62 : decode cX5_ring 62 = .ok (.istore 5, 2) := by decide +kernel
theorem dX5_ring_64 : decode cX5_ring 64 = .ok (.iload 5, 2) := by decide +kernel
theorem dX5_ring_66 : decode cX5_ring 66 = .ok (.aload_n 0, 1) := by decide +kernel
theorem dX5_ring_67 : decode cX5_ring 67 = .ok (.getfield 31, 3) := by decide +kernel
theorem dX5_ring_70 : decode cX5_ring 70 = .ok (.if_icmp .ge 31, 3) := by decide +kernel
theorem dX5_ring_73 : decode cX5_ring 73 = .ok (.iload_n 2, 1) := by decide +kernel
theorem dX5_ring_74 : decode cX5_ring 74 = .ok (.aload_n 1, 1) := by decide +kernel
theorem dX5_ring_75 : decode cX5_ring 75 = .ok (.iload 4, 2) := by decide +kernel
theorem dX5_ring_77 : decode cX5_ring 77 = .ok (.iload 5, 2) := by decide +kernel
theorem dX5_ring_79 : decode cX5_ring 79 = .ok (.invokevirtual 48, 3) := by decide +kernel
theorem dX5_ring_82 : decode cX5_ring 82 = .ok (.aload_n 0, 1) := by decide +kernel
theorem dX5_ring_83 : decode cX5_ring 83 = .ok (.getfield 27, 3) := by decide +kernel
theorem dX5_ring_86 : decode cX5_ring 86 = .ok (.invokestatic 52, 3) := by decide +kernel
theorem dX5_ring_89 : decode cX5_ring 89 = .ok (.istore_n 2, 1) := by decide +kernel
theorem dX5_ring_90 : decode cX5_ring 90 = .ok (.aload_n 0, 1) := by decide +kernel
theorem dX5_ring_91 : decode cX5_ring 91 = .ok (.iload_n 2, 1) := by decide +kernel
theorem dX5_ring_92 : decode cX5_ring 92 = .ok (.invokevirtual 56, 3) := by decide +kernel
theorem dX5_ring_95 : decode cX5_ring 95 = .ok (.iinc 5 1, 3) := by decide +kernel
theorem dX5_ring_98 : decode cX5_ring 98 = .ok (.goto (-34), 3) := by decide +kernel
theorem dX5_ring_101 : decode cX5_ring 101 = .ok (.iinc 3 1, 3) := by decide +kernel
theorem dX5_ring_104 : decode cX5_ring 104 = .ok (.goto (-58), 3) := by decide +kernel
theorem dX5_ring_107 : decode cX5_ring 107 = .ok (.aload_n 0, 1) := by decide +kernel
theorem dX5_ring_108 : decode cX5_ring 108 = .ok (.invokevirtual 60, 3) := by decide +kernel
theorem dX5_ring_111 : decode cX5_ring 111 = .ok (.return_, 1) := by decide +kernel
theorem dX5_keep_0 : decode cX5_keep 0 = .ok (.aload_n 0, 1) := by decide +kernel
theorem dX5_keep_1 : decode cX5_keep 1 = .ok (.getfield 42, 3) := by decide +kernel
theorem dX5_keep_4 : decode cX5_keep 4 = .ok (.iconst 1, 1) := by decide +kernel
theorem dX5_keep_5 : decode cX5_keep 5 = .ok (.iadd, 1) := by decide +kernel
theorem dX5_keep_6 : decode cX5_keep 6 = .ok (.aload_n 0, 1) := by decide +kernel
theorem dX5_keep_7 : decode cX5_keep 7 = .ok (.getfield 9, 3) := by decide +kernel
theorem dX5_keep_10 : decode cX5_keep 10 = .ok (.arraylength, 1) := by decide +kernel
theorem dX5_keep_11 : decode cX5_keep 11 = .ok (.if_icmp .ge 23, 3) := by decide +kernel
theorem dX5_keep_14 : decode cX5_keep 14 = .ok (.aload_n 0, 1) := by decide +kernel
theorem dX5_keep_15 : decode cX5_keep 15 = .ok (.dup, 1) := by decide +kernel
theorem dX5_keep_16 : decode cX5_keep 16 = .ok (.getfield 42, 3) := by decide +kernel
theorem dX5_keep_19 : decode cX5_keep 19 = .ok (.iconst 1, 1) := by decide +kernel
theorem dX5_keep_20 : decode cX5_keep 20 = .ok (.iadd, 1) := by decide +kernel
theorem dX5_keep_21 : decode cX5_keep 21 = .ok (.putfield 42, 3) := by decide +kernel
theorem dX5_keep_24 : decode cX5_keep 24 = .ok (.aload_n 0, 1) := by decide +kernel
theorem dX5_keep_25 : decode cX5_keep 25 = .ok (.getfield 9, 3) := by decide +kernel
theorem dX5_keep_28 : decode cX5_keep 28 = .ok (.aload_n 0, 1) := by decide +kernel
theorem dX5_keep_29 : decode cX5_keep 29 = .ok (.getfield 42, 3) := by decide +kernel
theorem dX5_keep_32 : decode cX5_keep 32 = .ok (.iload_n 1, 1) := by decide +kernel
theorem dX5_keep_33 : decode cX5_keep 33 = .ok (.iastore, 1) := by decide +kernel
theorem dX5_keep_34 : decode cX5_keep 34 = .ok (.return_, 1) := by decide +kernel
theorem dX5_findFirsts_0 : decode cX5_findFirsts 0 = .ok (.iconst 1, 1) := by decide +kernel
theorem dX5_findFirsts_1 : decode cX5_findFirsts 1 = .ok (.istore_n 1, 1) := by decide +kernel
theorem dX5_findFirsts_2 : decode cX5_findFirsts 2 = .ok (.iload_n 1, 1) := by decide +kernel
theorem dX5_findFirsts_3 : decode cX5_findFirsts 3 = .ok (.aload_n 0, 1) := by decide +kernel
theorem dX5_findFirsts_4 : decode cX5_findFirsts 4 = .ok (.getfield 42, 3) := by decide +kernel
theorem dX5_findFirsts_7 : decode cX5_findFirsts 7 = .ok (.if_icmp .gt 49, 3) := by decide +kernel
theorem dX5_findFirsts_10 : decode cX5_findFirsts 10 = .ok (.aload_n 0, 1) := by decide +kernel
theorem dX5_findFirsts_11 : decode cX5_findFirsts 11 = .ok (.iload_n 1, 1) := by decide +kernel
theorem dX5_findFirsts_12 : decode cX5_findFirsts 12 = .ok (.invokevirtual 63, 3) := by decide +kernel
theorem dX5_findFirsts_15 : decode cX5_findFirsts 15 = .ok (.aload_n 0, 1) := by decide +kernel
theorem dX5_findFirsts_16 : decode cX5_findFirsts 16 = .ok (.getfield 27, 3) := by decide +kernel
theorem dX5_findFirsts_19 : decode cX5_findFirsts 19 = .ok (.invokestatic 66, 3) := by decide +kernel
theorem dX5_findFirsts_22 : decode cX5_findFirsts 22 = .ok (.istore_n 2, 1) := by decide +kernel
theorem dX5_findFirsts_23 : decode cX5_findFirsts 23 = .ok (.aload_n 0, 1) := by decide +kernel
theorem dX5_findFirsts_24 : decode cX5_findFirsts 24 = .ok (.getfield 15, 3) := by decide +kernel
theorem dX5_findFirsts_27 : decode cX5_findFirsts 27 = .ok (.iload_n 1, 1) := by decide +kernel
theorem dX5_findFirsts_28 : decode cX5_findFirsts 28 = .ok (.iload_n 2, 1) := by decide +kernel
theorem dX5_findFirsts_29 : decode cX5_findFirsts 29 = .ok (.iastore, 1) := by decide +kernel
theorem dX5_findFirsts_30 : decode cX5_findFirsts 30 = .ok (.iload_n 2, 1) := by decide +kernel
theorem dX5_findFirsts_31 : decode cX5_findFirsts 31 = .ok (.ifCond .lt 19, 3) := by decide +kernel
theorem dX5_findFirsts_34 : decode cX5_findFirsts 34 = .ok (.iload_n 2, 1) := by decide +kernel
theorem dX5_findFirsts_35 : decode cX5_findFirsts 35 = .ok (.aload_n 0, 1) := by decide +kernel
theorem dX5_findFirsts_36 : decode cX5_findFirsts 36 = .ok (.getfield 18, 3) := by decide +kernel
theorem dX5_findFirsts_39 : decode cX5_findFirsts 39 = .ok (.arraylength, 1) := by decide +kernel
theorem dX5_findFirsts_40 : decode cX5_findFirsts 40 = .ok (.if_icmp .ge 10, 3) := by decide +kernel
theorem dX5_findFirsts_43 : decode cX5_findFirsts 43 = .ok (.aload_n 0, 1) := by decide +kernel
theorem dX5_findFirsts_44 : decode cX5_findFirsts 44 = .ok (.getfield 18, 3) := by decide +kernel
theorem dX5_findFirsts_47 : decode cX5_findFirsts 47 = .ok (.iload_n 2, 1) := by decide +kernel
theorem dX5_findFirsts_48 : decode cX5_findFirsts 48 = .ok (.iconst 0, 1) := by decide +kernel
theorem dX5_findFirsts_49 : decode cX5_findFirsts 49 = .ok (.iastore, 1) := by decide +kernel
theorem dX5_findFirsts_50 : decode cX5_findFirsts 50 = .ok (.iinc 1 1, 3) := by decide +kernel
theorem dX5_findFirsts_53 : decode cX5_findFirsts 53 = .ok (.goto (-51), 3) := by decide +kernel
theorem dX5_findFirsts_56 : decode cX5_findFirsts 56 = .ok (.iconst 1, 1) := by decide +kernel
theorem dX5_findFirsts_57 : decode cX5_findFirsts 57 = .ok (.istore_n 1, 1) := by decide +kernel
theorem dX5_findFirsts_58 : decode cX5_findFirsts 58 = .ok (.iload_n 1, 1) := by decide +kernel
theorem dX5_findFirsts_59 : decode cX5_findFirsts 59 = .ok (.aload_n 0, 1) := by decide +kernel
theorem dX5_findFirsts_60 : decode cX5_findFirsts 60 = .ok (.getfield 42, 3) := by decide +kernel
theorem dX5_findFirsts_63 : decode cX5_findFirsts 63 = .ok (.if_icmp .gt 26, 3) := by decide +kernel
theorem dX5_findFirsts_66 : decode cX5_findFirsts 66 = .ok (.aload_n 0, 1) := by decide +kernel
theorem dX5_findFirsts_67 : decode cX5_findFirsts 67 = .ok (.getfield 15, 3) := by decide +kernel
theorem dX5_findFirsts_70 : decode cX5_findFirsts 70 = .ok (.iload_n 1, 1) := by decide +kernel
theorem dX5_findFirsts_71 : decode cX5_findFirsts 71 = .ok (.aload_n 0, 1) := by decide +kernel
theorem dX5_findFirsts_72 : decode cX5_findFirsts 72 = .ok (.aload_n 0, 1) := by decide +kernel
theorem dX5_findFirsts_73 : decode cX5_findFirsts 73 = .ok (.getfield 15, 3) := by decide +kernel
theorem dX5_findFirsts_76 : decode cX5_findFirsts 76 = .ok (.iload_n 1, 1) := by decide +kernel
theorem dX5_findFirsts_77 : decode cX5_findFirsts 77 = .ok (.iaload, 1) := by decide +kernel
theorem dX5_findFirsts_78 : decode cX5_findFirsts 78 = .ok (.iload_n 1, 1) := by decide +kernel
theorem dX5_findFirsts_79 : decode cX5_findFirsts 79 = .ok (.invokevirtual 69, 3) := by decide +kernel
theorem dX5_findFirsts_82 : decode cX5_findFirsts 82 = .ok (.iastore, 1) := by decide +kernel
theorem dX5_findFirsts_83 : decode cX5_findFirsts 83 = .ok (.iinc 1 1, 3) := by decide +kernel
theorem dX5_findFirsts_86 : decode cX5_findFirsts 86 = .ok (.goto (-28), 3) := by decide +kernel
theorem dX5_findFirsts_89 : decode cX5_findFirsts 89 = .ok (.return_, 1) := by decide +kernel
theorem dX5_firstWithRank_0 : decode cX5_firstWithRank 0 = .ok (.iload_n 1, 1) := by decide +kernel
theorem dX5_firstWithRank_1 : decode cX5_firstWithRank 1 = .ok (.ifCond .lt 12, 3) := by decide +kernel
theorem dX5_firstWithRank_4 : decode cX5_firstWithRank 4 = .ok (.iload_n 1, 1) := by decide +kernel
theorem dX5_firstWithRank_5 : decode cX5_firstWithRank 5 = .ok (.aload_n 0, 1) := by decide +kernel
theorem dX5_firstWithRank_6 : decode cX5_firstWithRank 6 = .ok (.getfield 18, 3) := by decide +kernel
theorem dX5_firstWithRank_9 : decode cX5_firstWithRank 9 = .ok (.arraylength, 1) := by decide +kernel
theorem dX5_firstWithRank_10 : decode cX5_firstWithRank 10 = .ok (.if_icmp .lt 5, 3) := by decide +kernel
theorem dX5_firstWithRank_13 : decode cX5_firstWithRank 13 = .ok (.iload_n 2, 1) := by decide +kernel
theorem dX5_firstWithRank_14 : decode cX5_firstWithRank 14 = .ok (.ireturn, 1) := by decide +kernel
theorem dX5_firstWithRank_15 : decode cX5_firstWithRank 15 = .ok (.aload_n 0, 1) := by decide +kernel
theorem dX5_firstWithRank_16 : decode cX5_firstWithRank 16 = .ok (.getfield 18, 3) := by decide +kernel
theorem dX5_firstWithRank_19 : decode cX5_firstWithRank 19 = .ok (.iload_n 1, 1) := by decide +kernel
theorem dX5_firstWithRank_20 : decode cX5_firstWithRank 20 = .ok (.iaload, 1) := by decide +kernel
theorem dX5_firstWithRank_21 : decode cX5_firstWithRank 21 = .ok (.ifCond .ne 10, 3) := by decide +kernel
theorem dX5_firstWithRank_24 : decode cX5_firstWithRank 24 = .ok (.aload_n 0, 1) := by decide +kernel
theorem dX5_firstWithRank_25 : decode cX5_firstWithRank 25 = .ok (.getfield 18, 3) := by decide +kernel
theorem dX5_firstWithRank_28 : decode cX5_firstWithRank 28 = .ok (.iload_n 1, 1) := by decide +kernel
theorem dX5_firstWithRank_29 : decode cX5_firstWithRank 29 = .ok (.iload_n 2, 1) := by decide +kernel
theorem dX5_firstWithRank_30 : decode cX5_firstWithRank 30 = .ok (.iastore, 1) := by decide +kernel
theorem dX5_firstWithRank_31 : decode cX5_firstWithRank 31 = .ok (.aload_n 0, 1) := by decide +kernel
theorem dX5_firstWithRank_32 : decode cX5_firstWithRank 32 = .ok (.getfield 18, 3) := by decide +kernel
theorem dX5_firstWithRank_35 : decode cX5_firstWithRank 35 = .ok (.iload_n 1, 1) := by decide +kernel
theorem dX5_firstWithRank_36 : decode cX5_firstWithRank 36 = .ok (.iaload, 1) := by decide +kernel
theorem dX5_firstWithRank_37 : decode cX5_firstWithRank 37 = .ok (.ireturn, 1) := by decide +kernel
theorem dX5_rowAt_0 : decode cX5_rowAt 0 = .ok (.iload_n 1, 1) := by decide +kernel
theorem dX5_rowAt_1 : decode cX5_rowAt 1 = .ok (.ifCond .lt 21, 3) := by decide +kernel
theorem dX5_rowAt_4 : decode cX5_rowAt 4 = .ok (.iload_n 1, 1) := by decide +kernel
theorem dX5_rowAt_5 : decode cX5_rowAt 5 = .ok (.aload_n 0, 1) := by decide +kernel
theorem dX5_rowAt_6 : decode cX5_rowAt 6 = .ok (.getfield 9, 3) := by decide +kernel
theorem dX5_rowAt_9 : decode cX5_rowAt 9 = .ok (.arraylength, 1) := by decide +kernel
theorem dX5_rowAt_10 : decode cX5_rowAt 10 = .ok (.if_icmp .ge 12, 3) := by decide +kernel
theorem dX5_rowAt_13 : decode cX5_rowAt 13 = .ok (.aload_n 0, 1) := by decide +kernel
theorem dX5_rowAt_14 : decode cX5_rowAt 14 = .ok (.getfield 9, 3) := by decide +kernel
theorem dX5_rowAt_17 : decode cX5_rowAt 17 = .ok (.iload_n 1, 1) := by decide +kernel
theorem dX5_rowAt_18 : decode cX5_rowAt 18 = .ok (.iaload, 1) := by decide +kernel
theorem dX5_rowAt_19 : decode cX5_rowAt 19 = .ok (.goto 4, 3) := by decide +kernel
theorem dX5_rowAt_22 : decode cX5_rowAt 22 = .ok (.iconst 0, 1) := by decide +kernel
theorem dX5_rowAt_23 : decode cX5_rowAt 23 = .ok (.ireturn, 1) := by decide +kernel
theorem dX5_placeIn_0 : decode cX5_placeIn 0 = .ok (.aload_n 0, 1) := by decide +kernel
theorem dX5_placeIn_1 : decode cX5_placeIn 1 = .ok (.iload_n 1, 1) := by decide +kernel
theorem dX5_placeIn_2 : decode cX5_placeIn 2 = .ok (.invokevirtual 63, 3) := by decide +kernel
theorem dX5_placeIn_5 : decode cX5_placeIn 5 = .ok (.iload_n 2, 1) := by decide +kernel
theorem dX5_placeIn_6 : decode cX5_placeIn 6 = .ok (.aload_n 0, 1) := by decide +kernel
theorem dX5_placeIn_7 : decode cX5_placeIn 7 = .ok (.getfield 27, 3) := by decide +kernel
theorem dX5_placeIn_10 : decode cX5_placeIn 10 = .ok (.invokestatic 72, 3) := by decide +kernel
theorem dX5_placeIn_13 : decode cX5_placeIn 13 = .ok (.ireturn, 1) := by decide +kernel
theorem dX5_isFirst_0 : decode cX5_isFirst 0 = .ok (.iload_n 1, 1) := by decide +kernel
theorem dX5_isFirst_1 : decode cX5_isFirst 1 = .ok (.ifCond .lt 26, 3) := by decide +kernel
theorem dX5_isFirst_4 : decode cX5_isFirst 4 = .ok (.iload_n 1, 1) := by decide +kernel
theorem dX5_isFirst_5 : decode cX5_isFirst 5 = .ok (.aload_n 0, 1) := by decide +kernel
theorem dX5_isFirst_6 : decode cX5_isFirst 6 = .ok (.getfield 15, 3) := by decide +kernel
theorem dX5_isFirst_9 : decode cX5_isFirst 9 = .ok (.arraylength, 1) := by decide +kernel
theorem dX5_isFirst_10 : decode cX5_isFirst 10 = .ok (.if_icmp .ge 17, 3) := by decide +kernel
theorem dX5_isFirst_13 : decode cX5_isFirst 13 = .ok (.aload_n 0, 1) := by decide +kernel
theorem dX5_isFirst_14 : decode cX5_isFirst 14 = .ok (.getfield 15, 3) := by decide +kernel
theorem dX5_isFirst_17 : decode cX5_isFirst 17 = .ok (.iload_n 1, 1) := by decide +kernel
theorem dX5_isFirst_18 : decode cX5_isFirst 18 = .ok (.iaload, 1) := by decide +kernel
theorem dX5_isFirst_19 : decode cX5_isFirst 19 = .ok (.iload_n 1, 1) := by decide +kernel
theorem dX5_isFirst_20 : decode cX5_isFirst 20 = .ok (.if_icmp .ne 7, 3) := by decide +kernel
theorem dX5_isFirst_23 : decode cX5_isFirst 23 = .ok (.iconst 1, 1) := by decide +kernel
theorem dX5_isFirst_24 : decode cX5_isFirst 24 = .ok (.goto 4, 3) := by decide +kernel
theorem dX5_isFirst_27 : decode cX5_isFirst 27 = .ok (.iconst 0, 1) := by decide +kernel
theorem dX5_isFirst_28 : decode cX5_isFirst 28 = .ok (.ireturn, 1) := by decide +kernel
theorem dX5_firstLike_0 : decode cX5_firstLike 0 = .ok (.aload_n 0, 1) := by decide +kernel
theorem dX5_firstLike_1 : decode cX5_firstLike 1 = .ok (.iload_n 1, 1) := by decide +kernel
theorem dX5_firstLike_2 : decode cX5_firstLike 2 = .ok (.invokevirtual 63, 3) := by decide +kernel
theorem dX5_firstLike_5 : decode cX5_firstLike 5 = .ok (.aload_n 0, 1) := by decide +kernel
theorem dX5_firstLike_6 : decode cX5_firstLike 6 = .ok (.getfield 9, 3) := by decide +kernel
theorem dX5_firstLike_9 : decode cX5_firstLike 9 = .ok (.iconst 0, 1) := by decide +kernel
theorem dX5_firstLike_10 : decode cX5_firstLike 10 = .ok (.iaload, 1) := by decide +kernel
theorem dX5_firstLike_11 : decode cX5_firstLike 11 = .ok (.if_icmp .ne 5, 3) := by decide +kernel
theorem dX5_firstLike_14 : decode cX5_firstLike 14 = .ok (.iconst 0, 1) := by decide +kernel
theorem dX5_firstLike_15 : decode cX5_firstLike 15 = .ok (.ireturn, 1) := by decide +kernel
theorem dX5_firstLike_16 : decode cX5_firstLike 16 = .ok (.iload_n 1, 1) := by decide +kernel
theorem dX5_firstLike_17 : decode cX5_firstLike 17 = .ok (.ifCond .lt 21, 3) := by decide +kernel
theorem dX5_firstLike_20 : decode cX5_firstLike 20 = .ok (.iload_n 1, 1) := by decide +kernel
theorem dX5_firstLike_21 : decode cX5_firstLike 21 = .ok (.aload_n 0, 1) := by decide +kernel
theorem dX5_firstLike_22 : decode cX5_firstLike 22 = .ok (.getfield 15, 3) := by decide +kernel
theorem dX5_firstLike_25 : decode cX5_firstLike 25 = .ok (.arraylength, 1) := by decide +kernel
theorem dX5_firstLike_26 : decode cX5_firstLike 26 = .ok (.if_icmp .ge 12, 3) := by decide +kernel
theorem dX5_firstLike_29 : decode cX5_firstLike 29 = .ok (.aload_n 0, 1) := by decide +kernel
theorem dX5_firstLike_30 : decode cX5_firstLike 30 = .ok (.getfield 15, 3) := by decide +kernel
theorem dX5_firstLike_33 : decode cX5_firstLike 33 = .ok (.iload_n 1, 1) := by decide +kernel
theorem dX5_firstLike_34 : decode cX5_firstLike 34 = .ok (.iaload, 1) := by decide +kernel
theorem dX5_firstLike_35 : decode cX5_firstLike 35 = .ok (.goto 4, 3) := by decide +kernel
theorem dX5_firstLike_38 : decode cX5_firstLike 38 = .ok (.iload_n 1, 1) := by decide +kernel
theorem dX5_firstLike_39 : decode cX5_firstLike 39 = .ok (.ireturn, 1) := by decide +kernel
theorem dX5_comesRound_0 : decode cX5_comesRound 0 = .ok (.iconst 1, 1) := by decide +kernel
theorem dX5_comesRound_1 : decode cX5_comesRound 1 = .ok (.istore_n 1, 1) := by decide +kernel
theorem dX5_comesRound_2 : decode cX5_comesRound 2 = .ok (.iload_n 1, 1) := by decide +kernel
theorem dX5_comesRound_3 : decode cX5_comesRound 3 = .ok (.aload_n 0, 1) := by decide +kernel
theorem dX5_comesRound_4 : decode cX5_comesRound 4 = .ok (.getfield 42, 3) := by decide +kernel
theorem dX5_comesRound_7 : decode cX5_comesRound 7 = .ok (.if_icmp .gt 25, 3) := by decide +kernel
theorem dX5_comesRound_10 : decode cX5_comesRound 10 = .ok (.aload_n 0, 1) := by decide +kernel
theorem dX5_comesRound_11 : decode cX5_comesRound 11 = .ok (.iload_n 1, 1) := by decide +kernel
theorem dX5_comesRound_12 : decode cX5_comesRound 12 = .ok (.invokevirtual 63, 3) := by decide +kernel
theorem dX5_comesRound_15 : decode cX5_comesRound 15 = .ok (.aload_n 0, 1) := by decide +kernel
theorem dX5_comesRound_16 : decode cX5_comesRound 16 = .ok (.getfield 9, 3) := by decide +kernel
theorem dX5_comesRound_19 : decode cX5_comesRound 19 = .ok (.iconst 0, 1) := by decide +kernel
theorem dX5_comesRound_20 : decode cX5_comesRound 20 = .ok (.iaload, 1) := by decide +kernel
theorem dX5_comesRound_21 : decode cX5_comesRound 21 = .ok (.if_icmp .ne 5, 3) := by decide +kernel
theorem dX5_comesRound_24 : decode cX5_comesRound 24 = .ok (.iload_n 1, 1) := by decide +kernel
theorem dX5_comesRound_25 : decode cX5_comesRound 25 = .ok (.ireturn, 1) := by decide +kernel
theorem dX5_comesRound_26 : decode cX5_comesRound 26 = .ok (.iinc 1 1, 3) := by decide +kernel
theorem dX5_comesRound_29 : decode cX5_comesRound 29 = .ok (.goto (-27), 3) := by decide +kernel
theorem dX5_comesRound_32 : decode cX5_comesRound 32 = .ok (.bipush (-4), 2) := by decide +kernel
theorem dX5_comesRound_34 : decode cX5_comesRound 34 = .ok (.ireturn, 1) := by decide +kernel
theorem dX5_firstRepeat_0 : decode cX5_firstRepeat 0 = .ok (.iconst 1, 1) := by decide +kernel
theorem dX5_firstRepeat_1 : decode cX5_firstRepeat 1 = .ok (.istore_n 1, 1) := by decide +kernel
theorem dX5_firstRepeat_2 : decode cX5_firstRepeat 2 = .ok (.iload_n 1, 1) := by decide +kernel
theorem dX5_firstRepeat_3 : decode cX5_firstRepeat 3 = .ok (.aload_n 0, 1) := by decide +kernel
theorem dX5_firstRepeat_4 : decode cX5_firstRepeat 4 = .ok (.getfield 42, 3) := by decide +kernel
theorem dX5_firstRepeat_7 : decode cX5_firstRepeat 7 = .ok (.if_icmp .gt 19, 3) := by decide +kernel
theorem dX5_firstRepeat_10 : decode cX5_firstRepeat 10 = .ok (.aload_n 0, 1) := by decide +kernel
theorem dX5_firstRepeat_11 : decode cX5_firstRepeat 11 = .ok (.iload_n 1, 1) := by decide +kernel
theorem dX5_firstRepeat_12 : decode cX5_firstRepeat 12 = .ok (.invokevirtual 75, 3) := by decide +kernel
theorem dX5_firstRepeat_15 : decode cX5_firstRepeat 15 = .ok (.ifCond .ne 5, 3) := by decide +kernel
theorem dX5_firstRepeat_18 : decode cX5_firstRepeat 18 = .ok (.iload_n 1, 1) := by decide +kernel
theorem dX5_firstRepeat_19 : decode cX5_firstRepeat 19 = .ok (.ireturn, 1) := by decide +kernel
theorem dX5_firstRepeat_20 : decode cX5_firstRepeat 20 = .ok (.iinc 1 1, 3) := by decide +kernel
theorem dX5_firstRepeat_23 : decode cX5_firstRepeat 23 = .ok (.goto (-21), 3) := by decide +kernel
theorem dX5_firstRepeat_26 : decode cX5_firstRepeat 26 = .ok (.bipush (-4), 2) := by decide +kernel
theorem dX5_firstRepeat_28 : decode cX5_firstRepeat 28 = .ok (.ireturn, 1) := by decide +kernel
theorem dX5_isTrue_0 : decode cX5_isTrue 0 = .ok (.aload_n 0, 1) := by decide +kernel
theorem dX5_isTrue_1 : decode cX5_isTrue 1 = .ok (.invokevirtual 79, 3) := by decide +kernel
theorem dX5_isTrue_4 : decode cX5_isTrue 4 = .ok (.bipush (-4), 2) := by decide +kernel
theorem dX5_isTrue_6 : decode cX5_isTrue 6 = .ok (.if_icmp .ne 7, 3) := by decide +kernel
theorem dX5_isTrue_9 : decode cX5_isTrue 9 = .ok (.iconst 1, 1) := by decide +kernel
theorem dX5_isTrue_10 : decode cX5_isTrue 10 = .ok (.goto 4, 3) := by decide +kernel
theorem dX5_isTrue_13 : decode cX5_isTrue 13 = .ok (.iconst 0, 1) := by decide +kernel
theorem dX5_isTrue_14 : decode cX5_isTrue 14 = .ok (.ireturn, 1) := by decide +kernel
theorem dX5_differentRows_0 : decode cX5_differentRows 0 = .ok (.iconst 0, 1) := by decide +kernel
theorem dX5_differentRows_1 : decode cX5_differentRows 1 = .ok (.istore_n 1, 1) := by decide +kernel
theorem dX5_differentRows_2 : decode cX5_differentRows 2 = .ok (.iconst 1, 1) := by decide +kernel
theorem dX5_differentRows_3 : decode cX5_differentRows 3 = .ok (.istore_n 2, 1) := by decide +kernel
theorem dX5_differentRows_4 : decode cX5_differentRows 4 = .ok (.iload_n 2, 1) := by decide +kernel
theorem dX5_differentRows_5 : decode cX5_differentRows 5 = .ok (.aload_n 0, 1) := by decide +kernel
theorem dX5_differentRows_6 : decode cX5_differentRows 6 = .ok (.getfield 42, 3) := by decide +kernel
theorem dX5_differentRows_9 : decode cX5_differentRows 9 = .ok (.if_icmp .gt 20, 3) := by decide +kernel
theorem dX5_differentRows_12 : decode cX5_differentRows 12 = .ok (.aload_n 0, 1) := by decide +kernel
theorem dX5_differentRows_13 : decode cX5_differentRows 13 = .ok (.iload_n 2, 1) := by decide +kernel
theorem dX5_differentRows_14 : decode cX5_differentRows 14 = .ok (.invokevirtual 75, 3) := by decide +kernel
theorem dX5_differentRows_17 : decode cX5_differentRows 17 = .ok (.ifCond .eq 6, 3) := by decide +kernel
theorem dX5_differentRows_20 : decode cX5_differentRows 20 = .ok (.iinc 1 1, 3) := by decide +kernel
theorem dX5_differentRows_23 : decode cX5_differentRows 23 = .ok (.iinc 2 1, 3) := by decide +kernel
theorem dX5_differentRows_26 : decode cX5_differentRows 26 = .ok (.goto (-22), 3) := by decide +kernel
theorem dX5_differentRows_29 : decode cX5_differentRows 29 = .ok (.iload_n 1, 1) := by decide +kernel
theorem dX5_differentRows_30 : decode cX5_differentRows 30 = .ok (.ireturn, 1) := by decide +kernel
theorem dX5_wellSounding_0 : decode cX5_wellSounding 0 = .ok (.iconst 0, 1) := by decide +kernel
theorem dX5_wellSounding_1 : decode cX5_wellSounding 1 = .ok (.istore_n 1, 1) := by decide +kernel
theorem dX5_wellSounding_2 : decode cX5_wellSounding 2 = .ok (.iconst 1, 1) := by decide +kernel
theorem dX5_wellSounding_3 : decode cX5_wellSounding 3 = .ok (.istore_n 2, 1) := by decide +kernel
theorem dX5_wellSounding_4 : decode cX5_wellSounding 4 = .ok (.iload_n 2, 1) := by decide +kernel
theorem dX5_wellSounding_5 : decode cX5_wellSounding 5 = .ok (.aload_n 0, 1) := by decide +kernel
theorem dX5_wellSounding_6 : decode cX5_wellSounding 6 = .ok (.getfield 42, 3) := by decide +kernel
theorem dX5_wellSounding_9 : decode cX5_wellSounding 9 = .ok (.if_icmp .gt 27, 3) := by decide +kernel
theorem dX5_wellSounding_12 : decode cX5_wellSounding 12 = .ok (.aload_n 0, 1) := by decide +kernel
theorem dX5_wellSounding_13 : decode cX5_wellSounding 13 = .ok (.iload_n 2, 1) := by decide +kernel
theorem dX5_wellSounding_14 : decode cX5_wellSounding 14 = .ok (.invokevirtual 63, 3) := by decide +kernel
theorem dX5_wellSounding_17 : decode cX5_wellSounding 17 = .ok (.aload_n 0, 1) := by decide +kernel
theorem dX5_wellSounding_18 : decode cX5_wellSounding 18 = .ok (.getfield 27, 3) := by decide +kernel
theorem dX5_wellSounding_21 : decode cX5_wellSounding 21 = .ok (.invokestatic 83, 3) := by decide +kernel
theorem dX5_wellSounding_24 : decode cX5_wellSounding 24 = .ok (.ifCond .eq 6, 3) := by decide +kernel
theorem dX5_wellSounding_27 : decode cX5_wellSounding 27 = .ok (.iinc 1 1, 3) := by decide +kernel
theorem dX5_wellSounding_30 : decode cX5_wellSounding 30 = .ok (.iinc 2 1, 3) := by decide +kernel
theorem dX5_wellSounding_33 : decode cX5_wellSounding 33 = .ok (.goto (-29), 3) := by decide +kernel
theorem dX5_wellSounding_36 : decode cX5_wellSounding 36 = .ok (.iload_n 1, 1) := by decide +kernel
theorem dX5_wellSounding_37 : decode cX5_wellSounding 37 = .ok (.ireturn, 1) := by decide +kernel
theorem dX5_falsePairs_0 : decode cX5_falsePairs 0 = .ok (.iconst 0, 1) := by decide +kernel
theorem dX5_falsePairs_1 : decode cX5_falsePairs 1 = .ok (.istore_n 1, 1) := by decide +kernel
theorem dX5_falsePairs_2 : decode cX5_falsePairs 2 = .ok (.iconst 0, 1) := by decide +kernel
theorem dX5_falsePairs_3 : decode cX5_falsePairs 3 = .ok (.istore_n 2, 1) := by decide +kernel
theorem dX5_falsePairs_4 : decode cX5_falsePairs 4 = .ok (.iload_n 2, 1) := by decide +kernel
theorem dX5_falsePairs_5 : decode cX5_falsePairs 5 = .ok (.aload_n 0, 1) := by decide +kernel
theorem dX5_falsePairs_6 : decode cX5_falsePairs 6 = .ok (.getfield 35, 3) := by decide +kernel
theorem dX5_falsePairs_9 : decode cX5_falsePairs 9 = .ok (.if_icmp .ge 39, 3) := by decide +kernel
theorem dX5_falsePairs_12 : decode cX5_falsePairs 12 = .ok (.iload_n 2, 1) := by decide +kernel
theorem dX5_falsePairs_13 : decode cX5_falsePairs 13 = .ok (.iconst 1, 1) := by decide +kernel
theorem dX5_falsePairs_14 : decode cX5_falsePairs 14 = .ok (.iadd, 1) := by decide +kernel
theorem dX5_falsePairs_15 : decode cX5_falsePairs 15 = .ok (.istore_n 3, 1) := by decide +kernel
theorem dX5_falsePairs_16 : decode cX5_falsePairs 16 = .ok (.iload_n 3, 1) := by decide +kernel
theorem dX5_falsePairs_17 : decode cX5_falsePairs 17 = .ok (.aload_n 0, 1) := by decide +kernel
theorem dX5_falsePairs_18 : decode cX5_falsePairs 18 = .ok (.getfield 35, 3) := by decide +kernel
theorem dX5_falsePairs_21 : decode cX5_falsePairs 21 = .ok (.if_icmp .ge 21, 3) := by decide +kernel
theorem dX5_falsePairs_24 : decode cX5_falsePairs 24 = .ok (.aload_n 0, 1) := by decide +kernel
theorem dX5_falsePairs_25 : decode cX5_falsePairs 25 = .ok (.iload_n 2, 1) := by decide +kernel
theorem dX5_falsePairs_26 : decode cX5_falsePairs 26 = .ok (.iload_n 3, 1) := by decide +kernel
theorem dX5_falsePairs_27 : decode cX5_falsePairs 27 = .ok (.invokevirtual 87, 3) := by decide +kernel
theorem dX5_falsePairs_30 : decode cX5_falsePairs 30 = .ok (.ifCond .eq 6, 3) := by decide +kernel
theorem dX5_falsePairs_33 : decode cX5_falsePairs 33 = .ok (.iinc 1 1, 3) := by decide +kernel
theorem dX5_falsePairs_36 : decode cX5_falsePairs 36 = .ok (.iinc 3 1, 3) := by decide +kernel
theorem dX5_falsePairs_39 : decode cX5_falsePairs 39 = .ok (.goto (-23), 3) := by decide +kernel
theorem dX5_falsePairs_42 : decode cX5_falsePairs 42 = .ok (.iinc 2 1, 3) := by decide +kernel
theorem dX5_falsePairs_45 : decode cX5_falsePairs 45 = .ok (.goto (-41), 3) := by decide +kernel
theorem dX5_falsePairs_48 : decode cX5_falsePairs 48 = .ok (.iload_n 1, 1) := by decide +kernel
theorem dX5_falsePairs_49 : decode cX5_falsePairs 49 = .ok (.ireturn, 1) := by decide +kernel
theorem dX5_areFalse_0 : decode cX5_areFalse 0 = .ok (.iconst 1, 1) := by decide +kernel
theorem dX5_areFalse_1 : decode cX5_areFalse 1 = .ok (.istore_n 3, 1) := by decide +kernel
theorem dX5_areFalse_2 : decode cX5_areFalse 2 = .ok (.iload_n 3, 1) := by decide +kernel
theorem dX5_areFalse_3 : decode cX5_areFalse 3 = .ok (.aload_n 0, 1) := by decide +kernel
theorem dX5_areFalse_4 : decode cX5_areFalse 4 = .ok (.getfield 31, 3) := by decide +kernel
theorem dX5_areFalse_7 : decode cX5_areFalse 7 = .ok (.if_icmp .gt 57, 3) := by decide +kernel
theorem dX5_areFalse_10 : decode cX5_areFalse 10 = .ok (.iconst 1, 1) := by decide +kernel
theorem dX5_areFalse_11 : decode cX5_areFalse 11 = .ok (.istore 4, 2) := by decide +kernel
theorem dX5_areFalse_13 : decode cX5_areFalse 13 = .ok (.iload 4, 2) := by decide +kernel
theorem dX5_areFalse_15 : decode cX5_areFalse 15 = .ok (.aload_n 0, 1) := by decide +kernel
theorem dX5_areFalse_16 : decode cX5_areFalse 16 = .ok (.getfield 31, 3) := by decide +kernel
theorem dX5_areFalse_19 : decode cX5_areFalse 19 = .ok (.if_icmp .gt 39, 3) := by decide +kernel
theorem dX5_areFalse_22 : decode cX5_areFalse 22 = .ok (.aload_n 0, 1) := by decide +kernel
theorem dX5_areFalse_23 : decode cX5_areFalse 23 = .ok (.iload_n 1, 1) := by decide +kernel
theorem dX5_areFalse_24 : decode cX5_areFalse 24 = .ok (.aload_n 0, 1) := by decide +kernel
theorem dX5_areFalse_25 : decode cX5_areFalse 25 = .ok (.getfield 31, 3) := by decide +kernel
theorem dX5_areFalse_28 : decode cX5_areFalse 28 = .ok (.imul, 1) := by decide +kernel
theorem dX5_areFalse_29 : decode cX5_areFalse 29 = .ok (.iload_n 3, 1) := by decide +kernel
theorem dX5_areFalse_30 : decode cX5_areFalse 30 = .ok (.iadd, 1) := by decide +kernel
theorem dX5_areFalse_31 : decode cX5_areFalse 31 = .ok (.invokevirtual 63, 3) := by decide +kernel
theorem dX5_areFalse_34 : decode cX5_areFalse 34 = .ok (.aload_n 0, 1) := by decide +kernel
theorem dX5_areFalse_35 : decode cX5_areFalse 35 = .ok (.iload_n 2, 1) := by decide +kernel
theorem dX5_areFalse_36 : decode cX5_areFalse 36 = .ok (.aload_n 0, 1) := by decide +kernel
theorem dX5_areFalse_37 : decode cX5_areFalse 37 = .ok (.getfield 31, 3) := by decide +kernel
theorem dX5_areFalse_40 : decode cX5_areFalse 40 = .ok (.imul, 1) := by decide +kernel
theorem dX5_areFalse_41 : decode cX5_areFalse 41 = .ok (.iload 4, 2) := by decide +kernel
theorem dX5_areFalse_43 : decode cX5_areFalse 43 = .ok (.iadd, 1) := by decide +kernel
theorem dX5_areFalse_44 : decode cX5_areFalse 44 = .ok (.invokevirtual 63, 3) := by decide +kernel
theorem dX5_areFalse_47 : decode cX5_areFalse 47 = .ok (.if_icmp .ne 5, 3) := by decide +kernel
theorem dX5_areFalse_50 : decode cX5_areFalse 50 = .ok (.iconst 1, 1) := by decide +kernel
theorem dX5_areFalse_51 : decode cX5_areFalse 51 = .ok (.ireturn, 1) := by decide +kernel
theorem dX5_areFalse_52 : decode cX5_areFalse 52 = .ok (.iinc 4 1, 3) := by decide +kernel
theorem dX5_areFalse_55 : decode cX5_areFalse 55 = .ok (.goto (-42), 3) := by decide +kernel
theorem dX5_areFalse_58 : decode cX5_areFalse 58 = .ok (.iinc 3 1, 3) := by decide +kernel
theorem dX5_areFalse_61 : decode cX5_areFalse 61 = .ok (.goto (-59), 3) := by decide +kernel
theorem dX5_areFalse_64 : decode cX5_areFalse 64 = .ok (.iconst 0, 1) := by decide +kernel
theorem dX5_areFalse_65 : decode cX5_areFalse 65 = .ok (.ireturn, 1) := by decide +kernel
theorem dX5_dodgesAt_0 : decode cX5_dodgesAt 0 = .ok (.aload_n 0, 1) := by decide +kernel
theorem dX5_dodgesAt_1 : decode cX5_dodgesAt 1 = .ok (.iload_n 1, 1) := by decide +kernel
theorem dX5_dodgesAt_2 : decode cX5_dodgesAt 2 = .ok (.iload_n 2, 1) := by decide +kernel
theorem dX5_dodgesAt_3 : decode cX5_dodgesAt 3 = .ok (.invokevirtual 90, 3) := by decide +kernel
theorem dX5_dodgesAt_6 : decode cX5_dodgesAt 6 = .ok (.istore_n 3, 1) := by decide +kernel
theorem dX5_dodgesAt_7 : decode cX5_dodgesAt 7 = .ok (.aload_n 0, 1) := by decide +kernel
theorem dX5_dodgesAt_8 : decode cX5_dodgesAt 8 = .ok (.iload_n 1, 1) := by decide +kernel
theorem dX5_dodgesAt_9 : decode cX5_dodgesAt 9 = .ok (.iconst 1, 1) := by decide +kernel
theorem dX5_dodgesAt_10 : decode cX5_dodgesAt 10 = .ok (.iadd, 1) := by decide +kernel
theorem dX5_dodgesAt_11 : decode cX5_dodgesAt 11 = .ok (.iload_n 2, 1) := by decide +kernel
theorem dX5_dodgesAt_12 : decode cX5_dodgesAt 12 = .ok (.invokevirtual 90, 3) := by decide +kernel
theorem dX5_dodgesAt_15 : decode cX5_dodgesAt 15 = .ok (.istore 4, 2) := by decide +kernel
theorem dX5_dodgesAt_17 : decode cX5_dodgesAt 17 = .ok (.iload_n 3, 1) := by decide +kernel
theorem dX5_dodgesAt_18 : decode cX5_dodgesAt 18 = .ok (.iload 4, 2) := by decide +kernel
theorem dX5_dodgesAt_20 : decode cX5_dodgesAt 20 = .ok (.if_icmp .eq 32, 3) := by decide +kernel
theorem dX5_dodgesAt_23 : decode cX5_dodgesAt 23 = .ok (.aload_n 0, 1) := by decide +kernel
theorem dX5_dodgesAt_24 : decode cX5_dodgesAt 24 = .ok (.iload_n 1, 1) := by decide +kernel
theorem dX5_dodgesAt_25 : decode cX5_dodgesAt 25 = .ok (.iconst 2, 1) := by decide +kernel
theorem dX5_dodgesAt_26 : decode cX5_dodgesAt 26 = .ok (.iadd, 1) := by decide +kernel
theorem dX5_dodgesAt_27 : decode cX5_dodgesAt 27 = .ok (.iload_n 2, 1) := by decide +kernel
theorem dX5_dodgesAt_28 : decode cX5_dodgesAt 28 = .ok (.invokevirtual 90, 3) := by decide +kernel
theorem dX5_dodgesAt_31 : decode cX5_dodgesAt 31 = .ok (.iload_n 3, 1) := by decide +kernel
theorem dX5_dodgesAt_32 : decode cX5_dodgesAt 32 = .ok (.if_icmp .ne 20, 3) := by decide +kernel
theorem dX5_dodgesAt_35 : decode cX5_dodgesAt 35 = .ok (.aload_n 0, 1) := by decide +kernel
theorem dX5_dodgesAt_36 : decode cX5_dodgesAt 36 = .ok (.iload_n 1, 1) := by decide +kernel
theorem dX5_dodgesAt_37 : decode cX5_dodgesAt 37 = .ok (.iconst 3, 1) := by decide +kernel
theorem dX5_dodgesAt_38 : decode cX5_dodgesAt 38 = .ok (.iadd, 1) := by decide +kernel
theorem dX5_dodgesAt_39 : decode cX5_dodgesAt 39 = .ok (.iload_n 2, 1) := by decide +kernel
theorem dX5_dodgesAt_40 : decode cX5_dodgesAt 40 = .ok (.invokevirtual 90, 3) := by decide +kernel
theorem dX5_dodgesAt_43 : decode cX5_dodgesAt 43 = .ok (.iload 4, 2) := by decide +kernel
theorem dX5_dodgesAt_45 : decode cX5_dodgesAt 45 = .ok (.if_icmp .ne 7, 3) := by decide +kernel
theorem dX5_dodgesAt_48 : decode cX5_dodgesAt 48 = .ok (.iconst 1, 1) := by decide +kernel
theorem dX5_dodgesAt_49 : decode cX5_dodgesAt 49 = .ok (.goto 4, 3) := by decide +kernel
theorem dX5_dodgesAt_52 : decode cX5_dodgesAt 52 = .ok (.iconst 0, 1) := by decide +kernel
theorem dX5_dodgesAt_53 : decode cX5_dodgesAt 53 = .ok (.ireturn, 1) := by decide +kernel
theorem dX5_dodges_0 : decode cX5_dodges 0 = .ok (.iconst 0, 1) := by decide +kernel
theorem dX5_dodges_1 : decode cX5_dodges 1 = .ok (.istore_n 2, 1) := by decide +kernel
theorem dX5_dodges_2 : decode cX5_dodges 2 = .ok (.iconst 0, 1) := by decide +kernel
theorem dX5_dodges_3 : decode cX5_dodges 3 = .ok (.istore_n 3, 1) := by decide +kernel
theorem dX5_dodges_4 : decode cX5_dodges 4 = .ok (.iload_n 3, 1) := by decide +kernel
theorem dX5_dodges_5 : decode cX5_dodges 5 = .ok (.iconst 3, 1) := by decide +kernel
theorem dX5_dodges_6 : decode cX5_dodges 6 = .ok (.iadd, 1) := by decide +kernel
theorem dX5_dodges_7 : decode cX5_dodges 7 = .ok (.aload_n 0, 1) := by decide +kernel
theorem dX5_dodges_8 : decode cX5_dodges 8 = .ok (.getfield 42, 3) := by decide +kernel
theorem dX5_dodges_11 : decode cX5_dodges 11 = .ok (.if_icmp .gt 21, 3) := by decide +kernel
theorem dX5_dodges_14 : decode cX5_dodges 14 = .ok (.aload_n 0, 1) := by decide +kernel
theorem dX5_dodges_15 : decode cX5_dodges 15 = .ok (.iload_n 3, 1) := by decide +kernel
theorem dX5_dodges_16 : decode cX5_dodges 16 = .ok (.iload_n 1, 1) := by decide +kernel
theorem dX5_dodges_17 : decode cX5_dodges 17 = .ok (.invokevirtual 93, 3) := by decide +kernel
theorem dX5_dodges_20 : decode cX5_dodges 20 = .ok (.ifCond .eq 6, 3) := by decide +kernel
theorem dX5_dodges_23 : decode cX5_dodges 23 = .ok (.iinc 2 1, 3) := by decide +kernel
theorem dX5_dodges_26 : decode cX5_dodges 26 = .ok (.iinc 3 1, 3) := by decide +kernel
theorem dX5_dodges_29 : decode cX5_dodges 29 = .ok (.goto (-25), 3) := by decide +kernel
theorem dX5_dodges_32 : decode cX5_dodges 32 = .ok (.iload_n 2, 1) := by decide +kernel
theorem dX5_dodges_33 : decode cX5_dodges 33 = .ok (.ireturn, 1) := by decide +kernel
theorem dX5_firstDodge_0 : decode cX5_firstDodge 0 = .ok (.iconst 0, 1) := by decide +kernel
theorem dX5_firstDodge_1 : decode cX5_firstDodge 1 = .ok (.istore_n 2, 1) := by decide +kernel
theorem dX5_firstDodge_2 : decode cX5_firstDodge 2 = .ok (.iload_n 2, 1) := by decide +kernel
theorem dX5_firstDodge_3 : decode cX5_firstDodge 3 = .ok (.iconst 3, 1) := by decide +kernel
theorem dX5_firstDodge_4 : decode cX5_firstDodge 4 = .ok (.iadd, 1) := by decide +kernel
theorem dX5_firstDodge_5 : decode cX5_firstDodge 5 = .ok (.aload_n 0, 1) := by decide +kernel
theorem dX5_firstDodge_6 : decode cX5_firstDodge 6 = .ok (.getfield 42, 3) := by decide +kernel
theorem dX5_firstDodge_9 : decode cX5_firstDodge 9 = .ok (.if_icmp .gt 20, 3) := by decide +kernel
theorem dX5_firstDodge_12 : decode cX5_firstDodge 12 = .ok (.aload_n 0, 1) := by decide +kernel
theorem dX5_firstDodge_13 : decode cX5_firstDodge 13 = .ok (.iload_n 2, 1) := by decide +kernel
theorem dX5_firstDodge_14 : decode cX5_firstDodge 14 = .ok (.iload_n 1, 1) := by decide +kernel
theorem dX5_firstDodge_15 : decode cX5_firstDodge 15 = .ok (.invokevirtual 93, 3) := by decide +kernel
theorem dX5_firstDodge_18 : decode cX5_firstDodge 18 = .ok (.ifCond .eq 5, 3) := by decide +kernel
theorem dX5_firstDodge_21 : decode cX5_firstDodge 21 = .ok (.iload_n 2, 1) := by decide +kernel
theorem dX5_firstDodge_22 : decode cX5_firstDodge 22 = .ok (.ireturn, 1) := by decide +kernel
theorem dX5_firstDodge_23 : decode cX5_firstDodge 23 = .ok (.iinc 2 1, 3) := by decide +kernel
theorem dX5_firstDodge_26 : decode cX5_firstDodge 26 = .ok (.goto (-24), 3) := by decide +kernel
theorem dX5_firstDodge_29 : decode cX5_firstDodge 29 = .ok (.bipush (-4), 2) := by decide +kernel
theorem dX5_firstDodge_31 : decode cX5_firstDodge 31 = .ok (.ireturn, 1) := by decide +kernel
theorem dX5_stays_0 : decode cX5_stays 0 = .ok (.iconst 0, 1) := by decide +kernel
theorem dX5_stays_1 : decode cX5_stays 1 = .ok (.istore_n 2, 1) := by decide +kernel
theorem dX5_stays_2 : decode cX5_stays 2 = .ok (.iconst 1, 1) := by decide +kernel
theorem dX5_stays_3 : decode cX5_stays 3 = .ok (.istore_n 3, 1) := by decide +kernel
theorem dX5_stays_4 : decode cX5_stays 4 = .ok (.iload_n 3, 1) := by decide +kernel
theorem dX5_stays_5 : decode cX5_stays 5 = .ok (.aload_n 0, 1) := by decide +kernel
theorem dX5_stays_6 : decode cX5_stays 6 = .ok (.getfield 42, 3) := by decide +kernel
theorem dX5_stays_9 : decode cX5_stays 9 = .ok (.if_icmp .gt 29, 3) := by decide +kernel
theorem dX5_stays_12 : decode cX5_stays 12 = .ok (.aload_n 0, 1) := by decide +kernel
theorem dX5_stays_13 : decode cX5_stays 13 = .ok (.iload_n 3, 1) := by decide +kernel
theorem dX5_stays_14 : decode cX5_stays 14 = .ok (.iload_n 1, 1) := by decide +kernel
theorem dX5_stays_15 : decode cX5_stays 15 = .ok (.invokevirtual 90, 3) := by decide +kernel
theorem dX5_stays_18 : decode cX5_stays 18 = .ok (.aload_n 0, 1) := by decide +kernel
theorem dX5_stays_19 : decode cX5_stays 19 = .ok (.iload_n 3, 1) := by decide +kernel
theorem dX5_stays_20 : decode cX5_stays 20 = .ok (.iconst 1, 1) := by decide +kernel
theorem dX5_stays_21 : decode cX5_stays 21 = .ok (.isub, 1) := by decide +kernel
theorem dX5_stays_22 : decode cX5_stays 22 = .ok (.iload_n 1, 1) := by decide +kernel
theorem dX5_stays_23 : decode cX5_stays 23 = .ok (.invokevirtual 90, 3) := by decide +kernel
theorem dX5_stays_26 : decode cX5_stays 26 = .ok (.if_icmp .ne 6, 3) := by decide +kernel
theorem dX5_stays_29 : decode cX5_stays 29 = .ok (.iinc 2 1, 3) := by decide +kernel
theorem dX5_stays_32 : decode cX5_stays 32 = .ok (.iinc 3 1, 3) := by decide +kernel
theorem dX5_stays_35 : decode cX5_stays 35 = .ok (.goto (-31), 3) := by decide +kernel
theorem dX5_stays_38 : decode cX5_stays 38 = .ok (.iload_n 2, 1) := by decide +kernel
theorem dX5_stays_39 : decode cX5_stays 39 = .ok (.ireturn, 1) := by decide +kernel
theorem dX5_blowsAt_0 : decode cX5_blowsAt 0 = .ok (.iconst 0, 1) := by decide +kernel
theorem dX5_blowsAt_1 : decode cX5_blowsAt 1 = .ok (.istore_n 3, 1) := by decide +kernel
theorem dX5_blowsAt_2 : decode cX5_blowsAt 2 = .ok (.iconst 1, 1) := by decide +kernel
theorem dX5_blowsAt_3 : decode cX5_blowsAt 3 = .ok (.istore 4, 2) := by decide +kernel
theorem dX5_blowsAt_5 : decode cX5_blowsAt 5 = .ok (.iload 4, 2) := by decide +kernel
theorem dX5_blowsAt_7 : decode cX5_blowsAt 7 = .ok (.aload_n 0, 1) := by decide +kernel
theorem dX5_blowsAt_8 : decode cX5_blowsAt 8 = .ok (.getfield 42, 3) := by decide +kernel
theorem dX5_blowsAt_11 : decode cX5_blowsAt 11 = .ok (.if_icmp .gt 26, 3) := by decide +kernel
theorem dX5_blowsAt_14 : decode cX5_blowsAt 14 = .ok (.aload_n 0, 1) := by decide +kernel
theorem dX5_blowsAt_15 : decode cX5_blowsAt 15 = .ok (.iload 4, 2) := by decide +kernel
theorem dX5_blowsAt_17 : decode cX5_blowsAt 17 = .ok (.invokevirtual 63, 3) := by decide +kernel
theorem dX5_blowsAt_20 : decode cX5_blowsAt 20 = .ok (.iload_n 2, 1) := by decide +kernel
theorem dX5_blowsAt_21 : decode cX5_blowsAt 21 = .ok (.invokestatic 96, 3) := by decide +kernel
theorem dX5_blowsAt_24 : decode cX5_blowsAt 24 = .ok (.iload_n 1, 1) := by decide +kernel
theorem dX5_blowsAt_25 : decode cX5_blowsAt 25 = .ok (.if_icmp .ne 6, 3) := by decide +kernel
theorem dX5_blowsAt_28 : decode cX5_blowsAt 28 = .ok (.iinc 3 1, 3) := by decide +kernel
theorem dX5_blowsAt_31 : decode cX5_blowsAt 31 = .ok (.iinc 4 1, 3) := by decide +kernel
theorem dX5_blowsAt_34 : decode cX5_blowsAt 34 = .ok (.goto (-29), 3) := by decide +kernel
theorem dX5_blowsAt_37 : decode cX5_blowsAt 37 = .ok (.iload_n 3, 1) := by decide +kernel
theorem dX5_blowsAt_38 : decode cX5_blowsAt 38 = .ok (.ireturn, 1) := by decide +kernel
theorem dX6_rounds_0 : decode cX6_rounds 0 = .ok (.iconst 0, 1) := by decide +kernel
theorem dX6_rounds_1 : decode cX6_rounds 1 = .ok (.istore_n 1, 1) := by decide +kernel
theorem dX6_rounds_2 : decode cX6_rounds 2 = .ok (.iconst 1, 1) := by decide +kernel
theorem dX6_rounds_3 : decode cX6_rounds 3 = .ok (.istore_n 2, 1) := by decide +kernel
theorem dX6_rounds_4 : decode cX6_rounds 4 = .ok (.iload_n 2, 1) := by decide +kernel
theorem dX6_rounds_5 : decode cX6_rounds 5 = .ok (.iload_n 0, 1) := by decide +kernel
theorem dX6_rounds_6 : decode cX6_rounds 6 = .ok (.if_icmp .gt 16, 3) := by decide +kernel
theorem dX6_rounds_9 : decode cX6_rounds 9 = .ok (.iload_n 1, 1) := by decide +kernel
theorem dX6_rounds_10 : decode cX6_rounds 10 = .ok (.iload_n 2, 1) := by decide +kernel
theorem dX6_rounds_11 : decode cX6_rounds 11 = .ok (.iload_n 2, 1) := by decide +kernel
theorem dX6_rounds_12 : decode cX6_rounds 12 = .ok (.invokestatic 7, 3) := by decide +kernel
theorem dX6_rounds_15 : decode cX6_rounds 15 = .ok (.istore_n 1, 1) := by decide +kernel
theorem dX6_rounds_16 : decode cX6_rounds 16 = .ok (.iinc 2 1, 3) := by decide +kernel
theorem dX6_rounds_19 : decode cX6_rounds 19 = .ok (.goto (-15), 3) := by decide +kernel
theorem dX6_rounds_22 : decode cX6_rounds 22 = .ok (.iload_n 1, 1) := by decide +kernel
theorem dX6_rounds_23 : decode cX6_rounds 23 = .ok (.ireturn, 1) := by decide +kernel
theorem dX6_bellAt_0 : decode cX6_bellAt 0 = .ok (.iload_n 0, 1) := by decide +kernel
theorem dX6_bellAt_1 : decode cX6_bellAt 1 = .ok (.iconst 3, 1) := by decide +kernel
theorem dX6_bellAt_2 : decode cX6_bellAt 2 = .ok (.iload_n 1, 1) := by decide +kernel
theorem dX6_bellAt_3 : decode cX6_bellAt 3 = .ok (.iconst 1, 1) := by decide +kernel
theorem dX6_bellAt_4 : decode cX6_bellAt 4 = .ok (.isub, 1) := by decide +kernel
theorem dX6_bellAt_5 : decode cX6_bellAt 5 = .ok (.imul, 1) := by decide +kernel
theorem dX6_bellAt_6 : decode cX6_bellAt 6 = .ok (.ishr, 1) := by decide +kernel
theorem dX6_bellAt_7 : decode cX6_bellAt 7 = .ok (.bipush 7, 2) := by decide +kernel
theorem dX6_bellAt_9 : decode cX6_bellAt 9 = .ok (.iand, 1) := by decide +kernel
theorem dX6_bellAt_10 : decode cX6_bellAt 10 = .ok (.ireturn, 1) := by decide +kernel
theorem dX6_put_0 : decode cX6_put 0 = .ok (.iload_n 0, 1) := by decide +kernel
theorem dX6_put_1 : decode cX6_put 1 = .ok (.iload_n 2, 1) := by decide +kernel
theorem dX6_put_2 : decode cX6_put 2 = .ok (.iconst 3, 1) := by decide +kernel
theorem dX6_put_3 : decode cX6_put 3 = .ok (.iload_n 1, 1) := by decide +kernel
theorem dX6_put_4 : decode cX6_put 4 = .ok (.iconst 1, 1) := by decide +kernel
theorem dX6_put_5 : decode cX6_put 5 = .ok (.isub, 1) := by decide +kernel
theorem dX6_put_6 : decode cX6_put 6 = .ok (.imul, 1) := by decide +kernel
theorem dX6_put_7 : decode cX6_put 7 = .ok (.ishl, 1) := by decide +kernel
theorem dX6_put_8 : decode cX6_put 8 = .ok (.ior, 1) := by decide +kernel
theorem dX6_put_9 : decode cX6_put 9 = .ok (.ireturn, 1) := by decide +kernel
theorem dX6_placeOf_0 : decode cX6_placeOf 0 = .ok (.iconst 1, 1) := by decide +kernel
theorem dX6_placeOf_1 : decode cX6_placeOf 1 = .ok (.istore_n 3, 1) := by decide +kernel
theorem dX6_placeOf_2 : decode cX6_placeOf 2 = .ok (.iload_n 3, 1) := by decide +kernel
theorem dX6_placeOf_3 : decode cX6_placeOf 3 = .ok (.iload_n 2, 1) := by decide +kernel
theorem dX6_placeOf_4 : decode cX6_placeOf 4 = .ok (.if_icmp .ge 20, 3) := by decide +kernel
theorem dX6_placeOf_7 : decode cX6_placeOf 7 = .ok (.iload_n 0, 1) := by decide +kernel
theorem dX6_placeOf_8 : decode cX6_placeOf 8 = .ok (.iload_n 3, 1) := by decide +kernel
theorem dX6_placeOf_9 : decode cX6_placeOf 9 = .ok (.invokestatic 13, 3) := by decide +kernel
theorem dX6_placeOf_12 : decode cX6_placeOf 12 = .ok (.iload_n 1, 1) := by decide +kernel
theorem dX6_placeOf_13 : decode cX6_placeOf 13 = .ok (.if_icmp .ne 5, 3) := by decide +kernel
theorem dX6_placeOf_16 : decode cX6_placeOf 16 = .ok (.iload_n 3, 1) := by decide +kernel
theorem dX6_placeOf_17 : decode cX6_placeOf 17 = .ok (.ireturn, 1) := by decide +kernel
theorem dX6_placeOf_18 : decode cX6_placeOf 18 = .ok (.iinc 3 1, 3) := by decide +kernel
theorem dX6_placeOf_21 : decode cX6_placeOf 21 = .ok (.goto (-19), 3) := by decide +kernel
theorem dX6_placeOf_24 : decode cX6_placeOf 24 = .ok (.iload_n 2, 1) := by decide +kernel
theorem dX6_placeOf_25 : decode cX6_placeOf 25 = .ok (.ireturn, 1) := by decide +kernel
theorem dX6_behindChange_0 : decode cX6_behindChange 0 = .ok (.iconst 0, 1) := by decide +kernel
theorem dX6_behindChange_1 : decode cX6_behindChange 1 = .ok (.istore_n 3, 1) := by decide +kernel
theorem dX6_behindChange_2 : decode cX6_behindChange 2 = .ok (.iconst 1, 1) := by decide +kernel
theorem dX6_behindChange_3 : decode cX6_behindChange 3 = .ok (.istore 4, 2) := by decide +kernel
theorem dX6_behindChange_5 : decode cX6_behindChange 5 = .ok (.iload 4, 2) := by decide +kernel
theorem dX6_behindChange_7 : decode cX6_behindChange 7 = .ok (.iload_n 2, 1) := by decide +kernel
theorem dX6_behindChange_8 : decode cX6_behindChange 8 = .ok (.if_icmp .gt 73, 3) := by decide +kernel
theorem dX6_behindChange_11 : decode cX6_behindChange 11 = .ok (.iload 4, 2) := by decide +kernel
theorem dX6_behindChange_13 : decode cX6_behindChange 13 = .ok (.iload_n 2, 1) := by decide +kernel
theorem dX6_behindChange_14 : decode cX6_behindChange 14 = .ok (.if_icmp .eq 12, 3) := by decide +kernel
theorem dX6_behindChange_17 : decode cX6_behindChange 17 = .ok (.iload_n 1, 1) := by decide +kernel
theorem dX6_behindChange_18 : decode cX6_behindChange 18 = .ok (.iload 4, 2) := by decide +kernel
theorem dX6_behindChange_20 : decode cX6_behindChange 20 = .ok (.invokestatic 17, 3) := by decide +kernel
theorem dX6_behindChange_23 : decode cX6_behindChange 23 = .ok (.ifCond .eq 22, 3) := by decide +kernel
theorem dX6_behindChange_26 : decode cX6_behindChange 26 = .ok (.iload_n 3, 1) := by decide +kernel
theorem dX6_behindChange_27 : decode cX6_behindChange 27 = .ok (.iload 4, 2) := by decide +kernel
theorem dX6_behindChange_29 : decode cX6_behindChange 29 = .ok (.iload_n 0, 1) := by decide +kernel
theorem dX6_behindChange_30 : decode cX6_behindChange 30 = .ok (.iload 4, 2) := by decide +kernel
theorem dX6_behindChange_32 : decode cX6_behindChange 32 = .ok (.invokestatic 13, 3) := by decide +kernel
theorem dX6_behindChange_35 : decode cX6_behindChange 35 = .ok (.invokestatic 7, 3) := by decide +kernel
theorem dX6_behindChange_38 : decode cX6_behindChange 38 = .ok (.istore_n 3, 1) := by decide +kernel
theorem dX6_behindChange_39 : decode cX6_behindChange 39 = .ok (.iinc 4 1, 3) := by decide +kernel
theorem dX6_behindChange_42 : decode cX6_behindChange 42 = .ok (.goto (-37), 3) := by decide +kernel
theorem dX6_behindChange_45 : decode cX6_behindChange 45 = .ok (.iload_n 3, 1) := by decide +kernel
theorem dX6_behindChange_46 : decode cX6_behindChange 46 = .ok (.iload 4, 2) := by decide +kernel
theorem dX6_behindChange_48 : decode cX6_behindChange 48 = .ok (.iload_n 0, 1) := by decide +kernel
theorem dX6_behindChange_49 : decode cX6_behindChange 49 = .ok (.iload 4, 2) := by decide +kernel
theorem dX6_behindChange_51 : decode cX6_behindChange 51 = .ok (.iconst 1, 1) := by decide +kernel
theorem dX6_behindChange_52 : decode cX6_behindChange 52 = .ok (.iadd, 1) := by decide +kernel
theorem dX6_behindChange_53 : decode cX6_behindChange 53 = .ok (.invokestatic 13, 3) := by decide +kernel
theorem dX6_behindChange_56 : decode cX6_behindChange 56 = .ok (.invokestatic 7, 3) := by decide +kernel
theorem dX6_behindChange_59 : decode cX6_behindChange 59 = .ok (.istore_n 3, 1) := by decide +kernel
theorem dX6_behindChange_60 : decode cX6_behindChange 60 = .ok (.iload_n 3, 1) := by decide +kernel
theorem dX6_behindChange_61 : decode cX6_behindChange 61 = .ok (.iload 4, 2) := by decide +kernel
theorem dX6_behindChange_63 : decode cX6_behindChange 63 = .ok (.iconst 1, 1) := by decide +kernel
theorem dX6_behindChange_64 : decode cX6_behindChange 64 = .ok (.iadd, 1) := by decide +kernel
theorem dX6_behindChange_65 : decode cX6_behindChange 65 = .ok (.iload_n 0, 1) := by decide +kernel
theorem dX6_behindChange_66 : decode cX6_behindChange 66 = .ok (.iload 4, 2) := by decide +kernel
theorem dX6_behindChange_68 : decode cX6_behindChange 68 = .ok (.invokestatic 13, 3) := by decide +kernel
theorem dX6_behindChange_71 : decode cX6_behindChange 71 = .ok (.invokestatic 7, 3) := by decide +kernel
theorem dX6_behindChange_74 : decode cX6_behindChange 74 = .ok (.istore_n 3, 1) := by decide +kernel
theorem dX6_behindChange_75 : decode cX6_behindChange 75 = .ok (.iinc 4 2, 3) := by decide +kernel
theorem dX6_behindChange_78 : decode cX6_behindChange 78 = .ok (.goto (-73), 3) := by decide +kernel
theorem dX6_behindChange_81 : decode cX6_behindChange 81 = .ok (.iload_n 3, 1) := by decide +kernel
theorem dX6_behindChange_82 : decode cX6_behindChange 82 = .ok (.ireturn, 1) := by decide +kernel
theorem dX6_behindLead_0 : decode cX6_behindLead 0 = .ok (.iconst 0, 1) := by decide +kernel
theorem dX6_behindLead_1 : decode cX6_behindLead 1 = .ok (.istore_n 3, 1) := by decide +kernel
theorem dX6_behindLead_2 : decode cX6_behindLead 2 = .ok (.iconst 1, 1) := by decide +kernel
theorem dX6_behindLead_3 : decode cX6_behindLead 3 = .ok (.istore 4, 2) := by decide +kernel
theorem dX6_behindLead_5 : decode cX6_behindLead 5 = .ok (.iload 4, 2) := by decide +kernel
theorem dX6_behindLead_7 : decode cX6_behindLead 7 = .ok (.iload_n 2, 1) := by decide +kernel
theorem dX6_behindLead_8 : decode cX6_behindLead 8 = .ok (.if_icmp .gt 26, 3) := by decide +kernel
theorem dX6_behindLead_11 : decode cX6_behindLead 11 = .ok (.iload_n 3, 1) := by decide +kernel
theorem dX6_behindLead_12 : decode cX6_behindLead 12 = .ok (.iload 4, 2) := by decide +kernel
theorem dX6_behindLead_14 : decode cX6_behindLead 14 = .ok (.iload_n 0, 1) := by decide +kernel
theorem dX6_behindLead_15 : decode cX6_behindLead 15 = .ok (.iload_n 1, 1) := by decide +kernel
theorem dX6_behindLead_16 : decode cX6_behindLead 16 = .ok (.iload 4, 2) := by decide +kernel
theorem dX6_behindLead_18 : decode cX6_behindLead 18 = .ok (.invokestatic 13, 3) := by decide +kernel
theorem dX6_behindLead_21 : decode cX6_behindLead 21 = .ok (.invokestatic 13, 3) := by decide +kernel
theorem dX6_behindLead_24 : decode cX6_behindLead 24 = .ok (.invokestatic 7, 3) := by decide +kernel
theorem dX6_behindLead_27 : decode cX6_behindLead 27 = .ok (.istore_n 3, 1) := by decide +kernel
theorem dX6_behindLead_28 : decode cX6_behindLead 28 = .ok (.iinc 4 1, 3) := by decide +kernel
theorem dX6_behindLead_31 : decode cX6_behindLead 31 = .ok (.goto (-26), 3) := by decide +kernel
theorem dX6_behindLead_34 : decode cX6_behindLead 34 = .ok (.iload_n 3, 1) := by decide +kernel
theorem dX6_behindLead_35 : decode cX6_behindLead 35 = .ok (.ireturn, 1) := by decide +kernel
theorem dX6_backwards_0 : decode cX6_backwards 0 = .ok (.iconst 0, 1) := by decide +kernel
theorem dX6_backwards_1 : decode cX6_backwards 1 = .ok (.istore_n 2, 1) := by decide +kernel
theorem dX6_backwards_2 : decode cX6_backwards 2 = .ok (.iconst 1, 1) := by decide +kernel
theorem dX6_backwards_3 : decode cX6_backwards 3 = .ok (.istore_n 3, 1) := by decide +kernel
theorem dX6_backwards_4 : decode cX6_backwards 4 = .ok (.iload_n 3, 1) := by decide +kernel
theorem dX6_backwards_5 : decode cX6_backwards 5 = .ok (.iload_n 1, 1) := by decide +kernel
theorem dX6_backwards_6 : decode cX6_backwards 6 = .ok (.if_icmp .gt 20, 3) := by decide +kernel
theorem dX6_backwards_9 : decode cX6_backwards 9 = .ok (.iload_n 2, 1) := by decide +kernel
theorem dX6_backwards_10 : decode cX6_backwards 10 = .ok (.iload_n 0, 1) := by decide +kernel
theorem dX6_backwards_11 : decode cX6_backwards 11 = .ok (.iload_n 3, 1) := by decide +kernel
theorem dX6_backwards_12 : decode cX6_backwards 12 = .ok (.invokestatic 13, 3) := by decide +kernel
theorem dX6_backwards_15 : decode cX6_backwards 15 = .ok (.iload_n 3, 1) := by decide +kernel
theorem dX6_backwards_16 : decode cX6_backwards 16 = .ok (.invokestatic 7, 3) := by decide +kernel
theorem dX6_backwards_19 : decode cX6_backwards 19 = .ok (.istore_n 2, 1) := by decide +kernel
theorem dX6_backwards_20 : decode cX6_backwards 20 = .ok (.iinc 3 1, 3) := by decide +kernel
theorem dX6_backwards_23 : decode cX6_backwards 23 = .ok (.goto (-19), 3) := by decide +kernel
theorem dX6_backwards_26 : decode cX6_backwards 26 = .ok (.iload_n 2, 1) := by decide +kernel
theorem dX6_backwards_27 : decode cX6_backwards 27 = .ok (.ireturn, 1) := by decide +kernel
theorem dX6_rank_0 : decode cX6_rank 0 = .ok (.iconst 0, 1) := by decide +kernel
theorem dX6_rank_1 : decode cX6_rank 1 = .ok (.istore_n 2, 1) := by decide +kernel
theorem dX6_rank_2 : decode cX6_rank 2 = .ok (.iconst 0, 1) := by decide +kernel
theorem dX6_rank_3 : decode cX6_rank 3 = .ok (.istore_n 3, 1) := by decide +kernel
theorem dX6_rank_4 : decode cX6_rank 4 = .ok (.iconst 1, 1) := by decide +kernel
theorem dX6_rank_5 : decode cX6_rank 5 = .ok (.istore 4, 2) := by decide +kernel
theorem dX6_rank_7 : decode cX6_rank 7 = .ok (.iload 4, 2) := by decide +kernel
theorem dX6_rank_9 : decode cX6_rank 9 = .ok (.iload_n 1, 1) := by decide +kernel
theorem dX6_rank_10 : decode cX6_rank 10 = .ok (.if_icmp .gt 60, 3) := by decide +kernel
theorem dX6_rank_13 : decode cX6_rank 13 = .ok (.iload_n 0, 1) := by decide +kernel
theorem dX6_rank_14 : decode cX6_rank 14 = .ok (.iload 4, 2) := by decide +kernel
theorem dX6_rank_16 : decode cX6_rank 16 = .ok (.invokestatic 13, 3) := by decide +kernel
theorem dX6_rank_19 : decode cX6_rank 19 = .ok (.istore 5, 2) := by decide +kernel
theorem dX6_rank_21 : decode cX6_rank 21 = .ok (.iload 5, 2) := by decide +kernel
theorem dX6_rank_23 : decode cX6_rank 23 = .ok (.invokestatic 23, 3) := by decide +kernel
theorem dX6_rank_26 : decode cX6_rank 26 = .ok (.iconst 1, 1) := by decide +kernel
theorem dX6_rank_27 : decode cX6_rank 27 = .ok (.isub, 1) := by decide +kernel
theorem dX6_rank_28 : decode cX6_rank 28 = .ok (.istore 6, 2) := by decide +kernel
theorem dX6_rank_30 : decode cX6_rank 30 = .ok (.iload 5, 2) := by decide +kernel
theorem dX6_rank_32 : decode cX6_rank 32 = .ok (.iconst 1, 1) := by decide +kernel
theorem dX6_rank_33 : decode cX6_rank 33 = .ok (.isub, 1) := by decide +kernel
theorem dX6_rank_34 : decode cX6_rank 34 = .ok (.iload_n 3, 1) := by decide +kernel
theorem dX6_rank_35 : decode cX6_rank 35 = .ok (.iload 6, 2) := by decide +kernel
theorem dX6_rank_37 : decode cX6_rank 37 = .ok (.iand, 1) := by decide +kernel
theorem dX6_rank_38 : decode cX6_rank 38 = .ok (.invokestatic 27, 3) := by decide +kernel
theorem dX6_rank_41 : decode cX6_rank 41 = .ok (.isub, 1) := by decide +kernel
theorem dX6_rank_42 : decode cX6_rank 42 = .ok (.istore 7, 2) := by decide +kernel
theorem dX6_rank_44 : decode cX6_rank 44 = .ok (.iload_n 2, 1) := by decide +kernel
theorem dX6_rank_45 : decode cX6_rank 45 = .ok (.iload_n 1, 1) := by decide +kernel
theorem dX6_rank_46 : decode cX6_rank 46 = .ok (.iload 4, 2) := by decide +kernel
theorem dX6_rank_48 : decode cX6_rank 48 = .ok (.isub, 1) := by decide +kernel
theorem dX6_rank_49 : decode cX6_rank 49 = .ok (.iconst 1, 1) := by decide +kernel
theorem dX6_rank_50 : decode cX6_rank 50 = .ok (.iadd, 1) := by decide +kernel
theorem dX6_rank_51 : decode cX6_rank 51 = .ok (.imul, 1) := by decide +kernel
theorem dX6_rank_52 : decode cX6_rank 52 = .ok (.iload 7, 2) := by decide +kernel
theorem dX6_rank_54 : decode cX6_rank 54 = .ok (.iadd, 1) := by decide +kernel
theorem dX6_rank_55 : decode cX6_rank 55 = .ok (.istore_n 2, 1) := by decide +kernel
theorem dX6_rank_56 : decode cX6_rank 56 = .ok (.iload_n 3, 1) := by decide +kernel
theorem dX6_rank_57 : decode cX6_rank 57 = .ok (.iload 5, 2) := by decide +kernel
theorem dX6_rank_59 : decode cX6_rank 59 = .ok (.invokestatic 23, 3) := by decide +kernel
theorem dX6_rank_62 : decode cX6_rank 62 = .ok (.ior, 1) := by decide +kernel
theorem dX6_rank_63 : decode cX6_rank 63 = .ok (.istore_n 3, 1) := by decide +kernel
theorem dX6_rank_64 : decode cX6_rank 64 = .ok (.iinc 4 1, 3) := by decide +kernel
theorem dX6_rank_67 : decode cX6_rank 67 = .ok (.goto (-60), 3) := by decide +kernel
theorem dX6_rank_70 : decode cX6_rank 70 = .ok (.iload_n 2, 1) := by decide +kernel
theorem dX6_rank_71 : decode cX6_rank 71 = .ok (.ireturn, 1) := by decide +kernel
theorem dX6_signByPairs_0 : decode cX6_signByPairs 0 = .ok (.iconst 0, 1) := by decide +kernel
theorem dX6_signByPairs_1 : decode cX6_signByPairs 1 = .ok (.istore_n 2, 1) := by decide +kernel
theorem dX6_signByPairs_2 : decode cX6_signByPairs 2 = .ok (.iconst 1, 1) := by decide +kernel
theorem dX6_signByPairs_3 : decode cX6_signByPairs 3 = .ok (.istore_n 3, 1) := by decide +kernel
theorem dX6_signByPairs_4 : decode cX6_signByPairs 4 = .ok (.iload_n 3, 1) := by decide +kernel
theorem dX6_signByPairs_5 : decode cX6_signByPairs 5 = .ok (.iload_n 1, 1) := by decide +kernel
theorem dX6_signByPairs_6 : decode cX6_signByPairs 6 = .ok (.if_icmp .gt 43, 3) := by decide +kernel
theorem dX6_signByPairs_9 : decode cX6_signByPairs 9 = .ok (.iload_n 3, 1) := by decide +kernel
theorem dX6_signByPairs_10 : decode cX6_signByPairs 10 = .ok (.iconst 1, 1) := by decide +kernel
theorem dX6_signByPairs_11 : decode cX6_signByPairs 11 = .ok (.iadd, 1) := by decide +kernel
theorem dX6_signByPairs_12 : decode cX6_signByPairs 12 = .ok (.istore 4, 2) := by decide +kernel
theorem dX6_signByPairs_14 : decode cX6_signByPairs 14 = .ok (.iload 4, 2) := by decide +kernel
theorem dX6_signByPairs_16 : decode cX6_signByPairs 16 = .ok (.iload_n 1, 1) := by decide +kernel
theorem dX6_signByPairs_17 : decode cX6_signByPairs 17 = .ok (.if_icmp .gt 26, 3) := by decide +kernel
theorem dX6_signByPairs_20 : decode cX6_signByPairs 20 = .ok (.iload_n 0, 1) := by decide +kernel
theorem dX6_signByPairs_21 : decode cX6_signByPairs 21 = .ok (.iload_n 3, 1) := by decide +kernel
theorem dX6_signByPairs_22 : decode cX6_signByPairs 22 = .ok (.invokestatic 13, 3) := by decide +kernel
theorem dX6_signByPairs_25 : decode cX6_signByPairs 25 = .ok (.iload_n 0, 1) := by decide +kernel
theorem dX6_signByPairs_26 : decode cX6_signByPairs 26 = .ok (.iload 4, 2) := by decide +kernel
theorem dX6_signByPairs_28 : decode cX6_signByPairs 28 = .ok (.invokestatic 13, 3) := by decide +kernel
theorem dX6_signByPairs_31 : decode cX6_signByPairs 31 = .ok (.if_icmp .le 6, 3) := by decide +kernel
theorem dX6_signByPairs_34 : decode cX6_signByPairs 34 = .ok (.iinc 2 1, 3) := by decide +kernel
theorem dX6_signByPairs_37 : decode cX6_signByPairs 37 = .ok (.iinc 4 1, 3) := by decide +kernel
theorem dX6_signByPairs_40 : decode cX6_signByPairs 40 = .ok (.goto (-26), 3) := by decide +kernel
theorem dX6_signByPairs_43 : decode cX6_signByPairs 43 = .ok (.iinc 3 1, 3) := by decide +kernel
theorem dX6_signByPairs_46 : decode cX6_signByPairs 46 = .ok (.goto (-42), 3) := by decide +kernel
theorem dX6_signByPairs_49 : decode cX6_signByPairs 49 = .ok (.iload_n 2, 1) := by decide +kernel
theorem dX6_signByPairs_50 : decode cX6_signByPairs 50 = .ok (.iconst 2, 1) := by decide +kernel
theorem dX6_signByPairs_51 : decode cX6_signByPairs 51 = .ok (.irem, 1) := by decide +kernel
theorem dX6_signByPairs_52 : decode cX6_signByPairs 52 = .ok (.ireturn, 1) := by decide +kernel
theorem dX6_signByCycles_0 : decode cX6_signByCycles 0 = .ok (.iconst 0, 1) := by decide +kernel
theorem dX6_signByCycles_1 : decode cX6_signByCycles 1 = .ok (.istore_n 2, 1) := by decide +kernel
theorem dX6_signByCycles_2 : decode cX6_signByCycles 2 = .ok (.iconst 0, 1) := by decide +kernel
theorem dX6_signByCycles_3 : decode cX6_signByCycles 3 = .ok (.istore_n 3, 1) := by decide +kernel
theorem dX6_signByCycles_4 : decode cX6_signByCycles 4 = .ok (.iconst 1, 1) := by decide +kernel
theorem dX6_signByCycles_5 : decode cX6_signByCycles 5 = .ok (.istore 4, 2) := by decide +kernel
theorem dX6_signByCycles_7 : decode cX6_signByCycles 7 = .ok (.iload 4, 2) := by decide +kernel
theorem dX6_signByCycles_9 : decode cX6_signByCycles 9 = .ok (.iload_n 1, 1) := by decide +kernel
theorem dX6_signByCycles_10 : decode cX6_signByCycles 10 = .ok (.if_icmp .gt 67, 3) := by decide +kernel
theorem dX6_signByCycles_13 : decode cX6_signByCycles 13 = .ok (.iload_n 0, 1) := by decide +kernel
theorem dX6_signByCycles_14 : decode cX6_signByCycles 14 = .ok (.iload 4, 2) := by decide +kernel
theorem dX6_signByCycles_16 : decode cX6_signByCycles 16 = .ok (.invokestatic 13, 3) := by decide +kernel
theorem dX6_signByCycles_19 : decode cX6_signByCycles 19 = .ok (.istore 5, 2) := by decide +kernel
theorem dX6_signByCycles_21 : decode cX6_signByCycles 21 = .ok (.iconst 0, 1) := by decide +kernel
theorem dX6_signByCycles_22 : decode cX6_signByCycles 22 = .ok (.istore 6, 2) := by decide +kernel
theorem dX6_signByCycles_24 : decode cX6_signByCycles 24 = .ok (.iload 6, 2) := by decide +kernel
theorem dX6_signByCycles_26 : decode cX6_signByCycles 26 = .ok (.iload_n 1, 1) := by decide +kernel
theorem dX6_signByCycles_27 : decode cX6_signByCycles 27 = .ok (.if_icmp .ge 44, 3) := by decide +kernel
theorem dX6_signByCycles_30 : decode cX6_signByCycles 30 = .ok (.iload 5, 2) := by decide +kernel
theorem dX6_signByCycles_32 : decode cX6_signByCycles 32 = .ok (.iload 4, 2) := by decide +kernel
theorem dX6_signByCycles_34 : decode cX6_signByCycles 34 = .ok (.if_icmp .eq 37, 3) := by decide +kernel
theorem dX6_signByCycles_37 : decode cX6_signByCycles 37 = .ok (.iload_n 2, 1) := by decide +kernel
theorem dX6_signByCycles_38 : decode cX6_signByCycles 38 = .ok (.iload 4, 2) := by decide +kernel
theorem dX6_signByCycles_40 : decode cX6_signByCycles 40 = .ok (.invokestatic 17, 3) := by decide +kernel
theorem dX6_signByCycles_43 : decode cX6_signByCycles 43 = .ok (.ifCond .ne 28, 3) := by decide +kernel
theorem dX6_signByCycles_46 : decode cX6_signByCycles 46 = .ok (.iload_n 2, 1) := by decide +kernel
theorem dX6_signByCycles_47 : decode cX6_signByCycles 47 = .ok (.iload 5, 2) := by decide +kernel
theorem dX6_signByCycles_49 : decode cX6_signByCycles 49 = .ok (.invokestatic 23, 3) := by decide +kernel
theorem dX6_signByCycles_52 : decode cX6_signByCycles 52 = .ok (.ior, 1) := by decide +kernel
theorem dX6_signByCycles_53 : decode cX6_signByCycles 53 = .ok (.istore_n 2, 1) := by decide +kernel
theorem dX6_signByCycles_54 : decode cX6_signByCycles 54 = .ok (.iinc 3 1, 3) := by decide +kernel
theorem dX6_signByCycles_57 : decode cX6_signByCycles 57 = .ok (.iload_n 0, 1) := by decide +kernel
theorem dX6_signByCycles_58 : decode cX6_signByCycles 58 = .ok (.iload 5, 2) := by decide +kernel
theorem dX6_signByCycles_60 : decode cX6_signByCycles 60 = .ok (.invokestatic 13, 3) := by decide +kernel
theorem dX6_signByCycles_63 : decode cX6_signByCycles 63 = .ok (.istore 5, 2) := by decide +kernel
theorem dX6_signByCycles_65 : decode cX6_signByCycles 65 = .ok (.iinc 6 1, 3) := by decide +kernel
theorem dX6_signByCycles_68 : decode cX6_signByCycles 68 = .ok (.goto (-44), 3) := by decide +kernel
theorem dX6_signByCycles_71 : decode cX6_signByCycles 71 = .ok (.iinc 4 1, 3) := by decide +kernel
theorem dX6_signByCycles_74 : decode cX6_signByCycles 74 = .ok (.goto (-67), 3) := by decide +kernel
theorem dX6_signByCycles_77 : decode cX6_signByCycles 77 = .ok (.iload_n 3, 1) := by decide +kernel
theorem dX6_signByCycles_78 : decode cX6_signByCycles 78 = .ok (.iconst 2, 1) := by decide +kernel
theorem dX6_signByCycles_79 : decode cX6_signByCycles 79 = .ok (.irem, 1) := by decide +kernel
theorem dX6_signByCycles_80 : decode cX6_signByCycles 80 = .ok (.ireturn, 1) := by decide +kernel
theorem dX6_soundsWell_0 : decode cX6_soundsWell 0 = .ok (.iload_n 0, 1) := by decide +kernel
theorem dX6_soundsWell_1 : decode cX6_soundsWell 1 = .ok (.iload_n 1, 1) := by decide +kernel
theorem dX6_soundsWell_2 : decode cX6_soundsWell 2 = .ok (.iconst 2, 1) := by decide +kernel
theorem dX6_soundsWell_3 : decode cX6_soundsWell 3 = .ok (.isub, 1) := by decide +kernel
theorem dX6_soundsWell_4 : decode cX6_soundsWell 4 = .ok (.invokestatic 13, 3) := by decide +kernel
theorem dX6_soundsWell_7 : decode cX6_soundsWell 7 = .ok (.istore_n 2, 1) := by decide +kernel
theorem dX6_soundsWell_8 : decode cX6_soundsWell 8 = .ok (.iload_n 0, 1) := by decide +kernel
theorem dX6_soundsWell_9 : decode cX6_soundsWell 9 = .ok (.iload_n 1, 1) := by decide +kernel
theorem dX6_soundsWell_10 : decode cX6_soundsWell 10 = .ok (.iconst 1, 1) := by decide +kernel
theorem dX6_soundsWell_11 : decode cX6_soundsWell 11 = .ok (.isub, 1) := by decide +kernel
theorem dX6_soundsWell_12 : decode cX6_soundsWell 12 = .ok (.invokestatic 13, 3) := by decide +kernel
theorem dX6_soundsWell_15 : decode cX6_soundsWell 15 = .ok (.istore_n 3, 1) := by decide +kernel
theorem dX6_soundsWell_16 : decode cX6_soundsWell 16 = .ok (.iload_n 2, 1) := by decide +kernel
theorem dX6_soundsWell_17 : decode cX6_soundsWell 17 = .ok (.iload_n 3, 1) := by decide +kernel
theorem dX6_soundsWell_18 : decode cX6_soundsWell 18 = .ok (.if_icmp .ge 16, 3) := by decide +kernel
theorem dX6_soundsWell_21 : decode cX6_soundsWell 21 = .ok (.iload_n 3, 1) := by decide +kernel
theorem dX6_soundsWell_22 : decode cX6_soundsWell 22 = .ok (.iload_n 0, 1) := by decide +kernel
theorem dX6_soundsWell_23 : decode cX6_soundsWell 23 = .ok (.iload_n 1, 1) := by decide +kernel
theorem dX6_soundsWell_24 : decode cX6_soundsWell 24 = .ok (.invokestatic 13, 3) := by decide +kernel
theorem dX6_soundsWell_27 : decode cX6_soundsWell 27 = .ok (.if_icmp .ge 7, 3) := by decide +kernel
theorem dX6_soundsWell_30 : decode cX6_soundsWell 30 = .ok (.iconst 1, 1) := by decide +kernel
theorem dX6_soundsWell_31 : decode cX6_soundsWell 31 = .ok (.goto 4, 3) := by decide +kernel
theorem dX6_soundsWell_34 : decode cX6_soundsWell 34 = .ok (.iconst 0, 1) := by decide +kernel
theorem dX6_soundsWell_35 : decode cX6_soundsWell 35 = .ok (.ireturn, 1) := by decide +kernel
theorem dX6_bellsInPlace_0 : decode cX6_bellsInPlace 0 = .ok (.iconst 0, 1) := by decide +kernel
theorem dX6_bellsInPlace_1 : decode cX6_bellsInPlace 1 = .ok (.istore_n 2, 1) := by decide +kernel
theorem dX6_bellsInPlace_2 : decode cX6_bellsInPlace 2 = .ok (.iconst 1, 1) := by decide +kernel
theorem dX6_bellsInPlace_3 : decode cX6_bellsInPlace 3 = .ok (.istore_n 3, 1) := by decide +kernel
theorem dX6_bellsInPlace_4 : decode cX6_bellsInPlace 4 = .ok (.iload_n 3, 1) := by decide +kernel
theorem dX6_bellsInPlace_5 : decode cX6_bellsInPlace 5 = .ok (.iload_n 1, 1) := by decide +kernel
theorem dX6_bellsInPlace_6 : decode cX6_bellsInPlace 6 = .ok (.if_icmp .gt 21, 3) := by decide +kernel
theorem dX6_bellsInPlace_9 : decode cX6_bellsInPlace 9 = .ok (.iload_n 0, 1) := by decide +kernel
theorem dX6_bellsInPlace_10 : decode cX6_bellsInPlace 10 = .ok (.iload_n 3, 1) := by decide +kernel
theorem dX6_bellsInPlace_11 : decode cX6_bellsInPlace 11 = .ok (.invokestatic 13, 3) := by decide +kernel
theorem dX6_bellsInPlace_14 : decode cX6_bellsInPlace 14 = .ok (.iload_n 3, 1) := by decide +kernel
theorem dX6_bellsInPlace_15 : decode cX6_bellsInPlace 15 = .ok (.if_icmp .ne 6, 3) := by decide +kernel
theorem dX6_bellsInPlace_18 : decode cX6_bellsInPlace 18 = .ok (.iinc 2 1, 3) := by decide +kernel
theorem dX6_bellsInPlace_21 : decode cX6_bellsInPlace 21 = .ok (.iinc 3 1, 3) := by decide +kernel
theorem dX6_bellsInPlace_24 : decode cX6_bellsInPlace 24 = .ok (.goto (-20), 3) := by decide +kernel
theorem dX6_bellsInPlace_27 : decode cX6_bellsInPlace 27 = .ok (.iload_n 2, 1) := by decide +kernel
theorem dX6_bellsInPlace_28 : decode cX6_bellsInPlace 28 = .ok (.ireturn, 1) := by decide +kernel
theorem dX7_init_0 : decode cX7_init 0 = .ok (.aload_n 0, 1) := by decide +kernel
theorem dX7_init_1 : decode cX7_init 1 = .ok (.invokespecial 3, 3) := by decide +kernel
theorem dX7_init_4 : decode cX7_init 4 = .ok (.aload_n 0, 1) := by decide +kernel
theorem dX7_init_5 : decode cX7_init 5 = .ok (.sipush 5040, 3) := by decide +kernel
theorem dX7_init_8 : decode cX7_init 8 = .ok (.newarray .int, 2) := by decide +kernel
theorem dX7_init_10 : decode cX7_init 10 = .ok (.putfield 9, 3) := by decide +kernel
theorem dX7_init_13 : decode cX7_init 13 = .ok (.aload_n 0, 1) := by decide +kernel
theorem dX7_init_14 : decode cX7_init 14 = .ok (.sipush 5040, 3) := by decide +kernel
theorem dX7_init_17 : decode cX7_init 17 = .ok (.newarray .int, 2) := by decide +kernel
theorem dX7_init_19 : decode cX7_init 19 = .ok (.putfield 15, 3) := by decide +kernel
theorem dX7_init_22 : decode cX7_init 22 = .ok (.return_, 1) := by decide +kernel
theorem dX7_from_0 : decode cX7_from 0 = .ok (.aload_n 0, 1) := by decide +kernel
theorem dX7_from_1 : decode cX7_from 1 = .ok (.iload 4, 2) := by decide +kernel
theorem dX7_from_3 : decode cX7_from 3 = .ok (.putfield 18, 3) := by decide +kernel
theorem dX7_from_6 : decode cX7_from 6 = .ok (.aload_n 0, 1) := by decide +kernel
theorem dX7_from_7 : decode cX7_from 7 = .ok (.iconst 0, 1) := by decide +kernel
theorem dX7_from_8 : decode cX7_from 8 = .ok (.putfield 22, 3) := by decide +kernel
theorem dX7_from_11 : decode cX7_from 11 = .ok (.aload_n 0, 1) := by decide +kernel
theorem dX7_from_12 : decode cX7_from 12 = .ok (.getfield 9, 3) := by decide +kernel
theorem dX7_from_15 : decode cX7_from 15 = .ok (.bipush (-4), 2) := by decide +kernel
theorem dX7_from_17 : decode cX7_from 17 = .ok (.invokestatic 25, 3) := by decide +kernel
theorem dX7_from_20 : decode cX7_from 20 = .ok (.aload_n 0, 1) := by decide +kernel
theorem dX7_from_21 : decode cX7_from 21 = .ok (.iload_n 1, 1) := by decide +kernel
theorem dX7_from_22 : decode cX7_from 22 = .ok (.iconst 0, 1) := by decide +kernel
theorem dX7_from_23 : decode cX7_from 23 = .ok (.invokevirtual 31, 3) := by decide +kernel
theorem dX7_from_26 : decode cX7_from 26 = .ok (.iconst 0, 1) := by decide +kernel
theorem dX7_from_27 : decode cX7_from 27 = .ok (.istore 5, 2) := by decide +kernel
theorem dX7_from_29 : decode cX7_from 29 = .ok (.iload 5, 2) := by decide +kernel
theorem dX7_from_31 : decode cX7_from 31 = .ok (.aload_n 0, 1) := by decide +kernel
theorem dX7_from_32 : decode cX7_from 32 = .ok (.getfield 22, 3) := by decide +kernel
theorem dX7_from_35 : decode cX7_from 35 = .ok (.if_icmp .ge 78, 3) := by decide +kernel
theorem dX7_from_38 : decode cX7_from 38 = .ok (.iload 5, 2) := by decide +kernel
theorem dX7_from_40 : decode cX7_from 40 = .ok (.aload_n 0, 1) := by decide +kernel
theorem dX7_from_41 : decode cX7_from 41 = .ok (.getfield 15, 3) := by decide +kernel
theorem dX7_from_44 : decode cX7_from 44 = .ok (.arraylength, 1) := by decide +kernel
theorem dX7_from_45 : decode cX7_from 45 = .ok (.if_icmp .ge 68, 3) := by decide +kernel
theorem dX7_from_48 : decode cX7_from 48 = .ok (.aload_n 0, 1) := by decide +kernel
theorem dX7_from_49 : decode cX7_from 49 = .ok (.getfield 15, 3) := by decide +kernel
theorem dX7_from_52 : decode cX7_from 52 = .ok (.iload 5, 2) := by decide +kernel
theorem dX7_from_54 : decode cX7_from 54 = .ok (.iaload, 1) := by decide +kernel
theorem dX7_from_55 : decode cX7_from 55 = .ok (.istore 6, 2) := by decide +kernel
theorem dX7_from_57 : decode cX7_from 57 = .ok (.iload 6, 2) := by decide +kernel
theorem dX7_from_59 : decode cX7_from 59 = .ok (.iload_n 2, 1) := by decide +kernel
theorem dX7_from_60 : decode cX7_from 60 = .ok (.if_icmp .ne 4, 3) := by decide +kernel
theorem dX7_from_63 : decode cX7_from 63 = .ok (.return_, 1) := by decide +kernel
theorem dX7_from_64 : decode cX7_from 64 = .ok (.aload_n 0, 1) := by decide +kernel
theorem dX7_from_65 : decode cX7_from 65 = .ok (.iload 6, 2) := by decide +kernel
theorem dX7_from_67 : decode cX7_from 67 = .ok (.invokevirtual 35, 3) := by decide +kernel
theorem dX7_from_70 : decode cX7_from 70 = .ok (.iconst 1, 1) := by decide +kernel
theorem dX7_from_71 : decode cX7_from 71 = .ok (.iadd, 1) := by decide +kernel
theorem dX7_from_72 : decode cX7_from 72 = .ok (.istore 7, 2) := by decide +kernel
theorem dX7_from_74 : decode cX7_from 74 = .ok (.iconst 0, 1) := by decide +kernel
theorem dX7_from_75 : decode cX7_from 75 = .ok (.istore 8, 2) := by decide +kernel
theorem dX7_from_77 : decode cX7_from 77 = .ok (.iload 8, 2) := by decide +kernel
theorem dX7_from_79 : decode cX7_from 79 = .ok (.aload_n 3, 1) := by decide +kernel
theorem dX7_from_80 : decode cX7_from 80 = .ok (.arraylength, 1) := by decide +kernel
theorem dX7_from_81 : decode cX7_from 81 = .ok (.if_icmp .ge 26, 3) := by decide +kernel
theorem dX7_from_84 : decode cX7_from 84 = .ok (.aload_n 0, 1) := by decide +kernel
theorem dX7_from_85 : decode cX7_from 85 = .ok (.iload 6, 2) := by decide +kernel
theorem dX7_from_87 : decode cX7_from 87 = .ok (.aload_n 3, 1) := by decide +kernel
theorem dX7_from_88 : decode cX7_from 88 = .ok (.iload 8, 2) := by decide +kernel
theorem dX7_from_90 : decode cX7_from 90 = .ok (.iaload, 1) := by decide +kernel
theorem dX7_from_91 : decode cX7_from 91 = .ok (.iload 4, 2) := by decide +kernel
theorem dX7_from_93 : decode cX7_from 93 = .ok (.invokestatic 39, 3) := by decide +kernel
theorem dX7_from_96 : decode cX7_from 96 = .ok (.iload 7, 2) := by decide +kernel
theorem dX7_from_98 : decode cX7_from 98 = .ok (.invokevirtual 31, 3) := by decide +kernel
theorem dX7_from_101 : decode cX7_from 101 = .ok (.iinc 8 1, 3) := by decide +kernel
theorem dX7_from_104 : decode cX7_from 104 = .ok (.goto (-27), 3) := by decide +kernel
theorem dX7_from_107 : decode cX7_from 107 = .ok (.iinc 5 1, 3) := by decide +kernel
theorem dX7_from_110 : decode cX7_from 110 = .ok (.goto (-81), 3) := by decide +kernel
theorem dX7_from_113 : decode cX7_from 113 = .ok (.return_, 1) := by decide +kernel
theorem dX7_reach_0 : decode cX7_reach 0 = .ok (.iload_n 1, 1) := by decide +kernel
theorem dX7_reach_1 : decode cX7_reach 1 = .ok (.aload_n 0, 1) := by decide +kernel
theorem dX7_reach_2 : decode cX7_reach 2 = .ok (.getfield 18, 3) := by decide +kernel
theorem dX7_reach_5 : decode cX7_reach 5 = .ok (.invokestatic 45, 3) := by decide +kernel
theorem dX7_reach_8 : decode cX7_reach 8 = .ok (.istore_n 3, 1) := by decide +kernel
theorem dX7_reach_9 : decode cX7_reach 9 = .ok (.iload_n 3, 1) := by decide +kernel
theorem dX7_reach_10 : decode cX7_reach 10 = .ok (.ifCond .lt 23, 3) := by decide +kernel
theorem dX7_reach_13 : decode cX7_reach 13 = .ok (.iload_n 3, 1) := by decide +kernel
theorem dX7_reach_14 : decode cX7_reach 14 = .ok (.aload_n 0, 1) := by decide +kernel
theorem dX7_reach_15 : decode cX7_reach 15 = .ok (.getfield 9, 3) := by decide +kernel
theorem dX7_reach_18 : decode cX7_reach 18 = .ok (.arraylength, 1) := by decide +kernel
theorem dX7_reach_19 : decode cX7_reach 19 = .ok (.if_icmp .ge 14, 3) := by decide +kernel
theorem dX7_reach_22 : decode cX7_reach 22 = .ok (.aload_n 0, 1) := by decide +kernel
theorem dX7_reach_23 : decode cX7_reach 23 = .ok (.getfield 9, 3) := by decide +kernel
theorem dX7_reach_26 : decode cX7_reach 26 = .ok (.iload_n 3, 1) := by decide +kernel
theorem dX7_reach_27 : decode cX7_reach 27 = .ok (.iaload, 1) := by decide +kernel
theorem dX7_reach_28 : decode cX7_reach 28 = .ok (.bipush (-4), 2) := by decide +kernel
theorem dX7_reach_30 : decode cX7_reach 30 = .ok (.if_icmp .eq 4, 3) := by decide +kernel
theorem dX7_reach_33 : decode cX7_reach 33 = .ok (.return_, 1) := by decide +kernel
theorem dX7_reach_34 : decode cX7_reach 34 = .ok (.aload_n 0, 1) := by decide +kernel
theorem dX7_reach_35 : decode cX7_reach 35 = .ok (.getfield 9, 3) := by decide +kernel
theorem dX7_reach_38 : decode cX7_reach 38 = .ok (.iload_n 3, 1) := by decide +kernel
theorem dX7_reach_39 : decode cX7_reach 39 = .ok (.iload_n 2, 1) := by decide +kernel
theorem dX7_reach_40 : decode cX7_reach 40 = .ok (.iastore, 1) := by decide +kernel
theorem dX7_reach_41 : decode cX7_reach 41 = .ok (.aload_n 0, 1) := by decide +kernel
theorem dX7_reach_42 : decode cX7_reach 42 = .ok (.getfield 22, 3) := by decide +kernel
theorem dX7_reach_45 : decode cX7_reach 45 = .ok (.ifCond .lt 35, 3) := by decide +kernel
theorem dX7_reach_48 : decode cX7_reach 48 = .ok (.aload_n 0, 1) := by decide +kernel
theorem dX7_reach_49 : decode cX7_reach 49 = .ok (.getfield 22, 3) := by decide +kernel
theorem dX7_reach_52 : decode cX7_reach 52 = .ok (.aload_n 0, 1) := by decide +kernel
theorem dX7_reach_53 : decode cX7_reach 53 = .ok (.getfield 15, 3) := by decide +kernel
theorem dX7_reach_56 : decode cX7_reach 56 = .ok (.arraylength, 1) := by decide +kernel
theorem dX7_reach_57 : decode cX7_reach 57 = .ok (.if_icmp .ge 23, 3) := by decide +kernel
theorem dX7_reach_60 : decode cX7_reach 60 = .ok (.aload_n 0, 1) := by decide +kernel
theorem dX7_reach_61 : decode cX7_reach 61 = .ok (.getfield 15, 3) := by decide +kernel
theorem dX7_reach_64 : decode cX7_reach 64 = .ok (.aload_n 0, 1) := by decide +kernel
theorem dX7_reach_65 : decode cX7_reach 65 = .ok (.getfield 22, 3) := by decide +kernel
theorem dX7_reach_68 : decode cX7_reach 68 = .ok (.iload_n 1, 1) := by decide +kernel
theorem dX7_reach_69 : decode cX7_reach 69 = .ok (.iastore, 1) := by decide +kernel
theorem dX7_reach_70 : decode cX7_reach 70 = .ok (.aload_n 0, 1) := by decide +kernel
theorem dX7_reach_71 : decode cX7_reach 71 = .ok (.dup, 1) := by decide +kernel
theorem dX7_reach_72 : decode cX7_reach 72 = .ok (.getfield 22, 3) := by decide +kernel
theorem dX7_reach_75 : decode cX7_reach 75 = .ok (.iconst 1, 1) := by decide +kernel
theorem dX7_reach_76 : decode cX7_reach 76 = .ok (.iadd, 1) := by decide +kernel
theorem dX7_reach_77 : decode cX7_reach 77 = .ok (.putfield 22, 3) := by decide +kernel
theorem dX7_reach_80 : decode cX7_reach 80 = .ok (.return_, 1) := by decide +kernel
theorem dX7_fewestTo_0 : decode cX7_fewestTo 0 = .ok (.iload_n 1, 1) := by decide +kernel
theorem dX7_fewestTo_1 : decode cX7_fewestTo 1 = .ok (.aload_n 0, 1) := by decide +kernel
theorem dX7_fewestTo_2 : decode cX7_fewestTo 2 = .ok (.getfield 18, 3) := by decide +kernel
theorem dX7_fewestTo_5 : decode cX7_fewestTo 5 = .ok (.invokestatic 45, 3) := by decide +kernel
theorem dX7_fewestTo_8 : decode cX7_fewestTo 8 = .ok (.istore_n 2, 1) := by decide +kernel
theorem dX7_fewestTo_9 : decode cX7_fewestTo 9 = .ok (.iload_n 2, 1) := by decide +kernel
theorem dX7_fewestTo_10 : decode cX7_fewestTo 10 = .ok (.ifCond .lt 21, 3) := by decide +kernel
theorem dX7_fewestTo_13 : decode cX7_fewestTo 13 = .ok (.iload_n 2, 1) := by decide +kernel
theorem dX7_fewestTo_14 : decode cX7_fewestTo 14 = .ok (.aload_n 0, 1) := by decide +kernel
theorem dX7_fewestTo_15 : decode cX7_fewestTo 15 = .ok (.getfield 9, 3) := by decide +kernel
theorem dX7_fewestTo_18 : decode cX7_fewestTo 18 = .ok (.arraylength, 1) := by decide +kernel
theorem dX7_fewestTo_19 : decode cX7_fewestTo 19 = .ok (.if_icmp .ge 12, 3) := by decide +kernel
theorem dX7_fewestTo_22 : decode cX7_fewestTo 22 = .ok (.aload_n 0, 1) := by decide +kernel
theorem dX7_fewestTo_23 : decode cX7_fewestTo 23 = .ok (.getfield 9, 3) := by decide +kernel
theorem dX7_fewestTo_26 : decode cX7_fewestTo 26 = .ok (.iload_n 2, 1) := by decide +kernel
theorem dX7_fewestTo_27 : decode cX7_fewestTo 27 = .ok (.iaload, 1) := by decide +kernel
theorem dX7_fewestTo_28 : decode cX7_fewestTo 28 = .ok (.goto 5, 3) := by decide +kernel
theorem dX7_fewestTo_31 : decode cX7_fewestTo 31 = .ok (.bipush (-4), 2) := by decide +kernel
theorem dX7_fewestTo_33 : decode cX7_fewestTo 33 = .ok (.ireturn, 1) := by decide +kernel
theorem dX8_lead_0 : decode cX8_lead 0 = .ok (.iload_n 0, 1) := by decide +kernel
theorem dX8_lead_1 : decode cX8_lead 1 = .ok (.tableswitch 36 4 6 #[27, 30, 33], 27) := by decide +kernel
theorem dX8_lead_28 : decode cX8_lead 28 = .ok (.ldc 7, 2) := by decide +kernel
theorem dX8_lead_30 : decode cX8_lead 30 = .ok (.areturn, 1) := by decide +kernel
theorem dX8_lead_31 : decode cX8_lead 31 = .ok (.ldc 9, 2) := by decide +kernel
theorem dX8_lead_33 : decode cX8_lead 33 = .ok (.areturn, 1) := by decide +kernel
theorem dX8_lead_34 : decode cX8_lead 34 = .ok (.ldc 11, 2) := by decide +kernel
theorem dX8_lead_36 : decode cX8_lead 36 = .ok (.areturn, 1) := by decide +kernel
theorem dX8_lead_37 : decode cX8_lead 37 = .ok (.ldc 13, 2) := by decide +kernel
theorem dX8_lead_39 : decode cX8_lead 39 = .ok (.areturn, 1) := by decide +kernel
theorem dX8_bob_0 : decode cX8_bob 0 = .ok (.iload_n 0, 1) := by decide +kernel
theorem dX8_bob_1 : decode cX8_bob 1 = .ok (.lookupswitch 33 #[(5, 27), (7, 30)], 27) := by decide +kernel
theorem dX8_bob_28 : decode cX8_bob 28 = .ok (.ldc 15, 2) := by decide +kernel
theorem dX8_bob_30 : decode cX8_bob 30 = .ok (.areturn, 1) := by decide +kernel
theorem dX8_bob_31 : decode cX8_bob 31 = .ok (.ldc 17, 2) := by decide +kernel
theorem dX8_bob_33 : decode cX8_bob 33 = .ok (.areturn, 1) := by decide +kernel
theorem dX8_bob_34 : decode cX8_bob 34 = .ok (.ldc 19, 2) := by decide +kernel
theorem dX8_bob_36 : decode cX8_bob 36 = .ok (.areturn, 1) := by decide +kernel
theorem dX8_single_0 : decode cX8_single 0 = .ok (.iload_n 0, 1) := by decide +kernel
theorem dX8_single_1 : decode cX8_single 1 = .ok (.tableswitch 36 4 6 #[27, 30, 33], 27) := by decide +kernel
theorem dX8_single_28 : decode cX8_single 28 = .ok (.ldc 21, 2) := by decide +kernel
theorem dX8_single_30 : decode cX8_single 30 = .ok (.areturn, 1) := by decide +kernel
theorem dX8_single_31 : decode cX8_single 31 = .ok (.ldc 23, 2) := by decide +kernel
theorem dX8_single_33 : decode cX8_single 33 = .ok (.areturn, 1) := by decide +kernel
theorem dX8_single_34 : decode cX8_single 34 = .ok (.ldc 25, 2) := by decide +kernel
theorem dX8_single_36 : decode cX8_single 36 = .ok (.areturn, 1) := by decide +kernel
theorem dX8_single_37 : decode cX8_single 37 = .ok (.ldc 27, 2) := by decide +kernel
theorem dX8_single_39 : decode cX8_single 39 = .ok (.areturn, 1) := by decide +kernel
theorem dX9_init_0 : decode cX9_init 0 = .ok (.aload_n 0, 1) := by decide +kernel
theorem dX9_init_1 : decode cX9_init 1 = .ok (.invokespecial 3, 3) := by decide +kernel
theorem dX9_init_4 : decode cX9_init 4 = .ok (.aload_n 0, 1) := by decide +kernel
theorem dX9_init_5 : decode cX9_init 5 = .ok (.bipush 20, 2) := by decide +kernel
theorem dX9_init_7 : decode cX9_init 7 = .ok (.newarray .int, 2) := by decide +kernel
theorem dX9_init_9 : decode cX9_init 9 = .ok (.putfield 9, 3) := by decide +kernel
theorem dX9_init_12 : decode cX9_init 12 = .ok (.aload_n 0, 1) := by decide +kernel
theorem dX9_init_13 : decode cX9_init 13 = .ok (.bipush 17, 2) := by decide +kernel
theorem dX9_init_15 : decode cX9_init 15 = .ok (.newarray .int, 2) := by decide +kernel
theorem dX9_init_17 : decode cX9_init 17 = .ok (.putfield 15, 3) := by decide +kernel
theorem dX9_init_20 : decode cX9_init 20 = .ok (.return_, 1) := by decide +kernel
theorem dX9_become_0 : decode cX9_become 0 = .ok (.aload_n 0, 1) := by decide +kernel
theorem dX9_become_1 : decode cX9_become 1 = .ok (.aload_n 1, 1) := by decide +kernel
theorem dX9_become_2 : decode cX9_become 2 = .ok (.getfield 18, 3) := by decide +kernel
theorem dX9_become_5 : decode cX9_become 5 = .ok (.putfield 18, 3) := by decide +kernel
theorem dX9_become_8 : decode cX9_become 8 = .ok (.aload_n 0, 1) := by decide +kernel
theorem dX9_become_9 : decode cX9_become 9 = .ok (.aload_n 1, 1) := by decide +kernel
theorem dX9_become_10 : decode cX9_become 10 = .ok (.getfield 22, 3) := by decide +kernel
theorem dX9_become_13 : decode cX9_become 13 = .ok (.putfield 22, 3) := by decide +kernel
theorem dX9_become_16 : decode cX9_become 16 = .ok (.aload_n 0, 1) := by decide +kernel
theorem dX9_become_17 : decode cX9_become 17 = .ok (.aload_n 1, 1) := by decide +kernel
theorem dX9_become_18 : decode cX9_become 18 = .ok (.getfield 25, 3) := by decide +kernel
theorem dX9_become_21 : decode cX9_become 21 = .ok (.putfield 25, 3) := by decide +kernel
theorem dX9_become_24 : decode cX9_become 24 = .ok (.aload_n 0, 1) := by decide +kernel
theorem dX9_become_25 : decode cX9_become 25 = .ok (.aload_n 1, 1) := by decide +kernel
theorem dX9_become_26 : decode cX9_become 26 = .ok (.getfield 28, 3) := by decide +kernel
theorem dX9_become_29 : decode cX9_become 29 = .ok (.putfield 28, 3) := by decide +kernel
theorem dX9_become_32 : decode cX9_become 32 = .ok (.aload_n 0, 1) := by decide +kernel
theorem dX9_become_33 : decode cX9_become 33 = .ok (.aload_n 1, 1) := by decide +kernel
theorem dX9_become_34 : decode cX9_become 34 = .ok (.getfield 31, 3) := by decide +kernel
theorem dX9_become_37 : decode cX9_become 37 = .ok (.putfield 31, 3) := by decide +kernel
theorem dX9_become_40 : decode cX9_become 40 = .ok (.aload_n 1, 1) := by decide +kernel
theorem dX9_become_41 : decode cX9_become 41 = .ok (.getfield 9, 3) := by decide +kernel
theorem dX9_become_44 : decode cX9_become 44 = .ok (.iconst 0, 1) := by decide +kernel
theorem dX9_become_45 : decode cX9_become 45 = .ok (.aload_n 0, 1) := by decide +kernel
theorem dX9_become_46 : decode cX9_become 46 = .ok (.getfield 9, 3) := by decide +kernel
theorem dX9_become_49 : decode cX9_become 49 = .ok (.iconst 0, 1) := by decide +kernel
theorem dX9_become_50 : decode cX9_become 50 = .ok (.aload_n 0, 1) := by decide +kernel
theorem dX9_become_51 : decode cX9_become 51 = .ok (.getfield 9, 3) := by decide +kernel
theorem dX9_become_54 : decode cX9_become 54 = .ok (.arraylength, 1) := by decide +kernel
theorem dX9_become_55 : decode cX9_become 55 = .ok (.invokestatic 34, 3) := by decide +kernel
theorem dX9_become_58 : decode cX9_become 58 = .ok (.aload_n 1, 1) := by decide +kernel
theorem dX9_become_59 : decode cX9_become 59 = .ok (.getfield 15, 3) := by decide +kernel
theorem dX9_become_62 : decode cX9_become 62 = .ok (.iconst 0, 1) := by decide +kernel
theorem dX9_become_63 : decode cX9_become 63 = .ok (.aload_n 0, 1) := by decide +kernel
theorem dX9_become_64 : decode cX9_become 64 = .ok (.getfield 15, 3) := by decide +kernel
theorem dX9_become_67 : decode cX9_become 67 = .ok (.iconst 0, 1) := by decide +kernel
theorem dX9_become_68 : decode cX9_become 68 = .ok (.aload_n 0, 1) := by decide +kernel
theorem dX9_become_69 : decode cX9_become 69 = .ok (.getfield 15, 3) := by decide +kernel
theorem dX9_become_72 : decode cX9_become 72 = .ok (.arraylength, 1) := by decide +kernel
theorem dX9_become_73 : decode cX9_become 73 = .ok (.invokestatic 34, 3) := by decide +kernel
theorem dX9_become_76 : decode cX9_become 76 = .ok (.return_, 1) := by decide +kernel
theorem dX9_takeMethod_0 : decode cX9_takeMethod 0 = .ok (.aload_n 0, 1) := by decide +kernel
theorem dX9_takeMethod_1 : decode cX9_takeMethod 1 = .ok (.aload_n 1, 1) := by decide +kernel
theorem dX9_takeMethod_2 : decode cX9_takeMethod 2 = .ok (.getfield 40, 3) := by decide +kernel
theorem dX9_takeMethod_5 : decode cX9_takeMethod 5 = .ok (.putfield 22, 3) := by decide +kernel
theorem dX9_takeMethod_8 : decode cX9_takeMethod 8 = .ok (.aload_n 1, 1) := by decide +kernel
theorem dX9_takeMethod_9 : decode cX9_takeMethod 9 = .ok (.getfield 43, 3) := by decide +kernel
theorem dX9_takeMethod_12 : decode cX9_takeMethod 12 = .ok (.iconst 0, 1) := by decide +kernel
theorem dX9_takeMethod_13 : decode cX9_takeMethod 13 = .ok (.aload_n 0, 1) := by decide +kernel
theorem dX9_takeMethod_14 : decode cX9_takeMethod 14 = .ok (.getfield 9, 3) := by decide +kernel
theorem dX9_takeMethod_17 : decode cX9_takeMethod 17 = .ok (.iconst 0, 1) := by decide +kernel
theorem dX9_takeMethod_18 : decode cX9_takeMethod 18 = .ok (.aload_n 0, 1) := by decide +kernel
theorem dX9_takeMethod_19 : decode cX9_takeMethod 19 = .ok (.getfield 9, 3) := by decide +kernel
theorem dX9_takeMethod_22 : decode cX9_takeMethod 22 = .ok (.arraylength, 1) := by decide +kernel
theorem dX9_takeMethod_23 : decode cX9_takeMethod 23 = .ok (.invokestatic 34, 3) := by decide +kernel
theorem dX9_takeMethod_26 : decode cX9_takeMethod 26 = .ok (.return_, 1) := by decide +kernel
theorem dX9_addLead_0 : decode cX9_addLead 0 = .ok (.aload_n 0, 1) := by decide +kernel
theorem dX9_addLead_1 : decode cX9_addLead 1 = .ok (.getfield 31, 3) := by decide +kernel
theorem dX9_addLead_4 : decode cX9_addLead 4 = .ok (.ifCond .lt 35, 3) := by decide +kernel
theorem dX9_addLead_7 : decode cX9_addLead 7 = .ok (.aload_n 0, 1) := by decide +kernel
theorem dX9_addLead_8 : decode cX9_addLead 8 = .ok (.getfield 31, 3) := by decide +kernel
theorem dX9_addLead_11 : decode cX9_addLead 11 = .ok (.aload_n 0, 1) := by decide +kernel
theorem dX9_addLead_12 : decode cX9_addLead 12 = .ok (.getfield 15, 3) := by decide +kernel
theorem dX9_addLead_15 : decode cX9_addLead 15 = .ok (.arraylength, 1) := by decide +kernel
theorem dX9_addLead_16 : decode cX9_addLead 16 = .ok (.if_icmp .ge 23, 3) := by decide +kernel
theorem dX9_addLead_19 : decode cX9_addLead 19 = .ok (.aload_n 0, 1) := by decide +kernel
theorem dX9_addLead_20 : decode cX9_addLead 20 = .ok (.getfield 15, 3) := by decide +kernel
theorem dX9_addLead_23 : decode cX9_addLead 23 = .ok (.aload_n 0, 1) := by decide +kernel
theorem dX9_addLead_24 : decode cX9_addLead 24 = .ok (.getfield 31, 3) := by decide +kernel
theorem dX9_addLead_27 : decode cX9_addLead 27 = .ok (.iload_n 1, 1) := by decide +kernel
theorem dX9_addLead_28 : decode cX9_addLead 28 = .ok (.iastore, 1) := by decide +kernel
theorem dX9_addLead_29 : decode cX9_addLead 29 = .ok (.aload_n 0, 1) := by decide +kernel
theorem dX9_addLead_30 : decode cX9_addLead 30 = .ok (.dup, 1) := by decide +kernel
theorem dX9_addLead_31 : decode cX9_addLead 31 = .ok (.getfield 31, 3) := by decide +kernel
theorem dX9_addLead_34 : decode cX9_addLead 34 = .ok (.iconst 1, 1) := by decide +kernel
theorem dX9_addLead_35 : decode cX9_addLead 35 = .ok (.iadd, 1) := by decide +kernel
theorem dX9_addLead_36 : decode cX9_addLead 36 = .ok (.putfield 31, 3) := by decide +kernel
theorem dX9_addLead_39 : decode cX9_addLead 39 = .ok (.return_, 1) := by decide +kernel
theorem dX9_callLead_0 : decode cX9_callLead 0 = .ok (.iload_n 1, 1) := by decide +kernel
theorem dX9_callLead_1 : decode cX9_callLead 1 = .ok (.ifCond .lt 19, 3) := by decide +kernel
theorem dX9_callLead_4 : decode cX9_callLead 4 = .ok (.iload_n 1, 1) := by decide +kernel
theorem dX9_callLead_5 : decode cX9_callLead 5 = .ok (.aload_n 0, 1) := by decide +kernel
theorem dX9_callLead_6 : decode cX9_callLead 6 = .ok (.getfield 15, 3) := by decide +kernel
theorem dX9_callLead_9 : decode cX9_callLead 9 = .ok (.arraylength, 1) := by decide +kernel
theorem dX9_callLead_10 : decode cX9_callLead 10 = .ok (.if_icmp .ge 10, 3) := by decide +kernel
theorem dX9_callLead_13 : decode cX9_callLead 13 = .ok (.aload_n 0, 1) := by decide +kernel
theorem dX9_callLead_14 : decode cX9_callLead 14 = .ok (.getfield 15, 3) := by decide +kernel
theorem dX9_callLead_17 : decode cX9_callLead 17 = .ok (.iload_n 1, 1) := by decide +kernel
theorem dX9_callLead_18 : decode cX9_callLead 18 = .ok (.iload_n 2, 1) := by decide +kernel
theorem dX9_callLead_19 : decode cX9_callLead 19 = .ok (.iastore, 1) := by decide +kernel
theorem dX9_callLead_20 : decode cX9_callLead 20 = .ok (.return_, 1) := by decide +kernel
theorem dX9_kindOfLead_0 : decode cX9_kindOfLead 0 = .ok (.iload_n 1, 1) := by decide +kernel
theorem dX9_kindOfLead_1 : decode cX9_kindOfLead 1 = .ok (.ifCond .lt 21, 3) := by decide +kernel
theorem dX9_kindOfLead_4 : decode cX9_kindOfLead 4 = .ok (.iload_n 1, 1) := by decide +kernel
theorem dX9_kindOfLead_5 : decode cX9_kindOfLead 5 = .ok (.aload_n 0, 1) := by decide +kernel
theorem dX9_kindOfLead_6 : decode cX9_kindOfLead 6 = .ok (.getfield 15, 3) := by decide +kernel
theorem dX9_kindOfLead_9 : decode cX9_kindOfLead 9 = .ok (.arraylength, 1) := by decide +kernel
theorem dX9_kindOfLead_10 : decode cX9_kindOfLead 10 = .ok (.if_icmp .ge 12, 3) := by decide +kernel
theorem dX9_kindOfLead_13 : decode cX9_kindOfLead 13 = .ok (.aload_n 0, 1) := by decide +kernel
theorem dX9_kindOfLead_14 : decode cX9_kindOfLead 14 = .ok (.getfield 15, 3) := by decide +kernel
theorem dX9_kindOfLead_17 : decode cX9_kindOfLead 17 = .ok (.iload_n 1, 1) := by decide +kernel
theorem dX9_kindOfLead_18 : decode cX9_kindOfLead 18 = .ok (.iaload, 1) := by decide +kernel
theorem dX9_kindOfLead_19 : decode cX9_kindOfLead 19 = .ok (.goto 4, 3) := by decide +kernel
theorem dX9_kindOfLead_22 : decode cX9_kindOfLead 22 = .ok (.iconst 0, 1) := by decide +kernel
theorem dX9_kindOfLead_23 : decode cX9_kindOfLead 23 = .ok (.ireturn, 1) := by decide +kernel
theorem dX9_lastRow_0 : decode cX9_lastRow 0 = .ok (.aload_n 0, 1) := by decide +kernel
theorem dX9_lastRow_1 : decode cX9_lastRow 1 = .ok (.getfield 31, 3) := by decide +kernel
theorem dX9_lastRow_4 : decode cX9_lastRow 4 = .ok (.aload_n 0, 1) := by decide +kernel
theorem dX9_lastRow_5 : decode cX9_lastRow 5 = .ok (.getfield 22, 3) := by decide +kernel
theorem dX9_lastRow_8 : decode cX9_lastRow 8 = .ok (.imul, 1) := by decide +kernel
theorem dX9_lastRow_9 : decode cX9_lastRow 9 = .ok (.ireturn, 1) := by decide +kernel
theorem dX9_placesMade_0 : decode cX9_placesMade 0 = .ok (.iload_n 2, 1) := by decide +kernel
theorem dX9_placesMade_1 : decode cX9_placesMade 1 = .ok (.aload_n 0, 1) := by decide +kernel
theorem dX9_placesMade_2 : decode cX9_placesMade 2 = .ok (.getfield 22, 3) := by decide +kernel
theorem dX9_placesMade_5 : decode cX9_placesMade 5 = .ok (.iconst 1, 1) := by decide +kernel
theorem dX9_placesMade_6 : decode cX9_placesMade 6 = .ok (.isub, 1) := by decide +kernel
theorem dX9_placesMade_7 : decode cX9_placesMade 7 = .ok (.if_icmp .ne 13, 3) := by decide +kernel
theorem dX9_placesMade_10 : decode cX9_placesMade 10 = .ok (.iload_n 1, 1) := by decide +kernel
theorem dX9_placesMade_11 : decode cX9_placesMade 11 = .ok (.iconst 1, 1) := by decide +kernel
theorem dX9_placesMade_12 : decode cX9_placesMade 12 = .ok (.if_icmp .ne 8, 3) := by decide +kernel
theorem dX9_placesMade_15 : decode cX9_placesMade 15 = .ok (.aload_n 0, 1) := by decide +kernel
theorem dX9_placesMade_16 : decode cX9_placesMade 16 = .ok (.getfield 25, 3) := by decide +kernel
theorem dX9_placesMade_19 : decode cX9_placesMade 19 = .ok (.ireturn, 1) := by decide +kernel
theorem dX9_placesMade_20 : decode cX9_placesMade 20 = .ok (.iload_n 2, 1) := by decide +kernel
theorem dX9_placesMade_21 : decode cX9_placesMade 21 = .ok (.aload_n 0, 1) := by decide +kernel
theorem dX9_placesMade_22 : decode cX9_placesMade 22 = .ok (.getfield 22, 3) := by decide +kernel
theorem dX9_placesMade_25 : decode cX9_placesMade 25 = .ok (.iconst 1, 1) := by decide +kernel
theorem dX9_placesMade_26 : decode cX9_placesMade 26 = .ok (.isub, 1) := by decide +kernel
theorem dX9_placesMade_27 : decode cX9_placesMade 27 = .ok (.if_icmp .ne 13, 3) := by decide +kernel
theorem dX9_placesMade_30 : decode cX9_placesMade 30 = .ok (.iload_n 1, 1) := by decide +kernel
theorem dX9_placesMade_31 : decode cX9_placesMade 31 = .ok (.iconst 2, 1) := by decide +kernel
theorem dX9_placesMade_32 : decode cX9_placesMade 32 = .ok (.if_icmp .ne 8, 3) := by decide +kernel
theorem dX9_placesMade_35 : decode cX9_placesMade 35 = .ok (.aload_n 0, 1) := by decide +kernel
theorem dX9_placesMade_36 : decode cX9_placesMade 36 = .ok (.getfield 28, 3) := by decide +kernel
theorem dX9_placesMade_39 : decode cX9_placesMade 39 = .ok (.ireturn, 1) := by decide +kernel
theorem dX9_placesMade_40 : decode cX9_placesMade 40 = .ok (.iload_n 2, 1) := by decide +kernel
theorem dX9_placesMade_41 : decode cX9_placesMade 41 = .ok (.ifCond .lt 21, 3) := by decide +kernel
theorem dX9_placesMade_44 : decode cX9_placesMade 44 = .ok (.iload_n 2, 1) := by decide +kernel
theorem dX9_placesMade_45 : decode cX9_placesMade 45 = .ok (.aload_n 0, 1) := by decide +kernel
theorem dX9_placesMade_46 : decode cX9_placesMade 46 = .ok (.getfield 9, 3) := by decide +kernel
theorem dX9_placesMade_49 : decode cX9_placesMade 49 = .ok (.arraylength, 1) := by decide +kernel
theorem dX9_placesMade_50 : decode cX9_placesMade 50 = .ok (.if_icmp .ge 12, 3) := by decide +kernel
theorem dX9_placesMade_53 : decode cX9_placesMade 53 = .ok (.aload_n 0, 1) := by decide +kernel
theorem dX9_placesMade_54 : decode cX9_placesMade 54 = .ok (.getfield 9, 3) := by decide +kernel
theorem dX9_placesMade_57 : decode cX9_placesMade 57 = .ok (.iload_n 2, 1) := by decide +kernel
theorem dX9_placesMade_58 : decode cX9_placesMade 58 = .ok (.iaload, 1) := by decide +kernel
theorem dX9_placesMade_59 : decode cX9_placesMade 59 = .ok (.goto 4, 3) := by decide +kernel
theorem dX9_placesMade_62 : decode cX9_placesMade 62 = .ok (.iconst 0, 1) := by decide +kernel
theorem dX9_placesMade_63 : decode cX9_placesMade 63 = .ok (.ireturn, 1) := by decide +kernel
theorem dX9_calledLeads_0 : decode cX9_calledLeads 0 = .ok (.iconst 0, 1) := by decide +kernel
theorem dX9_calledLeads_1 : decode cX9_calledLeads 1 = .ok (.istore_n 1, 1) := by decide +kernel
theorem dX9_calledLeads_2 : decode cX9_calledLeads 2 = .ok (.iconst 0, 1) := by decide +kernel
theorem dX9_calledLeads_3 : decode cX9_calledLeads 3 = .ok (.istore_n 2, 1) := by decide +kernel
theorem dX9_calledLeads_4 : decode cX9_calledLeads 4 = .ok (.iload_n 2, 1) := by decide +kernel
theorem dX9_calledLeads_5 : decode cX9_calledLeads 5 = .ok (.aload_n 0, 1) := by decide +kernel
theorem dX9_calledLeads_6 : decode cX9_calledLeads 6 = .ok (.getfield 31, 3) := by decide +kernel
theorem dX9_calledLeads_9 : decode cX9_calledLeads 9 = .ok (.if_icmp .ge 20, 3) := by decide +kernel
theorem dX9_calledLeads_12 : decode cX9_calledLeads 12 = .ok (.aload_n 0, 1) := by decide +kernel
theorem dX9_calledLeads_13 : decode cX9_calledLeads 13 = .ok (.iload_n 2, 1) := by decide +kernel
theorem dX9_calledLeads_14 : decode cX9_calledLeads 14 = .ok (.invokevirtual 44, 3) := by decide +kernel
theorem dX9_calledLeads_17 : decode cX9_calledLeads 17 = .ok (.ifCond .eq 6, 3) := by decide +kernel
theorem dX9_calledLeads_20 : decode cX9_calledLeads 20 = .ok (.iinc 1 1, 3) := by decide +kernel
theorem dX9_calledLeads_23 : decode cX9_calledLeads 23 = .ok (.iinc 2 1, 3) := by decide +kernel
theorem dX9_calledLeads_26 : decode cX9_calledLeads 26 = .ok (.goto (-22), 3) := by decide +kernel
theorem dX9_calledLeads_29 : decode cX9_calledLeads 29 = .ok (.iload_n 1, 1) := by decide +kernel
theorem dX9_calledLeads_30 : decode cX9_calledLeads 30 = .ok (.ireturn, 1) := by decide +kernel
theorem dX9_roundsBehindLead_0 : decode cX9_roundsBehindLead 0 = .ok (.aload_n 0, 1) := by decide +kernel
theorem dX9_roundsBehindLead_1 : decode cX9_roundsBehindLead 1 = .ok (.getfield 18, 3) := by decide +kernel
theorem dX9_roundsBehindLead_4 : decode cX9_roundsBehindLead 4 = .ok (.invokestatic 48, 3) := by decide +kernel
theorem dX9_roundsBehindLead_7 : decode cX9_roundsBehindLead 7 = .ok (.istore_n 2, 1) := by decide +kernel
theorem dX9_roundsBehindLead_8 : decode cX9_roundsBehindLead 8 = .ok (.iconst 0, 1) := by decide +kernel
theorem dX9_roundsBehindLead_9 : decode cX9_roundsBehindLead 9 = .ok (.istore_n 3, 1) := by decide +kernel
theorem dX9_roundsBehindLead_10 : decode cX9_roundsBehindLead 10 = .ok (.iload_n 3, 1) := by decide +kernel
theorem dX9_roundsBehindLead_11 : decode cX9_roundsBehindLead 11 = .ok (.aload_n 0, 1) := by decide +kernel
theorem dX9_roundsBehindLead_12 : decode cX9_roundsBehindLead 12 = .ok (.getfield 22, 3) := by decide +kernel
theorem dX9_roundsBehindLead_15 : decode cX9_roundsBehindLead 15 = .ok (.if_icmp .ge 24, 3) := by decide +kernel
theorem dX9_roundsBehindLead_18 : decode cX9_roundsBehindLead 18 = .ok (.iload_n 2, 1) := by decide +kernel
theorem dX9_roundsBehindLead_19 : decode cX9_roundsBehindLead 19 = .ok (.aload_n 0, 1) := by decide +kernel
theorem dX9_roundsBehindLead_20 : decode cX9_roundsBehindLead 20 = .ok (.iload_n 1, 1) := by decide +kernel
theorem dX9_roundsBehindLead_21 : decode cX9_roundsBehindLead 21 = .ok (.iload_n 3, 1) := by decide +kernel
theorem dX9_roundsBehindLead_22 : decode cX9_roundsBehindLead 22 = .ok (.invokevirtual 53, 3) := by decide +kernel
theorem dX9_roundsBehindLead_25 : decode cX9_roundsBehindLead 25 = .ok (.aload_n 0, 1) := by decide +kernel
theorem dX9_roundsBehindLead_26 : decode cX9_roundsBehindLead 26 = .ok (.getfield 18, 3) := by decide +kernel
theorem dX9_roundsBehindLead_29 : decode cX9_roundsBehindLead 29 = .ok (.invokestatic 57, 3) := by decide +kernel
theorem dX9_roundsBehindLead_32 : decode cX9_roundsBehindLead 32 = .ok (.istore_n 2, 1) := by decide +kernel
theorem dX9_roundsBehindLead_33 : decode cX9_roundsBehindLead 33 = .ok (.iinc 3 1, 3) := by decide +kernel
theorem dX9_roundsBehindLead_36 : decode cX9_roundsBehindLead 36 = .ok (.goto (-26), 3) := by decide +kernel
theorem dX9_roundsBehindLead_39 : decode cX9_roundsBehindLead 39 = .ok (.iload_n 2, 1) := by decide +kernel
theorem dX9_roundsBehindLead_40 : decode cX9_roundsBehindLead 40 = .ok (.ireturn, 1) := by decide +kernel
theorem dX9_plainCourse_0 : decode cX9_plainCourse 0 = .ok (.aload_n 0, 1) := by decide +kernel
theorem dX9_plainCourse_1 : decode cX9_plainCourse 1 = .ok (.getfield 18, 3) := by decide +kernel
theorem dX9_plainCourse_4 : decode cX9_plainCourse 4 = .ok (.invokestatic 48, 3) := by decide +kernel
theorem dX9_plainCourse_7 : decode cX9_plainCourse 7 = .ok (.istore_n 1, 1) := by decide +kernel
theorem dX9_plainCourse_8 : decode cX9_plainCourse 8 = .ok (.aload_n 0, 1) := by decide +kernel
theorem dX9_plainCourse_9 : decode cX9_plainCourse 9 = .ok (.iconst 0, 1) := by decide +kernel
theorem dX9_plainCourse_10 : decode cX9_plainCourse 10 = .ok (.invokevirtual 61, 3) := by decide +kernel
theorem dX9_plainCourse_13 : decode cX9_plainCourse 13 = .ok (.istore_n 2, 1) := by decide +kernel
theorem dX9_plainCourse_14 : decode cX9_plainCourse 14 = .ok (.iload_n 2, 1) := by decide +kernel
theorem dX9_plainCourse_15 : decode cX9_plainCourse 15 = .ok (.istore_n 3, 1) := by decide +kernel
theorem dX9_plainCourse_16 : decode cX9_plainCourse 16 = .ok (.iconst 1, 1) := by decide +kernel
theorem dX9_plainCourse_17 : decode cX9_plainCourse 17 = .ok (.istore 4, 2) := by decide +kernel
theorem dX9_plainCourse_19 : decode cX9_plainCourse 19 = .ok (.iload_n 3, 1) := by decide +kernel
theorem dX9_plainCourse_20 : decode cX9_plainCourse 20 = .ok (.iload_n 1, 1) := by decide +kernel
theorem dX9_plainCourse_21 : decode cX9_plainCourse 21 = .ok (.if_icmp .eq 27, 3) := by decide +kernel
theorem dX9_plainCourse_24 : decode cX9_plainCourse 24 = .ok (.iload 4, 2) := by decide +kernel
theorem dX9_plainCourse_26 : decode cX9_plainCourse 26 = .ok (.sipush 5040, 3) := by decide +kernel
theorem dX9_plainCourse_29 : decode cX9_plainCourse 29 = .ok (.if_icmp .ge 19, 3) := by decide +kernel
theorem dX9_plainCourse_32 : decode cX9_plainCourse 32 = .ok (.iload_n 3, 1) := by decide +kernel
theorem dX9_plainCourse_33 : decode cX9_plainCourse 33 = .ok (.iload_n 2, 1) := by decide +kernel
theorem dX9_plainCourse_34 : decode cX9_plainCourse 34 = .ok (.aload_n 0, 1) := by decide +kernel
theorem dX9_plainCourse_35 : decode cX9_plainCourse 35 = .ok (.getfield 18, 3) := by decide +kernel
theorem dX9_plainCourse_38 : decode cX9_plainCourse 38 = .ok (.invokestatic 64, 3) := by decide +kernel
theorem dX9_plainCourse_41 : decode cX9_plainCourse 41 = .ok (.istore_n 3, 1) := by decide +kernel
theorem dX9_plainCourse_42 : decode cX9_plainCourse 42 = .ok (.iinc 4 1, 3) := by decide +kernel
theorem dX9_plainCourse_45 : decode cX9_plainCourse 45 = .ok (.goto (-26), 3) := by decide +kernel
theorem dX9_plainCourse_48 : decode cX9_plainCourse 48 = .ok (.iload 4, 2) := by decide +kernel
theorem dX9_plainCourse_50 : decode cX9_plainCourse 50 = .ok (.ireturn, 1) := by decide +kernel
end
section
theorem dX10_init_0 : decode cX10_init 0 = .ok (.aload_n 0, 1) := by decide +kernel
theorem dX10_init_1 : decode cX10_init 1 = .ok (.invokespecial 3, 3) := by decide +kernel
theorem dX10_init_4 : decode cX10_init 4 = .ok (.aload_n 0, 1) := by decide +kernel
theorem dX10_init_5 : decode cX10_init 5 = .ok (.new 9, 3) := by decide +kernel
theorem dX10_init_8 : decode cX10_init 8 = .ok (.dup, 1) := by decide +kernel
theorem dX10_init_9 : decode cX10_init 9 = .ok (.invokespecial 11, 3) := by decide +kernel
theorem dX10_init_12 : decode cX10_init 12 = .ok (.putfield 12, 3) := by decide +kernel
theorem dX10_init_15 : decode cX10_init 15 = .ok (.aload_n 0, 1) := by decide +kernel
theorem dX10_init_16 : decode cX10_init 16 = .ok (.new 9, 3) := by decide +kernel
theorem dX10_init_19 : decode cX10_init 19 = .ok (.dup, 1) := by decide +kernel
theorem dX10_init_20 : decode cX10_init 20 = .ok (.invokespecial 11, 3) := by decide +kernel
theorem dX10_init_23 : decode cX10_init 23 = .ok (.putfield 16, 3) := by decide +kernel
theorem dX10_init_26 : decode cX10_init 26 = .ok (.aload_n 0, 1) := by decide +kernel
theorem dX10_init_27 : decode cX10_init 27 = .ok (.new 9, 3) := by decide +kernel
theorem dX10_init_30 : decode cX10_init 30 = .ok (.dup, 1) := by decide +kernel
theorem dX10_init_31 : decode cX10_init 31 = .ok (.invokespecial 11, 3) := by decide +kernel
theorem dX10_init_34 : decode cX10_init 34 = .ok (.putfield 19, 3) := by decide +kernel
theorem dX10_init_37 : decode cX10_init 37 = .ok (.aload_n 0, 1) := by decide +kernel
theorem dX10_init_38 : decode cX10_init 38 = .ok (.new 22, 3) := by decide +kernel
theorem dX10_init_41 : decode cX10_init 41 = .ok (.dup, 1) := by decide +kernel
theorem dX10_init_42 : decode cX10_init 42 = .ok (.invokespecial 24, 3) := by decide +kernel
theorem dX10_init_45 : decode cX10_init 45 = .ok (.putfield 25, 3) := by decide +kernel
theorem dX10_init_48 : decode cX10_init 48 = .ok (.aload_n 0, 1) := by decide +kernel
theorem dX10_init_49 : decode cX10_init 49 = .ok (.new 29, 3) := by decide +kernel
theorem dX10_init_52 : decode cX10_init 52 = .ok (.dup, 1) := by decide +kernel
theorem dX10_init_53 : decode cX10_init 53 = .ok (.invokespecial 31, 3) := by decide +kernel
theorem dX10_init_56 : decode cX10_init 56 = .ok (.putfield 32, 3) := by decide +kernel
theorem dX10_init_59 : decode cX10_init 59 = .ok (.aload_n 0, 1) := by decide +kernel
theorem dX10_init_60 : decode cX10_init 60 = .ok (.new 36, 3) := by decide +kernel
theorem dX10_init_63 : decode cX10_init 63 = .ok (.dup, 1) := by decide +kernel
theorem dX10_init_64 : decode cX10_init 64 = .ok (.invokespecial 38, 3) := by decide +kernel
theorem dX10_init_67 : decode cX10_init 67 = .ok (.putfield 39, 3) := by decide +kernel
theorem dX10_init_70 : decode cX10_init 70 = .ok (.aload_n 0, 1) := by decide +kernel
theorem dX10_init_71 : decode cX10_init 71 = .ok (.new 43, 3) := by decide +kernel
theorem dX10_init_74 : decode cX10_init 74 = .ok (.dup, 1) := by decide +kernel
theorem dX10_init_75 : decode cX10_init 75 = .ok (.invokespecial 45, 3) := by decide +kernel
theorem dX10_init_78 : decode cX10_init 78 = .ok (.putfield 46, 3) := by decide +kernel
theorem dX10_init_81 : decode cX10_init 81 = .ok (.aload_n 0, 1) := by decide +kernel
theorem dX10_init_82 : decode cX10_init 82 = .ok (.new 50, 3) := by decide +kernel
theorem dX10_init_85 : decode cX10_init 85 = .ok (.dup, 1) := by decide +kernel
theorem dX10_init_86 : decode cX10_init 86 = .ok (.invokespecial 52, 3) := by decide +kernel
theorem dX10_init_89 : decode cX10_init 89 = .ok (.putfield 53, 3) := by decide +kernel
theorem dX10_init_92 : decode cX10_init 92 = .ok (.aload_n 0, 1) := by decide +kernel
theorem dX10_init_93 : decode cX10_init 93 = .ok (.bipush 6, 2) := by decide +kernel
theorem dX10_init_95 : decode cX10_init 95 = .ok (.invokevirtual 57, 3) := by decide +kernel
theorem dX10_init_98 : decode cX10_init 98 = .ok (.return_, 1) := by decide +kernel
theorem dX10_bells_0 : decode cX10_bells 0 = .ok (.iload_n 1, 1) := by decide +kernel
theorem dX10_bells_1 : decode cX10_bells 1 = .ok (.iconst 4, 1) := by decide +kernel
theorem dX10_bells_2 : decode cX10_bells 2 = .ok (.bipush 7, 2) := by decide +kernel
theorem dX10_bells_4 : decode cX10_bells 4 = .ok (.invokestatic 61, 3) := by decide +kernel
theorem dX10_bells_7 : decode cX10_bells 7 = .ok (.ifCond .ne 5, 3) := by decide +kernel
theorem dX10_bells_10 : decode cX10_bells 10 = .ok (.iconst (-1), 1) := by decide +kernel
theorem dX10_bells_11 : decode cX10_bells 11 = .ok (.ireturn, 1) := by decide +kernel
theorem dX10_bells_12 : decode cX10_bells 12 = .ok (.aload_n 0, 1) := by decide +kernel
theorem dX10_bells_13 : decode cX10_bells 13 = .ok (.getfield 12, 3) := by decide +kernel
theorem dX10_bells_16 : decode cX10_bells 16 = .ok (.getfield 65, 3) := by decide +kernel
theorem dX10_bells_19 : decode cX10_bells 19 = .ok (.istore_n 2, 1) := by decide +kernel
theorem dX10_bells_20 : decode cX10_bells 20 = .ok (.aload_n 0, 1) := by decide +kernel
theorem dX10_bells_21 : decode cX10_bells 21 = .ok (.getfield 25, 3) := by decide +kernel
theorem dX10_bells_24 : decode cX10_bells 24 = .ok (.aload_n 0, 1) := by decide +kernel
theorem dX10_bells_25 : decode cX10_bells 25 = .ok (.getfield 12, 3) := by decide +kernel
theorem dX10_bells_28 : decode cX10_bells 28 = .ok (.invokevirtual 69, 3) := by decide +kernel
theorem dX10_bells_31 : decode cX10_bells 31 = .ok (.aload_n 0, 1) := by decide +kernel
theorem dX10_bells_32 : decode cX10_bells 32 = .ok (.iload_n 1, 1) := by decide +kernel
theorem dX10_bells_33 : decode cX10_bells 33 = .ok (.invokevirtual 57, 3) := by decide +kernel
theorem dX10_bells_36 : decode cX10_bells 36 = .ok (.iload_n 2, 1) := by decide +kernel
theorem dX10_bells_37 : decode cX10_bells 37 = .ok (.ireturn, 1) := by decide +kernel
theorem dX10_method_0 : decode cX10_method 0 = .ok (.aload_n 0, 1) := by decide +kernel
theorem dX10_method_1 : decode cX10_method 1 = .ok (.getfield 39, 3) := by decide +kernel
theorem dX10_method_4 : decode cX10_method 4 = .ok (.aload_n 0, 1) := by decide +kernel
theorem dX10_method_5 : decode cX10_method 5 = .ok (.getfield 32, 3) := by decide +kernel
theorem dX10_method_8 : decode cX10_method 8 = .ok (.getfield 73, 3) := by decide +kernel
theorem dX10_method_11 : decode cX10_method 11 = .ok (.aload_n 0, 1) := by decide +kernel
theorem dX10_method_12 : decode cX10_method 12 = .ok (.getfield 32, 3) := by decide +kernel
theorem dX10_method_15 : decode cX10_method 15 = .ok (.getfield 77, 3) := by decide +kernel
theorem dX10_method_18 : decode cX10_method 18 = .ok (.aload_n 0, 1) := by decide +kernel
theorem dX10_method_19 : decode cX10_method 19 = .ok (.getfield 12, 3) := by decide +kernel
theorem dX10_method_22 : decode cX10_method 22 = .ok (.getfield 65, 3) := by decide +kernel
theorem dX10_method_25 : decode cX10_method 25 = .ok (.invokevirtual 80, 3) := by decide +kernel
theorem dX10_method_28 : decode cX10_method 28 = .ok (.bipush (-4), 2) := by decide +kernel
theorem dX10_method_30 : decode cX10_method 30 = .ok (.if_icmp .eq 6, 3) := by decide +kernel
theorem dX10_method_33 : decode cX10_method 33 = .ok (.bipush (-2), 2) := by decide +kernel
theorem dX10_method_35 : decode cX10_method 35 = .ok (.ireturn, 1) := by decide +kernel
theorem dX10_method_36 : decode cX10_method 36 = .ok (.aload_n 0, 1) := by decide +kernel
theorem dX10_method_37 : decode cX10_method 37 = .ok (.getfield 25, 3) := by decide +kernel
theorem dX10_method_40 : decode cX10_method 40 = .ok (.aload_n 0, 1) := by decide +kernel
theorem dX10_method_41 : decode cX10_method 41 = .ok (.getfield 12, 3) := by decide +kernel
theorem dX10_method_44 : decode cX10_method 44 = .ok (.invokevirtual 69, 3) := by decide +kernel
theorem dX10_method_47 : decode cX10_method 47 = .ok (.aload_n 0, 1) := by decide +kernel
theorem dX10_method_48 : decode cX10_method 48 = .ok (.getfield 12, 3) := by decide +kernel
theorem dX10_method_51 : decode cX10_method 51 = .ok (.aload_n 0, 1) := by decide +kernel
theorem dX10_method_52 : decode cX10_method 52 = .ok (.getfield 39, 3) := by decide +kernel
theorem dX10_method_55 : decode cX10_method 55 = .ok (.invokevirtual 84, 3) := by decide +kernel
theorem dX10_method_58 : decode cX10_method 58 = .ok (.aload_n 0, 1) := by decide +kernel
theorem dX10_method_59 : decode cX10_method 59 = .ok (.getfield 32, 3) := by decide +kernel
theorem dX10_method_62 : decode cX10_method 62 = .ok (.iconst 0, 1) := by decide +kernel
theorem dX10_method_63 : decode cX10_method 63 = .ok (.putfield 77, 3) := by decide +kernel
theorem dX10_method_66 : decode cX10_method 66 = .ok (.aload_n 0, 1) := by decide +kernel
theorem dX10_method_67 : decode cX10_method 67 = .ok (.getfield 12, 3) := by decide +kernel
theorem dX10_method_70 : decode cX10_method 70 = .ok (.getfield 88, 3) := by decide +kernel
theorem dX10_method_73 : decode cX10_method 73 = .ok (.ireturn, 1) := by decide +kernel
theorem dX10_call_0 : decode cX10_call 0 = .ok (.iload_n 1, 1) := by decide +kernel
theorem dX10_call_1 : decode cX10_call 1 = .ok (.iconst 1, 1) := by decide +kernel
theorem dX10_call_2 : decode cX10_call 2 = .ok (.iconst 2, 1) := by decide +kernel
theorem dX10_call_3 : decode cX10_call 3 = .ok (.invokestatic 61, 3) := by decide +kernel
theorem dX10_call_6 : decode cX10_call 6 = .ok (.ifCond .eq 17, 3) := by decide +kernel
theorem dX10_call_9 : decode cX10_call 9 = .ok (.iload_n 2, 1) := by decide +kernel
theorem dX10_call_10 : decode cX10_call 10 = .ok (.aload_n 0, 1) := by decide +kernel
theorem dX10_call_11 : decode cX10_call 11 = .ok (.getfield 12, 3) := by decide +kernel
theorem dX10_call_14 : decode cX10_call 14 = .ok (.getfield 65, 3) := by decide +kernel
theorem dX10_call_17 : decode cX10_call 17 = .ok (.invokestatic 91, 3) := by decide +kernel
theorem dX10_call_20 : decode cX10_call 20 = .ok (.ifCond .ne 5, 3) := by decide +kernel
theorem dX10_call_23 : decode cX10_call 23 = .ok (.iconst (-1), 1) := by decide +kernel
theorem dX10_call_24 : decode cX10_call 24 = .ok (.ireturn, 1) := by decide +kernel
theorem dX10_call_25 : decode cX10_call 25 = .ok (.aload_n 0, 1) := by decide +kernel
theorem dX10_call_26 : decode cX10_call 26 = .ok (.getfield 25, 3) := by decide +kernel
theorem dX10_call_29 : decode cX10_call 29 = .ok (.aload_n 0, 1) := by decide +kernel
theorem dX10_call_30 : decode cX10_call 30 = .ok (.getfield 12, 3) := by decide +kernel
theorem dX10_call_33 : decode cX10_call 33 = .ok (.invokevirtual 69, 3) := by decide +kernel
theorem dX10_call_36 : decode cX10_call 36 = .ok (.iload_n 1, 1) := by decide +kernel
theorem dX10_call_37 : decode cX10_call 37 = .ok (.iconst 1, 1) := by decide +kernel
theorem dX10_call_38 : decode cX10_call 38 = .ok (.if_icmp .ne 22, 3) := by decide +kernel
theorem dX10_call_41 : decode cX10_call 41 = .ok (.aload_n 0, 1) := by decide +kernel
theorem dX10_call_42 : decode cX10_call 42 = .ok (.getfield 12, 3) := by decide +kernel
theorem dX10_call_45 : decode cX10_call 45 = .ok (.getfield 97, 3) := by decide +kernel
theorem dX10_call_48 : decode cX10_call 48 = .ok (.istore_n 3, 1) := by decide +kernel
theorem dX10_call_49 : decode cX10_call 49 = .ok (.aload_n 0, 1) := by decide +kernel
theorem dX10_call_50 : decode cX10_call 50 = .ok (.getfield 12, 3) := by decide +kernel
theorem dX10_call_53 : decode cX10_call 53 = .ok (.iload_n 2, 1) := by decide +kernel
theorem dX10_call_54 : decode cX10_call 54 = .ok (.putfield 97, 3) := by decide +kernel
theorem dX10_call_57 : decode cX10_call 57 = .ok (.goto 19, 3) := by decide +kernel
theorem dX10_call_60 : decode cX10_call 60 = .ok (.aload_n 0, 1) := by decide +kernel
theorem dX10_call_61 : decode cX10_call 61 = .ok (.getfield 12, 3) := by decide +kernel
theorem dX10_call_64 : decode cX10_call 64 = .ok (.getfield 100, 3) := by decide +kernel
theorem dX10_call_67 : decode cX10_call 67 = .ok (.istore_n 3, 1) := by decide +kernel
theorem dX10_call_68 : decode cX10_call 68 = .ok (.aload_n 0, 1) := by decide +kernel
theorem dX10_call_69 : decode cX10_call 69 = .ok (.getfield 12, 3) := by decide +kernel
theorem dX10_call_72 : decode cX10_call 72 = .ok (.iload_n 2, 1) := by decide +kernel
theorem dX10_call_73 : decode cX10_call 73 = .ok (.putfield 100, 3) := by decide +kernel
theorem dX10_call_76 : decode cX10_call 76 = .ok (.iload_n 3, 1) := by decide +kernel
theorem dX10_call_77 : decode cX10_call 77 = .ok (.ireturn, 1) := by decide +kernel
theorem dX10_touch_0 : decode cX10_touch 0 = .ok (.aload_n 0, 1) := by decide +kernel
theorem dX10_touch_1 : decode cX10_touch 1 = .ok (.getfield 32, 3) := by decide +kernel
theorem dX10_touch_4 : decode cX10_touch 4 = .ok (.invokevirtual 103, 3) := by decide +kernel
theorem dX10_touch_7 : decode cX10_touch 7 = .ok (.bipush (-4), 2) := by decide +kernel
theorem dX10_touch_9 : decode cX10_touch 9 = .ok (.if_icmp .eq 6, 3) := by decide +kernel
theorem dX10_touch_12 : decode cX10_touch 12 = .ok (.bipush (-2), 2) := by decide +kernel
theorem dX10_touch_14 : decode cX10_touch 14 = .ok (.ireturn, 1) := by decide +kernel
theorem dX10_touch_15 : decode cX10_touch 15 = .ok (.aload_n 0, 1) := by decide +kernel
theorem dX10_touch_16 : decode cX10_touch 16 = .ok (.getfield 25, 3) := by decide +kernel
theorem dX10_touch_19 : decode cX10_touch 19 = .ok (.aload_n 0, 1) := by decide +kernel
theorem dX10_touch_20 : decode cX10_touch 20 = .ok (.getfield 12, 3) := by decide +kernel
theorem dX10_touch_23 : decode cX10_touch 23 = .ok (.invokevirtual 69, 3) := by decide +kernel
theorem dX10_touch_26 : decode cX10_touch 26 = .ok (.aload_n 0, 1) := by decide +kernel
theorem dX10_touch_27 : decode cX10_touch 27 = .ok (.getfield 12, 3) := by decide +kernel
theorem dX10_touch_30 : decode cX10_touch 30 = .ok (.iconst 0, 1) := by decide +kernel
theorem dX10_touch_31 : decode cX10_touch 31 = .ok (.putfield 107, 3) := by decide +kernel
theorem dX10_touch_34 : decode cX10_touch 34 = .ok (.iconst 0, 1) := by decide +kernel
theorem dX10_touch_35 : decode cX10_touch 35 = .ok (.istore_n 1, 1) := by decide +kernel
theorem dX10_touch_36 : decode cX10_touch 36 = .ok (.iload_n 1, 1) := by decide +kernel
theorem dX10_touch_37 : decode cX10_touch 37 = .ok (.aload_n 0, 1) := by decide +kernel
theorem dX10_touch_38 : decode cX10_touch 38 = .ok (.getfield 32, 3) := by decide +kernel
theorem dX10_touch_41 : decode cX10_touch 41 = .ok (.getfield 77, 3) := by decide +kernel
theorem dX10_touch_44 : decode cX10_touch 44 = .ok (.if_icmp .ge 40, 3) := by decide +kernel
theorem dX10_touch_47 : decode cX10_touch 47 = .ok (.iload_n 1, 1) := by decide +kernel
theorem dX10_touch_48 : decode cX10_touch 48 = .ok (.aload_n 0, 1) := by decide +kernel
theorem dX10_touch_49 : decode cX10_touch 49 = .ok (.getfield 32, 3) := by decide +kernel
theorem dX10_touch_52 : decode cX10_touch 52 = .ok (.getfield 73, 3) := by decide +kernel
theorem dX10_touch_55 : decode cX10_touch 55 = .ok (.arraylength, 1) := by decide +kernel
theorem dX10_touch_56 : decode cX10_touch 56 = .ok (.if_icmp .ge 28, 3) := by decide +kernel
theorem dX10_touch_59 : decode cX10_touch 59 = .ok (.aload_n 0, 1) := by decide +kernel
theorem dX10_touch_60 : decode cX10_touch 60 = .ok (.getfield 12, 3) := by decide +kernel
theorem dX10_touch_63 : decode cX10_touch 63 = .ok (.aload_n 0, 1) := by decide +kernel
theorem dX10_touch_64 : decode cX10_touch 64 = .ok (.getfield 32, 3) := by decide +kernel
theorem dX10_touch_67 : decode cX10_touch 67 = .ok (.getfield 73, 3) := by decide +kernel
theorem dX10_touch_70 : decode cX10_touch 70 = .ok (.iload_n 1, 1) := by decide +kernel
theorem dX10_touch_71 : decode cX10_touch 71 = .ok (.caload, 1) := by decide +kernel
theorem dX10_touch_72 : decode cX10_touch 72 = .ok (.invokestatic 110, 3) := by decide +kernel
theorem dX10_touch_75 : decode cX10_touch 75 = .ok (.invokevirtual 114, 3) := by decide +kernel
theorem dX10_touch_78 : decode cX10_touch 78 = .ok (.iinc 1 1, 3) := by decide +kernel
theorem dX10_touch_81 : decode cX10_touch 81 = .ok (.goto (-45), 3) := by decide +kernel
theorem dX10_touch_84 : decode cX10_touch 84 = .ok (.aload_n 0, 1) := by decide +kernel
theorem dX10_touch_85 : decode cX10_touch 85 = .ok (.getfield 32, 3) := by decide +kernel
theorem dX10_touch_88 : decode cX10_touch 88 = .ok (.iconst 0, 1) := by decide +kernel
theorem dX10_touch_89 : decode cX10_touch 89 = .ok (.putfield 77, 3) := by decide +kernel
theorem dX10_touch_92 : decode cX10_touch 92 = .ok (.aload_n 0, 1) := by decide +kernel
theorem dX10_touch_93 : decode cX10_touch 93 = .ok (.getfield 12, 3) := by decide +kernel
theorem dX10_touch_96 : decode cX10_touch 96 = .ok (.getfield 107, 3) := by decide +kernel
theorem dX10_touch_99 : decode cX10_touch 99 = .ok (.ireturn, 1) := by decide +kernel
theorem dX10_add_0 : decode cX10_add 0 = .ok (.iload_n 1, 1) := by decide +kernel
theorem dX10_add_1 : decode cX10_add 1 = .ok (.iconst 0, 1) := by decide +kernel
theorem dX10_add_2 : decode cX10_add 2 = .ok (.iconst 2, 1) := by decide +kernel
theorem dX10_add_3 : decode cX10_add 3 = .ok (.invokestatic 61, 3) := by decide +kernel
theorem dX10_add_6 : decode cX10_add 6 = .ok (.ifCond .ne 5, 3) := by decide +kernel
theorem dX10_add_9 : decode cX10_add 9 = .ok (.iconst (-1), 1) := by decide +kernel
theorem dX10_add_10 : decode cX10_add 10 = .ok (.ireturn, 1) := by decide +kernel
theorem dX10_add_11 : decode cX10_add 11 = .ok (.aload_n 0, 1) := by decide +kernel
theorem dX10_add_12 : decode cX10_add 12 = .ok (.getfield 12, 3) := by decide +kernel
theorem dX10_add_15 : decode cX10_add 15 = .ok (.getfield 107, 3) := by decide +kernel
theorem dX10_add_18 : decode cX10_add 18 = .ok (.bipush 16, 2) := by decide +kernel
theorem dX10_add_20 : decode cX10_add 20 = .ok (.if_icmp .lt 6, 3) := by decide +kernel
theorem dX10_add_23 : decode cX10_add 23 = .ok (.bipush (-3), 2) := by decide +kernel
theorem dX10_add_25 : decode cX10_add 25 = .ok (.ireturn, 1) := by decide +kernel
theorem dX10_add_26 : decode cX10_add 26 = .ok (.aload_n 0, 1) := by decide +kernel
theorem dX10_add_27 : decode cX10_add 27 = .ok (.getfield 25, 3) := by decide +kernel
theorem dX10_add_30 : decode cX10_add 30 = .ok (.aload_n 0, 1) := by decide +kernel
theorem dX10_add_31 : decode cX10_add 31 = .ok (.getfield 12, 3) := by decide +kernel
theorem dX10_add_34 : decode cX10_add 34 = .ok (.invokevirtual 69, 3) := by decide +kernel
theorem dX10_add_37 : decode cX10_add 37 = .ok (.aload_n 0, 1) := by decide +kernel
theorem dX10_add_38 : decode cX10_add 38 = .ok (.getfield 12, 3) := by decide +kernel
theorem dX10_add_41 : decode cX10_add 41 = .ok (.iload_n 1, 1) := by decide +kernel
theorem dX10_add_42 : decode cX10_add 42 = .ok (.invokevirtual 114, 3) := by decide +kernel
theorem dX10_add_45 : decode cX10_add 45 = .ok (.aload_n 0, 1) := by decide +kernel
theorem dX10_add_46 : decode cX10_add 46 = .ok (.getfield 12, 3) := by decide +kernel
theorem dX10_add_49 : decode cX10_add 49 = .ok (.getfield 107, 3) := by decide +kernel
theorem dX10_add_52 : decode cX10_add 52 = .ok (.ireturn, 1) := by decide +kernel
theorem dX10_cut_0 : decode cX10_cut 0 = .ok (.iload_n 1, 1) := by decide +kernel
theorem dX10_cut_1 : decode cX10_cut 1 = .ok (.iconst 0, 1) := by decide +kernel
theorem dX10_cut_2 : decode cX10_cut 2 = .ok (.aload_n 0, 1) := by decide +kernel
theorem dX10_cut_3 : decode cX10_cut 3 = .ok (.getfield 12, 3) := by decide +kernel
theorem dX10_cut_6 : decode cX10_cut 6 = .ok (.getfield 107, 3) := by decide +kernel
theorem dX10_cut_9 : decode cX10_cut 9 = .ok (.invokestatic 61, 3) := by decide +kernel
theorem dX10_cut_12 : decode cX10_cut 12 = .ok (.ifCond .ne 5, 3) := by decide +kernel
theorem dX10_cut_15 : decode cX10_cut 15 = .ok (.iconst (-1), 1) := by decide +kernel
theorem dX10_cut_16 : decode cX10_cut 16 = .ok (.ireturn, 1) := by decide +kernel
theorem dX10_cut_17 : decode cX10_cut 17 = .ok (.aload_n 0, 1) := by decide +kernel
theorem dX10_cut_18 : decode cX10_cut 18 = .ok (.getfield 12, 3) := by decide +kernel
theorem dX10_cut_21 : decode cX10_cut 21 = .ok (.getfield 107, 3) := by decide +kernel
theorem dX10_cut_24 : decode cX10_cut 24 = .ok (.istore_n 2, 1) := by decide +kernel
theorem dX10_cut_25 : decode cX10_cut 25 = .ok (.aload_n 0, 1) := by decide +kernel
theorem dX10_cut_26 : decode cX10_cut 26 = .ok (.getfield 25, 3) := by decide +kernel
theorem dX10_cut_29 : decode cX10_cut 29 = .ok (.aload_n 0, 1) := by decide +kernel
theorem dX10_cut_30 : decode cX10_cut 30 = .ok (.getfield 12, 3) := by decide +kernel
theorem dX10_cut_33 : decode cX10_cut 33 = .ok (.invokevirtual 69, 3) := by decide +kernel
theorem dX10_cut_36 : decode cX10_cut 36 = .ok (.aload_n 0, 1) := by decide +kernel
theorem dX10_cut_37 : decode cX10_cut 37 = .ok (.getfield 12, 3) := by decide +kernel
theorem dX10_cut_40 : decode cX10_cut 40 = .ok (.iload_n 1, 1) := by decide +kernel
theorem dX10_cut_41 : decode cX10_cut 41 = .ok (.putfield 107, 3) := by decide +kernel
theorem dX10_cut_44 : decode cX10_cut 44 = .ok (.iload_n 2, 1) := by decide +kernel
theorem dX10_cut_45 : decode cX10_cut 45 = .ok (.ireturn, 1) := by decide +kernel
theorem dX10_append_0 : decode cX10_append 0 = .ok (.iload_n 1, 1) := by decide +kernel
theorem dX10_append_1 : decode cX10_append 1 = .ok (.bipush 33, 2) := by decide +kernel
theorem dX10_append_3 : decode cX10_append 3 = .ok (.bipush 126, 2) := by decide +kernel
theorem dX10_append_5 : decode cX10_append 5 = .ok (.invokestatic 61, 3) := by decide +kernel
theorem dX10_append_8 : decode cX10_append 8 = .ok (.ifCond .ne 5, 3) := by decide +kernel
theorem dX10_append_11 : decode cX10_append 11 = .ok (.iconst (-1), 1) := by decide +kernel
theorem dX10_append_12 : decode cX10_append 12 = .ok (.ireturn, 1) := by decide +kernel
theorem dX10_append_13 : decode cX10_append 13 = .ok (.aload_n 0, 1) := by decide +kernel
theorem dX10_append_14 : decode cX10_append 14 = .ok (.getfield 32, 3) := by decide +kernel
theorem dX10_append_17 : decode cX10_append 17 = .ok (.getfield 77, 3) := by decide +kernel
theorem dX10_append_20 : decode cX10_append 20 = .ok (.aload_n 0, 1) := by decide +kernel
theorem dX10_append_21 : decode cX10_append 21 = .ok (.getfield 32, 3) := by decide +kernel
theorem dX10_append_24 : decode cX10_append 24 = .ok (.getfield 73, 3) := by decide +kernel
theorem dX10_append_27 : decode cX10_append 27 = .ok (.arraylength, 1) := by decide +kernel
theorem dX10_append_28 : decode cX10_append 28 = .ok (.if_icmp .lt 6, 3) := by decide +kernel
theorem dX10_append_31 : decode cX10_append 31 = .ok (.bipush (-3), 2) := by decide +kernel
theorem dX10_append_33 : decode cX10_append 33 = .ok (.ireturn, 1) := by decide +kernel
theorem dX10_append_34 : decode cX10_append 34 = .ok (.aload_n 0, 1) := by decide +kernel
theorem dX10_append_35 : decode cX10_append 35 = .ok (.getfield 32, 3) := by decide +kernel
theorem dX10_append_38 : decode cX10_append 38 = .ok (.iload_n 1, 1) := by decide +kernel
theorem dX10_append_39 : decode cX10_append 39 = .ok (.i2c, 1) := by decide +kernel
theorem dX10_append_40 : decode cX10_append 40 = .ok (.invokevirtual 117, 3) := by decide +kernel
theorem dX10_append_43 : decode cX10_append 43 = .ok (.aload_n 0, 1) := by decide +kernel
theorem dX10_append_44 : decode cX10_append 44 = .ok (.getfield 32, 3) := by decide +kernel
theorem dX10_append_47 : decode cX10_append 47 = .ok (.getfield 77, 3) := by decide +kernel
theorem dX10_append_50 : decode cX10_append 50 = .ok (.ireturn, 1) := by decide +kernel
theorem dX10_clear_0 : decode cX10_clear 0 = .ok (.aload_n 0, 1) := by decide +kernel
theorem dX10_clear_1 : decode cX10_clear 1 = .ok (.getfield 32, 3) := by decide +kernel
theorem dX10_clear_4 : decode cX10_clear 4 = .ok (.getfield 77, 3) := by decide +kernel
theorem dX10_clear_7 : decode cX10_clear 7 = .ok (.istore_n 1, 1) := by decide +kernel
theorem dX10_clear_8 : decode cX10_clear 8 = .ok (.aload_n 0, 1) := by decide +kernel
theorem dX10_clear_9 : decode cX10_clear 9 = .ok (.getfield 32, 3) := by decide +kernel
theorem dX10_clear_12 : decode cX10_clear 12 = .ok (.iconst 0, 1) := by decide +kernel
theorem dX10_clear_13 : decode cX10_clear 13 = .ok (.putfield 77, 3) := by decide +kernel
theorem dX10_clear_16 : decode cX10_clear 16 = .ok (.iload_n 1, 1) := by decide +kernel
theorem dX10_clear_17 : decode cX10_clear 17 = .ok (.ireturn, 1) := by decide +kernel
theorem dX10_fault_0 : decode cX10_fault 0 = .ok (.iload_n 1, 1) := by decide +kernel
theorem dX10_fault_1 : decode cX10_fault 1 = .ok (.ifCond .ne 32, 3) := by decide +kernel
theorem dX10_fault_4 : decode cX10_fault 4 = .ok (.aload_n 0, 1) := by decide +kernel
theorem dX10_fault_5 : decode cX10_fault 5 = .ok (.getfield 39, 3) := by decide +kernel
theorem dX10_fault_8 : decode cX10_fault 8 = .ok (.aload_n 0, 1) := by decide +kernel
theorem dX10_fault_9 : decode cX10_fault 9 = .ok (.getfield 32, 3) := by decide +kernel
theorem dX10_fault_12 : decode cX10_fault 12 = .ok (.getfield 73, 3) := by decide +kernel
theorem dX10_fault_15 : decode cX10_fault 15 = .ok (.aload_n 0, 1) := by decide +kernel
theorem dX10_fault_16 : decode cX10_fault 16 = .ok (.getfield 32, 3) := by decide +kernel
theorem dX10_fault_19 : decode cX10_fault 19 = .ok (.getfield 77, 3) := by decide +kernel
theorem dX10_fault_22 : decode cX10_fault 22 = .ok (.aload_n 0, 1) := by decide +kernel
theorem dX10_fault_23 : decode cX10_fault 23 = .ok (.getfield 12, 3) := by decide +kernel
theorem dX10_fault_26 : decode cX10_fault 26 = .ok (.getfield 65, 3) := by decide +kernel
theorem dX10_fault_29 : decode cX10_fault 29 = .ok (.invokevirtual 80, 3) := by decide +kernel
theorem dX10_fault_32 : decode cX10_fault 32 = .ok (.ireturn, 1) := by decide +kernel
theorem dX10_fault_33 : decode cX10_fault 33 = .ok (.iload_n 1, 1) := by decide +kernel
theorem dX10_fault_34 : decode cX10_fault 34 = .ok (.iconst 1, 1) := by decide +kernel
theorem dX10_fault_35 : decode cX10_fault 35 = .ok (.if_icmp .ne 11, 3) := by decide +kernel
theorem dX10_fault_38 : decode cX10_fault 38 = .ok (.aload_n 0, 1) := by decide +kernel
theorem dX10_fault_39 : decode cX10_fault 39 = .ok (.getfield 32, 3) := by decide +kernel
theorem dX10_fault_42 : decode cX10_fault 42 = .ok (.invokevirtual 103, 3) := by decide +kernel
theorem dX10_fault_45 : decode cX10_fault 45 = .ok (.ireturn, 1) := by decide +kernel
theorem dX10_fault_46 : decode cX10_fault 46 = .ok (.iconst (-1), 1) := by decide +kernel
theorem dX10_fault_47 : decode cX10_fault 47 = .ok (.ireturn, 1) := by decide +kernel
theorem dX10_bell_0 : decode cX10_bell 0 = .ok (.iload_n 1, 1) := by decide +kernel
theorem dX10_bell_1 : decode cX10_bell 1 = .ok (.iconst 0, 1) := by decide +kernel
theorem dX10_bell_2 : decode cX10_bell 2 = .ok (.aload_n 0, 1) := by decide +kernel
theorem dX10_bell_3 : decode cX10_bell 3 = .ok (.getfield 12, 3) := by decide +kernel
theorem dX10_bell_6 : decode cX10_bell 6 = .ok (.invokevirtual 121, 3) := by decide +kernel
theorem dX10_bell_9 : decode cX10_bell 9 = .ok (.invokestatic 61, 3) := by decide +kernel
theorem dX10_bell_12 : decode cX10_bell 12 = .ok (.ifCond .eq 11, 3) := by decide +kernel
theorem dX10_bell_15 : decode cX10_bell 15 = .ok (.aload_n 0, 1) := by decide +kernel
theorem dX10_bell_16 : decode cX10_bell 16 = .ok (.iload_n 2, 1) := by decide +kernel
theorem dX10_bell_17 : decode cX10_bell 17 = .ok (.invokevirtual 124, 3) := by decide +kernel
theorem dX10_bell_20 : decode cX10_bell 20 = .ok (.ifCond .ne 5, 3) := by decide +kernel
theorem dX10_bell_23 : decode cX10_bell 23 = .ok (.iconst (-1), 1) := by decide +kernel
theorem dX10_bell_24 : decode cX10_bell 24 = .ok (.ireturn, 1) := by decide +kernel
theorem dX10_bell_25 : decode cX10_bell 25 = .ok (.aload_n 0, 1) := by decide +kernel
theorem dX10_bell_26 : decode cX10_bell 26 = .ok (.getfield 46, 3) := by decide +kernel
theorem dX10_bell_29 : decode cX10_bell 29 = .ok (.aload_n 0, 1) := by decide +kernel
theorem dX10_bell_30 : decode cX10_bell 30 = .ok (.getfield 12, 3) := by decide +kernel
theorem dX10_bell_33 : decode cX10_bell 33 = .ok (.invokevirtual 128, 3) := by decide +kernel
theorem dX10_bell_36 : decode cX10_bell 36 = .ok (.aload_n 0, 1) := by decide +kernel
theorem dX10_bell_37 : decode cX10_bell 37 = .ok (.getfield 46, 3) := by decide +kernel
theorem dX10_bell_40 : decode cX10_bell 40 = .ok (.iload_n 1, 1) := by decide +kernel
theorem dX10_bell_41 : decode cX10_bell 41 = .ok (.invokevirtual 131, 3) := by decide +kernel
theorem dX10_bell_44 : decode cX10_bell 44 = .ok (.iload_n 2, 1) := by decide +kernel
theorem dX10_bell_45 : decode cX10_bell 45 = .ok (.invokestatic 135, 3) := by decide +kernel
theorem dX10_bell_48 : decode cX10_bell 48 = .ok (.ireturn, 1) := by decide +kernel
theorem dX10_change_0 : decode cX10_change 0 = .ok (.iload_n 1, 1) := by decide +kernel
theorem dX10_change_1 : decode cX10_change 1 = .ok (.iconst (-1), 1) := by decide +kernel
theorem dX10_change_2 : decode cX10_change 2 = .ok (.aload_n 0, 1) := by decide +kernel
theorem dX10_change_3 : decode cX10_change 3 = .ok (.getfield 12, 3) := by decide +kernel
theorem dX10_change_6 : decode cX10_change 6 = .ok (.getfield 107, 3) := by decide +kernel
theorem dX10_change_9 : decode cX10_change 9 = .ok (.iconst 1, 1) := by decide +kernel
theorem dX10_change_10 : decode cX10_change 10 = .ok (.isub, 1) := by decide +kernel
theorem dX10_change_11 : decode cX10_change 11 = .ok (.invokestatic 61, 3) := by decide +kernel
theorem dX10_change_14 : decode cX10_change 14 = .ok (.ifCond .eq 7, 3) := by decide +kernel
theorem dX10_change_17 : decode cX10_change 17 = .ok (.iload_n 2, 1) := by decide +kernel
theorem dX10_change_18 : decode cX10_change 18 = .ok (.ifCond .ge 5, 3) := by decide +kernel
theorem dX10_change_21 : decode cX10_change 21 = .ok (.iconst (-1), 1) := by decide +kernel
theorem dX10_change_22 : decode cX10_change 22 = .ok (.ireturn, 1) := by decide +kernel
theorem dX10_change_23 : decode cX10_change 23 = .ok (.iload_n 2, 1) := by decide +kernel
theorem dX10_change_24 : decode cX10_change 24 = .ok (.aload_n 0, 1) := by decide +kernel
theorem dX10_change_25 : decode cX10_change 25 = .ok (.getfield 12, 3) := by decide +kernel
theorem dX10_change_28 : decode cX10_change 28 = .ok (.getfield 88, 3) := by decide +kernel
theorem dX10_change_31 : decode cX10_change 31 = .ok (.if_icmp .lt 6, 3) := by decide +kernel
theorem dX10_change_34 : decode cX10_change 34 = .ok (.bipush (-4), 2) := by decide +kernel
theorem dX10_change_36 : decode cX10_change 36 = .ok (.ireturn, 1) := by decide +kernel
theorem dX10_change_37 : decode cX10_change 37 = .ok (.aload_n 0, 1) := by decide +kernel
theorem dX10_change_38 : decode cX10_change 38 = .ok (.getfield 12, 3) := by decide +kernel
theorem dX10_change_41 : decode cX10_change 41 = .ok (.aload_n 0, 1) := by decide +kernel
theorem dX10_change_42 : decode cX10_change 42 = .ok (.getfield 12, 3) := by decide +kernel
theorem dX10_change_45 : decode cX10_change 45 = .ok (.iload_n 1, 1) := by decide +kernel
theorem dX10_change_46 : decode cX10_change 46 = .ok (.invokevirtual 141, 3) := by decide +kernel
theorem dX10_change_49 : decode cX10_change 49 = .ok (.iload_n 2, 1) := by decide +kernel
theorem dX10_change_50 : decode cX10_change 50 = .ok (.invokevirtual 144, 3) := by decide +kernel
theorem dX10_change_53 : decode cX10_change 53 = .ok (.ireturn, 1) := by decide +kernel
theorem dX10_row_0 : decode cX10_row 0 = .ok (.iload_n 1, 1) := by decide +kernel
theorem dX10_row_1 : decode cX10_row 1 = .ok (.iconst 0, 1) := by decide +kernel
theorem dX10_row_2 : decode cX10_row 2 = .ok (.aload_n 0, 1) := by decide +kernel
theorem dX10_row_3 : decode cX10_row 3 = .ok (.getfield 12, 3) := by decide +kernel
theorem dX10_row_6 : decode cX10_row 6 = .ok (.invokevirtual 121, 3) := by decide +kernel
theorem dX10_row_9 : decode cX10_row 9 = .ok (.invokestatic 61, 3) := by decide +kernel
theorem dX10_row_12 : decode cX10_row 12 = .ok (.ifCond .eq 12, 3) := by decide +kernel
theorem dX10_row_15 : decode cX10_row 15 = .ok (.iload_n 2, 1) := by decide +kernel
theorem dX10_row_16 : decode cX10_row 16 = .ok (.iconst 0, 1) := by decide +kernel
theorem dX10_row_17 : decode cX10_row 17 = .ok (.iconst 5, 1) := by decide +kernel
theorem dX10_row_18 : decode cX10_row 18 = .ok (.invokestatic 61, 3) := by decide +kernel
theorem dX10_row_21 : decode cX10_row 21 = .ok (.ifCond .ne 5, 3) := by decide +kernel
theorem dX10_row_24 : decode cX10_row 24 = .ok (.iconst (-1), 1) := by decide +kernel
theorem dX10_row_25 : decode cX10_row 25 = .ok (.ireturn, 1) := by decide +kernel
theorem dX10_row_26 : decode cX10_row 26 = .ok (.aload_n 0, 1) := by decide +kernel
theorem dX10_row_27 : decode cX10_row 27 = .ok (.getfield 46, 3) := by decide +kernel
theorem dX10_row_30 : decode cX10_row 30 = .ok (.aload_n 0, 1) := by decide +kernel
theorem dX10_row_31 : decode cX10_row 31 = .ok (.getfield 12, 3) := by decide +kernel
theorem dX10_row_34 : decode cX10_row 34 = .ok (.invokevirtual 128, 3) := by decide +kernel
theorem dX10_row_37 : decode cX10_row 37 = .ok (.aload_n 0, 1) := by decide +kernel
theorem dX10_row_38 : decode cX10_row 38 = .ok (.getfield 46, 3) := by decide +kernel
theorem dX10_row_41 : decode cX10_row 41 = .ok (.iload_n 1, 1) := by decide +kernel
theorem dX10_row_42 : decode cX10_row 42 = .ok (.invokevirtual 131, 3) := by decide +kernel
theorem dX10_row_45 : decode cX10_row 45 = .ok (.istore_n 3, 1) := by decide +kernel
theorem dX10_row_46 : decode cX10_row 46 = .ok (.iload_n 2, 1) := by decide +kernel
theorem dX10_row_47 : decode cX10_row 47 = .ok (.tableswitch 98 0 4 #[33, 45, 57, 77, 89], 33) := by decide +kernel
theorem dX10_row_80 : decode cX10_row 80 = .ok (.iload_n 3, 1) := by decide +kernel
theorem dX10_row_81 : decode cX10_row 81 = .ok (.aload_n 0, 1) := by decide +kernel
theorem dX10_row_82 : decode cX10_row 82 = .ok (.getfield 12, 3) := by decide +kernel
theorem dX10_row_85 : decode cX10_row 85 = .ok (.getfield 65, 3) := by decide +kernel
theorem dX10_row_88 : decode cX10_row 88 = .ok (.invokestatic 147, 3) := by decide +kernel
theorem dX10_row_91 : decode cX10_row 91 = .ok (.ireturn, 1) := by decide +kernel
theorem dX10_row_92 : decode cX10_row 92 = .ok (.iload_n 3, 1) := by decide +kernel
theorem dX10_row_93 : decode cX10_row 93 = .ok (.aload_n 0, 1) := by decide +kernel
theorem dX10_row_94 : decode cX10_row 94 = .ok (.getfield 12, 3) := by decide +kernel
theorem dX10_row_97 : decode cX10_row 97 = .ok (.getfield 65, 3) := by decide +kernel
theorem dX10_row_100 : decode cX10_row 100 = .ok (.invokestatic 150, 3) := by decide +kernel
theorem dX10_row_103 : decode cX10_row 103 = .ok (.ireturn, 1) := by decide +kernel
theorem dX10_row_104 : decode cX10_row 104 = .ok (.iload_n 3, 1) := by decide +kernel
theorem dX10_row_105 : decode cX10_row 105 = .ok (.aload_n 0, 1) := by decide +kernel
theorem dX10_row_106 : decode cX10_row 106 = .ok (.getfield 12, 3) := by decide +kernel
theorem dX10_row_109 : decode cX10_row 109 = .ok (.getfield 65, 3) := by decide +kernel
theorem dX10_row_112 : decode cX10_row 112 = .ok (.invokestatic 153, 3) := by decide +kernel
theorem dX10_row_115 : decode cX10_row 115 = .ok (.ifCond .eq 7, 3) := by decide +kernel
theorem dX10_row_118 : decode cX10_row 118 = .ok (.iconst 1, 1) := by decide +kernel
theorem dX10_row_119 : decode cX10_row 119 = .ok (.goto 4, 3) := by decide +kernel
theorem dX10_row_122 : decode cX10_row 122 = .ok (.iconst 0, 1) := by decide +kernel
theorem dX10_row_123 : decode cX10_row 123 = .ok (.ireturn, 1) := by decide +kernel
theorem dX10_row_124 : decode cX10_row 124 = .ok (.iload_n 3, 1) := by decide +kernel
theorem dX10_row_125 : decode cX10_row 125 = .ok (.aload_n 0, 1) := by decide +kernel
theorem dX10_row_126 : decode cX10_row 126 = .ok (.getfield 12, 3) := by decide +kernel
theorem dX10_row_129 : decode cX10_row 129 = .ok (.getfield 65, 3) := by decide +kernel
theorem dX10_row_132 : decode cX10_row 132 = .ok (.invokestatic 156, 3) := by decide +kernel
theorem dX10_row_135 : decode cX10_row 135 = .ok (.ireturn, 1) := by decide +kernel
theorem dX10_row_136 : decode cX10_row 136 = .ok (.aload_n 0, 1) := by decide +kernel
theorem dX10_row_137 : decode cX10_row 137 = .ok (.getfield 46, 3) := by decide +kernel
theorem dX10_row_140 : decode cX10_row 140 = .ok (.iload_n 1, 1) := by decide +kernel
theorem dX10_row_141 : decode cX10_row 141 = .ok (.invokevirtual 159, 3) := by decide +kernel
theorem dX10_row_144 : decode cX10_row 144 = .ok (.ireturn, 1) := by decide +kernel
theorem dX10_row_145 : decode cX10_row 145 = .ok (.aload_n 0, 1) := by decide +kernel
theorem dX10_row_146 : decode cX10_row 146 = .ok (.getfield 53, 3) := by decide +kernel
theorem dX10_row_149 : decode cX10_row 149 = .ok (.aload_n 0, 1) := by decide +kernel
theorem dX10_row_150 : decode cX10_row 150 = .ok (.getfield 12, 3) := by decide +kernel
theorem dX10_row_153 : decode cX10_row 153 = .ok (.invokevirtual 162, 3) := by decide +kernel
theorem dX10_row_156 : decode cX10_row 156 = .ok (.aload_n 0, 1) := by decide +kernel
theorem dX10_row_157 : decode cX10_row 157 = .ok (.getfield 53, 3) := by decide +kernel
theorem dX10_row_160 : decode cX10_row 160 = .ok (.iload_n 3, 1) := by decide +kernel
theorem dX10_row_161 : decode cX10_row 161 = .ok (.invokevirtual 165, 3) := by decide +kernel
theorem dX10_row_164 : decode cX10_row 164 = .ok (.ireturn, 1) := by decide +kernel
theorem dX10_path_0 : decode cX10_path 0 = .ok (.aload_n 0, 1) := by decide +kernel
theorem dX10_path_1 : decode cX10_path 1 = .ok (.iload_n 1, 1) := by decide +kernel
theorem dX10_path_2 : decode cX10_path 2 = .ok (.invokevirtual 124, 3) := by decide +kernel
theorem dX10_path_5 : decode cX10_path 5 = .ok (.ifCond .eq 12, 3) := by decide +kernel
theorem dX10_path_8 : decode cX10_path 8 = .ok (.iload_n 2, 1) := by decide +kernel
theorem dX10_path_9 : decode cX10_path 9 = .ok (.iconst 0, 1) := by decide +kernel
theorem dX10_path_10 : decode cX10_path 10 = .ok (.iconst 4, 1) := by decide +kernel
theorem dX10_path_11 : decode cX10_path 11 = .ok (.invokestatic 61, 3) := by decide +kernel
theorem dX10_path_14 : decode cX10_path 14 = .ok (.ifCond .ne 5, 3) := by decide +kernel
theorem dX10_path_17 : decode cX10_path 17 = .ok (.iconst (-1), 1) := by decide +kernel
theorem dX10_path_18 : decode cX10_path 18 = .ok (.ireturn, 1) := by decide +kernel
theorem dX10_path_19 : decode cX10_path 19 = .ok (.aload_n 0, 1) := by decide +kernel
theorem dX10_path_20 : decode cX10_path 20 = .ok (.getfield 46, 3) := by decide +kernel
theorem dX10_path_23 : decode cX10_path 23 = .ok (.aload_n 0, 1) := by decide +kernel
theorem dX10_path_24 : decode cX10_path 24 = .ok (.getfield 12, 3) := by decide +kernel
theorem dX10_path_27 : decode cX10_path 27 = .ok (.invokevirtual 128, 3) := by decide +kernel
theorem dX10_path_30 : decode cX10_path 30 = .ok (.iload_n 2, 1) := by decide +kernel
theorem dX10_path_31 : decode cX10_path 31 = .ok (.tableswitch 66 0 3 #[29, 38, 47, 57], 29) := by decide +kernel
theorem dX10_path_60 : decode cX10_path 60 = .ok (.aload_n 0, 1) := by decide +kernel
theorem dX10_path_61 : decode cX10_path 61 = .ok (.getfield 46, 3) := by decide +kernel
theorem dX10_path_64 : decode cX10_path 64 = .ok (.iload_n 1, 1) := by decide +kernel
theorem dX10_path_65 : decode cX10_path 65 = .ok (.invokevirtual 168, 3) := by decide +kernel
theorem dX10_path_68 : decode cX10_path 68 = .ok (.ireturn, 1) := by decide +kernel
theorem dX10_path_69 : decode cX10_path 69 = .ok (.aload_n 0, 1) := by decide +kernel
theorem dX10_path_70 : decode cX10_path 70 = .ok (.getfield 46, 3) := by decide +kernel
theorem dX10_path_73 : decode cX10_path 73 = .ok (.iload_n 1, 1) := by decide +kernel
theorem dX10_path_74 : decode cX10_path 74 = .ok (.invokevirtual 171, 3) := by decide +kernel
theorem dX10_path_77 : decode cX10_path 77 = .ok (.ireturn, 1) := by decide +kernel
theorem dX10_path_78 : decode cX10_path 78 = .ok (.aload_n 0, 1) := by decide +kernel
theorem dX10_path_79 : decode cX10_path 79 = .ok (.getfield 46, 3) := by decide +kernel
theorem dX10_path_82 : decode cX10_path 82 = .ok (.iload_n 1, 1) := by decide +kernel
theorem dX10_path_83 : decode cX10_path 83 = .ok (.iconst 1, 1) := by decide +kernel
theorem dX10_path_84 : decode cX10_path 84 = .ok (.invokevirtual 174, 3) := by decide +kernel
theorem dX10_path_87 : decode cX10_path 87 = .ok (.ireturn, 1) := by decide +kernel
theorem dX10_path_88 : decode cX10_path 88 = .ok (.aload_n 0, 1) := by decide +kernel
theorem dX10_path_89 : decode cX10_path 89 = .ok (.getfield 46, 3) := by decide +kernel
theorem dX10_path_92 : decode cX10_path 92 = .ok (.iload_n 1, 1) := by decide +kernel
theorem dX10_path_93 : decode cX10_path 93 = .ok (.invokevirtual 177, 3) := by decide +kernel
theorem dX10_path_96 : decode cX10_path 96 = .ok (.ireturn, 1) := by decide +kernel
theorem dX10_path_97 : decode cX10_path 97 = .ok (.aload_n 0, 1) := by decide +kernel
theorem dX10_path_98 : decode cX10_path 98 = .ok (.getfield 46, 3) := by decide +kernel
theorem dX10_path_101 : decode cX10_path 101 = .ok (.aload_n 0, 1) := by decide +kernel
theorem dX10_path_102 : decode cX10_path 102 = .ok (.getfield 46, 3) := by decide +kernel
theorem dX10_path_105 : decode cX10_path 105 = .ok (.getfield 180, 3) := by decide +kernel
theorem dX10_path_108 : decode cX10_path 108 = .ok (.iload_n 1, 1) := by decide +kernel
theorem dX10_path_109 : decode cX10_path 109 = .ok (.invokevirtual 183, 3) := by decide +kernel
theorem dX10_path_112 : decode cX10_path 112 = .ok (.ireturn, 1) := by decide +kernel
theorem dX10_blows_0 : decode cX10_blows 0 = .ok (.aload_n 0, 1) := by decide +kernel
theorem dX10_blows_1 : decode cX10_blows 1 = .ok (.iload_n 1, 1) := by decide +kernel
theorem dX10_blows_2 : decode cX10_blows 2 = .ok (.invokevirtual 124, 3) := by decide +kernel
theorem dX10_blows_5 : decode cX10_blows 5 = .ok (.ifCond .eq 11, 3) := by decide +kernel
theorem dX10_blows_8 : decode cX10_blows 8 = .ok (.aload_n 0, 1) := by decide +kernel
theorem dX10_blows_9 : decode cX10_blows 9 = .ok (.iload_n 2, 1) := by decide +kernel
theorem dX10_blows_10 : decode cX10_blows 10 = .ok (.invokevirtual 124, 3) := by decide +kernel
theorem dX10_blows_13 : decode cX10_blows 13 = .ok (.ifCond .ne 5, 3) := by decide +kernel
theorem dX10_blows_16 : decode cX10_blows 16 = .ok (.iconst (-1), 1) := by decide +kernel
theorem dX10_blows_17 : decode cX10_blows 17 = .ok (.ireturn, 1) := by decide +kernel
theorem dX10_blows_18 : decode cX10_blows 18 = .ok (.aload_n 0, 1) := by decide +kernel
theorem dX10_blows_19 : decode cX10_blows 19 = .ok (.getfield 46, 3) := by decide +kernel
theorem dX10_blows_22 : decode cX10_blows 22 = .ok (.aload_n 0, 1) := by decide +kernel
theorem dX10_blows_23 : decode cX10_blows 23 = .ok (.getfield 12, 3) := by decide +kernel
theorem dX10_blows_26 : decode cX10_blows 26 = .ok (.invokevirtual 128, 3) := by decide +kernel
theorem dX10_blows_29 : decode cX10_blows 29 = .ok (.aload_n 0, 1) := by decide +kernel
theorem dX10_blows_30 : decode cX10_blows 30 = .ok (.getfield 46, 3) := by decide +kernel
theorem dX10_blows_33 : decode cX10_blows 33 = .ok (.iload_n 1, 1) := by decide +kernel
theorem dX10_blows_34 : decode cX10_blows 34 = .ok (.iload_n 2, 1) := by decide +kernel
theorem dX10_blows_35 : decode cX10_blows 35 = .ok (.invokevirtual 174, 3) := by decide +kernel
theorem dX10_blows_38 : decode cX10_blows 38 = .ok (.ireturn, 1) := by decide +kernel
theorem dX10_count_0 : decode cX10_count 0 = .ok (.iload_n 1, 1) := by decide +kernel
theorem dX10_count_1 : decode cX10_count 1 = .ok (.tableswitch 159 0 15 #[79, 87, 95, 103, 159, 159, 159, 159, 159, 159, 111, 119, 127, 135, 143, 151], 79) := by decide +kernel
theorem dX10_count_80 : decode cX10_count 80 = .ok (.aload_n 0, 1) := by decide +kernel
theorem dX10_count_81 : decode cX10_count 81 = .ok (.getfield 12, 3) := by decide +kernel
theorem dX10_count_84 : decode cX10_count 84 = .ok (.getfield 65, 3) := by decide +kernel
theorem dX10_count_87 : decode cX10_count 87 = .ok (.ireturn, 1) := by decide +kernel
theorem dX10_count_88 : decode cX10_count 88 = .ok (.aload_n 0, 1) := by decide +kernel
theorem dX10_count_89 : decode cX10_count 89 = .ok (.getfield 12, 3) := by decide +kernel
theorem dX10_count_92 : decode cX10_count 92 = .ok (.getfield 88, 3) := by decide +kernel
theorem dX10_count_95 : decode cX10_count 95 = .ok (.ireturn, 1) := by decide +kernel
theorem dX10_count_96 : decode cX10_count 96 = .ok (.aload_n 0, 1) := by decide +kernel
theorem dX10_count_97 : decode cX10_count 97 = .ok (.getfield 12, 3) := by decide +kernel
theorem dX10_count_100 : decode cX10_count 100 = .ok (.getfield 107, 3) := by decide +kernel
theorem dX10_count_103 : decode cX10_count 103 = .ok (.ireturn, 1) := by decide +kernel
theorem dX10_count_104 : decode cX10_count 104 = .ok (.aload_n 0, 1) := by decide +kernel
theorem dX10_count_105 : decode cX10_count 105 = .ok (.getfield 12, 3) := by decide +kernel
theorem dX10_count_108 : decode cX10_count 108 = .ok (.invokevirtual 121, 3) := by decide +kernel
theorem dX10_count_111 : decode cX10_count 111 = .ok (.ireturn, 1) := by decide +kernel
theorem dX10_count_112 : decode cX10_count 112 = .ok (.aload_n 0, 1) := by decide +kernel
theorem dX10_count_113 : decode cX10_count 113 = .ok (.getfield 12, 3) := by decide +kernel
theorem dX10_count_116 : decode cX10_count 116 = .ok (.invokevirtual 186, 3) := by decide +kernel
theorem dX10_count_119 : decode cX10_count 119 = .ok (.ireturn, 1) := by decide +kernel
theorem dX10_count_120 : decode cX10_count 120 = .ok (.aload_n 0, 1) := by decide +kernel
theorem dX10_count_121 : decode cX10_count 121 = .ok (.getfield 12, 3) := by decide +kernel
theorem dX10_count_124 : decode cX10_count 124 = .ok (.invokevirtual 189, 3) := by decide +kernel
theorem dX10_count_127 : decode cX10_count 127 = .ok (.ireturn, 1) := by decide +kernel
theorem dX10_count_128 : decode cX10_count 128 = .ok (.aload_n 0, 1) := by decide +kernel
theorem dX10_count_129 : decode cX10_count 129 = .ok (.getfield 12, 3) := by decide +kernel
theorem dX10_count_132 : decode cX10_count 132 = .ok (.getfield 97, 3) := by decide +kernel
theorem dX10_count_135 : decode cX10_count 135 = .ok (.ireturn, 1) := by decide +kernel
theorem dX10_count_136 : decode cX10_count 136 = .ok (.aload_n 0, 1) := by decide +kernel
theorem dX10_count_137 : decode cX10_count 137 = .ok (.getfield 12, 3) := by decide +kernel
theorem dX10_count_140 : decode cX10_count 140 = .ok (.getfield 100, 3) := by decide +kernel
theorem dX10_count_143 : decode cX10_count 143 = .ok (.ireturn, 1) := by decide +kernel
theorem dX10_count_144 : decode cX10_count 144 = .ok (.aload_n 0, 1) := by decide +kernel
theorem dX10_count_145 : decode cX10_count 145 = .ok (.getfield 32, 3) := by decide +kernel
theorem dX10_count_148 : decode cX10_count 148 = .ok (.getfield 77, 3) := by decide +kernel
theorem dX10_count_151 : decode cX10_count 151 = .ok (.ireturn, 1) := by decide +kernel
theorem dX10_count_152 : decode cX10_count 152 = .ok (.aload_n 0, 1) := by decide +kernel
theorem dX10_count_153 : decode cX10_count 153 = .ok (.getfield 25, 3) := by decide +kernel
theorem dX10_count_156 : decode cX10_count 156 = .ok (.getfield 192, 3) := by decide +kernel
theorem dX10_count_159 : decode cX10_count 159 = .ok (.ireturn, 1) := by decide +kernel
theorem dX10_count_160 : decode cX10_count 160 = .ok (.iload_n 1, 1) := by decide +kernel
theorem dX10_count_161 : decode cX10_count 161 = .ok (.iconst 4, 1) := by decide +kernel
theorem dX10_count_162 : decode cX10_count 162 = .ok (.bipush 9, 2) := by decide +kernel
theorem dX10_count_164 : decode cX10_count 164 = .ok (.invokestatic 61, 3) := by decide +kernel
theorem dX10_count_167 : decode cX10_count 167 = .ok (.ifCond .eq 11, 3) := by decide +kernel
theorem dX10_count_170 : decode cX10_count 170 = .ok (.aload_n 0, 1) := by decide +kernel
theorem dX10_count_171 : decode cX10_count 171 = .ok (.iload_n 1, 1) := by decide +kernel
theorem dX10_count_172 : decode cX10_count 172 = .ok (.invokevirtual 195, 3) := by decide +kernel
theorem dX10_count_175 : decode cX10_count 175 = .ok (.goto 4, 3) := by decide +kernel
theorem dX10_count_178 : decode cX10_count 178 = .ok (.iconst (-1), 1) := by decide +kernel
theorem dX10_count_179 : decode cX10_count 179 = .ok (.ireturn, 1) := by decide +kernel
theorem dX10_music_0 : decode cX10_music 0 = .ok (.aload_n 0, 1) := by decide +kernel
theorem dX10_music_1 : decode cX10_music 1 = .ok (.getfield 46, 3) := by decide +kernel
theorem dX10_music_4 : decode cX10_music 4 = .ok (.aload_n 0, 1) := by decide +kernel
theorem dX10_music_5 : decode cX10_music 5 = .ok (.getfield 12, 3) := by decide +kernel
theorem dX10_music_8 : decode cX10_music 8 = .ok (.invokevirtual 128, 3) := by decide +kernel
theorem dX10_music_11 : decode cX10_music 11 = .ok (.aload_n 0, 1) := by decide +kernel
theorem dX10_music_12 : decode cX10_music 12 = .ok (.getfield 46, 3) := by decide +kernel
theorem dX10_music_15 : decode cX10_music 15 = .ok (.getfield 180, 3) := by decide +kernel
theorem dX10_music_18 : decode cX10_music 18 = .ok (.ifCond .gt 5, 3) := by decide +kernel
theorem dX10_music_21 : decode cX10_music 21 = .ok (.dconst 0, 1) := by decide +kernel
theorem dX10_music_22 : decode cX10_music 22 = .ok (.dreturn, 1) := by decide +kernel
theorem dX10_music_23 : decode cX10_music 23 = .ok (.aload_n 0, 1) := by decide +kernel
theorem dX10_music_24 : decode cX10_music 24 = .ok (.getfield 46, 3) := by decide +kernel
theorem dX10_music_27 : decode cX10_music 27 = .ok (.invokevirtual 198, 3) := by decide +kernel
theorem dX10_music_30 : decode cX10_music 30 = .ok (.i2d, 1) := by decide +kernel
theorem dX10_music_31 : decode cX10_music 31 = .ok (.aload_n 0, 1) := by decide +kernel
theorem dX10_music_32 : decode cX10_music 32 = .ok (.getfield 46, 3) := by decide +kernel
theorem dX10_music_35 : decode cX10_music 35 = .ok (.getfield 180, 3) := by decide +kernel
theorem dX10_music_38 : decode cX10_music 38 = .ok (.i2d, 1) := by decide +kernel
theorem dX10_music_39 : decode cX10_music 39 = .ok (.ddiv, 1) := by decide +kernel
theorem dX10_music_40 : decode cX10_music 40 = .ok (.dreturn, 1) := by decide +kernel
theorem dX10_home_0 : decode cX10_home 0 = .ok (.iload_n 1, 1) := by decide +kernel
theorem dX10_home_1 : decode cX10_home 1 = .ok (.iconst 0, 1) := by decide +kernel
theorem dX10_home_2 : decode cX10_home 2 = .ok (.iconst 1, 1) := by decide +kernel
theorem dX10_home_3 : decode cX10_home 3 = .ok (.invokestatic 61, 3) := by decide +kernel
theorem dX10_home_6 : decode cX10_home 6 = .ok (.ifCond .ne 5, 3) := by decide +kernel
theorem dX10_home_9 : decode cX10_home 9 = .ok (.iconst (-1), 1) := by decide +kernel
theorem dX10_home_10 : decode cX10_home 10 = .ok (.ireturn, 1) := by decide +kernel
theorem dX10_home_11 : decode cX10_home 11 = .ok (.aload_n 0, 1) := by decide +kernel
theorem dX10_home_12 : decode cX10_home 12 = .ok (.invokevirtual 201, 3) := by decide +kernel
theorem dX10_home_15 : decode cX10_home 15 = .ok (.istore_n 2, 1) := by decide +kernel
theorem dX10_home_16 : decode cX10_home 16 = .ok (.aload_n 0, 1) := by decide +kernel
theorem dX10_home_17 : decode cX10_home 17 = .ok (.getfield 53, 3) := by decide +kernel
theorem dX10_home_20 : decode cX10_home 20 = .ok (.aload_n 0, 1) := by decide +kernel
theorem dX10_home_21 : decode cX10_home 21 = .ok (.getfield 12, 3) := by decide +kernel
theorem dX10_home_24 : decode cX10_home 24 = .ok (.invokevirtual 162, 3) := by decide +kernel
theorem dX10_home_27 : decode cX10_home 27 = .ok (.iload_n 1, 1) := by decide +kernel
theorem dX10_home_28 : decode cX10_home 28 = .ok (.ifCond .ne 14, 3) := by decide +kernel
theorem dX10_home_31 : decode cX10_home 31 = .ok (.aload_n 0, 1) := by decide +kernel
theorem dX10_home_32 : decode cX10_home 32 = .ok (.getfield 53, 3) := by decide +kernel
theorem dX10_home_35 : decode cX10_home 35 = .ok (.iload_n 2, 1) := by decide +kernel
theorem dX10_home_36 : decode cX10_home 36 = .ok (.invokevirtual 165, 3) := by decide +kernel
theorem dX10_home_39 : decode cX10_home 39 = .ok (.goto 11, 3) := by decide +kernel
theorem dX10_home_42 : decode cX10_home 42 = .ok (.aload_n 0, 1) := by decide +kernel
theorem dX10_home_43 : decode cX10_home 43 = .ok (.getfield 53, 3) := by decide +kernel
theorem dX10_home_46 : decode cX10_home 46 = .ok (.iload_n 2, 1) := by decide +kernel
theorem dX10_home_47 : decode cX10_home 47 = .ok (.invokevirtual 204, 3) := by decide +kernel
theorem dX10_home_50 : decode cX10_home 50 = .ok (.ireturn, 1) := by decide +kernel
theorem dX10_homeCall_0 : decode cX10_homeCall 0 = .ok (.iload_n 1, 1) := by decide +kernel
theorem dX10_homeCall_1 : decode cX10_homeCall 1 = .ok (.ifCond .ge 5, 3) := by decide +kernel
theorem dX10_homeCall_4 : decode cX10_homeCall 4 = .ok (.iconst (-1), 1) := by decide +kernel
theorem dX10_homeCall_5 : decode cX10_homeCall 5 = .ok (.ireturn, 1) := by decide +kernel
theorem dX10_homeCall_6 : decode cX10_homeCall 6 = .ok (.aload_n 0, 1) := by decide +kernel
theorem dX10_homeCall_7 : decode cX10_homeCall 7 = .ok (.invokevirtual 201, 3) := by decide +kernel
theorem dX10_homeCall_10 : decode cX10_homeCall 10 = .ok (.istore_n 2, 1) := by decide +kernel
theorem dX10_homeCall_11 : decode cX10_homeCall 11 = .ok (.aload_n 0, 1) := by decide +kernel
theorem dX10_homeCall_12 : decode cX10_homeCall 12 = .ok (.getfield 53, 3) := by decide +kernel
theorem dX10_homeCall_15 : decode cX10_homeCall 15 = .ok (.aload_n 0, 1) := by decide +kernel
theorem dX10_homeCall_16 : decode cX10_homeCall 16 = .ok (.getfield 12, 3) := by decide +kernel
theorem dX10_homeCall_19 : decode cX10_homeCall 19 = .ok (.invokevirtual 162, 3) := by decide +kernel
theorem dX10_homeCall_22 : decode cX10_homeCall 22 = .ok (.aload_n 0, 1) := by decide +kernel
theorem dX10_homeCall_23 : decode cX10_homeCall 23 = .ok (.getfield 53, 3) := by decide +kernel
theorem dX10_homeCall_26 : decode cX10_homeCall 26 = .ok (.iload_n 2, 1) := by decide +kernel
theorem dX10_homeCall_27 : decode cX10_homeCall 27 = .ok (.iload_n 1, 1) := by decide +kernel
theorem dX10_homeCall_28 : decode cX10_homeCall 28 = .ok (.invokevirtual 207, 3) := by decide +kernel
theorem dX10_homeCall_31 : decode cX10_homeCall 31 = .ok (.ireturn, 1) := by decide +kernel
theorem dX10_ifCalled_0 : decode cX10_ifCalled 0 = .ok (.iload_n 1, 1) := by decide +kernel
theorem dX10_ifCalled_1 : decode cX10_ifCalled 1 = .ok (.iconst 0, 1) := by decide +kernel
theorem dX10_ifCalled_2 : decode cX10_ifCalled 2 = .ok (.aload_n 0, 1) := by decide +kernel
theorem dX10_ifCalled_3 : decode cX10_ifCalled 3 = .ok (.getfield 12, 3) := by decide +kernel
theorem dX10_ifCalled_6 : decode cX10_ifCalled 6 = .ok (.getfield 107, 3) := by decide +kernel
theorem dX10_ifCalled_9 : decode cX10_ifCalled 9 = .ok (.iconst 1, 1) := by decide +kernel
theorem dX10_ifCalled_10 : decode cX10_ifCalled 10 = .ok (.isub, 1) := by decide +kernel
theorem dX10_ifCalled_11 : decode cX10_ifCalled 11 = .ok (.invokestatic 61, 3) := by decide +kernel
theorem dX10_ifCalled_14 : decode cX10_ifCalled 14 = .ok (.ifCond .eq 21, 3) := by decide +kernel
theorem dX10_ifCalled_17 : decode cX10_ifCalled 17 = .ok (.iload_n 2, 1) := by decide +kernel
theorem dX10_ifCalled_18 : decode cX10_ifCalled 18 = .ok (.iconst 0, 1) := by decide +kernel
theorem dX10_ifCalled_19 : decode cX10_ifCalled 19 = .ok (.iconst 2, 1) := by decide +kernel
theorem dX10_ifCalled_20 : decode cX10_ifCalled 20 = .ok (.invokestatic 61, 3) := by decide +kernel
theorem dX10_ifCalled_23 : decode cX10_ifCalled 23 = .ok (.ifCond .eq 12, 3) := by decide +kernel
theorem dX10_ifCalled_26 : decode cX10_ifCalled 26 = .ok (.iload_n 3, 1) := by decide +kernel
theorem dX10_ifCalled_27 : decode cX10_ifCalled 27 = .ok (.iconst 0, 1) := by decide +kernel
theorem dX10_ifCalled_28 : decode cX10_ifCalled 28 = .ok (.iconst 2, 1) := by decide +kernel
theorem dX10_ifCalled_29 : decode cX10_ifCalled 29 = .ok (.invokestatic 61, 3) := by decide +kernel
theorem dX10_ifCalled_32 : decode cX10_ifCalled 32 = .ok (.ifCond .ne 5, 3) := by decide +kernel
theorem dX10_ifCalled_35 : decode cX10_ifCalled 35 = .ok (.iconst (-1), 1) := by decide +kernel
theorem dX10_ifCalled_36 : decode cX10_ifCalled 36 = .ok (.ireturn, 1) := by decide +kernel
theorem dX10_ifCalled_37 : decode cX10_ifCalled 37 = .ok (.aload_n 0, 1) := by decide +kernel
theorem dX10_ifCalled_38 : decode cX10_ifCalled 38 = .ok (.getfield 16, 3) := by decide +kernel
theorem dX10_ifCalled_41 : decode cX10_ifCalled 41 = .ok (.aload_n 0, 1) := by decide +kernel
theorem dX10_ifCalled_42 : decode cX10_ifCalled 42 = .ok (.getfield 12, 3) := by decide +kernel
theorem dX10_ifCalled_45 : decode cX10_ifCalled 45 = .ok (.invokevirtual 210, 3) := by decide +kernel
theorem dX10_ifCalled_48 : decode cX10_ifCalled 48 = .ok (.aload_n 0, 1) := by decide +kernel
theorem dX10_ifCalled_49 : decode cX10_ifCalled 49 = .ok (.getfield 16, 3) := by decide +kernel
theorem dX10_ifCalled_52 : decode cX10_ifCalled 52 = .ok (.iload_n 1, 1) := by decide +kernel
theorem dX10_ifCalled_53 : decode cX10_ifCalled 53 = .ok (.iload_n 2, 1) := by decide +kernel
theorem dX10_ifCalled_54 : decode cX10_ifCalled 54 = .ok (.invokevirtual 213, 3) := by decide +kernel
theorem dX10_ifCalled_57 : decode cX10_ifCalled 57 = .ok (.aload_n 0, 1) := by decide +kernel
theorem dX10_ifCalled_58 : decode cX10_ifCalled 58 = .ok (.getfield 46, 3) := by decide +kernel
theorem dX10_ifCalled_61 : decode cX10_ifCalled 61 = .ok (.aload_n 0, 1) := by decide +kernel
theorem dX10_ifCalled_62 : decode cX10_ifCalled 62 = .ok (.getfield 16, 3) := by decide +kernel
theorem dX10_ifCalled_65 : decode cX10_ifCalled 65 = .ok (.invokevirtual 128, 3) := by decide +kernel
theorem dX10_ifCalled_68 : decode cX10_ifCalled 68 = .ok (.iload_n 3, 1) := by decide +kernel
theorem dX10_ifCalled_69 : decode cX10_ifCalled 69 = .ok (.lookupswitch 51 #[(0, 27), (1, 43)], 27) := by decide +kernel
theorem dX10_ifCalled_96 : decode cX10_ifCalled 96 = .ok (.aload_n 0, 1) := by decide +kernel
theorem dX10_ifCalled_97 : decode cX10_ifCalled 97 = .ok (.getfield 46, 3) := by decide +kernel
theorem dX10_ifCalled_100 : decode cX10_ifCalled 100 = .ok (.invokevirtual 217, 3) := by decide +kernel
theorem dX10_ifCalled_103 : decode cX10_ifCalled 103 = .ok (.ifCond .eq 7, 3) := by decide +kernel
theorem dX10_ifCalled_106 : decode cX10_ifCalled 106 = .ok (.iconst 1, 1) := by decide +kernel
theorem dX10_ifCalled_107 : decode cX10_ifCalled 107 = .ok (.goto 4, 3) := by decide +kernel
theorem dX10_ifCalled_110 : decode cX10_ifCalled 110 = .ok (.iconst 0, 1) := by decide +kernel
theorem dX10_ifCalled_111 : decode cX10_ifCalled 111 = .ok (.ireturn, 1) := by decide +kernel
theorem dX10_ifCalled_112 : decode cX10_ifCalled 112 = .ok (.aload_n 0, 1) := by decide +kernel
theorem dX10_ifCalled_113 : decode cX10_ifCalled 113 = .ok (.getfield 46, 3) := by decide +kernel
theorem dX10_ifCalled_116 : decode cX10_ifCalled 116 = .ok (.invokevirtual 221, 3) := by decide +kernel
theorem dX10_ifCalled_119 : decode cX10_ifCalled 119 = .ok (.ireturn, 1) := by decide +kernel
theorem dX10_ifCalled_120 : decode cX10_ifCalled 120 = .ok (.aload_n 0, 1) := by decide +kernel
theorem dX10_ifCalled_121 : decode cX10_ifCalled 121 = .ok (.getfield 46, 3) := by decide +kernel
theorem dX10_ifCalled_124 : decode cX10_ifCalled 124 = .ok (.invokevirtual 198, 3) := by decide +kernel
theorem dX10_ifCalled_127 : decode cX10_ifCalled 127 = .ok (.ireturn, 1) := by decide +kernel
theorem dX10_best_0 : decode cX10_best 0 = .ok (.iconst 0, 1) := by decide +kernel
theorem dX10_best_1 : decode cX10_best 1 = .ok (.istore_n 1, 1) := by decide +kernel
theorem dX10_best_2 : decode cX10_best 2 = .ok (.iconst (-1), 1) := by decide +kernel
theorem dX10_best_3 : decode cX10_best 3 = .ok (.istore_n 2, 1) := by decide +kernel
theorem dX10_best_4 : decode cX10_best 4 = .ok (.iconst 0, 1) := by decide +kernel
theorem dX10_best_5 : decode cX10_best 5 = .ok (.istore_n 3, 1) := by decide +kernel
theorem dX10_best_6 : decode cX10_best 6 = .ok (.iload_n 3, 1) := by decide +kernel
theorem dX10_best_7 : decode cX10_best 7 = .ok (.iconst 2, 1) := by decide +kernel
theorem dX10_best_8 : decode cX10_best 8 = .ok (.if_icmp .gt 59, 3) := by decide +kernel
theorem dX10_best_11 : decode cX10_best 11 = .ok (.aload_n 0, 1) := by decide +kernel
theorem dX10_best_12 : decode cX10_best 12 = .ok (.getfield 16, 3) := by decide +kernel
theorem dX10_best_15 : decode cX10_best 15 = .ok (.aload_n 0, 1) := by decide +kernel
theorem dX10_best_16 : decode cX10_best 16 = .ok (.getfield 12, 3) := by decide +kernel
theorem dX10_best_19 : decode cX10_best 19 = .ok (.invokevirtual 210, 3) := by decide +kernel
theorem dX10_best_22 : decode cX10_best 22 = .ok (.aload_n 0, 1) := by decide +kernel
theorem dX10_best_23 : decode cX10_best 23 = .ok (.getfield 16, 3) := by decide +kernel
theorem dX10_best_26 : decode cX10_best 26 = .ok (.iload_n 3, 1) := by decide +kernel
theorem dX10_best_27 : decode cX10_best 27 = .ok (.invokevirtual 114, 3) := by decide +kernel
theorem dX10_best_30 : decode cX10_best 30 = .ok (.aload_n 0, 1) := by decide +kernel
theorem dX10_best_31 : decode cX10_best 31 = .ok (.getfield 46, 3) := by decide +kernel
theorem dX10_best_34 : decode cX10_best 34 = .ok (.aload_n 0, 1) := by decide +kernel
theorem dX10_best_35 : decode cX10_best 35 = .ok (.getfield 16, 3) := by decide +kernel
theorem dX10_best_38 : decode cX10_best 38 = .ok (.invokevirtual 128, 3) := by decide +kernel
theorem dX10_best_41 : decode cX10_best 41 = .ok (.aload_n 0, 1) := by decide +kernel
theorem dX10_best_42 : decode cX10_best 42 = .ok (.getfield 46, 3) := by decide +kernel
theorem dX10_best_45 : decode cX10_best 45 = .ok (.invokevirtual 224, 3) := by decide +kernel
theorem dX10_best_48 : decode cX10_best 48 = .ok (.istore 4, 2) := by decide +kernel
theorem dX10_best_50 : decode cX10_best 50 = .ok (.iload 4, 2) := by decide +kernel
theorem dX10_best_52 : decode cX10_best 52 = .ok (.iload_n 2, 1) := by decide +kernel
theorem dX10_best_53 : decode cX10_best 53 = .ok (.if_icmp .le 8, 3) := by decide +kernel
theorem dX10_best_56 : decode cX10_best 56 = .ok (.iload 4, 2) := by decide +kernel
theorem dX10_best_58 : decode cX10_best 58 = .ok (.istore_n 2, 1) := by decide +kernel
theorem dX10_best_59 : decode cX10_best 59 = .ok (.iload_n 3, 1) := by decide +kernel
theorem dX10_best_60 : decode cX10_best 60 = .ok (.istore_n 1, 1) := by decide +kernel
theorem dX10_best_61 : decode cX10_best 61 = .ok (.iinc 3 1, 3) := by decide +kernel
theorem dX10_best_64 : decode cX10_best 64 = .ok (.goto (-58), 3) := by decide +kernel
theorem dX10_best_67 : decode cX10_best 67 = .ok (.iload_n 1, 1) := by decide +kernel
theorem dX10_best_68 : decode cX10_best 68 = .ok (.ireturn, 1) := by decide +kernel
theorem dX10_undo_0 : decode cX10_undo 0 = .ok (.aload_n 0, 1) := by decide +kernel
theorem dX10_undo_1 : decode cX10_undo 1 = .ok (.getfield 25, 3) := by decide +kernel
theorem dX10_undo_4 : decode cX10_undo 4 = .ok (.getfield 192, 3) := by decide +kernel
theorem dX10_undo_7 : decode cX10_undo 7 = .ok (.ifCond .gt 6, 3) := by decide +kernel
theorem dX10_undo_10 : decode cX10_undo 10 = .ok (.bipush (-2), 2) := by decide +kernel
theorem dX10_undo_12 : decode cX10_undo 12 = .ok (.ireturn, 1) := by decide +kernel
theorem dX10_undo_13 : decode cX10_undo 13 = .ok (.aload_n 0, 1) := by decide +kernel
theorem dX10_undo_14 : decode cX10_undo 14 = .ok (.getfield 25, 3) := by decide +kernel
theorem dX10_undo_17 : decode cX10_undo 17 = .ok (.aload_n 0, 1) := by decide +kernel
theorem dX10_undo_18 : decode cX10_undo 18 = .ok (.getfield 12, 3) := by decide +kernel
theorem dX10_undo_21 : decode cX10_undo 21 = .ok (.invokevirtual 227, 3) := by decide +kernel
theorem dX10_undo_24 : decode cX10_undo 24 = .ok (.aload_n 0, 1) := by decide +kernel
theorem dX10_undo_25 : decode cX10_undo 25 = .ok (.getfield 25, 3) := by decide +kernel
theorem dX10_undo_28 : decode cX10_undo 28 = .ok (.getfield 192, 3) := by decide +kernel
theorem dX10_undo_31 : decode cX10_undo 31 = .ok (.ireturn, 1) := by decide +kernel
theorem dX10_save_0 : decode cX10_save 0 = .ok (.aload_n 0, 1) := by decide +kernel
theorem dX10_save_1 : decode cX10_save 1 = .ok (.getfield 19, 3) := by decide +kernel
theorem dX10_save_4 : decode cX10_save 4 = .ok (.aload_n 0, 1) := by decide +kernel
theorem dX10_save_5 : decode cX10_save 5 = .ok (.getfield 12, 3) := by decide +kernel
theorem dX10_save_8 : decode cX10_save 8 = .ok (.invokevirtual 210, 3) := by decide +kernel
theorem dX10_save_11 : decode cX10_save 11 = .ok (.aload_n 0, 1) := by decide +kernel
theorem dX10_save_12 : decode cX10_save 12 = .ok (.iconst 1, 1) := by decide +kernel
theorem dX10_save_13 : decode cX10_save 13 = .ok (.putfield 230, 3) := by decide +kernel
theorem dX10_save_16 : decode cX10_save 16 = .ok (.aload_n 0, 1) := by decide +kernel
theorem dX10_save_17 : decode cX10_save 17 = .ok (.getfield 12, 3) := by decide +kernel
theorem dX10_save_20 : decode cX10_save 20 = .ok (.getfield 107, 3) := by decide +kernel
theorem dX10_save_23 : decode cX10_save 23 = .ok (.ireturn, 1) := by decide +kernel
theorem dX10_restore_0 : decode cX10_restore 0 = .ok (.aload_n 0, 1) := by decide +kernel
theorem dX10_restore_1 : decode cX10_restore 1 = .ok (.getfield 230, 3) := by decide +kernel
theorem dX10_restore_4 : decode cX10_restore 4 = .ok (.ifCond .ne 6, 3) := by decide +kernel
theorem dX10_restore_7 : decode cX10_restore 7 = .ok (.bipush (-2), 2) := by decide +kernel
theorem dX10_restore_9 : decode cX10_restore 9 = .ok (.ireturn, 1) := by decide +kernel
theorem dX10_restore_10 : decode cX10_restore 10 = .ok (.aload_n 0, 1) := by decide +kernel
theorem dX10_restore_11 : decode cX10_restore 11 = .ok (.getfield 25, 3) := by decide +kernel
theorem dX10_restore_14 : decode cX10_restore 14 = .ok (.aload_n 0, 1) := by decide +kernel
theorem dX10_restore_15 : decode cX10_restore 15 = .ok (.getfield 12, 3) := by decide +kernel
theorem dX10_restore_18 : decode cX10_restore 18 = .ok (.invokevirtual 69, 3) := by decide +kernel
theorem dX10_restore_21 : decode cX10_restore 21 = .ok (.aload_n 0, 1) := by decide +kernel
theorem dX10_restore_22 : decode cX10_restore 22 = .ok (.getfield 12, 3) := by decide +kernel
theorem dX10_restore_25 : decode cX10_restore 25 = .ok (.aload_n 0, 1) := by decide +kernel
theorem dX10_restore_26 : decode cX10_restore 26 = .ok (.getfield 19, 3) := by decide +kernel
theorem dX10_restore_29 : decode cX10_restore 29 = .ok (.invokevirtual 210, 3) := by decide +kernel
theorem dX10_restore_32 : decode cX10_restore 32 = .ok (.aload_n 0, 1) := by decide +kernel
theorem dX10_restore_33 : decode cX10_restore 33 = .ok (.getfield 12, 3) := by decide +kernel
theorem dX10_restore_36 : decode cX10_restore 36 = .ok (.getfield 107, 3) := by decide +kernel
theorem dX10_restore_39 : decode cX10_restore 39 = .ok (.ireturn, 1) := by decide +kernel
theorem dX10_begin_0 : decode cX10_begin 0 = .ok (.aload_n 0, 1) := by decide +kernel
theorem dX10_begin_1 : decode cX10_begin 1 = .ok (.getfield 12, 3) := by decide +kernel
theorem dX10_begin_4 : decode cX10_begin 4 = .ok (.iload_n 1, 1) := by decide +kernel
theorem dX10_begin_5 : decode cX10_begin 5 = .ok (.putfield 65, 3) := by decide +kernel
theorem dX10_begin_8 : decode cX10_begin 8 = .ok (.aload_n 0, 1) := by decide +kernel
theorem dX10_begin_9 : decode cX10_begin 9 = .ok (.getfield 12, 3) := by decide +kernel
theorem dX10_begin_12 : decode cX10_begin 12 = .ok (.iconst 0, 1) := by decide +kernel
theorem dX10_begin_13 : decode cX10_begin 13 = .ok (.putfield 107, 3) := by decide +kernel
theorem dX10_begin_16 : decode cX10_begin 16 = .ok (.aload_n 0, 1) := by decide +kernel
theorem dX10_begin_17 : decode cX10_begin 17 = .ok (.iload_n 1, 1) := by decide +kernel
theorem dX10_begin_18 : decode cX10_begin 18 = .ok (.invokestatic 234, 3) := by decide +kernel
theorem dX10_begin_21 : decode cX10_begin 21 = .ok (.iload_n 1, 1) := by decide +kernel
theorem dX10_begin_22 : decode cX10_begin 22 = .ok (.invokevirtual 239, 3) := by decide +kernel
theorem dX10_begin_25 : decode cX10_begin 25 = .ok (.aload_n 0, 1) := by decide +kernel
theorem dX10_begin_26 : decode cX10_begin 26 = .ok (.getfield 12, 3) := by decide +kernel
theorem dX10_begin_29 : decode cX10_begin 29 = .ok (.aload_n 0, 1) := by decide +kernel
theorem dX10_begin_30 : decode cX10_begin 30 = .ok (.getfield 39, 3) := by decide +kernel
theorem dX10_begin_33 : decode cX10_begin 33 = .ok (.getfield 243, 3) := by decide +kernel
theorem dX10_begin_36 : decode cX10_begin 36 = .ok (.iconst 0, 1) := by decide +kernel
theorem dX10_begin_37 : decode cX10_begin 37 = .ok (.iaload, 1) := by decide +kernel
theorem dX10_begin_38 : decode cX10_begin 38 = .ok (.putfield 97, 3) := by decide +kernel
theorem dX10_begin_41 : decode cX10_begin 41 = .ok (.aload_n 0, 1) := by decide +kernel
theorem dX10_begin_42 : decode cX10_begin 42 = .ok (.iload_n 1, 1) := by decide +kernel
theorem dX10_begin_43 : decode cX10_begin 43 = .ok (.invokestatic 247, 3) := by decide +kernel
theorem dX10_begin_46 : decode cX10_begin 46 = .ok (.iload_n 1, 1) := by decide +kernel
theorem dX10_begin_47 : decode cX10_begin 47 = .ok (.invokevirtual 239, 3) := by decide +kernel
theorem dX10_begin_50 : decode cX10_begin 50 = .ok (.aload_n 0, 1) := by decide +kernel
theorem dX10_begin_51 : decode cX10_begin 51 = .ok (.getfield 12, 3) := by decide +kernel
theorem dX10_begin_54 : decode cX10_begin 54 = .ok (.aload_n 0, 1) := by decide +kernel
theorem dX10_begin_55 : decode cX10_begin 55 = .ok (.getfield 39, 3) := by decide +kernel
theorem dX10_begin_58 : decode cX10_begin 58 = .ok (.getfield 243, 3) := by decide +kernel
theorem dX10_begin_61 : decode cX10_begin 61 = .ok (.iconst 0, 1) := by decide +kernel
theorem dX10_begin_62 : decode cX10_begin 62 = .ok (.iaload, 1) := by decide +kernel
theorem dX10_begin_63 : decode cX10_begin 63 = .ok (.putfield 100, 3) := by decide +kernel
theorem dX10_begin_66 : decode cX10_begin 66 = .ok (.aload_n 0, 1) := by decide +kernel
theorem dX10_begin_67 : decode cX10_begin 67 = .ok (.iload_n 1, 1) := by decide +kernel
theorem dX10_begin_68 : decode cX10_begin 68 = .ok (.invokestatic 249, 3) := by decide +kernel
theorem dX10_begin_71 : decode cX10_begin 71 = .ok (.iload_n 1, 1) := by decide +kernel
theorem dX10_begin_72 : decode cX10_begin 72 = .ok (.invokevirtual 239, 3) := by decide +kernel
theorem dX10_begin_75 : decode cX10_begin 75 = .ok (.aload_n 0, 1) := by decide +kernel
theorem dX10_begin_76 : decode cX10_begin 76 = .ok (.getfield 12, 3) := by decide +kernel
theorem dX10_begin_79 : decode cX10_begin 79 = .ok (.aload_n 0, 1) := by decide +kernel
theorem dX10_begin_80 : decode cX10_begin 80 = .ok (.getfield 39, 3) := by decide +kernel
theorem dX10_begin_83 : decode cX10_begin 83 = .ok (.invokevirtual 84, 3) := by decide +kernel
theorem dX10_begin_86 : decode cX10_begin 86 = .ok (.return_, 1) := by decide +kernel
theorem dX10_readStart_0 : decode cX10_readStart 0 = .ok (.aload_n 0, 1) := by decide +kernel
theorem dX10_readStart_1 : decode cX10_readStart 1 = .ok (.getfield 39, 3) := by decide +kernel
theorem dX10_readStart_4 : decode cX10_readStart 4 = .ok (.aload_n 1, 1) := by decide +kernel
theorem dX10_readStart_5 : decode cX10_readStart 5 = .ok (.invokevirtual 252, 3) := by decide +kernel
theorem dX10_readStart_8 : decode cX10_readStart 8 = .ok (.aload_n 1, 1) := by decide +kernel
theorem dX10_readStart_9 : decode cX10_readStart 9 = .ok (.invokevirtual 258, 3) := by decide +kernel
theorem dX10_readStart_12 : decode cX10_readStart 12 = .ok (.iload_n 2, 1) := by decide +kernel
theorem dX10_readStart_13 : decode cX10_readStart 13 = .ok (.invokevirtual 80, 3) := by decide +kernel
theorem dX10_readStart_16 : decode cX10_readStart 16 = .ok (.pop, 1) := by decide +kernel
theorem dX10_readStart_17 : decode cX10_readStart 17 = .ok (.return_, 1) := by decide +kernel
theorem dX10_countRows_0 : decode cX10_countRows 0 = .ok (.aload_n 0, 1) := by decide +kernel
theorem dX10_countRows_1 : decode cX10_countRows 1 = .ok (.getfield 46, 3) := by decide +kernel
theorem dX10_countRows_4 : decode cX10_countRows 4 = .ok (.aload_n 0, 1) := by decide +kernel
theorem dX10_countRows_5 : decode cX10_countRows 5 = .ok (.getfield 12, 3) := by decide +kernel
theorem dX10_countRows_8 : decode cX10_countRows 8 = .ok (.invokevirtual 128, 3) := by decide +kernel
theorem dX10_countRows_11 : decode cX10_countRows 11 = .ok (.iload_n 1, 1) := by decide +kernel
theorem dX10_countRows_12 : decode cX10_countRows 12 = .ok (.tableswitch 84 4 8 #[36, 44, 60, 68, 76], 36) := by decide +kernel
theorem dX10_countRows_48 : decode cX10_countRows 48 = .ok (.aload_n 0, 1) := by decide +kernel
theorem dX10_countRows_49 : decode cX10_countRows 49 = .ok (.getfield 46, 3) := by decide +kernel
theorem dX10_countRows_52 : decode cX10_countRows 52 = .ok (.invokevirtual 221, 3) := by decide +kernel
theorem dX10_countRows_55 : decode cX10_countRows 55 = .ok (.ireturn, 1) := by decide +kernel
theorem dX10_countRows_56 : decode cX10_countRows 56 = .ok (.aload_n 0, 1) := by decide +kernel
theorem dX10_countRows_57 : decode cX10_countRows 57 = .ok (.getfield 46, 3) := by decide +kernel
theorem dX10_countRows_60 : decode cX10_countRows 60 = .ok (.invokevirtual 217, 3) := by decide +kernel
theorem dX10_countRows_63 : decode cX10_countRows 63 = .ok (.ifCond .eq 7, 3) := by decide +kernel
theorem dX10_countRows_66 : decode cX10_countRows 66 = .ok (.iconst 1, 1) := by decide +kernel
theorem dX10_countRows_67 : decode cX10_countRows 67 = .ok (.goto 4, 3) := by decide +kernel
theorem dX10_countRows_70 : decode cX10_countRows 70 = .ok (.iconst 0, 1) := by decide +kernel
theorem dX10_countRows_71 : decode cX10_countRows 71 = .ok (.ireturn, 1) := by decide +kernel
theorem dX10_countRows_72 : decode cX10_countRows 72 = .ok (.aload_n 0, 1) := by decide +kernel
theorem dX10_countRows_73 : decode cX10_countRows 73 = .ok (.getfield 46, 3) := by decide +kernel
theorem dX10_countRows_76 : decode cX10_countRows 76 = .ok (.invokevirtual 260, 3) := by decide +kernel
theorem dX10_countRows_79 : decode cX10_countRows 79 = .ok (.ireturn, 1) := by decide +kernel
theorem dX10_countRows_80 : decode cX10_countRows 80 = .ok (.aload_n 0, 1) := by decide +kernel
theorem dX10_countRows_81 : decode cX10_countRows 81 = .ok (.getfield 46, 3) := by decide +kernel
theorem dX10_countRows_84 : decode cX10_countRows 84 = .ok (.invokevirtual 224, 3) := by decide +kernel
theorem dX10_countRows_87 : decode cX10_countRows 87 = .ok (.ireturn, 1) := by decide +kernel
theorem dX10_countRows_88 : decode cX10_countRows 88 = .ok (.aload_n 0, 1) := by decide +kernel
theorem dX10_countRows_89 : decode cX10_countRows 89 = .ok (.getfield 46, 3) := by decide +kernel
theorem dX10_countRows_92 : decode cX10_countRows 92 = .ok (.invokevirtual 263, 3) := by decide +kernel
theorem dX10_countRows_95 : decode cX10_countRows 95 = .ok (.ireturn, 1) := by decide +kernel
theorem dX10_countRows_96 : decode cX10_countRows 96 = .ok (.aload_n 0, 1) := by decide +kernel
theorem dX10_countRows_97 : decode cX10_countRows 97 = .ok (.getfield 46, 3) := by decide +kernel
theorem dX10_countRows_100 : decode cX10_countRows 100 = .ok (.invokevirtual 198, 3) := by decide +kernel
theorem dX10_countRows_103 : decode cX10_countRows 103 = .ok (.ireturn, 1) := by decide +kernel
theorem dX10_lastOrder_0 : decode cX10_lastOrder 0 = .ok (.aload_n 0, 1) := by decide +kernel
theorem dX10_lastOrder_1 : decode cX10_lastOrder 1 = .ok (.getfield 46, 3) := by decide +kernel
theorem dX10_lastOrder_4 : decode cX10_lastOrder 4 = .ok (.aload_n 0, 1) := by decide +kernel
theorem dX10_lastOrder_5 : decode cX10_lastOrder 5 = .ok (.getfield 12, 3) := by decide +kernel
theorem dX10_lastOrder_8 : decode cX10_lastOrder 8 = .ok (.invokevirtual 128, 3) := by decide +kernel
theorem dX10_lastOrder_11 : decode cX10_lastOrder 11 = .ok (.aload_n 0, 1) := by decide +kernel
theorem dX10_lastOrder_12 : decode cX10_lastOrder 12 = .ok (.getfield 46, 3) := by decide +kernel
theorem dX10_lastOrder_15 : decode cX10_lastOrder 15 = .ok (.aload_n 0, 1) := by decide +kernel
theorem dX10_lastOrder_16 : decode cX10_lastOrder 16 = .ok (.getfield 46, 3) := by decide +kernel
theorem dX10_lastOrder_19 : decode cX10_lastOrder 19 = .ok (.getfield 180, 3) := by decide +kernel
theorem dX10_lastOrder_22 : decode cX10_lastOrder 22 = .ok (.invokevirtual 131, 3) := by decide +kernel
theorem dX10_lastOrder_25 : decode cX10_lastOrder 25 = .ok (.ireturn, 1) := by decide +kernel
theorem dX10_isBell_0 : decode cX10_isBell 0 = .ok (.iload_n 1, 1) := by decide +kernel
theorem dX10_isBell_1 : decode cX10_isBell 1 = .ok (.iconst 1, 1) := by decide +kernel
theorem dX10_isBell_2 : decode cX10_isBell 2 = .ok (.aload_n 0, 1) := by decide +kernel
theorem dX10_isBell_3 : decode cX10_isBell 3 = .ok (.getfield 12, 3) := by decide +kernel
theorem dX10_isBell_6 : decode cX10_isBell 6 = .ok (.getfield 65, 3) := by decide +kernel
theorem dX10_isBell_9 : decode cX10_isBell 9 = .ok (.invokestatic 61, 3) := by decide +kernel
theorem dX10_isBell_12 : decode cX10_isBell 12 = .ok (.ireturn, 1) := by decide +kernel
theorem dX10_isWithin_0 : decode cX10_isWithin 0 = .ok (.iload_n 0, 1) := by decide +kernel
theorem dX10_isWithin_1 : decode cX10_isWithin 1 = .ok (.iload_n 1, 1) := by decide +kernel
theorem dX10_isWithin_2 : decode cX10_isWithin 2 = .ok (.if_icmp .lt 12, 3) := by decide +kernel
theorem dX10_isWithin_5 : decode cX10_isWithin 5 = .ok (.iload_n 0, 1) := by decide +kernel
theorem dX10_isWithin_6 : decode cX10_isWithin 6 = .ok (.iload_n 2, 1) := by decide +kernel
theorem dX10_isWithin_7 : decode cX10_isWithin 7 = .ok (.if_icmp .gt 7, 3) := by decide +kernel
theorem dX10_isWithin_10 : decode cX10_isWithin 10 = .ok (.iconst 1, 1) := by decide +kernel
theorem dX10_isWithin_11 : decode cX10_isWithin 11 = .ok (.goto 4, 3) := by decide +kernel
theorem dX10_isWithin_14 : decode cX10_isWithin 14 = .ok (.iconst 0, 1) := by decide +kernel
theorem dX10_isWithin_15 : decode cX10_isWithin 15 = .ok (.ireturn, 1) := by decide +kernel
theorem dJ0_length_8abf5_0 : decode cJ0_length_8abf5 0 = .ok (.aload_n 0, 1) := by decide +kernel
theorem dJ0_length_8abf5_1 : decode cJ0_length_8abf5 1 = .ok (.getfield 9, 3) := by decide +kernel
theorem dJ0_length_8abf5_4 : decode cJ0_length_8abf5 4 = .ok (.arraylength, 1) := by decide +kernel
theorem dJ0_length_8abf5_5 : decode cJ0_length_8abf5 5 = .ok (.aload_n 0, 1) := by decide +kernel
theorem dJ0_length_8abf5_6 : decode cJ0_length_8abf5 6 = .ok (.invokevirtual 335, 3) := by decide +kernel
theorem dJ0_length_8abf5_9 : decode cJ0_length_8abf5 9 = .ok (.ishr, 1) := by decide +kernel
theorem dJ0_length_8abf5_10 : decode cJ0_length_8abf5 10 = .ok (.ireturn, 1) := by decide +kernel
theorem dJ0_toCharArray_70df3_0 : decode cJ0_toCharArray_70df3 0 = .ok (.aload_n 0, 1) := by decide +kernel
theorem dJ0_toCharArray_70df3_1 : decode cJ0_toCharArray_70df3 1 = .ok (.invokevirtual 492, 3) := by decide +kernel
theorem dJ0_toCharArray_70df3_4 : decode cJ0_toCharArray_70df3 4 = .ok (.ifCond .eq 13, 3) := by decide +kernel
theorem dJ0_toCharArray_70df3_7 : decode cJ0_toCharArray_70df3 7 = .ok (.aload_n 0, 1) := by decide +kernel
theorem dJ0_toCharArray_70df3_8 : decode cJ0_toCharArray_70df3 8 = .ok (.getfield 9, 3) := by decide +kernel
theorem dJ0_toCharArray_70df3_11 : decode cJ0_toCharArray_70df3 11 = .ok (.invokestatic 299, 3) := by decide +kernel
theorem dJ0_toCharArray_70df3_14 : decode cJ0_toCharArray_70df3 14 = .ok (.goto 10, 3) := by decide +kernel
theorem dJ0_toCharArray_70df3_17 : decode cJ0_toCharArray_70df3 17 = .ok (.aload_n 0, 1) := by decide +kernel
theorem dJ0_toCharArray_70df3_18 : decode cJ0_toCharArray_70df3 18 = .ok (.getfield 9, 3) := by decide +kernel
theorem dJ0_toCharArray_70df3_21 : decode cJ0_toCharArray_70df3 21 = .ok (.invokestatic 303, 3) := by decide +kernel
theorem dJ0_toCharArray_70df3_24 : decode cJ0_toCharArray_70df3 24 = .ok (.areturn, 1) := by decide +kernel
theorem dJ0_coder_7d493_0 : decode cJ0_coder_7d493 0 = .ok (.getstatic 38, 3) := by decide +kernel
theorem dJ0_coder_7d493_3 : decode cJ0_coder_7d493 3 = .ok (.ifCond .eq 10, 3) := by decide +kernel
theorem dJ0_coder_7d493_6 : decode cJ0_coder_7d493 6 = .ok (.aload_n 0, 1) := by decide +kernel
theorem dJ0_coder_7d493_7 : decode cJ0_coder_7d493 7 = .ok (.getfield 15, 3) := by decide +kernel
theorem dJ0_coder_7d493_10 : decode cJ0_coder_7d493 10 = .ok (.goto 4, 3) := by decide +kernel
theorem dJ0_coder_7d493_13 : decode cJ0_coder_7d493 13 = .ok (.iconst 1, 1) := by decide +kernel
theorem dJ0_coder_7d493_14 : decode cJ0_coder_7d493 14 = .ok (.ireturn, 1) := by decide +kernel
theorem dJ0_isLatin1_aae02_0 : decode cJ0_isLatin1_aae02 0 = .ok (.getstatic 38, 3) := by decide +kernel
theorem dJ0_isLatin1_aae02_3 : decode cJ0_isLatin1_aae02 3 = .ok (.ifCond .eq 14, 3) := by decide +kernel
theorem dJ0_isLatin1_aae02_6 : decode cJ0_isLatin1_aae02 6 = .ok (.aload_n 0, 1) := by decide +kernel
theorem dJ0_isLatin1_aae02_7 : decode cJ0_isLatin1_aae02 7 = .ok (.getfield 15, 3) := by decide +kernel
theorem dJ0_isLatin1_aae02_10 : decode cJ0_isLatin1_aae02 10 = .ok (.ifCond .ne 7, 3) := by decide +kernel
theorem dJ0_isLatin1_aae02_13 : decode cJ0_isLatin1_aae02 13 = .ok (.iconst 1, 1) := by decide +kernel
theorem dJ0_isLatin1_aae02_14 : decode cJ0_isLatin1_aae02 14 = .ok (.goto 4, 3) := by decide +kernel
theorem dJ0_isLatin1_aae02_17 : decode cJ0_isLatin1_aae02 17 = .ok (.iconst 0, 1) := by decide +kernel
theorem dJ0_isLatin1_aae02_18 : decode cJ0_isLatin1_aae02 18 = .ok (.ireturn, 1) := by decide +kernel
theorem dJ0_checkBoundsOffCount_cabcc_0 : decode cJ0_checkBoundsOffCount_cabcc 0 = .ok (.iload_n 0, 1) := by decide +kernel
theorem dJ0_checkBoundsOffCount_cabcc_1 : decode cJ0_checkBoundsOffCount_cabcc 1 = .ok (.iload_n 1, 1) := by decide +kernel
theorem dJ0_checkBoundsOffCount_cabcc_2 : decode cJ0_checkBoundsOffCount_cabcc 2 = .ok (.iload_n 2, 1) := by decide +kernel
theorem dJ0_checkBoundsOffCount_cabcc_3 : decode cJ0_checkBoundsOffCount_cabcc 3 = .ok (.getstatic 1053, 3) := by decide +kernel
theorem dJ0_checkBoundsOffCount_cabcc_6 : decode cJ0_checkBoundsOffCount_cabcc 6 = .ok (.invokestatic 1065, 3) := by decide +kernel
theorem dJ0_checkBoundsOffCount_cabcc_9 : decode cJ0_checkBoundsOffCount_cabcc 9 = .ok (.ireturn, 1) := by decide +kernel
theorem dJ1_toChars_9d188_0 : decode cJ1_toChars_9d188 0 = .ok (.aload_n 0, 1) := by decide +kernel
theorem dJ1_toChars_9d188_1 : decode cJ1_toChars_9d188 1 = .ok (.arraylength, 1) := by decide +kernel
theorem dJ1_toChars_9d188_2 : decode cJ1_toChars_9d188 2 = .ok (.newarray .char, 2) := by decide +kernel
theorem dJ1_toChars_9d188_4 : decode cJ1_toChars_9d188 4 = .ok (.astore_n 1, 1) := by decide +kernel
theorem dJ1_toChars_9d188_5 : decode cJ1_toChars_9d188 5 = .ok (.aload_n 0, 1) := by decide +kernel
theorem dJ1_toChars_9d188_6 : decode cJ1_toChars_9d188 6 = .ok (.iconst 0, 1) := by decide +kernel
theorem dJ1_toChars_9d188_7 : decode cJ1_toChars_9d188 7 = .ok (.aload_n 1, 1) := by decide +kernel
theorem dJ1_toChars_9d188_8 : decode cJ1_toChars_9d188 8 = .ok (.iconst 0, 1) := by decide +kernel
theorem dJ1_toChars_9d188_9 : decode cJ1_toChars_9d188 9 = .ok (.aload_n 0, 1) := by decide +kernel
theorem dJ1_toChars_9d188_10 : decode cJ1_toChars_9d188 10 = .ok (.arraylength, 1) := by decide +kernel
theorem dJ1_toChars_9d188_11 : decode cJ1_toChars_9d188 11 = .ok (.invokestatic 13, 3) := by decide +kernel
theorem dJ1_toChars_9d188_14 : decode cJ1_toChars_9d188 14 = .ok (.aload_n 1, 1) := by decide +kernel
theorem dJ1_toChars_9d188_15 : decode cJ1_toChars_9d188 15 = .ok (.areturn, 1) := by decide +kernel
theorem dJ1_inflate_03870_0 : decode cJ1_inflate_03870 0 = .ok (.iconst 0, 1) := by decide +kernel
theorem dJ1_inflate_03870_1 : decode cJ1_inflate_03870 1 = .ok (.istore 5, 2) := by decide +kernel
theorem dJ1_inflate_03870_3 : decode cJ1_inflate_03870 3 = .ok (.iload 5, 2) := by decide +kernel
theorem dJ1_inflate_03870_5 : decode cJ1_inflate_03870 5 = .ok (.iload 4, 2) := by decide +kernel
theorem dJ1_inflate_03870_7 : decode cJ1_inflate_03870 7 = .ok (.if_icmp .ge 26, 3) := by decide +kernel
theorem dJ1_inflate_03870_10 : decode cJ1_inflate_03870 10 = .ok (.aload_n 2, 1) := by decide +kernel
theorem dJ1_inflate_03870_11 : decode cJ1_inflate_03870 11 = .ok (.iload_n 3, 1) := by decide +kernel
theorem dJ1_inflate_03870_12 : decode cJ1_inflate_03870 12 = .ok (.iinc 3 1, 3) := by decide +kernel
theorem dJ1_inflate_03870_15 : decode cJ1_inflate_03870 15 = .ok (.aload_n 0, 1) := by decide +kernel
theorem dJ1_inflate_03870_16 : decode cJ1_inflate_03870 16 = .ok (.iload_n 1, 1) := by decide +kernel
theorem dJ1_inflate_03870_17 : decode cJ1_inflate_03870 17 = .ok (.iinc 1 1, 3) := by decide +kernel
theorem dJ1_inflate_03870_20 : decode cJ1_inflate_03870 20 = .ok (.baload, 1) := by decide +kernel
theorem dJ1_inflate_03870_21 : decode cJ1_inflate_03870 21 = .ok (.sipush 255, 3) := by decide +kernel
theorem dJ1_inflate_03870_24 : decode cJ1_inflate_03870 24 = .ok (.iand, 1) := by decide +kernel
theorem dJ1_inflate_03870_25 : decode cJ1_inflate_03870 25 = .ok (.i2c, 1) := by decide +kernel
theorem dJ1_inflate_03870_26 : decode cJ1_inflate_03870 26 = .ok (.castore, 1) := by decide +kernel
theorem dJ1_inflate_03870_27 : decode cJ1_inflate_03870 27 = .ok (.iinc 5 1, 3) := by decide +kernel
theorem dJ1_inflate_03870_30 : decode cJ1_inflate_03870 30 = .ok (.goto (-27), 3) := by decide +kernel
theorem dJ1_inflate_03870_33 : decode cJ1_inflate_03870 33 = .ok (.return_, 1) := by decide +kernel
theorem dJ6_bitCount_0f7a4_0 : decode cJ6_bitCount_0f7a4 0 = .ok (.iload_n 0, 1) := by decide +kernel
theorem dJ6_bitCount_0f7a4_1 : decode cJ6_bitCount_0f7a4 1 = .ok (.iload_n 0, 1) := by decide +kernel
theorem dJ6_bitCount_0f7a4_2 : decode cJ6_bitCount_0f7a4 2 = .ok (.iconst 1, 1) := by decide +kernel
theorem dJ6_bitCount_0f7a4_3 : decode cJ6_bitCount_0f7a4 3 = .ok (.iushr, 1) := by decide +kernel
theorem dJ6_bitCount_0f7a4_4 : decode cJ6_bitCount_0f7a4 4 = .ok (.ldc_w 265, 3) := by decide +kernel
theorem dJ6_bitCount_0f7a4_7 : decode cJ6_bitCount_0f7a4 7 = .ok (.iand, 1) := by decide +kernel
theorem dJ6_bitCount_0f7a4_8 : decode cJ6_bitCount_0f7a4 8 = .ok (.isub, 1) := by decide +kernel
theorem dJ6_bitCount_0f7a4_9 : decode cJ6_bitCount_0f7a4 9 = .ok (.istore_n 0, 1) := by decide +kernel
theorem dJ6_bitCount_0f7a4_10 : decode cJ6_bitCount_0f7a4 10 = .ok (.iload_n 0, 1) := by decide +kernel
theorem dJ6_bitCount_0f7a4_11 : decode cJ6_bitCount_0f7a4 11 = .ok (.ldc_w 266, 3) := by decide +kernel
theorem dJ6_bitCount_0f7a4_14 : decode cJ6_bitCount_0f7a4 14 = .ok (.iand, 1) := by decide +kernel
theorem dJ6_bitCount_0f7a4_15 : decode cJ6_bitCount_0f7a4 15 = .ok (.iload_n 0, 1) := by decide +kernel
theorem dJ6_bitCount_0f7a4_16 : decode cJ6_bitCount_0f7a4 16 = .ok (.iconst 2, 1) := by decide +kernel
theorem dJ6_bitCount_0f7a4_17 : decode cJ6_bitCount_0f7a4 17 = .ok (.iushr, 1) := by decide +kernel
theorem dJ6_bitCount_0f7a4_18 : decode cJ6_bitCount_0f7a4 18 = .ok (.ldc_w 266, 3) := by decide +kernel
theorem dJ6_bitCount_0f7a4_21 : decode cJ6_bitCount_0f7a4 21 = .ok (.iand, 1) := by decide +kernel
theorem dJ6_bitCount_0f7a4_22 : decode cJ6_bitCount_0f7a4 22 = .ok (.iadd, 1) := by decide +kernel
theorem dJ6_bitCount_0f7a4_23 : decode cJ6_bitCount_0f7a4 23 = .ok (.istore_n 0, 1) := by decide +kernel
theorem dJ6_bitCount_0f7a4_24 : decode cJ6_bitCount_0f7a4 24 = .ok (.iload_n 0, 1) := by decide +kernel
theorem dJ6_bitCount_0f7a4_25 : decode cJ6_bitCount_0f7a4 25 = .ok (.iload_n 0, 1) := by decide +kernel
theorem dJ6_bitCount_0f7a4_26 : decode cJ6_bitCount_0f7a4 26 = .ok (.iconst 4, 1) := by decide +kernel
theorem dJ6_bitCount_0f7a4_27 : decode cJ6_bitCount_0f7a4 27 = .ok (.iushr, 1) := by decide +kernel
theorem dJ6_bitCount_0f7a4_28 : decode cJ6_bitCount_0f7a4 28 = .ok (.iadd, 1) := by decide +kernel
theorem dJ6_bitCount_0f7a4_29 : decode cJ6_bitCount_0f7a4 29 = .ok (.ldc_w 267, 3) := by decide +kernel
theorem dJ6_bitCount_0f7a4_32 : decode cJ6_bitCount_0f7a4 32 = .ok (.iand, 1) := by decide +kernel
theorem dJ6_bitCount_0f7a4_33 : decode cJ6_bitCount_0f7a4 33 = .ok (.istore_n 0, 1) := by decide +kernel
theorem dJ6_bitCount_0f7a4_34 : decode cJ6_bitCount_0f7a4 34 = .ok (.iload_n 0, 1) := by decide +kernel
theorem dJ6_bitCount_0f7a4_35 : decode cJ6_bitCount_0f7a4 35 = .ok (.iload_n 0, 1) := by decide +kernel
theorem dJ6_bitCount_0f7a4_36 : decode cJ6_bitCount_0f7a4 36 = .ok (.bipush 8, 2) := by decide +kernel
theorem dJ6_bitCount_0f7a4_38 : decode cJ6_bitCount_0f7a4 38 = .ok (.iushr, 1) := by decide +kernel
theorem dJ6_bitCount_0f7a4_39 : decode cJ6_bitCount_0f7a4 39 = .ok (.iadd, 1) := by decide +kernel
theorem dJ6_bitCount_0f7a4_40 : decode cJ6_bitCount_0f7a4 40 = .ok (.istore_n 0, 1) := by decide +kernel
theorem dJ6_bitCount_0f7a4_41 : decode cJ6_bitCount_0f7a4 41 = .ok (.iload_n 0, 1) := by decide +kernel
theorem dJ6_bitCount_0f7a4_42 : decode cJ6_bitCount_0f7a4 42 = .ok (.iload_n 0, 1) := by decide +kernel
theorem dJ6_bitCount_0f7a4_43 : decode cJ6_bitCount_0f7a4 43 = .ok (.bipush 16, 2) := by decide +kernel
theorem dJ6_bitCount_0f7a4_45 : decode cJ6_bitCount_0f7a4 45 = .ok (.iushr, 1) := by decide +kernel
theorem dJ6_bitCount_0f7a4_46 : decode cJ6_bitCount_0f7a4 46 = .ok (.iadd, 1) := by decide +kernel
theorem dJ6_bitCount_0f7a4_47 : decode cJ6_bitCount_0f7a4 47 = .ok (.istore_n 0, 1) := by decide +kernel
theorem dJ6_bitCount_0f7a4_48 : decode cJ6_bitCount_0f7a4 48 = .ok (.iload_n 0, 1) := by decide +kernel
theorem dJ6_bitCount_0f7a4_49 : decode cJ6_bitCount_0f7a4 49 = .ok (.bipush 63, 2) := by decide +kernel
theorem dJ6_bitCount_0f7a4_51 : decode cJ6_bitCount_0f7a4 51 = .ok (.iand, 1) := by decide +kernel
theorem dJ6_bitCount_0f7a4_52 : decode cJ6_bitCount_0f7a4 52 = .ok (.ireturn, 1) := by decide +kernel
theorem dJ7_fill_53178_0 : decode cJ7_fill_53178 0 = .ok (.iconst 0, 1) := by decide +kernel
theorem dJ7_fill_53178_1 : decode cJ7_fill_53178 1 = .ok (.istore_n 2, 1) := by decide +kernel
theorem dJ7_fill_53178_2 : decode cJ7_fill_53178 2 = .ok (.aload_n 0, 1) := by decide +kernel
theorem dJ7_fill_53178_3 : decode cJ7_fill_53178 3 = .ok (.arraylength, 1) := by decide +kernel
theorem dJ7_fill_53178_4 : decode cJ7_fill_53178 4 = .ok (.istore_n 3, 1) := by decide +kernel
theorem dJ7_fill_53178_5 : decode cJ7_fill_53178 5 = .ok (.iload_n 2, 1) := by decide +kernel
theorem dJ7_fill_53178_6 : decode cJ7_fill_53178 6 = .ok (.iload_n 3, 1) := by decide +kernel
theorem dJ7_fill_53178_7 : decode cJ7_fill_53178 7 = .ok (.if_icmp .ge 13, 3) := by decide +kernel
theorem dJ7_fill_53178_10 : decode cJ7_fill_53178 10 = .ok (.aload_n 0, 1) := by decide +kernel
theorem dJ7_fill_53178_11 : decode cJ7_fill_53178 11 = .ok (.iload_n 2, 1) := by decide +kernel
theorem dJ7_fill_53178_12 : decode cJ7_fill_53178 12 = .ok (.iload_n 1, 1) := by decide +kernel
theorem dJ7_fill_53178_13 : decode cJ7_fill_53178 13 = .ok (.iastore, 1) := by decide +kernel
theorem dJ7_fill_53178_14 : decode cJ7_fill_53178 14 = .ok (.iinc 2 1, 3) := by decide +kernel
theorem dJ7_fill_53178_17 : decode cJ7_fill_53178 17 = .ok (.goto (-12), 3) := by decide +kernel
theorem dJ7_fill_53178_20 : decode cJ7_fill_53178 20 = .ok (.return_, 1) := by decide +kernel
end
section
theorem dX11_init_0 : decode cX11_init 0 = .ok (.aload_n 0, 1) := by decide +kernel
theorem dX11_init_1 : decode cX11_init 1 = .ok (.invokespecial 1, 3) := by decide +kernel
theorem dX11_init_4 : decode cX11_init 4 = .ok (.aload_n 0, 1) := by decide +kernel
theorem dX11_init_5 : decode cX11_init 5 = .ok (.bipush 41, 2) := by decide +kernel
theorem dX11_init_7 : decode cX11_init 7 = .ok (.newarray .int, 2) := by decide +kernel
theorem dX11_init_9 : decode cX11_init 9 = .ok (.putfield 7, 3) := by decide +kernel
theorem dX11_init_12 : decode cX11_init 12 = .ok (.aload_n 0, 1) := by decide +kernel
theorem dX11_init_13 : decode cX11_init 13 = .ok (.sipush 164, 3) := by decide +kernel
theorem dX11_init_16 : decode cX11_init 16 = .ok (.newarray .int, 2) := by decide +kernel
theorem dX11_init_18 : decode cX11_init 18 = .ok (.putfield 13, 3) := by decide +kernel
theorem dX11_init_21 : decode cX11_init 21 = .ok (.aload_n 0, 1) := by decide +kernel
theorem dX11_init_22 : decode cX11_init 22 = .ok (.bipush 41, 2) := by decide +kernel
theorem dX11_init_24 : decode cX11_init 24 = .ok (.newarray .int, 2) := by decide +kernel
theorem dX11_init_26 : decode cX11_init 26 = .ok (.putfield 16, 3) := by decide +kernel
theorem dX11_init_29 : decode cX11_init 29 = .ok (.aload_n 0, 1) := by decide +kernel
theorem dX11_init_30 : decode cX11_init 30 = .ok (.bipush 80, 2) := by decide +kernel
theorem dX11_init_32 : decode cX11_init 32 = .ok (.newarray .int, 2) := by decide +kernel
theorem dX11_init_34 : decode cX11_init 34 = .ok (.putfield 19, 3) := by decide +kernel
theorem dX11_init_37 : decode cX11_init 37 = .ok (.aload_n 0, 1) := by decide +kernel
theorem dX11_init_38 : decode cX11_init 38 = .ok (.bipush 7, 2) := by decide +kernel
theorem dX11_init_40 : decode cX11_init 40 = .ok (.newarray .int, 2) := by decide +kernel
theorem dX11_init_42 : decode cX11_init 42 = .ok (.putfield 22, 3) := by decide +kernel
theorem dX11_init_45 : decode cX11_init 45 = .ok (.aload_n 0, 1) := by decide +kernel
theorem dX11_init_46 : decode cX11_init 46 = .ok (.bipush 7, 2) := by decide +kernel
theorem dX11_init_48 : decode cX11_init 48 = .ok (.newarray .int, 2) := by decide +kernel
theorem dX11_init_50 : decode cX11_init 50 = .ok (.putfield 25, 3) := by decide +kernel
theorem dX11_init_53 : decode cX11_init 53 = .ok (.aload_n 0, 1) := by decide +kernel
theorem dX11_init_54 : decode cX11_init 54 = .ok (.sipush 341, 3) := by decide +kernel
theorem dX11_init_57 : decode cX11_init 57 = .ok (.newarray .int, 2) := by decide +kernel
theorem dX11_init_59 : decode cX11_init 59 = .ok (.putfield 28, 3) := by decide +kernel
theorem dX11_init_62 : decode cX11_init 62 = .ok (.aload_n 0, 1) := by decide +kernel
theorem dX11_init_63 : decode cX11_init 63 = .ok (.bipush 21, 2) := by decide +kernel
theorem dX11_init_65 : decode cX11_init 65 = .ok (.newarray .int, 2) := by decide +kernel
theorem dX11_init_67 : decode cX11_init 67 = .ok (.putfield 31, 3) := by decide +kernel
theorem dX11_init_70 : decode cX11_init 70 = .ok (.aload_n 0, 1) := by decide +kernel
theorem dX11_init_71 : decode cX11_init 71 = .ok (.sipush 341, 3) := by decide +kernel
theorem dX11_init_74 : decode cX11_init 74 = .ok (.newarray .int, 2) := by decide +kernel
theorem dX11_init_76 : decode cX11_init 76 = .ok (.putfield 34, 3) := by decide +kernel
theorem dX11_init_79 : decode cX11_init 79 = .ok (.aload_n 0, 1) := by decide +kernel
theorem dX11_init_80 : decode cX11_init 80 = .ok (.bipush 21, 2) := by decide +kernel
theorem dX11_init_82 : decode cX11_init 82 = .ok (.newarray .int, 2) := by decide +kernel
theorem dX11_init_84 : decode cX11_init 84 = .ok (.putfield 37, 3) := by decide +kernel
theorem dX11_init_87 : decode cX11_init 87 = .ok (.aload_n 0, 1) := by decide +kernel
theorem dX11_init_88 : decode cX11_init 88 = .ok (.sipush 5040, 3) := by decide +kernel
theorem dX11_init_91 : decode cX11_init 91 = .ok (.newarray .int, 2) := by decide +kernel
theorem dX11_init_93 : decode cX11_init 93 = .ok (.putfield 40, 3) := by decide +kernel
theorem dX11_init_96 : decode cX11_init 96 = .ok (.aload_n 0, 1) := by decide +kernel
theorem dX11_init_97 : decode cX11_init 97 = .ok (.sipush 5040, 3) := by decide +kernel
theorem dX11_init_100 : decode cX11_init 100 = .ok (.newarray .int, 2) := by decide +kernel
theorem dX11_init_102 : decode cX11_init 102 = .ok (.putfield 43, 3) := by decide +kernel
theorem dX11_init_105 : decode cX11_init 105 = .ok (.aload_n 0, 1) := by decide +kernel
theorem dX11_init_106 : decode cX11_init 106 = .ok (.bipush 6, 2) := by decide +kernel
theorem dX11_init_108 : decode cX11_init 108 = .ok (.invokevirtual 46, 3) := by decide +kernel
theorem dX11_init_111 : decode cX11_init 111 = .ok (.return_, 1) := by decide +kernel
theorem dX11_in_0 : decode cX11_in 0 = .ok (.iload_n 0, 1) := by decide +kernel
theorem dX11_in_1 : decode cX11_in 1 = .ok (.iload_n 1, 1) := by decide +kernel
theorem dX11_in_2 : decode cX11_in 2 = .ok (.if_icmp .lt 12, 3) := by decide +kernel
theorem dX11_in_5 : decode cX11_in 5 = .ok (.iload_n 0, 1) := by decide +kernel
theorem dX11_in_6 : decode cX11_in 6 = .ok (.iload_n 2, 1) := by decide +kernel
theorem dX11_in_7 : decode cX11_in 7 = .ok (.if_icmp .gt 7, 3) := by decide +kernel
theorem dX11_in_10 : decode cX11_in 10 = .ok (.iconst 1, 1) := by decide +kernel
theorem dX11_in_11 : decode cX11_in 11 = .ok (.goto 4, 3) := by decide +kernel
theorem dX11_in_14 : decode cX11_in 14 = .ok (.iconst 0, 1) := by decide +kernel
theorem dX11_in_15 : decode cX11_in 15 = .ok (.ireturn, 1) := by decide +kernel
theorem dX11_changes_0 : decode cX11_changes 0 = .ok (.aload_n 0, 1) := by decide +kernel
theorem dX11_changes_1 : decode cX11_changes 1 = .ok (.getfield 50, 3) := by decide +kernel
theorem dX11_changes_4 : decode cX11_changes 4 = .ok (.iconst 4, 1) := by decide +kernel
theorem dX11_changes_5 : decode cX11_changes 5 = .ok (.if_icmp .ne 42, 3) := by decide +kernel
theorem dX11_changes_8 : decode cX11_changes 8 = .ok (.iconst 0, 1) := by decide +kernel
theorem dX11_changes_9 : decode cX11_changes 9 = .ok (.istore_n 1, 1) := by decide +kernel
theorem dX11_changes_10 : decode cX11_changes 10 = .ok (.iload_n 1, 1) := by decide +kernel
theorem dX11_changes_11 : decode cX11_changes 11 = .ok (.bipush 123, 2) := by decide +kernel
theorem dX11_changes_13 : decode cX11_changes 13 = .ok (.if_icmp .ge 24, 3) := by decide +kernel
theorem dX11_changes_16 : decode cX11_changes 16 = .ok (.aload_n 0, 1) := by decide +kernel
theorem dX11_changes_17 : decode cX11_changes 17 = .ok (.getfield 13, 3) := by decide +kernel
theorem dX11_changes_20 : decode cX11_changes 20 = .ok (.iload_n 1, 1) := by decide +kernel
theorem dX11_changes_21 : decode cX11_changes 21 = .ok (.aload_n 0, 1) := by decide +kernel
theorem dX11_changes_22 : decode cX11_changes 22 = .ok (.getfield 13, 3) := by decide +kernel
theorem dX11_changes_25 : decode cX11_changes 25 = .ok (.iload_n 1, 1) := by decide +kernel
theorem dX11_changes_26 : decode cX11_changes 26 = .ok (.bipush 41, 2) := by decide +kernel
theorem dX11_changes_28 : decode cX11_changes 28 = .ok (.iadd, 1) := by decide +kernel
theorem dX11_changes_29 : decode cX11_changes 29 = .ok (.iaload, 1) := by decide +kernel
theorem dX11_changes_30 : decode cX11_changes 30 = .ok (.iastore, 1) := by decide +kernel
theorem dX11_changes_31 : decode cX11_changes 31 = .ok (.iinc 1 1, 3) := by decide +kernel
theorem dX11_changes_34 : decode cX11_changes 34 = .ok (.goto (-24), 3) := by decide +kernel
theorem dX11_changes_37 : decode cX11_changes 37 = .ok (.aload_n 0, 1) := by decide +kernel
theorem dX11_changes_38 : decode cX11_changes 38 = .ok (.dup, 1) := by decide +kernel
theorem dX11_changes_39 : decode cX11_changes 39 = .ok (.getfield 50, 3) := by decide +kernel
theorem dX11_changes_42 : decode cX11_changes 42 = .ok (.iconst 1, 1) := by decide +kernel
theorem dX11_changes_43 : decode cX11_changes 43 = .ok (.isub, 1) := by decide +kernel
theorem dX11_changes_44 : decode cX11_changes 44 = .ok (.putfield 50, 3) := by decide +kernel
theorem dX11_changes_47 : decode cX11_changes 47 = .ok (.iconst 0, 1) := by decide +kernel
theorem dX11_changes_48 : decode cX11_changes 48 = .ok (.istore_n 1, 1) := by decide +kernel
theorem dX11_changes_49 : decode cX11_changes 49 = .ok (.iload_n 1, 1) := by decide +kernel
theorem dX11_changes_50 : decode cX11_changes 50 = .ok (.bipush 41, 2) := by decide +kernel
theorem dX11_changes_52 : decode cX11_changes 52 = .ok (.if_icmp .ge 29, 3) := by decide +kernel
theorem dX11_changes_55 : decode cX11_changes 55 = .ok (.aload_n 0, 1) := by decide +kernel
theorem dX11_changes_56 : decode cX11_changes 56 = .ok (.getfield 13, 3) := by decide +kernel
theorem dX11_changes_59 : decode cX11_changes 59 = .ok (.bipush 41, 2) := by decide +kernel
theorem dX11_changes_61 : decode cX11_changes 61 = .ok (.aload_n 0, 1) := by decide +kernel
theorem dX11_changes_62 : decode cX11_changes 62 = .ok (.getfield 50, 3) := by decide +kernel
theorem dX11_changes_65 : decode cX11_changes 65 = .ok (.imul, 1) := by decide +kernel
theorem dX11_changes_66 : decode cX11_changes 66 = .ok (.iload_n 1, 1) := by decide +kernel
theorem dX11_changes_67 : decode cX11_changes 67 = .ok (.iadd, 1) := by decide +kernel
theorem dX11_changes_68 : decode cX11_changes 68 = .ok (.aload_n 0, 1) := by decide +kernel
theorem dX11_changes_69 : decode cX11_changes 69 = .ok (.getfield 7, 3) := by decide +kernel
theorem dX11_changes_72 : decode cX11_changes 72 = .ok (.iload_n 1, 1) := by decide +kernel
theorem dX11_changes_73 : decode cX11_changes 73 = .ok (.iaload, 1) := by decide +kernel
theorem dX11_changes_74 : decode cX11_changes 74 = .ok (.iastore, 1) := by decide +kernel
theorem dX11_changes_75 : decode cX11_changes 75 = .ok (.iinc 1 1, 3) := by decide +kernel
theorem dX11_changes_78 : decode cX11_changes 78 = .ok (.goto (-29), 3) := by decide +kernel
theorem dX11_changes_81 : decode cX11_changes 81 = .ok (.aload_n 0, 1) := by decide +kernel
theorem dX11_changes_82 : decode cX11_changes 82 = .ok (.dup, 1) := by decide +kernel
theorem dX11_changes_83 : decode cX11_changes 83 = .ok (.getfield 50, 3) := by decide +kernel
theorem dX11_changes_86 : decode cX11_changes 86 = .ok (.iconst 1, 1) := by decide +kernel
theorem dX11_changes_87 : decode cX11_changes 87 = .ok (.iadd, 1) := by decide +kernel
theorem dX11_changes_88 : decode cX11_changes 88 = .ok (.putfield 50, 3) := by decide +kernel
theorem dX11_changes_91 : decode cX11_changes 91 = .ok (.return_, 1) := by decide +kernel
theorem dX11_lays_0 : decode cX11_lays 0 = .ok (.iload_n 1, 1) := by decide +kernel
theorem dX11_lays_1 : decode cX11_lays 1 = .ok (.iconst 2, 1) := by decide +kernel
theorem dX11_lays_2 : decode cX11_lays 2 = .ok (.irem, 1) := by decide +kernel
theorem dX11_lays_3 : decode cX11_lays 3 = .ok (.iconst 1, 1) := by decide +kernel
theorem dX11_lays_4 : decode cX11_lays 4 = .ok (.if_icmp .ne 7, 3) := by decide +kernel
theorem dX11_lays_7 : decode cX11_lays 7 = .ok (.iconst 1, 1) := by decide +kernel
theorem dX11_lays_8 : decode cX11_lays 8 = .ok (.goto 4, 3) := by decide +kernel
theorem dX11_lays_11 : decode cX11_lays 11 = .ok (.iconst 0, 1) := by decide +kernel
theorem dX11_lays_12 : decode cX11_lays 12 = .ok (.istore_n 2, 1) := by decide +kernel
theorem dX11_lays_13 : decode cX11_lays 13 = .ok (.iload_n 2, 1) := by decide +kernel
theorem dX11_lays_14 : decode cX11_lays 14 = .ok (.ifCond .eq 11, 3) := by decide +kernel
theorem dX11_lays_17 : decode cX11_lays 17 = .ok (.iconst 1, 1) := by decide +kernel
theorem dX11_lays_18 : decode cX11_lays 18 = .ok (.iload_n 1, 1) := by decide +kernel
theorem dX11_lays_19 : decode cX11_lays 19 = .ok (.iconst 1, 1) := by decide +kernel
theorem dX11_lays_20 : decode cX11_lays 20 = .ok (.isub, 1) := by decide +kernel
theorem dX11_lays_21 : decode cX11_lays 21 = .ok (.ishl, 1) := by decide +kernel
theorem dX11_lays_22 : decode cX11_lays 22 = .ok (.goto 4, 3) := by decide +kernel
theorem dX11_lays_25 : decode cX11_lays 25 = .ok (.iconst 0, 1) := by decide +kernel
theorem dX11_lays_26 : decode cX11_lays 26 = .ok (.istore_n 3, 1) := by decide +kernel
theorem dX11_lays_27 : decode cX11_lays 27 = .ok (.aload_n 0, 1) := by decide +kernel
theorem dX11_lays_28 : decode cX11_lays 28 = .ok (.getfield 7, 3) := by decide +kernel
theorem dX11_lays_31 : decode cX11_lays 31 = .ok (.iconst 0, 1) := by decide +kernel
theorem dX11_lays_32 : decode cX11_lays 32 = .ok (.iload_n 1, 1) := by decide +kernel
theorem dX11_lays_33 : decode cX11_lays 33 = .ok (.iastore, 1) := by decide +kernel
theorem dX11_lays_34 : decode cX11_lays 34 = .ok (.aload_n 0, 1) := by decide +kernel
theorem dX11_lays_35 : decode cX11_lays 35 = .ok (.getfield 7, 3) := by decide +kernel
theorem dX11_lays_38 : decode cX11_lays 38 = .ok (.iconst 1, 1) := by decide +kernel
theorem dX11_lays_39 : decode cX11_lays 39 = .ok (.iconst 2, 1) := by decide +kernel
theorem dX11_lays_40 : decode cX11_lays 40 = .ok (.iload_n 1, 1) := by decide +kernel
theorem dX11_lays_41 : decode cX11_lays 41 = .ok (.imul, 1) := by decide +kernel
theorem dX11_lays_42 : decode cX11_lays 42 = .ok (.iastore, 1) := by decide +kernel
theorem dX11_lays_43 : decode cX11_lays 43 = .ok (.aload_n 0, 1) := by decide +kernel
theorem dX11_lays_44 : decode cX11_lays 44 = .ok (.getfield 7, 3) := by decide +kernel
theorem dX11_lays_47 : decode cX11_lays 47 = .ok (.iconst 2, 1) := by decide +kernel
theorem dX11_lays_48 : decode cX11_lays 48 = .ok (.iconst 0, 1) := by decide +kernel
theorem dX11_lays_49 : decode cX11_lays 49 = .ok (.iastore, 1) := by decide +kernel
theorem dX11_lays_50 : decode cX11_lays 50 = .ok (.iconst 0, 1) := by decide +kernel
theorem dX11_lays_51 : decode cX11_lays 51 = .ok (.istore 4, 2) := by decide +kernel
theorem dX11_lays_53 : decode cX11_lays 53 = .ok (.iload 4, 2) := by decide +kernel
theorem dX11_lays_55 : decode cX11_lays 55 = .ok (.bipush 20, 2) := by decide +kernel
theorem dX11_lays_57 : decode cX11_lays 57 = .ok (.if_icmp .ge 78, 3) := by decide +kernel
theorem dX11_lays_60 : decode cX11_lays 60 = .ok (.iload 4, 2) := by decide +kernel
theorem dX11_lays_62 : decode cX11_lays 62 = .ok (.iconst 2, 1) := by decide +kernel
theorem dX11_lays_63 : decode cX11_lays 63 = .ok (.irem, 1) := by decide +kernel
theorem dX11_lays_64 : decode cX11_lays 64 = .ok (.ifCond .ne 7, 3) := by decide +kernel
theorem dX11_lays_67 : decode cX11_lays 67 = .ok (.iload_n 3, 1) := by decide +kernel
theorem dX11_lays_68 : decode cX11_lays 68 = .ok (.goto 18, 3) := by decide +kernel
theorem dX11_lays_71 : decode cX11_lays 71 = .ok (.iload_n 2, 1) := by decide +kernel
theorem dX11_lays_72 : decode cX11_lays 72 = .ok (.ifCond .eq 7, 3) := by decide +kernel
theorem dX11_lays_75 : decode cX11_lays 75 = .ok (.iconst 1, 1) := by decide +kernel
theorem dX11_lays_76 : decode cX11_lays 76 = .ok (.goto 10, 3) := by decide +kernel
theorem dX11_lays_79 : decode cX11_lays 79 = .ok (.iconst 1, 1) := by decide +kernel
theorem dX11_lays_80 : decode cX11_lays 80 = .ok (.iconst 1, 1) := by decide +kernel
theorem dX11_lays_81 : decode cX11_lays 81 = .ok (.iload_n 1, 1) := by decide +kernel
theorem dX11_lays_82 : decode cX11_lays 82 = .ok (.iconst 1, 1) := by decide +kernel
theorem dX11_lays_83 : decode cX11_lays 83 = .ok (.isub, 1) := by decide +kernel
theorem dX11_lays_84 : decode cX11_lays 84 = .ok (.ishl, 1) := by decide +kernel
theorem dX11_lays_85 : decode cX11_lays 85 = .ok (.ior, 1) := by decide +kernel
theorem dX11_lays_86 : decode cX11_lays 86 = .ok (.istore 5, 2) := by decide +kernel
theorem dX11_lays_88 : decode cX11_lays 88 = .ok (.aload_n 0, 1) := by decide +kernel
theorem dX11_lays_89 : decode cX11_lays 89 = .ok (.getfield 7, 3) := by decide +kernel
theorem dX11_lays_92 : decode cX11_lays 92 = .ok (.iconst 5, 1) := by decide +kernel
theorem dX11_lays_93 : decode cX11_lays 93 = .ok (.iload 4, 2) := by decide +kernel
theorem dX11_lays_95 : decode cX11_lays 95 = .ok (.iadd, 1) := by decide +kernel
theorem dX11_lays_96 : decode cX11_lays 96 = .ok (.iload 4, 2) := by decide +kernel
theorem dX11_lays_98 : decode cX11_lays 98 = .ok (.iconst 2, 1) := by decide +kernel
theorem dX11_lays_99 : decode cX11_lays 99 = .ok (.iload_n 1, 1) := by decide +kernel
theorem dX11_lays_100 : decode cX11_lays 100 = .ok (.imul, 1) := by decide +kernel
theorem dX11_lays_101 : decode cX11_lays 101 = .ok (.iconst 1, 1) := by decide +kernel
theorem dX11_lays_102 : decode cX11_lays 102 = .ok (.isub, 1) := by decide +kernel
theorem dX11_lays_103 : decode cX11_lays 103 = .ok (.if_icmp .le 7, 3) := by decide +kernel
theorem dX11_lays_106 : decode cX11_lays 106 = .ok (.iconst 0, 1) := by decide +kernel
theorem dX11_lays_107 : decode cX11_lays 107 = .ok (.goto 21, 3) := by decide +kernel
theorem dX11_lays_110 : decode cX11_lays 110 = .ok (.iload 4, 2) := by decide +kernel
theorem dX11_lays_112 : decode cX11_lays 112 = .ok (.iconst 2, 1) := by decide +kernel
theorem dX11_lays_113 : decode cX11_lays 113 = .ok (.iload_n 1, 1) := by decide +kernel
theorem dX11_lays_114 : decode cX11_lays 114 = .ok (.imul, 1) := by decide +kernel
theorem dX11_lays_115 : decode cX11_lays 115 = .ok (.iconst 1, 1) := by decide +kernel
theorem dX11_lays_116 : decode cX11_lays 116 = .ok (.isub, 1) := by decide +kernel
theorem dX11_lays_117 : decode cX11_lays 117 = .ok (.if_icmp .ne 9, 3) := by decide +kernel
theorem dX11_lays_120 : decode cX11_lays 120 = .ok (.iconst 3, 1) := by decide +kernel
theorem dX11_lays_121 : decode cX11_lays 121 = .ok (.iload_n 3, 1) := by decide +kernel
theorem dX11_lays_122 : decode cX11_lays 122 = .ok (.ior, 1) := by decide +kernel
theorem dX11_lays_123 : decode cX11_lays 123 = .ok (.goto 5, 3) := by decide +kernel
theorem dX11_lays_126 : decode cX11_lays 126 = .ok (.iload 5, 2) := by decide +kernel
theorem dX11_lays_128 : decode cX11_lays 128 = .ok (.iastore, 1) := by decide +kernel
theorem dX11_lays_129 : decode cX11_lays 129 = .ok (.iinc 4 1, 3) := by decide +kernel
theorem dX11_lays_132 : decode cX11_lays 132 = .ok (.goto (-79), 3) := by decide +kernel
theorem dX11_lays_135 : decode cX11_lays 135 = .ok (.iconst 0, 1) := by decide +kernel
theorem dX11_lays_136 : decode cX11_lays 136 = .ok (.istore 4, 2) := by decide +kernel
theorem dX11_lays_138 : decode cX11_lays 138 = .ok (.iload 4, 2) := by decide +kernel
theorem dX11_lays_140 : decode cX11_lays 140 = .ok (.bipush 16, 2) := by decide +kernel
theorem dX11_lays_142 : decode cX11_lays 142 = .ok (.if_icmp .ge 20, 3) := by decide +kernel
theorem dX11_lays_145 : decode cX11_lays 145 = .ok (.aload_n 0, 1) := by decide +kernel
theorem dX11_lays_146 : decode cX11_lays 146 = .ok (.getfield 7, 3) := by decide +kernel
theorem dX11_lays_149 : decode cX11_lays 149 = .ok (.bipush 25, 2) := by decide +kernel
theorem dX11_lays_151 : decode cX11_lays 151 = .ok (.iload 4, 2) := by decide +kernel
theorem dX11_lays_153 : decode cX11_lays 153 = .ok (.iadd, 1) := by decide +kernel
theorem dX11_lays_154 : decode cX11_lays 154 = .ok (.iconst 0, 1) := by decide +kernel
theorem dX11_lays_155 : decode cX11_lays 155 = .ok (.iastore, 1) := by decide +kernel
theorem dX11_lays_156 : decode cX11_lays 156 = .ok (.iinc 4 1, 3) := by decide +kernel
theorem dX11_lays_159 : decode cX11_lays 159 = .ok (.goto (-21), 3) := by decide +kernel
theorem dX11_lays_162 : decode cX11_lays 162 = .ok (.aload_n 0, 1) := by decide +kernel
theorem dX11_lays_163 : decode cX11_lays 163 = .ok (.getfield 7, 3) := by decide +kernel
theorem dX11_lays_166 : decode cX11_lays 166 = .ok (.iconst 3, 1) := by decide +kernel
theorem dX11_lays_167 : decode cX11_lays 167 = .ok (.bipush 9, 2) := by decide +kernel
theorem dX11_lays_169 : decode cX11_lays 169 = .ok (.iload_n 3, 1) := by decide +kernel
theorem dX11_lays_170 : decode cX11_lays 170 = .ok (.ior, 1) := by decide +kernel
theorem dX11_lays_171 : decode cX11_lays 171 = .ok (.iastore, 1) := by decide +kernel
theorem dX11_lays_172 : decode cX11_lays 172 = .ok (.aload_n 0, 1) := by decide +kernel
theorem dX11_lays_173 : decode cX11_lays 173 = .ok (.getfield 7, 3) := by decide +kernel
theorem dX11_lays_176 : decode cX11_lays 176 = .ok (.iconst 4, 1) := by decide +kernel
theorem dX11_lays_177 : decode cX11_lays 177 = .ok (.iload_n 1, 1) := by decide +kernel
theorem dX11_lays_178 : decode cX11_lays 178 = .ok (.iconst 4, 1) := by decide +kernel
theorem dX11_lays_179 : decode cX11_lays 179 = .ok (.if_icmp .ne 8, 3) := by decide +kernel
theorem dX11_lays_182 : decode cX11_lays 182 = .ok (.bipush 12, 2) := by decide +kernel
theorem dX11_lays_184 : decode cX11_lays 184 = .ok (.goto 17, 3) := by decide +kernel
theorem dX11_lays_187 : decode cX11_lays 187 = .ok (.iload_n 1, 1) := by decide +kernel
theorem dX11_lays_188 : decode cX11_lays 188 = .ok (.iconst 5, 1) := by decide +kernel
theorem dX11_lays_189 : decode cX11_lays 189 = .ok (.if_icmp .ne 8, 3) := by decide +kernel
theorem dX11_lays_192 : decode cX11_lays 192 = .ok (.bipush 7, 2) := by decide +kernel
theorem dX11_lays_194 : decode cX11_lays 194 = .ok (.goto 7, 3) := by decide +kernel
theorem dX11_lays_197 : decode cX11_lays 197 = .ok (.bipush 15, 2) := by decide +kernel
theorem dX11_lays_199 : decode cX11_lays 199 = .ok (.iload_n 3, 1) := by decide +kernel
theorem dX11_lays_200 : decode cX11_lays 200 = .ok (.ior, 1) := by decide +kernel
theorem dX11_lays_201 : decode cX11_lays 201 = .ok (.iastore, 1) := by decide +kernel
theorem dX11_lays_202 : decode cX11_lays 202 = .ok (.return_, 1) := by decide +kernel
theorem dX11_last_0 : decode cX11_last 0 = .ok (.aload_n 0, 1) := by decide +kernel
theorem dX11_last_1 : decode cX11_last 1 = .ok (.getfield 7, 3) := by decide +kernel
theorem dX11_last_4 : decode cX11_last 4 = .ok (.iconst 2, 1) := by decide +kernel
theorem dX11_last_5 : decode cX11_last 5 = .ok (.iaload, 1) := by decide +kernel
theorem dX11_last_6 : decode cX11_last 6 = .ok (.aload_n 0, 1) := by decide +kernel
theorem dX11_last_7 : decode cX11_last 7 = .ok (.getfield 7, 3) := by decide +kernel
theorem dX11_last_10 : decode cX11_last 10 = .ok (.iconst 1, 1) := by decide +kernel
theorem dX11_last_11 : decode cX11_last 11 = .ok (.iaload, 1) := by decide +kernel
theorem dX11_last_12 : decode cX11_last 12 = .ok (.imul, 1) := by decide +kernel
theorem dX11_last_13 : decode cX11_last 13 = .ok (.ireturn, 1) := by decide +kernel
theorem dX11_isRight_0 : decode cX11_isRight 0 = .ok (.aload_n 0, 1) := by decide +kernel
theorem dX11_isRight_1 : decode cX11_isRight 1 = .ok (.getfield 7, 3) := by decide +kernel
theorem dX11_isRight_4 : decode cX11_isRight 4 = .ok (.iconst 0, 1) := by decide +kernel
theorem dX11_isRight_5 : decode cX11_isRight 5 = .ok (.iaload, 1) := by decide +kernel
theorem dX11_isRight_6 : decode cX11_isRight 6 = .ok (.istore_n 2, 1) := by decide +kernel
theorem dX11_isRight_7 : decode cX11_isRight 7 = .ok (.iload_n 1, 1) := by decide +kernel
theorem dX11_isRight_8 : decode cX11_isRight 8 = .ok (.iconst 0, 1) := by decide +kernel
theorem dX11_isRight_9 : decode cX11_isRight 9 = .ok (.iconst 1, 1) := by decide +kernel
theorem dX11_isRight_10 : decode cX11_isRight 10 = .ok (.iload_n 2, 1) := by decide +kernel
theorem dX11_isRight_11 : decode cX11_isRight 11 = .ok (.ishl, 1) := by decide +kernel
theorem dX11_isRight_12 : decode cX11_isRight 12 = .ok (.iconst 2, 1) := by decide +kernel
theorem dX11_isRight_13 : decode cX11_isRight 13 = .ok (.isub, 1) := by decide +kernel
theorem dX11_isRight_14 : decode cX11_isRight 14 = .ok (.invokestatic 54, 3) := by decide +kernel
theorem dX11_isRight_17 : decode cX11_isRight 17 = .ok (.ifCond .ne 5, 3) := by decide +kernel
theorem dX11_isRight_20 : decode cX11_isRight 20 = .ok (.iconst 0, 1) := by decide +kernel
theorem dX11_isRight_21 : decode cX11_isRight 21 = .ok (.ireturn, 1) := by decide +kernel
theorem dX11_isRight_22 : decode cX11_isRight 22 = .ok (.iconst 0, 1) := by decide +kernel
theorem dX11_isRight_23 : decode cX11_isRight 23 = .ok (.istore_n 3, 1) := by decide +kernel
theorem dX11_isRight_24 : decode cX11_isRight 24 = .ok (.iload_n 3, 1) := by decide +kernel
theorem dX11_isRight_25 : decode cX11_isRight 25 = .ok (.iload_n 2, 1) := by decide +kernel
theorem dX11_isRight_26 : decode cX11_isRight 26 = .ok (.if_icmp .ge 43, 3) := by decide +kernel
theorem dX11_isRight_29 : decode cX11_isRight 29 = .ok (.iload_n 1, 1) := by decide +kernel
theorem dX11_isRight_30 : decode cX11_isRight 30 = .ok (.iload_n 3, 1) := by decide +kernel
theorem dX11_isRight_31 : decode cX11_isRight 31 = .ok (.ishr, 1) := by decide +kernel
theorem dX11_isRight_32 : decode cX11_isRight 32 = .ok (.iconst 1, 1) := by decide +kernel
theorem dX11_isRight_33 : decode cX11_isRight 33 = .ok (.iand, 1) := by decide +kernel
theorem dX11_isRight_34 : decode cX11_isRight 34 = .ok (.iconst 1, 1) := by decide +kernel
theorem dX11_isRight_35 : decode cX11_isRight 35 = .ok (.if_icmp .ne 9, 3) := by decide +kernel
theorem dX11_isRight_38 : decode cX11_isRight 38 = .ok (.iinc 3 1, 3) := by decide +kernel
theorem dX11_isRight_41 : decode cX11_isRight 41 = .ok (.goto (-17), 3) := by decide +kernel
theorem dX11_isRight_44 : decode cX11_isRight 44 = .ok (.iload_n 3, 1) := by decide +kernel
theorem dX11_isRight_45 : decode cX11_isRight 45 = .ok (.iconst 1, 1) := by decide +kernel
theorem dX11_isRight_46 : decode cX11_isRight 46 = .ok (.iadd, 1) := by decide +kernel
theorem dX11_isRight_47 : decode cX11_isRight 47 = .ok (.iload_n 2, 1) := by decide +kernel
theorem dX11_isRight_48 : decode cX11_isRight 48 = .ok (.if_icmp .ge 19, 3) := by decide +kernel
theorem dX11_isRight_51 : decode cX11_isRight 51 = .ok (.iload_n 1, 1) := by decide +kernel
theorem dX11_isRight_52 : decode cX11_isRight 52 = .ok (.iload_n 3, 1) := by decide +kernel
theorem dX11_isRight_53 : decode cX11_isRight 53 = .ok (.iconst 1, 1) := by decide +kernel
theorem dX11_isRight_54 : decode cX11_isRight 54 = .ok (.iadd, 1) := by decide +kernel
theorem dX11_isRight_55 : decode cX11_isRight 55 = .ok (.ishr, 1) := by decide +kernel
theorem dX11_isRight_56 : decode cX11_isRight 56 = .ok (.iconst 1, 1) := by decide +kernel
theorem dX11_isRight_57 : decode cX11_isRight 57 = .ok (.iand, 1) := by decide +kernel
theorem dX11_isRight_58 : decode cX11_isRight 58 = .ok (.ifCond .ne 9, 3) := by decide +kernel
theorem dX11_isRight_61 : decode cX11_isRight 61 = .ok (.iinc 3 2, 3) := by decide +kernel
theorem dX11_isRight_64 : decode cX11_isRight 64 = .ok (.goto (-40), 3) := by decide +kernel
theorem dX11_isRight_67 : decode cX11_isRight 67 = .ok (.iconst 0, 1) := by decide +kernel
theorem dX11_isRight_68 : decode cX11_isRight 68 = .ok (.ireturn, 1) := by decide +kernel
theorem dX11_isRight_69 : decode cX11_isRight 69 = .ok (.iconst 1, 1) := by decide +kernel
theorem dX11_isRight_70 : decode cX11_isRight 70 = .ok (.ireturn, 1) := by decide +kernel
theorem dX11_toRounds_0 : decode cX11_toRounds 0 = .ok (.iconst 0, 1) := by decide +kernel
theorem dX11_toRounds_1 : decode cX11_toRounds 1 = .ok (.istore_n 1, 1) := by decide +kernel
theorem dX11_toRounds_2 : decode cX11_toRounds 2 = .ok (.iload_n 1, 1) := by decide +kernel
theorem dX11_toRounds_3 : decode cX11_toRounds 3 = .ok (.aload_n 0, 1) := by decide +kernel
theorem dX11_toRounds_4 : decode cX11_toRounds 4 = .ok (.getfield 7, 3) := by decide +kernel
theorem dX11_toRounds_7 : decode cX11_toRounds 7 = .ok (.iconst 0, 1) := by decide +kernel
theorem dX11_toRounds_8 : decode cX11_toRounds 8 = .ok (.iaload, 1) := by decide +kernel
theorem dX11_toRounds_9 : decode cX11_toRounds 9 = .ok (.if_icmp .ge 16, 3) := by decide +kernel
theorem dX11_toRounds_12 : decode cX11_toRounds 12 = .ok (.aload_n 0, 1) := by decide +kernel
theorem dX11_toRounds_13 : decode cX11_toRounds 13 = .ok (.getfield 22, 3) := by decide +kernel
theorem dX11_toRounds_16 : decode cX11_toRounds 16 = .ok (.iload_n 1, 1) := by decide +kernel
theorem dX11_toRounds_17 : decode cX11_toRounds 17 = .ok (.iload_n 1, 1) := by decide +kernel
theorem dX11_toRounds_18 : decode cX11_toRounds 18 = .ok (.iastore, 1) := by decide +kernel
theorem dX11_toRounds_19 : decode cX11_toRounds 19 = .ok (.iinc 1 1, 3) := by decide +kernel
theorem dX11_toRounds_22 : decode cX11_toRounds 22 = .ok (.goto (-20), 3) := by decide +kernel
theorem dX11_toRounds_25 : decode cX11_toRounds 25 = .ok (.return_, 1) := by decide +kernel
theorem dX11_rings_0 : decode cX11_rings 0 = .ok (.iconst 0, 1) := by decide +kernel
theorem dX11_rings_1 : decode cX11_rings 1 = .ok (.istore_n 2, 1) := by decide +kernel
theorem dX11_rings_2 : decode cX11_rings 2 = .ok (.iload_n 2, 1) := by decide +kernel
theorem dX11_rings_3 : decode cX11_rings 3 = .ok (.aload_n 0, 1) := by decide +kernel
theorem dX11_rings_4 : decode cX11_rings 4 = .ok (.getfield 7, 3) := by decide +kernel
theorem dX11_rings_7 : decode cX11_rings 7 = .ok (.iconst 0, 1) := by decide +kernel
theorem dX11_rings_8 : decode cX11_rings 8 = .ok (.iaload, 1) := by decide +kernel
theorem dX11_rings_9 : decode cX11_rings 9 = .ok (.if_icmp .ge 54, 3) := by decide +kernel
theorem dX11_rings_12 : decode cX11_rings 12 = .ok (.iload_n 1, 1) := by decide +kernel
theorem dX11_rings_13 : decode cX11_rings 13 = .ok (.iload_n 2, 1) := by decide +kernel
theorem dX11_rings_14 : decode cX11_rings 14 = .ok (.ishr, 1) := by decide +kernel
theorem dX11_rings_15 : decode cX11_rings 15 = .ok (.iconst 1, 1) := by decide +kernel
theorem dX11_rings_16 : decode cX11_rings 16 = .ok (.iand, 1) := by decide +kernel
theorem dX11_rings_17 : decode cX11_rings 17 = .ok (.iconst 1, 1) := by decide +kernel
theorem dX11_rings_18 : decode cX11_rings 18 = .ok (.if_icmp .ne 9, 3) := by decide +kernel
theorem dX11_rings_21 : decode cX11_rings 21 = .ok (.iinc 2 1, 3) := by decide +kernel
theorem dX11_rings_24 : decode cX11_rings 24 = .ok (.goto (-22), 3) := by decide +kernel
theorem dX11_rings_27 : decode cX11_rings 27 = .ok (.aload_n 0, 1) := by decide +kernel
theorem dX11_rings_28 : decode cX11_rings 28 = .ok (.getfield 22, 3) := by decide +kernel
theorem dX11_rings_31 : decode cX11_rings 31 = .ok (.iload_n 2, 1) := by decide +kernel
theorem dX11_rings_32 : decode cX11_rings 32 = .ok (.iaload, 1) := by decide +kernel
theorem dX11_rings_33 : decode cX11_rings 33 = .ok (.istore_n 3, 1) := by decide +kernel
theorem dX11_rings_34 : decode cX11_rings 34 = .ok (.aload_n 0, 1) := by decide +kernel
theorem dX11_rings_35 : decode cX11_rings 35 = .ok (.getfield 22, 3) := by decide +kernel
theorem dX11_rings_38 : decode cX11_rings 38 = .ok (.iload_n 2, 1) := by decide +kernel
theorem dX11_rings_39 : decode cX11_rings 39 = .ok (.aload_n 0, 1) := by decide +kernel
theorem dX11_rings_40 : decode cX11_rings 40 = .ok (.getfield 22, 3) := by decide +kernel
theorem dX11_rings_43 : decode cX11_rings 43 = .ok (.iload_n 2, 1) := by decide +kernel
theorem dX11_rings_44 : decode cX11_rings 44 = .ok (.iconst 1, 1) := by decide +kernel
theorem dX11_rings_45 : decode cX11_rings 45 = .ok (.iadd, 1) := by decide +kernel
theorem dX11_rings_46 : decode cX11_rings 46 = .ok (.iaload, 1) := by decide +kernel
theorem dX11_rings_47 : decode cX11_rings 47 = .ok (.iastore, 1) := by decide +kernel
theorem dX11_rings_48 : decode cX11_rings 48 = .ok (.aload_n 0, 1) := by decide +kernel
theorem dX11_rings_49 : decode cX11_rings 49 = .ok (.getfield 22, 3) := by decide +kernel
theorem dX11_rings_52 : decode cX11_rings 52 = .ok (.iload_n 2, 1) := by decide +kernel
theorem dX11_rings_53 : decode cX11_rings 53 = .ok (.iconst 1, 1) := by decide +kernel
theorem dX11_rings_54 : decode cX11_rings 54 = .ok (.iadd, 1) := by decide +kernel
theorem dX11_rings_55 : decode cX11_rings 55 = .ok (.iload_n 3, 1) := by decide +kernel
theorem dX11_rings_56 : decode cX11_rings 56 = .ok (.iastore, 1) := by decide +kernel
theorem dX11_rings_57 : decode cX11_rings 57 = .ok (.iinc 2 2, 3) := by decide +kernel
theorem dX11_rings_60 : decode cX11_rings 60 = .ok (.goto (-58), 3) := by decide +kernel
theorem dX11_rings_63 : decode cX11_rings 63 = .ok (.return_, 1) := by decide +kernel
theorem dX11_rank_0 : decode cX11_rank 0 = .ok (.aload_n 0, 1) := by decide +kernel
theorem dX11_rank_1 : decode cX11_rank 1 = .ok (.getfield 7, 3) := by decide +kernel
theorem dX11_rank_4 : decode cX11_rank 4 = .ok (.iconst 0, 1) := by decide +kernel
theorem dX11_rank_5 : decode cX11_rank 5 = .ok (.iaload, 1) := by decide +kernel
theorem dX11_rank_6 : decode cX11_rank 6 = .ok (.istore_n 1, 1) := by decide +kernel
theorem dX11_rank_7 : decode cX11_rank 7 = .ok (.iconst 0, 1) := by decide +kernel
theorem dX11_rank_8 : decode cX11_rank 8 = .ok (.istore_n 2, 1) := by decide +kernel
theorem dX11_rank_9 : decode cX11_rank 9 = .ok (.iconst 0, 1) := by decide +kernel
theorem dX11_rank_10 : decode cX11_rank 10 = .ok (.istore_n 3, 1) := by decide +kernel
theorem dX11_rank_11 : decode cX11_rank 11 = .ok (.iload_n 3, 1) := by decide +kernel
theorem dX11_rank_12 : decode cX11_rank 12 = .ok (.iload_n 1, 1) := by decide +kernel
theorem dX11_rank_13 : decode cX11_rank 13 = .ok (.if_icmp .ge 64, 3) := by decide +kernel
theorem dX11_rank_16 : decode cX11_rank 16 = .ok (.iconst 0, 1) := by decide +kernel
theorem dX11_rank_17 : decode cX11_rank 17 = .ok (.istore 4, 2) := by decide +kernel
theorem dX11_rank_19 : decode cX11_rank 19 = .ok (.iload_n 3, 1) := by decide +kernel
theorem dX11_rank_20 : decode cX11_rank 20 = .ok (.iconst 1, 1) := by decide +kernel
theorem dX11_rank_21 : decode cX11_rank 21 = .ok (.iadd, 1) := by decide +kernel
theorem dX11_rank_22 : decode cX11_rank 22 = .ok (.istore 5, 2) := by decide +kernel
theorem dX11_rank_24 : decode cX11_rank 24 = .ok (.iload 5, 2) := by decide +kernel
theorem dX11_rank_26 : decode cX11_rank 26 = .ok (.iload_n 1, 1) := by decide +kernel
theorem dX11_rank_27 : decode cX11_rank 27 = .ok (.if_icmp .ge 35, 3) := by decide +kernel
theorem dX11_rank_30 : decode cX11_rank 30 = .ok (.iload 4, 2) := by decide +kernel
theorem dX11_rank_32 : decode cX11_rank 32 = .ok (.aload_n 0, 1) := by decide +kernel
theorem dX11_rank_33 : decode cX11_rank 33 = .ok (.getfield 22, 3) := by decide +kernel
theorem dX11_rank_36 : decode cX11_rank 36 = .ok (.iload 5, 2) := by decide +kernel
theorem dX11_rank_38 : decode cX11_rank 38 = .ok (.iaload, 1) := by decide +kernel
theorem dX11_rank_39 : decode cX11_rank 39 = .ok (.aload_n 0, 1) := by decide +kernel
theorem dX11_rank_40 : decode cX11_rank 40 = .ok (.getfield 22, 3) := by decide +kernel
theorem dX11_rank_43 : decode cX11_rank 43 = .ok (.iload_n 3, 1) := by decide +kernel
theorem dX11_rank_44 : decode cX11_rank 44 = .ok (.iaload, 1) := by decide +kernel
theorem dX11_rank_45 : decode cX11_rank 45 = .ok (.if_icmp .ge 7, 3) := by decide +kernel
theorem dX11_rank_48 : decode cX11_rank 48 = .ok (.iconst 1, 1) := by decide +kernel
theorem dX11_rank_49 : decode cX11_rank 49 = .ok (.goto 4, 3) := by decide +kernel
theorem dX11_rank_52 : decode cX11_rank 52 = .ok (.iconst 0, 1) := by decide +kernel
theorem dX11_rank_53 : decode cX11_rank 53 = .ok (.iadd, 1) := by decide +kernel
theorem dX11_rank_54 : decode cX11_rank 54 = .ok (.istore 4, 2) := by decide +kernel
theorem dX11_rank_56 : decode cX11_rank 56 = .ok (.iinc 5 1, 3) := by decide +kernel
theorem dX11_rank_59 : decode cX11_rank 59 = .ok (.goto (-35), 3) := by decide +kernel
theorem dX11_rank_62 : decode cX11_rank 62 = .ok (.iload_n 2, 1) := by decide +kernel
theorem dX11_rank_63 : decode cX11_rank 63 = .ok (.iload_n 1, 1) := by decide +kernel
theorem dX11_rank_64 : decode cX11_rank 64 = .ok (.iload_n 3, 1) := by decide +kernel
theorem dX11_rank_65 : decode cX11_rank 65 = .ok (.isub, 1) := by decide +kernel
theorem dX11_rank_66 : decode cX11_rank 66 = .ok (.imul, 1) := by decide +kernel
theorem dX11_rank_67 : decode cX11_rank 67 = .ok (.iload 4, 2) := by decide +kernel
theorem dX11_rank_69 : decode cX11_rank 69 = .ok (.iadd, 1) := by decide +kernel
theorem dX11_rank_70 : decode cX11_rank 70 = .ok (.istore_n 2, 1) := by decide +kernel
theorem dX11_rank_71 : decode cX11_rank 71 = .ok (.iinc 3 1, 3) := by decide +kernel
theorem dX11_rank_74 : decode cX11_rank 74 = .ok (.goto (-63), 3) := by decide +kernel
theorem dX11_rank_77 : decode cX11_rank 77 = .ok (.iload_n 2, 1) := by decide +kernel
theorem dX11_rank_78 : decode cX11_rank 78 = .ok (.ireturn, 1) := by decide +kernel
theorem dX11_unrank_0 : decode cX11_unrank 0 = .ok (.aload_n 0, 1) := by decide +kernel
theorem dX11_unrank_1 : decode cX11_unrank 1 = .ok (.getfield 7, 3) := by decide +kernel
theorem dX11_unrank_4 : decode cX11_unrank 4 = .ok (.iconst 0, 1) := by decide +kernel
theorem dX11_unrank_5 : decode cX11_unrank 5 = .ok (.iaload, 1) := by decide +kernel
theorem dX11_unrank_6 : decode cX11_unrank 6 = .ok (.istore_n 2, 1) := by decide +kernel
theorem dX11_unrank_7 : decode cX11_unrank 7 = .ok (.iload_n 1, 1) := by decide +kernel
theorem dX11_unrank_8 : decode cX11_unrank 8 = .ok (.istore_n 3, 1) := by decide +kernel
theorem dX11_unrank_9 : decode cX11_unrank 9 = .ok (.iload_n 2, 1) := by decide +kernel
theorem dX11_unrank_10 : decode cX11_unrank 10 = .ok (.iconst 1, 1) := by decide +kernel
theorem dX11_unrank_11 : decode cX11_unrank 11 = .ok (.isub, 1) := by decide +kernel
theorem dX11_unrank_12 : decode cX11_unrank 12 = .ok (.istore 4, 2) := by decide +kernel
theorem dX11_unrank_14 : decode cX11_unrank 14 = .ok (.iload 4, 2) := by decide +kernel
theorem dX11_unrank_16 : decode cX11_unrank 16 = .ok (.ifCond .lt 79, 3) := by decide +kernel
theorem dX11_unrank_19 : decode cX11_unrank 19 = .ok (.aload_n 0, 1) := by decide +kernel
theorem dX11_unrank_20 : decode cX11_unrank 20 = .ok (.getfield 22, 3) := by decide +kernel
theorem dX11_unrank_23 : decode cX11_unrank 23 = .ok (.iload 4, 2) := by decide +kernel
theorem dX11_unrank_25 : decode cX11_unrank 25 = .ok (.iload_n 3, 1) := by decide +kernel
theorem dX11_unrank_26 : decode cX11_unrank 26 = .ok (.iload_n 2, 1) := by decide +kernel
theorem dX11_unrank_27 : decode cX11_unrank 27 = .ok (.iload 4, 2) := by decide +kernel
theorem dX11_unrank_29 : decode cX11_unrank 29 = .ok (.isub, 1) := by decide +kernel
theorem dX11_unrank_30 : decode cX11_unrank 30 = .ok (.irem, 1) := by decide +kernel
theorem dX11_unrank_31 : decode cX11_unrank 31 = .ok (.iastore, 1) := by decide +kernel
theorem dX11_unrank_32 : decode cX11_unrank 32 = .ok (.iload_n 3, 1) := by decide +kernel
theorem dX11_unrank_33 : decode cX11_unrank 33 = .ok (.iload_n 2, 1) := by decide +kernel
theorem dX11_unrank_34 : decode cX11_unrank 34 = .ok (.iload 4, 2) := by decide +kernel
theorem dX11_unrank_36 : decode cX11_unrank 36 = .ok (.isub, 1) := by decide +kernel
theorem dX11_unrank_37 : decode cX11_unrank 37 = .ok (.idiv, 1) := by decide +kernel
theorem dX11_unrank_38 : decode cX11_unrank 38 = .ok (.istore_n 3, 1) := by decide +kernel
theorem dX11_unrank_39 : decode cX11_unrank 39 = .ok (.iload 4, 2) := by decide +kernel
theorem dX11_unrank_41 : decode cX11_unrank 41 = .ok (.iconst 1, 1) := by decide +kernel
theorem dX11_unrank_42 : decode cX11_unrank 42 = .ok (.iadd, 1) := by decide +kernel
theorem dX11_unrank_43 : decode cX11_unrank 43 = .ok (.istore 5, 2) := by decide +kernel
theorem dX11_unrank_45 : decode cX11_unrank 45 = .ok (.iload 5, 2) := by decide +kernel
theorem dX11_unrank_47 : decode cX11_unrank 47 = .ok (.iload_n 2, 1) := by decide +kernel
theorem dX11_unrank_48 : decode cX11_unrank 48 = .ok (.if_icmp .ge 41, 3) := by decide +kernel
theorem dX11_unrank_51 : decode cX11_unrank 51 = .ok (.aload_n 0, 1) := by decide +kernel
theorem dX11_unrank_52 : decode cX11_unrank 52 = .ok (.getfield 22, 3) := by decide +kernel
theorem dX11_unrank_55 : decode cX11_unrank 55 = .ok (.iload 5, 2) := by decide +kernel
theorem dX11_unrank_57 : decode cX11_unrank 57 = .ok (.dup2, 1) := by decide +kernel
theorem dX11_unrank_58 : decode cX11_unrank 58 = .ok (.iaload, 1) := by decide +kernel
theorem dX11_unrank_59 : decode cX11_unrank 59 = .ok (.aload_n 0, 1) := by decide +kernel
theorem dX11_unrank_60 : decode cX11_unrank 60 = .ok (.getfield 22, 3) := by decide +kernel
theorem dX11_unrank_63 : decode cX11_unrank 63 = .ok (.iload 5, 2) := by decide +kernel
theorem dX11_unrank_65 : decode cX11_unrank 65 = .ok (.iaload, 1) := by decide +kernel
theorem dX11_unrank_66 : decode cX11_unrank 66 = .ok (.aload_n 0, 1) := by decide +kernel
theorem dX11_unrank_67 : decode cX11_unrank 67 = .ok (.getfield 22, 3) := by decide +kernel
theorem dX11_unrank_70 : decode cX11_unrank 70 = .ok (.iload 4, 2) := by decide +kernel
theorem dX11_unrank_72 : decode cX11_unrank 72 = .ok (.iaload, 1) := by decide +kernel
theorem dX11_unrank_73 : decode cX11_unrank 73 = .ok (.if_icmp .lt 7, 3) := by decide +kernel
theorem dX11_unrank_76 : decode cX11_unrank 76 = .ok (.iconst 1, 1) := by decide +kernel
theorem dX11_unrank_77 : decode cX11_unrank 77 = .ok (.goto 4, 3) := by decide +kernel
theorem dX11_unrank_80 : decode cX11_unrank 80 = .ok (.iconst 0, 1) := by decide +kernel
theorem dX11_unrank_81 : decode cX11_unrank 81 = .ok (.iadd, 1) := by decide +kernel
theorem dX11_unrank_82 : decode cX11_unrank 82 = .ok (.iastore, 1) := by decide +kernel
theorem dX11_unrank_83 : decode cX11_unrank 83 = .ok (.iinc 5 1, 3) := by decide +kernel
theorem dX11_unrank_86 : decode cX11_unrank 86 = .ok (.goto (-41), 3) := by decide +kernel
theorem dX11_unrank_89 : decode cX11_unrank 89 = .ok (.iinc 4 (-1), 3) := by decide +kernel
theorem dX11_unrank_92 : decode cX11_unrank 92 = .ok (.goto (-78), 3) := by decide +kernel
theorem dX11_unrank_95 : decode cX11_unrank 95 = .ok (.return_, 1) := by decide +kernel
theorem dX11_changeOf_0 : decode cX11_changeOf 0 = .ok (.iload_n 1, 1) := by decide +kernel
theorem dX11_changeOf_1 : decode cX11_changeOf 1 = .ok (.ifCond .le 26, 3) := by decide +kernel
theorem dX11_changeOf_4 : decode cX11_changeOf 4 = .ok (.iload_n 2, 1) := by decide +kernel
theorem dX11_changeOf_5 : decode cX11_changeOf 5 = .ok (.aload_n 0, 1) := by decide +kernel
theorem dX11_changeOf_6 : decode cX11_changeOf 6 = .ok (.getfield 7, 3) := by decide +kernel
theorem dX11_changeOf_9 : decode cX11_changeOf 9 = .ok (.iconst 1, 1) := by decide +kernel
theorem dX11_changeOf_10 : decode cX11_changeOf 10 = .ok (.iaload, 1) := by decide +kernel
theorem dX11_changeOf_11 : decode cX11_changeOf 11 = .ok (.iconst 1, 1) := by decide +kernel
theorem dX11_changeOf_12 : decode cX11_changeOf 12 = .ok (.isub, 1) := by decide +kernel
theorem dX11_changeOf_13 : decode cX11_changeOf 13 = .ok (.if_icmp .ne 14, 3) := by decide +kernel
theorem dX11_changeOf_16 : decode cX11_changeOf 16 = .ok (.aload_n 0, 1) := by decide +kernel
theorem dX11_changeOf_17 : decode cX11_changeOf 17 = .ok (.getfield 7, 3) := by decide +kernel
theorem dX11_changeOf_20 : decode cX11_changeOf 20 = .ok (.iconst 2, 1) := by decide +kernel
theorem dX11_changeOf_21 : decode cX11_changeOf 21 = .ok (.iload_n 1, 1) := by decide +kernel
theorem dX11_changeOf_22 : decode cX11_changeOf 22 = .ok (.iadd, 1) := by decide +kernel
theorem dX11_changeOf_23 : decode cX11_changeOf 23 = .ok (.iaload, 1) := by decide +kernel
theorem dX11_changeOf_24 : decode cX11_changeOf 24 = .ok (.goto 11, 3) := by decide +kernel
theorem dX11_changeOf_27 : decode cX11_changeOf 27 = .ok (.aload_n 0, 1) := by decide +kernel
theorem dX11_changeOf_28 : decode cX11_changeOf 28 = .ok (.getfield 7, 3) := by decide +kernel
theorem dX11_changeOf_31 : decode cX11_changeOf 31 = .ok (.iconst 5, 1) := by decide +kernel
theorem dX11_changeOf_32 : decode cX11_changeOf 32 = .ok (.iload_n 2, 1) := by decide +kernel
theorem dX11_changeOf_33 : decode cX11_changeOf 33 = .ok (.iadd, 1) := by decide +kernel
theorem dX11_changeOf_34 : decode cX11_changeOf 34 = .ok (.iaload, 1) := by decide +kernel
theorem dX11_changeOf_35 : decode cX11_changeOf 35 = .ok (.ireturn, 1) := by decide +kernel
theorem dX11_ringsLead_0 : decode cX11_ringsLead 0 = .ok (.iconst 0, 1) := by decide +kernel
theorem dX11_ringsLead_1 : decode cX11_ringsLead 1 = .ok (.istore_n 2, 1) := by decide +kernel
theorem dX11_ringsLead_2 : decode cX11_ringsLead 2 = .ok (.iload_n 2, 1) := by decide +kernel
theorem dX11_ringsLead_3 : decode cX11_ringsLead 3 = .ok (.aload_n 0, 1) := by decide +kernel
theorem dX11_ringsLead_4 : decode cX11_ringsLead 4 = .ok (.getfield 7, 3) := by decide +kernel
theorem dX11_ringsLead_7 : decode cX11_ringsLead 7 = .ok (.iconst 1, 1) := by decide +kernel
theorem dX11_ringsLead_8 : decode cX11_ringsLead 8 = .ok (.iaload, 1) := by decide +kernel
theorem dX11_ringsLead_9 : decode cX11_ringsLead 9 = .ok (.if_icmp .ge 42, 3) := by decide +kernel
theorem dX11_ringsLead_12 : decode cX11_ringsLead 12 = .ok (.aload_n 0, 1) := by decide +kernel
theorem dX11_ringsLead_13 : decode cX11_ringsLead 13 = .ok (.aload_n 0, 1) := by decide +kernel
theorem dX11_ringsLead_14 : decode cX11_ringsLead 14 = .ok (.iload_n 1, 1) := by decide +kernel
theorem dX11_ringsLead_15 : decode cX11_ringsLead 15 = .ok (.iload_n 2, 1) := by decide +kernel
theorem dX11_ringsLead_16 : decode cX11_ringsLead 16 = .ok (.invokevirtual 58, 3) := by decide +kernel
theorem dX11_ringsLead_19 : decode cX11_ringsLead 19 = .ok (.invokevirtual 62, 3) := by decide +kernel
theorem dX11_ringsLead_22 : decode cX11_ringsLead 22 = .ok (.aload_n 0, 1) := by decide +kernel
theorem dX11_ringsLead_23 : decode cX11_ringsLead 23 = .ok (.dup, 1) := by decide +kernel
theorem dX11_ringsLead_24 : decode cX11_ringsLead 24 = .ok (.getfield 65, 3) := by decide +kernel
theorem dX11_ringsLead_27 : decode cX11_ringsLead 27 = .ok (.iconst 1, 1) := by decide +kernel
theorem dX11_ringsLead_28 : decode cX11_ringsLead 28 = .ok (.iadd, 1) := by decide +kernel
theorem dX11_ringsLead_29 : decode cX11_ringsLead 29 = .ok (.putfield 65, 3) := by decide +kernel
theorem dX11_ringsLead_32 : decode cX11_ringsLead 32 = .ok (.aload_n 0, 1) := by decide +kernel
theorem dX11_ringsLead_33 : decode cX11_ringsLead 33 = .ok (.getfield 28, 3) := by decide +kernel
theorem dX11_ringsLead_36 : decode cX11_ringsLead 36 = .ok (.aload_n 0, 1) := by decide +kernel
theorem dX11_ringsLead_37 : decode cX11_ringsLead 37 = .ok (.getfield 65, 3) := by decide +kernel
theorem dX11_ringsLead_40 : decode cX11_ringsLead 40 = .ok (.aload_n 0, 1) := by decide +kernel
theorem dX11_ringsLead_41 : decode cX11_ringsLead 41 = .ok (.invokevirtual 68, 3) := by decide +kernel
theorem dX11_ringsLead_44 : decode cX11_ringsLead 44 = .ok (.iastore, 1) := by decide +kernel
theorem dX11_ringsLead_45 : decode cX11_ringsLead 45 = .ok (.iinc 2 1, 3) := by decide +kernel
theorem dX11_ringsLead_48 : decode cX11_ringsLead 48 = .ok (.goto (-46), 3) := by decide +kernel
theorem dX11_ringsLead_51 : decode cX11_ringsLead 51 = .ok (.return_, 1) := by decide +kernel
theorem dX11_ringsAll_0 : decode cX11_ringsAll 0 = .ok (.aload_n 0, 1) := by decide +kernel
theorem dX11_ringsAll_1 : decode cX11_ringsAll 1 = .ok (.invokevirtual 72, 3) := by decide +kernel
theorem dX11_ringsAll_4 : decode cX11_ringsAll 4 = .ok (.aload_n 0, 1) := by decide +kernel
theorem dX11_ringsAll_5 : decode cX11_ringsAll 5 = .ok (.iconst 0, 1) := by decide +kernel
theorem dX11_ringsAll_6 : decode cX11_ringsAll 6 = .ok (.putfield 65, 3) := by decide +kernel
theorem dX11_ringsAll_9 : decode cX11_ringsAll 9 = .ok (.aload_n 0, 1) := by decide +kernel
theorem dX11_ringsAll_10 : decode cX11_ringsAll 10 = .ok (.getfield 28, 3) := by decide +kernel
theorem dX11_ringsAll_13 : decode cX11_ringsAll 13 = .ok (.iconst 0, 1) := by decide +kernel
theorem dX11_ringsAll_14 : decode cX11_ringsAll 14 = .ok (.iconst 0, 1) := by decide +kernel
theorem dX11_ringsAll_15 : decode cX11_ringsAll 15 = .ok (.iastore, 1) := by decide +kernel
theorem dX11_ringsAll_16 : decode cX11_ringsAll 16 = .ok (.iconst 0, 1) := by decide +kernel
theorem dX11_ringsAll_17 : decode cX11_ringsAll 17 = .ok (.istore_n 2, 1) := by decide +kernel
theorem dX11_ringsAll_18 : decode cX11_ringsAll 18 = .ok (.iload_n 2, 1) := by decide +kernel
theorem dX11_ringsAll_19 : decode cX11_ringsAll 19 = .ok (.aload_n 0, 1) := by decide +kernel
theorem dX11_ringsAll_20 : decode cX11_ringsAll 20 = .ok (.getfield 7, 3) := by decide +kernel
theorem dX11_ringsAll_23 : decode cX11_ringsAll 23 = .ok (.iconst 2, 1) := by decide +kernel
theorem dX11_ringsAll_24 : decode cX11_ringsAll 24 = .ok (.iaload, 1) := by decide +kernel
theorem dX11_ringsAll_25 : decode cX11_ringsAll 25 = .ok (.if_icmp .ge 22, 3) := by decide +kernel
theorem dX11_ringsAll_28 : decode cX11_ringsAll 28 = .ok (.aload_n 0, 1) := by decide +kernel
theorem dX11_ringsAll_29 : decode cX11_ringsAll 29 = .ok (.aload_n 0, 1) := by decide +kernel
theorem dX11_ringsAll_30 : decode cX11_ringsAll 30 = .ok (.getfield 7, 3) := by decide +kernel
theorem dX11_ringsAll_33 : decode cX11_ringsAll 33 = .ok (.bipush 25, 2) := by decide +kernel
theorem dX11_ringsAll_35 : decode cX11_ringsAll 35 = .ok (.iload_n 2, 1) := by decide +kernel
theorem dX11_ringsAll_36 : decode cX11_ringsAll 36 = .ok (.iadd, 1) := by decide +kernel
theorem dX11_ringsAll_37 : decode cX11_ringsAll 37 = .ok (.iaload, 1) := by decide +kernel
theorem dX11_ringsAll_38 : decode cX11_ringsAll 38 = .ok (.invokevirtual 75, 3) := by decide +kernel
theorem dX11_ringsAll_41 : decode cX11_ringsAll 41 = .ok (.iinc 2 1, 3) := by decide +kernel
theorem dX11_ringsAll_44 : decode cX11_ringsAll 44 = .ok (.goto (-26), 3) := by decide +kernel
theorem dX11_ringsAll_47 : decode cX11_ringsAll 47 = .ok (.iload_n 1, 1) := by decide +kernel
theorem dX11_ringsAll_48 : decode cX11_ringsAll 48 = .ok (.ifCond .lt 8, 3) := by decide +kernel
theorem dX11_ringsAll_51 : decode cX11_ringsAll 51 = .ok (.aload_n 0, 1) := by decide +kernel
theorem dX11_ringsAll_52 : decode cX11_ringsAll 52 = .ok (.iload_n 1, 1) := by decide +kernel
theorem dX11_ringsAll_53 : decode cX11_ringsAll 53 = .ok (.invokevirtual 75, 3) := by decide +kernel
theorem dX11_ringsAll_56 : decode cX11_ringsAll 56 = .ok (.return_, 1) := by decide +kernel
theorem dX11_bells_0 : decode cX11_bells 0 = .ok (.iload_n 1, 1) := by decide +kernel
theorem dX11_bells_1 : decode cX11_bells 1 = .ok (.iconst 4, 1) := by decide +kernel
theorem dX11_bells_2 : decode cX11_bells 2 = .ok (.bipush 7, 2) := by decide +kernel
theorem dX11_bells_4 : decode cX11_bells 4 = .ok (.invokestatic 54, 3) := by decide +kernel
theorem dX11_bells_7 : decode cX11_bells 7 = .ok (.ifCond .ne 5, 3) := by decide +kernel
theorem dX11_bells_10 : decode cX11_bells 10 = .ok (.iconst (-1), 1) := by decide +kernel
theorem dX11_bells_11 : decode cX11_bells 11 = .ok (.ireturn, 1) := by decide +kernel
theorem dX11_bells_12 : decode cX11_bells 12 = .ok (.aload_n 0, 1) := by decide +kernel
theorem dX11_bells_13 : decode cX11_bells 13 = .ok (.invokevirtual 78, 3) := by decide +kernel
theorem dX11_bells_16 : decode cX11_bells 16 = .ok (.aload_n 0, 1) := by decide +kernel
theorem dX11_bells_17 : decode cX11_bells 17 = .ok (.getfield 7, 3) := by decide +kernel
theorem dX11_bells_20 : decode cX11_bells 20 = .ok (.iconst 0, 1) := by decide +kernel
theorem dX11_bells_21 : decode cX11_bells 21 = .ok (.iaload, 1) := by decide +kernel
theorem dX11_bells_22 : decode cX11_bells 22 = .ok (.istore_n 2, 1) := by decide +kernel
theorem dX11_bells_23 : decode cX11_bells 23 = .ok (.aload_n 0, 1) := by decide +kernel
theorem dX11_bells_24 : decode cX11_bells 24 = .ok (.iload_n 1, 1) := by decide +kernel
theorem dX11_bells_25 : decode cX11_bells 25 = .ok (.invokevirtual 46, 3) := by decide +kernel
theorem dX11_bells_28 : decode cX11_bells 28 = .ok (.iload_n 2, 1) := by decide +kernel
theorem dX11_bells_29 : decode cX11_bells 29 = .ok (.ireturn, 1) := by decide +kernel
theorem dX11_isAt_0 : decode cX11_isAt 0 = .ok (.aload_n 0, 1) := by decide +kernel
theorem dX11_isAt_1 : decode cX11_isAt 1 = .ok (.getfield 81, 3) := by decide +kernel
theorem dX11_isAt_4 : decode cX11_isAt 4 = .ok (.aload_n 0, 1) := by decide +kernel
theorem dX11_isAt_5 : decode cX11_isAt 5 = .ok (.getfield 84, 3) := by decide +kernel
theorem dX11_isAt_8 : decode cX11_isAt 8 = .ok (.if_icmp .ge 24, 3) := by decide +kernel
theorem dX11_isAt_11 : decode cX11_isAt 11 = .ok (.aload_n 0, 1) := by decide +kernel
theorem dX11_isAt_12 : decode cX11_isAt 12 = .ok (.getfield 19, 3) := by decide +kernel
theorem dX11_isAt_15 : decode cX11_isAt 15 = .ok (.aload_n 0, 1) := by decide +kernel
theorem dX11_isAt_16 : decode cX11_isAt 16 = .ok (.getfield 81, 3) := by decide +kernel
theorem dX11_isAt_19 : decode cX11_isAt 19 = .ok (.iaload, 1) := by decide +kernel
theorem dX11_isAt_20 : decode cX11_isAt 20 = .ok (.iload_n 1, 1) := by decide +kernel
theorem dX11_isAt_21 : decode cX11_isAt 21 = .ok (.iload_n 2, 1) := by decide +kernel
theorem dX11_isAt_22 : decode cX11_isAt 22 = .ok (.invokestatic 54, 3) := by decide +kernel
theorem dX11_isAt_25 : decode cX11_isAt 25 = .ok (.ifCond .eq 7, 3) := by decide +kernel
theorem dX11_isAt_28 : decode cX11_isAt 28 = .ok (.iconst 1, 1) := by decide +kernel
theorem dX11_isAt_29 : decode cX11_isAt 29 = .ok (.goto 4, 3) := by decide +kernel
theorem dX11_isAt_32 : decode cX11_isAt 32 = .ok (.iconst 0, 1) := by decide +kernel
theorem dX11_isAt_33 : decode cX11_isAt 33 = .ok (.ireturn, 1) := by decide +kernel
theorem dX11_couldBeRight_0 : decode cX11_couldBeRight 0 = .ok (.iconst 0, 1) := by decide +kernel
theorem dX11_couldBeRight_1 : decode cX11_couldBeRight 1 = .ok (.istore_n 3, 1) := by decide +kernel
theorem dX11_couldBeRight_2 : decode cX11_couldBeRight 2 = .ok (.iconst 0, 1) := by decide +kernel
theorem dX11_couldBeRight_3 : decode cX11_couldBeRight 3 = .ok (.istore 4, 2) := by decide +kernel
theorem dX11_couldBeRight_5 : decode cX11_couldBeRight 5 = .ok (.iload 4, 2) := by decide +kernel
theorem dX11_couldBeRight_7 : decode cX11_couldBeRight 7 = .ok (.iconst 1, 1) := by decide +kernel
theorem dX11_couldBeRight_8 : decode cX11_couldBeRight 8 = .ok (.aload_n 0, 1) := by decide +kernel
theorem dX11_couldBeRight_9 : decode cX11_couldBeRight 9 = .ok (.getfield 7, 3) := by decide +kernel
theorem dX11_couldBeRight_12 : decode cX11_couldBeRight 12 = .ok (.iconst 0, 1) := by decide +kernel
theorem dX11_couldBeRight_13 : decode cX11_couldBeRight 13 = .ok (.iaload, 1) := by decide +kernel
theorem dX11_couldBeRight_14 : decode cX11_couldBeRight 14 = .ok (.iload_n 2, 1) := by decide +kernel
theorem dX11_couldBeRight_15 : decode cX11_couldBeRight 15 = .ok (.isub, 1) := by decide +kernel
theorem dX11_couldBeRight_16 : decode cX11_couldBeRight 16 = .ok (.ishl, 1) := by decide +kernel
theorem dX11_couldBeRight_17 : decode cX11_couldBeRight 17 = .ok (.if_icmp .ge 32, 3) := by decide +kernel
theorem dX11_couldBeRight_20 : decode cX11_couldBeRight 20 = .ok (.iload_n 3, 1) := by decide +kernel
theorem dX11_couldBeRight_21 : decode cX11_couldBeRight 21 = .ok (.ifCond .ne 16, 3) := by decide +kernel
theorem dX11_couldBeRight_24 : decode cX11_couldBeRight 24 = .ok (.aload_n 0, 1) := by decide +kernel
theorem dX11_couldBeRight_25 : decode cX11_couldBeRight 25 = .ok (.iload_n 1, 1) := by decide +kernel
theorem dX11_couldBeRight_26 : decode cX11_couldBeRight 26 = .ok (.iload 4, 2) := by decide +kernel
theorem dX11_couldBeRight_28 : decode cX11_couldBeRight 28 = .ok (.iload_n 2, 1) := by decide +kernel
theorem dX11_couldBeRight_29 : decode cX11_couldBeRight 29 = .ok (.ishl, 1) := by decide +kernel
theorem dX11_couldBeRight_30 : decode cX11_couldBeRight 30 = .ok (.ior, 1) := by decide +kernel
theorem dX11_couldBeRight_31 : decode cX11_couldBeRight 31 = .ok (.invokevirtual 87, 3) := by decide +kernel
theorem dX11_couldBeRight_34 : decode cX11_couldBeRight 34 = .ok (.ifCond .eq 7, 3) := by decide +kernel
theorem dX11_couldBeRight_37 : decode cX11_couldBeRight 37 = .ok (.iconst 1, 1) := by decide +kernel
theorem dX11_couldBeRight_38 : decode cX11_couldBeRight 38 = .ok (.goto 4, 3) := by decide +kernel
theorem dX11_couldBeRight_41 : decode cX11_couldBeRight 41 = .ok (.iconst 0, 1) := by decide +kernel
theorem dX11_couldBeRight_42 : decode cX11_couldBeRight 42 = .ok (.istore_n 3, 1) := by decide +kernel
theorem dX11_couldBeRight_43 : decode cX11_couldBeRight 43 = .ok (.iinc 4 1, 3) := by decide +kernel
theorem dX11_couldBeRight_46 : decode cX11_couldBeRight 46 = .ok (.goto (-41), 3) := by decide +kernel
theorem dX11_couldBeRight_49 : decode cX11_couldBeRight 49 = .ok (.iload_n 3, 1) := by decide +kernel
theorem dX11_couldBeRight_50 : decode cX11_couldBeRight 50 = .ok (.ireturn, 1) := by decide +kernel
theorem dX11_readsChange_0 : decode cX11_readsChange 0 = .ok (.aload_n 0, 1) := by decide +kernel
theorem dX11_readsChange_1 : decode cX11_readsChange 1 = .ok (.getfield 31, 3) := by decide +kernel
theorem dX11_readsChange_4 : decode cX11_readsChange 4 = .ok (.aload_n 0, 1) := by decide +kernel
theorem dX11_readsChange_5 : decode cX11_readsChange 5 = .ok (.getfield 91, 3) := by decide +kernel
theorem dX11_readsChange_8 : decode cX11_readsChange 8 = .ok (.iconst 0, 1) := by decide +kernel
theorem dX11_readsChange_9 : decode cX11_readsChange 9 = .ok (.iastore, 1) := by decide +kernel
theorem dX11_readsChange_10 : decode cX11_readsChange 10 = .ok (.aload_n 0, 1) := by decide +kernel
theorem dX11_readsChange_11 : decode cX11_readsChange 11 = .ok (.bipush 120, 2) := by decide +kernel
theorem dX11_readsChange_13 : decode cX11_readsChange 13 = .ok (.bipush 120, 2) := by decide +kernel
theorem dX11_readsChange_15 : decode cX11_readsChange 15 = .ok (.invokevirtual 94, 3) := by decide +kernel
theorem dX11_readsChange_18 : decode cX11_readsChange 18 = .ok (.ifCond .eq 23, 3) := by decide +kernel
theorem dX11_readsChange_21 : decode cX11_readsChange 21 = .ok (.aload_n 0, 1) := by decide +kernel
theorem dX11_readsChange_22 : decode cX11_readsChange 22 = .ok (.iconst 0, 1) := by decide +kernel
theorem dX11_readsChange_23 : decode cX11_readsChange 23 = .ok (.invokevirtual 87, 3) := by decide +kernel
theorem dX11_readsChange_26 : decode cX11_readsChange 26 = .ok (.ifCond .eq 15, 3) := by decide +kernel
theorem dX11_readsChange_29 : decode cX11_readsChange 29 = .ok (.aload_n 0, 1) := by decide +kernel
theorem dX11_readsChange_30 : decode cX11_readsChange 30 = .ok (.dup, 1) := by decide +kernel
theorem dX11_readsChange_31 : decode cX11_readsChange 31 = .ok (.getfield 81, 3) := by decide +kernel
theorem dX11_readsChange_34 : decode cX11_readsChange 34 = .ok (.iconst 1, 1) := by decide +kernel
theorem dX11_readsChange_35 : decode cX11_readsChange 35 = .ok (.iadd, 1) := by decide +kernel
theorem dX11_readsChange_36 : decode cX11_readsChange 36 = .ok (.putfield 81, 3) := by decide +kernel
theorem dX11_readsChange_39 : decode cX11_readsChange 39 = .ok (.iconst 1, 1) := by decide +kernel
theorem dX11_readsChange_40 : decode cX11_readsChange 40 = .ok (.ireturn, 1) := by decide +kernel
theorem dX11_readsChange_41 : decode cX11_readsChange 41 = .ok (.iconst 0, 1) := by decide +kernel
theorem dX11_readsChange_42 : decode cX11_readsChange 42 = .ok (.istore_n 1, 1) := by decide +kernel
theorem dX11_readsChange_43 : decode cX11_readsChange 43 = .ok (.aload_n 0, 1) := by decide +kernel
theorem dX11_readsChange_44 : decode cX11_readsChange 44 = .ok (.bipush 49, 2) := by decide +kernel
theorem dX11_readsChange_46 : decode cX11_readsChange 46 = .ok (.iload_n 1, 1) := by decide +kernel
theorem dX11_readsChange_47 : decode cX11_readsChange 47 = .ok (.iadd, 1) := by decide +kernel
theorem dX11_readsChange_48 : decode cX11_readsChange 48 = .ok (.bipush 48, 2) := by decide +kernel
theorem dX11_readsChange_50 : decode cX11_readsChange 50 = .ok (.aload_n 0, 1) := by decide +kernel
theorem dX11_readsChange_51 : decode cX11_readsChange 51 = .ok (.getfield 7, 3) := by decide +kernel
theorem dX11_readsChange_54 : decode cX11_readsChange 54 = .ok (.iconst 0, 1) := by decide +kernel
theorem dX11_readsChange_55 : decode cX11_readsChange 55 = .ok (.iaload, 1) := by decide +kernel
theorem dX11_readsChange_56 : decode cX11_readsChange 56 = .ok (.iadd, 1) := by decide +kernel
theorem dX11_readsChange_57 : decode cX11_readsChange 57 = .ok (.invokevirtual 94, 3) := by decide +kernel
theorem dX11_readsChange_60 : decode cX11_readsChange 60 = .ok (.ifCond .eq 68, 3) := by decide +kernel
theorem dX11_readsChange_63 : decode cX11_readsChange 63 = .ok (.aload_n 0, 1) := by decide +kernel
theorem dX11_readsChange_64 : decode cX11_readsChange 64 = .ok (.getfield 19, 3) := by decide +kernel
theorem dX11_readsChange_67 : decode cX11_readsChange 67 = .ok (.aload_n 0, 1) := by decide +kernel
theorem dX11_readsChange_68 : decode cX11_readsChange 68 = .ok (.getfield 81, 3) := by decide +kernel
theorem dX11_readsChange_71 : decode cX11_readsChange 71 = .ok (.iaload, 1) := by decide +kernel
theorem dX11_readsChange_72 : decode cX11_readsChange 72 = .ok (.bipush 48, 2) := by decide +kernel
theorem dX11_readsChange_74 : decode cX11_readsChange 74 = .ok (.isub, 1) := by decide +kernel
theorem dX11_readsChange_75 : decode cX11_readsChange 75 = .ok (.istore_n 2, 1) := by decide +kernel
theorem dX11_readsChange_76 : decode cX11_readsChange 76 = .ok (.aload_n 0, 1) := by decide +kernel
theorem dX11_readsChange_77 : decode cX11_readsChange 77 = .ok (.getfield 31, 3) := by decide +kernel
theorem dX11_readsChange_80 : decode cX11_readsChange 80 = .ok (.aload_n 0, 1) := by decide +kernel
theorem dX11_readsChange_81 : decode cX11_readsChange 81 = .ok (.getfield 91, 3) := by decide +kernel
theorem dX11_readsChange_84 : decode cX11_readsChange 84 = .ok (.iaload, 1) := by decide +kernel
theorem dX11_readsChange_85 : decode cX11_readsChange 85 = .ok (.iconst 1, 1) := by decide +kernel
theorem dX11_readsChange_86 : decode cX11_readsChange 86 = .ok (.iload_n 2, 1) := by decide +kernel
theorem dX11_readsChange_87 : decode cX11_readsChange 87 = .ok (.iconst 1, 1) := by decide +kernel
theorem dX11_readsChange_88 : decode cX11_readsChange 88 = .ok (.isub, 1) := by decide +kernel
theorem dX11_readsChange_89 : decode cX11_readsChange 89 = .ok (.ishl, 1) := by decide +kernel
theorem dX11_readsChange_90 : decode cX11_readsChange 90 = .ok (.ior, 1) := by decide +kernel
theorem dX11_readsChange_91 : decode cX11_readsChange 91 = .ok (.istore_n 3, 1) := by decide +kernel
theorem dX11_readsChange_92 : decode cX11_readsChange 92 = .ok (.aload_n 0, 1) := by decide +kernel
theorem dX11_readsChange_93 : decode cX11_readsChange 93 = .ok (.iload_n 3, 1) := by decide +kernel
theorem dX11_readsChange_94 : decode cX11_readsChange 94 = .ok (.iload_n 2, 1) := by decide +kernel
theorem dX11_readsChange_95 : decode cX11_readsChange 95 = .ok (.invokevirtual 98, 3) := by decide +kernel
theorem dX11_readsChange_98 : decode cX11_readsChange 98 = .ok (.ifCond .ne 5, 3) := by decide +kernel
theorem dX11_readsChange_101 : decode cX11_readsChange 101 = .ok (.iconst 0, 1) := by decide +kernel
theorem dX11_readsChange_102 : decode cX11_readsChange 102 = .ok (.ireturn, 1) := by decide +kernel
theorem dX11_readsChange_103 : decode cX11_readsChange 103 = .ok (.aload_n 0, 1) := by decide +kernel
theorem dX11_readsChange_104 : decode cX11_readsChange 104 = .ok (.getfield 31, 3) := by decide +kernel
theorem dX11_readsChange_107 : decode cX11_readsChange 107 = .ok (.aload_n 0, 1) := by decide +kernel
theorem dX11_readsChange_108 : decode cX11_readsChange 108 = .ok (.getfield 91, 3) := by decide +kernel
theorem dX11_readsChange_111 : decode cX11_readsChange 111 = .ok (.iload_n 3, 1) := by decide +kernel
theorem dX11_readsChange_112 : decode cX11_readsChange 112 = .ok (.iastore, 1) := by decide +kernel
theorem dX11_readsChange_113 : decode cX11_readsChange 113 = .ok (.iload_n 2, 1) := by decide +kernel
theorem dX11_readsChange_114 : decode cX11_readsChange 114 = .ok (.istore_n 1, 1) := by decide +kernel
theorem dX11_readsChange_115 : decode cX11_readsChange 115 = .ok (.aload_n 0, 1) := by decide +kernel
theorem dX11_readsChange_116 : decode cX11_readsChange 116 = .ok (.dup, 1) := by decide +kernel
theorem dX11_readsChange_117 : decode cX11_readsChange 117 = .ok (.getfield 81, 3) := by decide +kernel
theorem dX11_readsChange_120 : decode cX11_readsChange 120 = .ok (.iconst 1, 1) := by decide +kernel
theorem dX11_readsChange_121 : decode cX11_readsChange 121 = .ok (.iadd, 1) := by decide +kernel
theorem dX11_readsChange_122 : decode cX11_readsChange 122 = .ok (.putfield 81, 3) := by decide +kernel
theorem dX11_readsChange_125 : decode cX11_readsChange 125 = .ok (.goto (-82), 3) := by decide +kernel
theorem dX11_readsChange_128 : decode cX11_readsChange 128 = .ok (.iload_n 1, 1) := by decide +kernel
theorem dX11_readsChange_129 : decode cX11_readsChange 129 = .ok (.ifCond .le 23, 3) := by decide +kernel
theorem dX11_readsChange_132 : decode cX11_readsChange 132 = .ok (.aload_n 0, 1) := by decide +kernel
theorem dX11_readsChange_133 : decode cX11_readsChange 133 = .ok (.aload_n 0, 1) := by decide +kernel
theorem dX11_readsChange_134 : decode cX11_readsChange 134 = .ok (.getfield 31, 3) := by decide +kernel
theorem dX11_readsChange_137 : decode cX11_readsChange 137 = .ok (.aload_n 0, 1) := by decide +kernel
theorem dX11_readsChange_138 : decode cX11_readsChange 138 = .ok (.getfield 91, 3) := by decide +kernel
theorem dX11_readsChange_141 : decode cX11_readsChange 141 = .ok (.iaload, 1) := by decide +kernel
theorem dX11_readsChange_142 : decode cX11_readsChange 142 = .ok (.invokevirtual 87, 3) := by decide +kernel
theorem dX11_readsChange_145 : decode cX11_readsChange 145 = .ok (.ifCond .eq 7, 3) := by decide +kernel
theorem dX11_readsChange_148 : decode cX11_readsChange 148 = .ok (.iconst 1, 1) := by decide +kernel
theorem dX11_readsChange_149 : decode cX11_readsChange 149 = .ok (.goto 4, 3) := by decide +kernel
theorem dX11_readsChange_152 : decode cX11_readsChange 152 = .ok (.iconst 0, 1) := by decide +kernel
theorem dX11_readsChange_153 : decode cX11_readsChange 153 = .ok (.ireturn, 1) := by decide +kernel
theorem dX11_methodFault_0 : decode cX11_methodFault 0 = .ok (.aload_n 0, 1) := by decide +kernel
theorem dX11_methodFault_1 : decode cX11_methodFault 1 = .ok (.iconst 0, 1) := by decide +kernel
theorem dX11_methodFault_2 : decode cX11_methodFault 2 = .ok (.putfield 81, 3) := by decide +kernel
theorem dX11_methodFault_5 : decode cX11_methodFault 5 = .ok (.aload_n 0, 1) := by decide +kernel
theorem dX11_methodFault_6 : decode cX11_methodFault 6 = .ok (.iconst 0, 1) := by decide +kernel
theorem dX11_methodFault_7 : decode cX11_methodFault 7 = .ok (.putfield 91, 3) := by decide +kernel
theorem dX11_methodFault_10 : decode cX11_methodFault 10 = .ok (.iconst 1, 1) := by decide +kernel
theorem dX11_methodFault_11 : decode cX11_methodFault 11 = .ok (.istore_n 1, 1) := by decide +kernel
theorem dX11_methodFault_12 : decode cX11_methodFault 12 = .ok (.iload_n 1, 1) := by decide +kernel
theorem dX11_methodFault_13 : decode cX11_methodFault 13 = .ok (.ifCond .eq 72, 3) := by decide +kernel
theorem dX11_methodFault_16 : decode cX11_methodFault 16 = .ok (.aload_n 0, 1) := by decide +kernel
theorem dX11_methodFault_17 : decode cX11_methodFault 17 = .ok (.invokevirtual 101, 3) := by decide +kernel
theorem dX11_methodFault_20 : decode cX11_methodFault 20 = .ok (.ifCond .ne 8, 3) := by decide +kernel
theorem dX11_methodFault_23 : decode cX11_methodFault 23 = .ok (.aload_n 0, 1) := by decide +kernel
theorem dX11_methodFault_24 : decode cX11_methodFault 24 = .ok (.getfield 81, 3) := by decide +kernel
theorem dX11_methodFault_27 : decode cX11_methodFault 27 = .ok (.ireturn, 1) := by decide +kernel
theorem dX11_methodFault_28 : decode cX11_methodFault 28 = .ok (.aload_n 0, 1) := by decide +kernel
theorem dX11_methodFault_29 : decode cX11_methodFault 29 = .ok (.dup, 1) := by decide +kernel
theorem dX11_methodFault_30 : decode cX11_methodFault 30 = .ok (.getfield 91, 3) := by decide +kernel
theorem dX11_methodFault_33 : decode cX11_methodFault 33 = .ok (.iconst 1, 1) := by decide +kernel
theorem dX11_methodFault_34 : decode cX11_methodFault 34 = .ok (.iadd, 1) := by decide +kernel
theorem dX11_methodFault_35 : decode cX11_methodFault 35 = .ok (.putfield 91, 3) := by decide +kernel
theorem dX11_methodFault_38 : decode cX11_methodFault 38 = .ok (.aload_n 0, 1) := by decide +kernel
theorem dX11_methodFault_39 : decode cX11_methodFault 39 = .ok (.getfield 91, 3) := by decide +kernel
theorem dX11_methodFault_42 : decode cX11_methodFault 42 = .ok (.bipush 20, 2) := by decide +kernel
theorem dX11_methodFault_44 : decode cX11_methodFault 44 = .ok (.if_icmp .ge 18, 3) := by decide +kernel
theorem dX11_methodFault_47 : decode cX11_methodFault 47 = .ok (.aload_n 0, 1) := by decide +kernel
theorem dX11_methodFault_48 : decode cX11_methodFault 48 = .ok (.bipush 46, 2) := by decide +kernel
theorem dX11_methodFault_50 : decode cX11_methodFault 50 = .ok (.bipush 46, 2) := by decide +kernel
theorem dX11_methodFault_52 : decode cX11_methodFault 52 = .ok (.invokevirtual 94, 3) := by decide +kernel
theorem dX11_methodFault_55 : decode cX11_methodFault 55 = .ok (.ifCond .eq 7, 3) := by decide +kernel
theorem dX11_methodFault_58 : decode cX11_methodFault 58 = .ok (.iconst 1, 1) := by decide +kernel
theorem dX11_methodFault_59 : decode cX11_methodFault 59 = .ok (.goto 4, 3) := by decide +kernel
theorem dX11_methodFault_62 : decode cX11_methodFault 62 = .ok (.iconst 0, 1) := by decide +kernel
theorem dX11_methodFault_63 : decode cX11_methodFault 63 = .ok (.istore_n 1, 1) := by decide +kernel
theorem dX11_methodFault_64 : decode cX11_methodFault 64 = .ok (.aload_n 0, 1) := by decide +kernel
theorem dX11_methodFault_65 : decode cX11_methodFault 65 = .ok (.dup, 1) := by decide +kernel
theorem dX11_methodFault_66 : decode cX11_methodFault 66 = .ok (.getfield 81, 3) := by decide +kernel
theorem dX11_methodFault_69 : decode cX11_methodFault 69 = .ok (.iload_n 1, 1) := by decide +kernel
theorem dX11_methodFault_70 : decode cX11_methodFault 70 = .ok (.ifCond .eq 7, 3) := by decide +kernel
theorem dX11_methodFault_73 : decode cX11_methodFault 73 = .ok (.iconst 1, 1) := by decide +kernel
theorem dX11_methodFault_74 : decode cX11_methodFault 74 = .ok (.goto 4, 3) := by decide +kernel
theorem dX11_methodFault_77 : decode cX11_methodFault 77 = .ok (.iconst 0, 1) := by decide +kernel
theorem dX11_methodFault_78 : decode cX11_methodFault 78 = .ok (.iadd, 1) := by decide +kernel
theorem dX11_methodFault_79 : decode cX11_methodFault 79 = .ok (.putfield 81, 3) := by decide +kernel
theorem dX11_methodFault_82 : decode cX11_methodFault 82 = .ok (.goto (-70), 3) := by decide +kernel
theorem dX11_methodFault_85 : decode cX11_methodFault 85 = .ok (.aload_n 0, 1) := by decide +kernel
theorem dX11_methodFault_86 : decode cX11_methodFault 86 = .ok (.getfield 81, 3) := by decide +kernel
theorem dX11_methodFault_89 : decode cX11_methodFault 89 = .ok (.aload_n 0, 1) := by decide +kernel
theorem dX11_methodFault_90 : decode cX11_methodFault 90 = .ok (.getfield 84, 3) := by decide +kernel
theorem dX11_methodFault_93 : decode cX11_methodFault 93 = .ok (.if_icmp .ne 8, 3) := by decide +kernel
theorem dX11_methodFault_96 : decode cX11_methodFault 96 = .ok (.bipush (-4), 2) := by decide +kernel
theorem dX11_methodFault_98 : decode cX11_methodFault 98 = .ok (.goto 7, 3) := by decide +kernel
theorem dX11_methodFault_101 : decode cX11_methodFault 101 = .ok (.aload_n 0, 1) := by decide +kernel
theorem dX11_methodFault_102 : decode cX11_methodFault 102 = .ok (.getfield 81, 3) := by decide +kernel
theorem dX11_methodFault_105 : decode cX11_methodFault 105 = .ok (.ireturn, 1) := by decide +kernel
theorem dX11_kindOf_0 : decode cX11_kindOf 0 = .ok (.iload_n 0, 1) := by decide +kernel
theorem dX11_kindOf_1 : decode cX11_kindOf 1 = .ok (.bipush 112, 2) := by decide +kernel
theorem dX11_kindOf_3 : decode cX11_kindOf 3 = .ok (.if_icmp .ne 7, 3) := by decide +kernel
theorem dX11_kindOf_6 : decode cX11_kindOf 6 = .ok (.iconst 0, 1) := by decide +kernel
theorem dX11_kindOf_7 : decode cX11_kindOf 7 = .ok (.goto 25, 3) := by decide +kernel
theorem dX11_kindOf_10 : decode cX11_kindOf 10 = .ok (.iload_n 0, 1) := by decide +kernel
theorem dX11_kindOf_11 : decode cX11_kindOf 11 = .ok (.bipush 98, 2) := by decide +kernel
theorem dX11_kindOf_13 : decode cX11_kindOf 13 = .ok (.if_icmp .ne 7, 3) := by decide +kernel
theorem dX11_kindOf_16 : decode cX11_kindOf 16 = .ok (.iconst 1, 1) := by decide +kernel
theorem dX11_kindOf_17 : decode cX11_kindOf 17 = .ok (.goto 15, 3) := by decide +kernel
theorem dX11_kindOf_20 : decode cX11_kindOf 20 = .ok (.iload_n 0, 1) := by decide +kernel
theorem dX11_kindOf_21 : decode cX11_kindOf 21 = .ok (.bipush 115, 2) := by decide +kernel
theorem dX11_kindOf_23 : decode cX11_kindOf 23 = .ok (.if_icmp .ne 7, 3) := by decide +kernel
theorem dX11_kindOf_26 : decode cX11_kindOf 26 = .ok (.iconst 2, 1) := by decide +kernel
theorem dX11_kindOf_27 : decode cX11_kindOf 27 = .ok (.goto 5, 3) := by decide +kernel
theorem dX11_kindOf_30 : decode cX11_kindOf 30 = .ok (.bipush (-4), 2) := by decide +kernel
theorem dX11_kindOf_32 : decode cX11_kindOf 32 = .ok (.ireturn, 1) := by decide +kernel
theorem dX11_touchFault_0 : decode cX11_touchFault 0 = .ok (.iconst 0, 1) := by decide +kernel
theorem dX11_touchFault_1 : decode cX11_touchFault 1 = .ok (.istore_n 1, 1) := by decide +kernel
theorem dX11_touchFault_2 : decode cX11_touchFault 2 = .ok (.iload_n 1, 1) := by decide +kernel
theorem dX11_touchFault_3 : decode cX11_touchFault 3 = .ok (.aload_n 0, 1) := by decide +kernel
theorem dX11_touchFault_4 : decode cX11_touchFault 4 = .ok (.getfield 84, 3) := by decide +kernel
theorem dX11_touchFault_7 : decode cX11_touchFault 7 = .ok (.if_icmp .ge 29, 3) := by decide +kernel
theorem dX11_touchFault_10 : decode cX11_touchFault 10 = .ok (.iload_n 1, 1) := by decide +kernel
theorem dX11_touchFault_11 : decode cX11_touchFault 11 = .ok (.bipush 16, 2) := by decide +kernel
theorem dX11_touchFault_13 : decode cX11_touchFault 13 = .ok (.if_icmp .eq 15, 3) := by decide +kernel
theorem dX11_touchFault_16 : decode cX11_touchFault 16 = .ok (.aload_n 0, 1) := by decide +kernel
theorem dX11_touchFault_17 : decode cX11_touchFault 17 = .ok (.getfield 19, 3) := by decide +kernel
theorem dX11_touchFault_20 : decode cX11_touchFault 20 = .ok (.iload_n 1, 1) := by decide +kernel
theorem dX11_touchFault_21 : decode cX11_touchFault 21 = .ok (.iaload, 1) := by decide +kernel
theorem dX11_touchFault_22 : decode cX11_touchFault 22 = .ok (.invokestatic 105, 3) := by decide +kernel
theorem dX11_touchFault_25 : decode cX11_touchFault 25 = .ok (.ifCond .ge 5, 3) := by decide +kernel
theorem dX11_touchFault_28 : decode cX11_touchFault 28 = .ok (.iload_n 1, 1) := by decide +kernel
theorem dX11_touchFault_29 : decode cX11_touchFault 29 = .ok (.ireturn, 1) := by decide +kernel
theorem dX11_touchFault_30 : decode cX11_touchFault 30 = .ok (.iinc 1 1, 3) := by decide +kernel
theorem dX11_touchFault_33 : decode cX11_touchFault 33 = .ok (.goto (-31), 3) := by decide +kernel
theorem dX11_touchFault_36 : decode cX11_touchFault 36 = .ok (.aload_n 0, 1) := by decide +kernel
theorem dX11_touchFault_37 : decode cX11_touchFault 37 = .ok (.getfield 84, 3) := by decide +kernel
theorem dX11_touchFault_40 : decode cX11_touchFault 40 = .ok (.ifCond .ne 7, 3) := by decide +kernel
theorem dX11_touchFault_43 : decode cX11_touchFault 43 = .ok (.iconst 0, 1) := by decide +kernel
theorem dX11_touchFault_44 : decode cX11_touchFault 44 = .ok (.goto 5, 3) := by decide +kernel
theorem dX11_touchFault_47 : decode cX11_touchFault 47 = .ok (.bipush (-4), 2) := by decide +kernel
theorem dX11_touchFault_49 : decode cX11_touchFault 49 = .ok (.ireturn, 1) := by decide +kernel
theorem dX11_method_0 : decode cX11_method 0 = .ok (.aload_n 0, 1) := by decide +kernel
theorem dX11_method_1 : decode cX11_method 1 = .ok (.invokevirtual 109, 3) := by decide +kernel
theorem dX11_method_4 : decode cX11_method 4 = .ok (.bipush (-4), 2) := by decide +kernel
theorem dX11_method_6 : decode cX11_method 6 = .ok (.if_icmp .eq 6, 3) := by decide +kernel
theorem dX11_method_9 : decode cX11_method 9 = .ok (.bipush (-2), 2) := by decide +kernel
theorem dX11_method_11 : decode cX11_method 11 = .ok (.ireturn, 1) := by decide +kernel
theorem dX11_method_12 : decode cX11_method 12 = .ok (.aload_n 0, 1) := by decide +kernel
theorem dX11_method_13 : decode cX11_method 13 = .ok (.invokevirtual 78, 3) := by decide +kernel
theorem dX11_method_16 : decode cX11_method 16 = .ok (.aload_n 0, 1) := by decide +kernel
theorem dX11_method_17 : decode cX11_method 17 = .ok (.getfield 7, 3) := by decide +kernel
theorem dX11_method_20 : decode cX11_method 20 = .ok (.iconst 1, 1) := by decide +kernel
theorem dX11_method_21 : decode cX11_method 21 = .ok (.aload_n 0, 1) := by decide +kernel
theorem dX11_method_22 : decode cX11_method 22 = .ok (.getfield 91, 3) := by decide +kernel
theorem dX11_method_25 : decode cX11_method 25 = .ok (.iastore, 1) := by decide +kernel
theorem dX11_method_26 : decode cX11_method 26 = .ok (.iconst 0, 1) := by decide +kernel
theorem dX11_method_27 : decode cX11_method 27 = .ok (.istore_n 1, 1) := by decide +kernel
theorem dX11_method_28 : decode cX11_method 28 = .ok (.iload_n 1, 1) := by decide +kernel
theorem dX11_method_29 : decode cX11_method 29 = .ok (.bipush 20, 2) := by decide +kernel
theorem dX11_method_31 : decode cX11_method 31 = .ok (.if_icmp .ge 35, 3) := by decide +kernel
theorem dX11_method_34 : decode cX11_method 34 = .ok (.aload_n 0, 1) := by decide +kernel
theorem dX11_method_35 : decode cX11_method 35 = .ok (.getfield 7, 3) := by decide +kernel
theorem dX11_method_38 : decode cX11_method 38 = .ok (.iconst 5, 1) := by decide +kernel
theorem dX11_method_39 : decode cX11_method 39 = .ok (.iload_n 1, 1) := by decide +kernel
theorem dX11_method_40 : decode cX11_method 40 = .ok (.iadd, 1) := by decide +kernel
theorem dX11_method_41 : decode cX11_method 41 = .ok (.iload_n 1, 1) := by decide +kernel
theorem dX11_method_42 : decode cX11_method 42 = .ok (.aload_n 0, 1) := by decide +kernel
theorem dX11_method_43 : decode cX11_method 43 = .ok (.getfield 91, 3) := by decide +kernel
theorem dX11_method_46 : decode cX11_method 46 = .ok (.if_icmp .ge 12, 3) := by decide +kernel
theorem dX11_method_49 : decode cX11_method 49 = .ok (.aload_n 0, 1) := by decide +kernel
theorem dX11_method_50 : decode cX11_method 50 = .ok (.getfield 31, 3) := by decide +kernel
theorem dX11_method_53 : decode cX11_method 53 = .ok (.iload_n 1, 1) := by decide +kernel
theorem dX11_method_54 : decode cX11_method 54 = .ok (.iaload, 1) := by decide +kernel
theorem dX11_method_55 : decode cX11_method 55 = .ok (.goto 4, 3) := by decide +kernel
theorem dX11_method_58 : decode cX11_method 58 = .ok (.iconst 0, 1) := by decide +kernel
theorem dX11_method_59 : decode cX11_method 59 = .ok (.iastore, 1) := by decide +kernel
theorem dX11_method_60 : decode cX11_method 60 = .ok (.iinc 1 1, 3) := by decide +kernel
theorem dX11_method_63 : decode cX11_method 63 = .ok (.goto (-35), 3) := by decide +kernel
theorem dX11_method_66 : decode cX11_method 66 = .ok (.aload_n 0, 1) := by decide +kernel
theorem dX11_method_67 : decode cX11_method 67 = .ok (.iconst 0, 1) := by decide +kernel
theorem dX11_method_68 : decode cX11_method 68 = .ok (.putfield 84, 3) := by decide +kernel
theorem dX11_method_71 : decode cX11_method 71 = .ok (.aload_n 0, 1) := by decide +kernel
theorem dX11_method_72 : decode cX11_method 72 = .ok (.getfield 91, 3) := by decide +kernel
theorem dX11_method_75 : decode cX11_method 75 = .ok (.ireturn, 1) := by decide +kernel
theorem dX11_call_0 : decode cX11_call 0 = .ok (.iload_n 1, 1) := by decide +kernel
theorem dX11_call_1 : decode cX11_call 1 = .ok (.iconst 1, 1) := by decide +kernel
theorem dX11_call_2 : decode cX11_call 2 = .ok (.iconst 2, 1) := by decide +kernel
theorem dX11_call_3 : decode cX11_call 3 = .ok (.invokestatic 54, 3) := by decide +kernel
theorem dX11_call_6 : decode cX11_call 6 = .ok (.ifCond .eq 11, 3) := by decide +kernel
theorem dX11_call_9 : decode cX11_call 9 = .ok (.aload_n 0, 1) := by decide +kernel
theorem dX11_call_10 : decode cX11_call 10 = .ok (.iload_n 2, 1) := by decide +kernel
theorem dX11_call_11 : decode cX11_call 11 = .ok (.invokevirtual 87, 3) := by decide +kernel
theorem dX11_call_14 : decode cX11_call 14 = .ok (.ifCond .ne 5, 3) := by decide +kernel
theorem dX11_call_17 : decode cX11_call 17 = .ok (.iconst (-1), 1) := by decide +kernel
theorem dX11_call_18 : decode cX11_call 18 = .ok (.ireturn, 1) := by decide +kernel
theorem dX11_call_19 : decode cX11_call 19 = .ok (.aload_n 0, 1) := by decide +kernel
theorem dX11_call_20 : decode cX11_call 20 = .ok (.invokevirtual 78, 3) := by decide +kernel
theorem dX11_call_23 : decode cX11_call 23 = .ok (.aload_n 0, 1) := by decide +kernel
theorem dX11_call_24 : decode cX11_call 24 = .ok (.getfield 7, 3) := by decide +kernel
theorem dX11_call_27 : decode cX11_call 27 = .ok (.iconst 2, 1) := by decide +kernel
theorem dX11_call_28 : decode cX11_call 28 = .ok (.iload_n 1, 1) := by decide +kernel
theorem dX11_call_29 : decode cX11_call 29 = .ok (.iadd, 1) := by decide +kernel
theorem dX11_call_30 : decode cX11_call 30 = .ok (.iaload, 1) := by decide +kernel
theorem dX11_call_31 : decode cX11_call 31 = .ok (.istore_n 3, 1) := by decide +kernel
theorem dX11_call_32 : decode cX11_call 32 = .ok (.aload_n 0, 1) := by decide +kernel
theorem dX11_call_33 : decode cX11_call 33 = .ok (.getfield 7, 3) := by decide +kernel
theorem dX11_call_36 : decode cX11_call 36 = .ok (.iconst 2, 1) := by decide +kernel
theorem dX11_call_37 : decode cX11_call 37 = .ok (.iload_n 1, 1) := by decide +kernel
theorem dX11_call_38 : decode cX11_call 38 = .ok (.iadd, 1) := by decide +kernel
theorem dX11_call_39 : decode cX11_call 39 = .ok (.iload_n 2, 1) := by decide +kernel
theorem dX11_call_40 : decode cX11_call 40 = .ok (.iastore, 1) := by decide +kernel
theorem dX11_call_41 : decode cX11_call 41 = .ok (.iload_n 3, 1) := by decide +kernel
theorem dX11_call_42 : decode cX11_call 42 = .ok (.ireturn, 1) := by decide +kernel
theorem dX11_touch_0 : decode cX11_touch 0 = .ok (.aload_n 0, 1) := by decide +kernel
theorem dX11_touch_1 : decode cX11_touch 1 = .ok (.invokevirtual 112, 3) := by decide +kernel
theorem dX11_touch_4 : decode cX11_touch 4 = .ok (.bipush (-4), 2) := by decide +kernel
theorem dX11_touch_6 : decode cX11_touch 6 = .ok (.if_icmp .eq 6, 3) := by decide +kernel
theorem dX11_touch_9 : decode cX11_touch 9 = .ok (.bipush (-2), 2) := by decide +kernel
theorem dX11_touch_11 : decode cX11_touch 11 = .ok (.ireturn, 1) := by decide +kernel
theorem dX11_touch_12 : decode cX11_touch 12 = .ok (.aload_n 0, 1) := by decide +kernel
theorem dX11_touch_13 : decode cX11_touch 13 = .ok (.invokevirtual 78, 3) := by decide +kernel
theorem dX11_touch_16 : decode cX11_touch 16 = .ok (.iconst 0, 1) := by decide +kernel
theorem dX11_touch_17 : decode cX11_touch 17 = .ok (.istore_n 1, 1) := by decide +kernel
theorem dX11_touch_18 : decode cX11_touch 18 = .ok (.iload_n 1, 1) := by decide +kernel
theorem dX11_touch_19 : decode cX11_touch 19 = .ok (.bipush 16, 2) := by decide +kernel
theorem dX11_touch_21 : decode cX11_touch 21 = .ok (.if_icmp .ge 39, 3) := by decide +kernel
theorem dX11_touch_24 : decode cX11_touch 24 = .ok (.aload_n 0, 1) := by decide +kernel
theorem dX11_touch_25 : decode cX11_touch 25 = .ok (.getfield 7, 3) := by decide +kernel
theorem dX11_touch_28 : decode cX11_touch 28 = .ok (.bipush 25, 2) := by decide +kernel
theorem dX11_touch_30 : decode cX11_touch 30 = .ok (.iload_n 1, 1) := by decide +kernel
theorem dX11_touch_31 : decode cX11_touch 31 = .ok (.iadd, 1) := by decide +kernel
theorem dX11_touch_32 : decode cX11_touch 32 = .ok (.iload_n 1, 1) := by decide +kernel
theorem dX11_touch_33 : decode cX11_touch 33 = .ok (.aload_n 0, 1) := by decide +kernel
theorem dX11_touch_34 : decode cX11_touch 34 = .ok (.getfield 84, 3) := by decide +kernel
theorem dX11_touch_37 : decode cX11_touch 37 = .ok (.if_icmp .ge 15, 3) := by decide +kernel
theorem dX11_touch_40 : decode cX11_touch 40 = .ok (.aload_n 0, 1) := by decide +kernel
theorem dX11_touch_41 : decode cX11_touch 41 = .ok (.getfield 19, 3) := by decide +kernel
theorem dX11_touch_44 : decode cX11_touch 44 = .ok (.iload_n 1, 1) := by decide +kernel
theorem dX11_touch_45 : decode cX11_touch 45 = .ok (.iaload, 1) := by decide +kernel
theorem dX11_touch_46 : decode cX11_touch 46 = .ok (.invokestatic 105, 3) := by decide +kernel
theorem dX11_touch_49 : decode cX11_touch 49 = .ok (.goto 4, 3) := by decide +kernel
theorem dX11_touch_52 : decode cX11_touch 52 = .ok (.iconst 0, 1) := by decide +kernel
theorem dX11_touch_53 : decode cX11_touch 53 = .ok (.iastore, 1) := by decide +kernel
theorem dX11_touch_54 : decode cX11_touch 54 = .ok (.iinc 1 1, 3) := by decide +kernel
theorem dX11_touch_57 : decode cX11_touch 57 = .ok (.goto (-39), 3) := by decide +kernel
theorem dX11_touch_60 : decode cX11_touch 60 = .ok (.aload_n 0, 1) := by decide +kernel
theorem dX11_touch_61 : decode cX11_touch 61 = .ok (.getfield 7, 3) := by decide +kernel
theorem dX11_touch_64 : decode cX11_touch 64 = .ok (.iconst 2, 1) := by decide +kernel
theorem dX11_touch_65 : decode cX11_touch 65 = .ok (.aload_n 0, 1) := by decide +kernel
theorem dX11_touch_66 : decode cX11_touch 66 = .ok (.getfield 84, 3) := by decide +kernel
theorem dX11_touch_69 : decode cX11_touch 69 = .ok (.iastore, 1) := by decide +kernel
theorem dX11_touch_70 : decode cX11_touch 70 = .ok (.aload_n 0, 1) := by decide +kernel
theorem dX11_touch_71 : decode cX11_touch 71 = .ok (.iconst 0, 1) := by decide +kernel
theorem dX11_touch_72 : decode cX11_touch 72 = .ok (.putfield 84, 3) := by decide +kernel
theorem dX11_touch_75 : decode cX11_touch 75 = .ok (.aload_n 0, 1) := by decide +kernel
theorem dX11_touch_76 : decode cX11_touch 76 = .ok (.getfield 7, 3) := by decide +kernel
theorem dX11_touch_79 : decode cX11_touch 79 = .ok (.iconst 2, 1) := by decide +kernel
theorem dX11_touch_80 : decode cX11_touch 80 = .ok (.iaload, 1) := by decide +kernel
theorem dX11_touch_81 : decode cX11_touch 81 = .ok (.ireturn, 1) := by decide +kernel
theorem dX11_add_0 : decode cX11_add 0 = .ok (.iload_n 1, 1) := by decide +kernel
theorem dX11_add_1 : decode cX11_add 1 = .ok (.iconst 0, 1) := by decide +kernel
theorem dX11_add_2 : decode cX11_add 2 = .ok (.iconst 2, 1) := by decide +kernel
theorem dX11_add_3 : decode cX11_add 3 = .ok (.invokestatic 54, 3) := by decide +kernel
theorem dX11_add_6 : decode cX11_add 6 = .ok (.ifCond .ne 5, 3) := by decide +kernel
theorem dX11_add_9 : decode cX11_add 9 = .ok (.iconst (-1), 1) := by decide +kernel
theorem dX11_add_10 : decode cX11_add 10 = .ok (.ireturn, 1) := by decide +kernel
theorem dX11_add_11 : decode cX11_add 11 = .ok (.aload_n 0, 1) := by decide +kernel
theorem dX11_add_12 : decode cX11_add 12 = .ok (.getfield 7, 3) := by decide +kernel
theorem dX11_add_15 : decode cX11_add 15 = .ok (.iconst 2, 1) := by decide +kernel
theorem dX11_add_16 : decode cX11_add 16 = .ok (.iaload, 1) := by decide +kernel
theorem dX11_add_17 : decode cX11_add 17 = .ok (.bipush 16, 2) := by decide +kernel
theorem dX11_add_19 : decode cX11_add 19 = .ok (.if_icmp .ne 6, 3) := by decide +kernel
theorem dX11_add_22 : decode cX11_add 22 = .ok (.bipush (-3), 2) := by decide +kernel
theorem dX11_add_24 : decode cX11_add 24 = .ok (.ireturn, 1) := by decide +kernel
theorem dX11_add_25 : decode cX11_add 25 = .ok (.aload_n 0, 1) := by decide +kernel
theorem dX11_add_26 : decode cX11_add 26 = .ok (.invokevirtual 78, 3) := by decide +kernel
theorem dX11_add_29 : decode cX11_add 29 = .ok (.aload_n 0, 1) := by decide +kernel
theorem dX11_add_30 : decode cX11_add 30 = .ok (.getfield 7, 3) := by decide +kernel
theorem dX11_add_33 : decode cX11_add 33 = .ok (.bipush 25, 2) := by decide +kernel
theorem dX11_add_35 : decode cX11_add 35 = .ok (.aload_n 0, 1) := by decide +kernel
theorem dX11_add_36 : decode cX11_add 36 = .ok (.getfield 7, 3) := by decide +kernel
theorem dX11_add_39 : decode cX11_add 39 = .ok (.iconst 2, 1) := by decide +kernel
theorem dX11_add_40 : decode cX11_add 40 = .ok (.iaload, 1) := by decide +kernel
theorem dX11_add_41 : decode cX11_add 41 = .ok (.iadd, 1) := by decide +kernel
theorem dX11_add_42 : decode cX11_add 42 = .ok (.iload_n 1, 1) := by decide +kernel
theorem dX11_add_43 : decode cX11_add 43 = .ok (.iastore, 1) := by decide +kernel
theorem dX11_add_44 : decode cX11_add 44 = .ok (.aload_n 0, 1) := by decide +kernel
theorem dX11_add_45 : decode cX11_add 45 = .ok (.getfield 7, 3) := by decide +kernel
theorem dX11_add_48 : decode cX11_add 48 = .ok (.iconst 2, 1) := by decide +kernel
theorem dX11_add_49 : decode cX11_add 49 = .ok (.dup2, 1) := by decide +kernel
theorem dX11_add_50 : decode cX11_add 50 = .ok (.iaload, 1) := by decide +kernel
theorem dX11_add_51 : decode cX11_add 51 = .ok (.iconst 1, 1) := by decide +kernel
theorem dX11_add_52 : decode cX11_add 52 = .ok (.iadd, 1) := by decide +kernel
theorem dX11_add_53 : decode cX11_add 53 = .ok (.iastore, 1) := by decide +kernel
theorem dX11_add_54 : decode cX11_add 54 = .ok (.aload_n 0, 1) := by decide +kernel
theorem dX11_add_55 : decode cX11_add 55 = .ok (.getfield 7, 3) := by decide +kernel
theorem dX11_add_58 : decode cX11_add 58 = .ok (.iconst 2, 1) := by decide +kernel
theorem dX11_add_59 : decode cX11_add 59 = .ok (.iaload, 1) := by decide +kernel
theorem dX11_add_60 : decode cX11_add 60 = .ok (.ireturn, 1) := by decide +kernel
theorem dX11_cut_0 : decode cX11_cut 0 = .ok (.iload_n 1, 1) := by decide +kernel
theorem dX11_cut_1 : decode cX11_cut 1 = .ok (.iconst 0, 1) := by decide +kernel
theorem dX11_cut_2 : decode cX11_cut 2 = .ok (.aload_n 0, 1) := by decide +kernel
theorem dX11_cut_3 : decode cX11_cut 3 = .ok (.getfield 7, 3) := by decide +kernel
theorem dX11_cut_6 : decode cX11_cut 6 = .ok (.iconst 2, 1) := by decide +kernel
theorem dX11_cut_7 : decode cX11_cut 7 = .ok (.iaload, 1) := by decide +kernel
theorem dX11_cut_8 : decode cX11_cut 8 = .ok (.invokestatic 54, 3) := by decide +kernel
theorem dX11_cut_11 : decode cX11_cut 11 = .ok (.ifCond .ne 5, 3) := by decide +kernel
theorem dX11_cut_14 : decode cX11_cut 14 = .ok (.iconst (-1), 1) := by decide +kernel
theorem dX11_cut_15 : decode cX11_cut 15 = .ok (.ireturn, 1) := by decide +kernel
theorem dX11_cut_16 : decode cX11_cut 16 = .ok (.aload_n 0, 1) := by decide +kernel
theorem dX11_cut_17 : decode cX11_cut 17 = .ok (.invokevirtual 78, 3) := by decide +kernel
theorem dX11_cut_20 : decode cX11_cut 20 = .ok (.aload_n 0, 1) := by decide +kernel
theorem dX11_cut_21 : decode cX11_cut 21 = .ok (.getfield 7, 3) := by decide +kernel
theorem dX11_cut_24 : decode cX11_cut 24 = .ok (.iconst 2, 1) := by decide +kernel
theorem dX11_cut_25 : decode cX11_cut 25 = .ok (.iaload, 1) := by decide +kernel
theorem dX11_cut_26 : decode cX11_cut 26 = .ok (.istore_n 2, 1) := by decide +kernel
theorem dX11_cut_27 : decode cX11_cut 27 = .ok (.iload_n 1, 1) := by decide +kernel
theorem dX11_cut_28 : decode cX11_cut 28 = .ok (.istore_n 3, 1) := by decide +kernel
theorem dX11_cut_29 : decode cX11_cut 29 = .ok (.iload_n 3, 1) := by decide +kernel
theorem dX11_cut_30 : decode cX11_cut 30 = .ok (.bipush 16, 2) := by decide +kernel
theorem dX11_cut_32 : decode cX11_cut 32 = .ok (.if_icmp .ge 19, 3) := by decide +kernel
theorem dX11_cut_35 : decode cX11_cut 35 = .ok (.aload_n 0, 1) := by decide +kernel
theorem dX11_cut_36 : decode cX11_cut 36 = .ok (.getfield 7, 3) := by decide +kernel
theorem dX11_cut_39 : decode cX11_cut 39 = .ok (.bipush 25, 2) := by decide +kernel
theorem dX11_cut_41 : decode cX11_cut 41 = .ok (.iload_n 3, 1) := by decide +kernel
theorem dX11_cut_42 : decode cX11_cut 42 = .ok (.iadd, 1) := by decide +kernel
theorem dX11_cut_43 : decode cX11_cut 43 = .ok (.iconst 0, 1) := by decide +kernel
theorem dX11_cut_44 : decode cX11_cut 44 = .ok (.iastore, 1) := by decide +kernel
theorem dX11_cut_45 : decode cX11_cut 45 = .ok (.iinc 3 1, 3) := by decide +kernel
theorem dX11_cut_48 : decode cX11_cut 48 = .ok (.goto (-19), 3) := by decide +kernel
theorem dX11_cut_51 : decode cX11_cut 51 = .ok (.aload_n 0, 1) := by decide +kernel
theorem dX11_cut_52 : decode cX11_cut 52 = .ok (.getfield 7, 3) := by decide +kernel
theorem dX11_cut_55 : decode cX11_cut 55 = .ok (.iconst 2, 1) := by decide +kernel
theorem dX11_cut_56 : decode cX11_cut 56 = .ok (.iload_n 1, 1) := by decide +kernel
theorem dX11_cut_57 : decode cX11_cut 57 = .ok (.iastore, 1) := by decide +kernel
theorem dX11_cut_58 : decode cX11_cut 58 = .ok (.iload_n 2, 1) := by decide +kernel
theorem dX11_cut_59 : decode cX11_cut 59 = .ok (.ireturn, 1) := by decide +kernel
theorem dX11_append_0 : decode cX11_append 0 = .ok (.iload_n 1, 1) := by decide +kernel
theorem dX11_append_1 : decode cX11_append 1 = .ok (.bipush 33, 2) := by decide +kernel
theorem dX11_append_3 : decode cX11_append 3 = .ok (.bipush 126, 2) := by decide +kernel
theorem dX11_append_5 : decode cX11_append 5 = .ok (.invokestatic 54, 3) := by decide +kernel
theorem dX11_append_8 : decode cX11_append 8 = .ok (.ifCond .ne 5, 3) := by decide +kernel
theorem dX11_append_11 : decode cX11_append 11 = .ok (.iconst (-1), 1) := by decide +kernel
theorem dX11_append_12 : decode cX11_append 12 = .ok (.ireturn, 1) := by decide +kernel
theorem dX11_append_13 : decode cX11_append 13 = .ok (.aload_n 0, 1) := by decide +kernel
theorem dX11_append_14 : decode cX11_append 14 = .ok (.getfield 84, 3) := by decide +kernel
theorem dX11_append_17 : decode cX11_append 17 = .ok (.bipush 80, 2) := by decide +kernel
theorem dX11_append_19 : decode cX11_append 19 = .ok (.if_icmp .ne 6, 3) := by decide +kernel
theorem dX11_append_22 : decode cX11_append 22 = .ok (.bipush (-3), 2) := by decide +kernel
theorem dX11_append_24 : decode cX11_append 24 = .ok (.ireturn, 1) := by decide +kernel
theorem dX11_append_25 : decode cX11_append 25 = .ok (.aload_n 0, 1) := by decide +kernel
theorem dX11_append_26 : decode cX11_append 26 = .ok (.getfield 19, 3) := by decide +kernel
theorem dX11_append_29 : decode cX11_append 29 = .ok (.aload_n 0, 1) := by decide +kernel
theorem dX11_append_30 : decode cX11_append 30 = .ok (.getfield 84, 3) := by decide +kernel
theorem dX11_append_33 : decode cX11_append 33 = .ok (.iload_n 1, 1) := by decide +kernel
theorem dX11_append_34 : decode cX11_append 34 = .ok (.iastore, 1) := by decide +kernel
theorem dX11_append_35 : decode cX11_append 35 = .ok (.aload_n 0, 1) := by decide +kernel
theorem dX11_append_36 : decode cX11_append 36 = .ok (.dup, 1) := by decide +kernel
theorem dX11_append_37 : decode cX11_append 37 = .ok (.getfield 84, 3) := by decide +kernel
theorem dX11_append_40 : decode cX11_append 40 = .ok (.iconst 1, 1) := by decide +kernel
theorem dX11_append_41 : decode cX11_append 41 = .ok (.iadd, 1) := by decide +kernel
theorem dX11_append_42 : decode cX11_append 42 = .ok (.putfield 84, 3) := by decide +kernel
theorem dX11_append_45 : decode cX11_append 45 = .ok (.aload_n 0, 1) := by decide +kernel
theorem dX11_append_46 : decode cX11_append 46 = .ok (.getfield 84, 3) := by decide +kernel
theorem dX11_append_49 : decode cX11_append 49 = .ok (.ireturn, 1) := by decide +kernel
theorem dX11_clear_0 : decode cX11_clear 0 = .ok (.aload_n 0, 1) := by decide +kernel
theorem dX11_clear_1 : decode cX11_clear 1 = .ok (.getfield 84, 3) := by decide +kernel
theorem dX11_clear_4 : decode cX11_clear 4 = .ok (.istore_n 1, 1) := by decide +kernel
theorem dX11_clear_5 : decode cX11_clear 5 = .ok (.aload_n 0, 1) := by decide +kernel
theorem dX11_clear_6 : decode cX11_clear 6 = .ok (.iconst 0, 1) := by decide +kernel
theorem dX11_clear_7 : decode cX11_clear 7 = .ok (.putfield 84, 3) := by decide +kernel
theorem dX11_clear_10 : decode cX11_clear 10 = .ok (.iload_n 1, 1) := by decide +kernel
theorem dX11_clear_11 : decode cX11_clear 11 = .ok (.ireturn, 1) := by decide +kernel
theorem dX11_fault_0 : decode cX11_fault 0 = .ok (.iload_n 1, 1) := by decide +kernel
theorem dX11_fault_1 : decode cX11_fault 1 = .ok (.ifCond .ne 10, 3) := by decide +kernel
theorem dX11_fault_4 : decode cX11_fault 4 = .ok (.aload_n 0, 1) := by decide +kernel
theorem dX11_fault_5 : decode cX11_fault 5 = .ok (.invokevirtual 109, 3) := by decide +kernel
theorem dX11_fault_8 : decode cX11_fault 8 = .ok (.goto 16, 3) := by decide +kernel
theorem dX11_fault_11 : decode cX11_fault 11 = .ok (.iload_n 1, 1) := by decide +kernel
theorem dX11_fault_12 : decode cX11_fault 12 = .ok (.iconst 1, 1) := by decide +kernel
theorem dX11_fault_13 : decode cX11_fault 13 = .ok (.if_icmp .ne 10, 3) := by decide +kernel
theorem dX11_fault_16 : decode cX11_fault 16 = .ok (.aload_n 0, 1) := by decide +kernel
theorem dX11_fault_17 : decode cX11_fault 17 = .ok (.invokevirtual 112, 3) := by decide +kernel
theorem dX11_fault_20 : decode cX11_fault 20 = .ok (.goto 4, 3) := by decide +kernel
theorem dX11_fault_23 : decode cX11_fault 23 = .ok (.iconst (-1), 1) := by decide +kernel
theorem dX11_fault_24 : decode cX11_fault 24 = .ok (.ireturn, 1) := by decide +kernel
theorem dX11_isPlace_0 : decode cX11_isPlace 0 = .ok (.iload_n 1, 1) := by decide +kernel
theorem dX11_isPlace_1 : decode cX11_isPlace 1 = .ok (.iconst 1, 1) := by decide +kernel
theorem dX11_isPlace_2 : decode cX11_isPlace 2 = .ok (.aload_n 0, 1) := by decide +kernel
theorem dX11_isPlace_3 : decode cX11_isPlace 3 = .ok (.getfield 7, 3) := by decide +kernel
theorem dX11_isPlace_6 : decode cX11_isPlace 6 = .ok (.iconst 0, 1) := by decide +kernel
theorem dX11_isPlace_7 : decode cX11_isPlace 7 = .ok (.iaload, 1) := by decide +kernel
theorem dX11_isPlace_8 : decode cX11_isPlace 8 = .ok (.invokestatic 54, 3) := by decide +kernel
theorem dX11_isPlace_11 : decode cX11_isPlace 11 = .ok (.ireturn, 1) := by decide +kernel
theorem dX11_isRow_0 : decode cX11_isRow 0 = .ok (.iload_n 1, 1) := by decide +kernel
theorem dX11_isRow_1 : decode cX11_isRow 1 = .ok (.iconst 0, 1) := by decide +kernel
theorem dX11_isRow_2 : decode cX11_isRow 2 = .ok (.aload_n 0, 1) := by decide +kernel
theorem dX11_isRow_3 : decode cX11_isRow 3 = .ok (.invokevirtual 115, 3) := by decide +kernel
theorem dX11_isRow_6 : decode cX11_isRow 6 = .ok (.invokestatic 54, 3) := by decide +kernel
theorem dX11_isRow_9 : decode cX11_isRow 9 = .ok (.ireturn, 1) := by decide +kernel
theorem dX11_bell_0 : decode cX11_bell 0 = .ok (.aload_n 0, 1) := by decide +kernel
theorem dX11_bell_1 : decode cX11_bell 1 = .ok (.iload_n 1, 1) := by decide +kernel
theorem dX11_bell_2 : decode cX11_bell 2 = .ok (.invokevirtual 118, 3) := by decide +kernel
theorem dX11_bell_5 : decode cX11_bell 5 = .ok (.ifCond .eq 11, 3) := by decide +kernel
theorem dX11_bell_8 : decode cX11_bell 8 = .ok (.aload_n 0, 1) := by decide +kernel
theorem dX11_bell_9 : decode cX11_bell 9 = .ok (.iload_n 2, 1) := by decide +kernel
theorem dX11_bell_10 : decode cX11_bell 10 = .ok (.invokevirtual 121, 3) := by decide +kernel
theorem dX11_bell_13 : decode cX11_bell 13 = .ok (.ifCond .ne 5, 3) := by decide +kernel
theorem dX11_bell_16 : decode cX11_bell 16 = .ok (.iconst (-1), 1) := by decide +kernel
theorem dX11_bell_17 : decode cX11_bell 17 = .ok (.ireturn, 1) := by decide +kernel
theorem dX11_bell_18 : decode cX11_bell 18 = .ok (.aload_n 0, 1) := by decide +kernel
theorem dX11_bell_19 : decode cX11_bell 19 = .ok (.bipush (-4), 2) := by decide +kernel
theorem dX11_bell_21 : decode cX11_bell 21 = .ok (.invokevirtual 124, 3) := by decide +kernel
theorem dX11_bell_24 : decode cX11_bell 24 = .ok (.aload_n 0, 1) := by decide +kernel
theorem dX11_bell_25 : decode cX11_bell 25 = .ok (.aload_n 0, 1) := by decide +kernel
theorem dX11_bell_26 : decode cX11_bell 26 = .ok (.getfield 28, 3) := by decide +kernel
theorem dX11_bell_29 : decode cX11_bell 29 = .ok (.iload_n 1, 1) := by decide +kernel
theorem dX11_bell_30 : decode cX11_bell 30 = .ok (.iaload, 1) := by decide +kernel
theorem dX11_bell_31 : decode cX11_bell 31 = .ok (.invokevirtual 127, 3) := by decide +kernel
theorem dX11_bell_34 : decode cX11_bell 34 = .ok (.aload_n 0, 1) := by decide +kernel
theorem dX11_bell_35 : decode cX11_bell 35 = .ok (.getfield 22, 3) := by decide +kernel
theorem dX11_bell_38 : decode cX11_bell 38 = .ok (.iload_n 2, 1) := by decide +kernel
theorem dX11_bell_39 : decode cX11_bell 39 = .ok (.iconst 1, 1) := by decide +kernel
theorem dX11_bell_40 : decode cX11_bell 40 = .ok (.isub, 1) := by decide +kernel
theorem dX11_bell_41 : decode cX11_bell 41 = .ok (.iaload, 1) := by decide +kernel
theorem dX11_bell_42 : decode cX11_bell 42 = .ok (.iconst 1, 1) := by decide +kernel
theorem dX11_bell_43 : decode cX11_bell 43 = .ok (.iadd, 1) := by decide +kernel
theorem dX11_bell_44 : decode cX11_bell 44 = .ok (.ireturn, 1) := by decide +kernel
theorem dX11_change_0 : decode cX11_change 0 = .ok (.iload_n 1, 1) := by decide +kernel
theorem dX11_change_1 : decode cX11_change 1 = .ok (.iconst (-1), 1) := by decide +kernel
theorem dX11_change_2 : decode cX11_change 2 = .ok (.aload_n 0, 1) := by decide +kernel
theorem dX11_change_3 : decode cX11_change 3 = .ok (.getfield 7, 3) := by decide +kernel
theorem dX11_change_6 : decode cX11_change 6 = .ok (.iconst 2, 1) := by decide +kernel
theorem dX11_change_7 : decode cX11_change 7 = .ok (.iaload, 1) := by decide +kernel
theorem dX11_change_8 : decode cX11_change 8 = .ok (.iconst 1, 1) := by decide +kernel
theorem dX11_change_9 : decode cX11_change 9 = .ok (.isub, 1) := by decide +kernel
theorem dX11_change_10 : decode cX11_change 10 = .ok (.invokestatic 54, 3) := by decide +kernel
theorem dX11_change_13 : decode cX11_change 13 = .ok (.ifCond .eq 7, 3) := by decide +kernel
theorem dX11_change_16 : decode cX11_change 16 = .ok (.iload_n 2, 1) := by decide +kernel
theorem dX11_change_17 : decode cX11_change 17 = .ok (.ifCond .ge 5, 3) := by decide +kernel
theorem dX11_change_20 : decode cX11_change 20 = .ok (.iconst (-1), 1) := by decide +kernel
theorem dX11_change_21 : decode cX11_change 21 = .ok (.ireturn, 1) := by decide +kernel
theorem dX11_change_22 : decode cX11_change 22 = .ok (.iload_n 2, 1) := by decide +kernel
theorem dX11_change_23 : decode cX11_change 23 = .ok (.aload_n 0, 1) := by decide +kernel
theorem dX11_change_24 : decode cX11_change 24 = .ok (.getfield 7, 3) := by decide +kernel
theorem dX11_change_27 : decode cX11_change 27 = .ok (.iconst 1, 1) := by decide +kernel
theorem dX11_change_28 : decode cX11_change 28 = .ok (.iaload, 1) := by decide +kernel
theorem dX11_change_29 : decode cX11_change 29 = .ok (.if_icmp .ge 28, 3) := by decide +kernel
theorem dX11_change_32 : decode cX11_change 32 = .ok (.aload_n 0, 1) := by decide +kernel
theorem dX11_change_33 : decode cX11_change 33 = .ok (.iload_n 1, 1) := by decide +kernel
theorem dX11_change_34 : decode cX11_change 34 = .ok (.ifCond .ge 7, 3) := by decide +kernel
theorem dX11_change_37 : decode cX11_change 37 = .ok (.iconst 0, 1) := by decide +kernel
theorem dX11_change_38 : decode cX11_change 38 = .ok (.goto 12, 3) := by decide +kernel
theorem dX11_change_41 : decode cX11_change 41 = .ok (.aload_n 0, 1) := by decide +kernel
theorem dX11_change_42 : decode cX11_change 42 = .ok (.getfield 7, 3) := by decide +kernel
theorem dX11_change_45 : decode cX11_change 45 = .ok (.bipush 25, 2) := by decide +kernel
theorem dX11_change_47 : decode cX11_change 47 = .ok (.iload_n 1, 1) := by decide +kernel
theorem dX11_change_48 : decode cX11_change 48 = .ok (.iadd, 1) := by decide +kernel
theorem dX11_change_49 : decode cX11_change 49 = .ok (.iaload, 1) := by decide +kernel
theorem dX11_change_50 : decode cX11_change 50 = .ok (.iload_n 2, 1) := by decide +kernel
theorem dX11_change_51 : decode cX11_change 51 = .ok (.invokevirtual 58, 3) := by decide +kernel
theorem dX11_change_54 : decode cX11_change 54 = .ok (.goto 5, 3) := by decide +kernel
theorem dX11_change_57 : decode cX11_change 57 = .ok (.bipush (-4), 2) := by decide +kernel
theorem dX11_change_59 : decode cX11_change 59 = .ok (.ireturn, 1) := by decide +kernel
theorem dX11_signByPairs_0 : decode cX11_signByPairs 0 = .ok (.iconst 0, 1) := by decide +kernel
theorem dX11_signByPairs_1 : decode cX11_signByPairs 1 = .ok (.istore_n 1, 1) := by decide +kernel
theorem dX11_signByPairs_2 : decode cX11_signByPairs 2 = .ok (.iconst 0, 1) := by decide +kernel
theorem dX11_signByPairs_3 : decode cX11_signByPairs 3 = .ok (.istore_n 2, 1) := by decide +kernel
theorem dX11_signByPairs_4 : decode cX11_signByPairs 4 = .ok (.iload_n 2, 1) := by decide +kernel
theorem dX11_signByPairs_5 : decode cX11_signByPairs 5 = .ok (.aload_n 0, 1) := by decide +kernel
theorem dX11_signByPairs_6 : decode cX11_signByPairs 6 = .ok (.getfield 7, 3) := by decide +kernel
theorem dX11_signByPairs_9 : decode cX11_signByPairs 9 = .ok (.iconst 0, 1) := by decide +kernel
theorem dX11_signByPairs_10 : decode cX11_signByPairs 10 = .ok (.iaload, 1) := by decide +kernel
theorem dX11_signByPairs_11 : decode cX11_signByPairs 11 = .ok (.if_icmp .ge 52, 3) := by decide +kernel
theorem dX11_signByPairs_14 : decode cX11_signByPairs 14 = .ok (.iload_n 2, 1) := by decide +kernel
theorem dX11_signByPairs_15 : decode cX11_signByPairs 15 = .ok (.iconst 1, 1) := by decide +kernel
theorem dX11_signByPairs_16 : decode cX11_signByPairs 16 = .ok (.iadd, 1) := by decide +kernel
theorem dX11_signByPairs_17 : decode cX11_signByPairs 17 = .ok (.istore_n 3, 1) := by decide +kernel
theorem dX11_signByPairs_18 : decode cX11_signByPairs 18 = .ok (.iload_n 3, 1) := by decide +kernel
theorem dX11_signByPairs_19 : decode cX11_signByPairs 19 = .ok (.aload_n 0, 1) := by decide +kernel
theorem dX11_signByPairs_20 : decode cX11_signByPairs 20 = .ok (.getfield 7, 3) := by decide +kernel
theorem dX11_signByPairs_23 : decode cX11_signByPairs 23 = .ok (.iconst 0, 1) := by decide +kernel
theorem dX11_signByPairs_24 : decode cX11_signByPairs 24 = .ok (.iaload, 1) := by decide +kernel
theorem dX11_signByPairs_25 : decode cX11_signByPairs 25 = .ok (.if_icmp .ge 32, 3) := by decide +kernel
theorem dX11_signByPairs_28 : decode cX11_signByPairs 28 = .ok (.iload_n 1, 1) := by decide +kernel
theorem dX11_signByPairs_29 : decode cX11_signByPairs 29 = .ok (.aload_n 0, 1) := by decide +kernel
theorem dX11_signByPairs_30 : decode cX11_signByPairs 30 = .ok (.getfield 22, 3) := by decide +kernel
theorem dX11_signByPairs_33 : decode cX11_signByPairs 33 = .ok (.iload_n 3, 1) := by decide +kernel
theorem dX11_signByPairs_34 : decode cX11_signByPairs 34 = .ok (.iaload, 1) := by decide +kernel
theorem dX11_signByPairs_35 : decode cX11_signByPairs 35 = .ok (.aload_n 0, 1) := by decide +kernel
theorem dX11_signByPairs_36 : decode cX11_signByPairs 36 = .ok (.getfield 22, 3) := by decide +kernel
theorem dX11_signByPairs_39 : decode cX11_signByPairs 39 = .ok (.iload_n 2, 1) := by decide +kernel
theorem dX11_signByPairs_40 : decode cX11_signByPairs 40 = .ok (.iaload, 1) := by decide +kernel
theorem dX11_signByPairs_41 : decode cX11_signByPairs 41 = .ok (.if_icmp .ge 7, 3) := by decide +kernel
theorem dX11_signByPairs_44 : decode cX11_signByPairs 44 = .ok (.iconst 1, 1) := by decide +kernel
theorem dX11_signByPairs_45 : decode cX11_signByPairs 45 = .ok (.goto 4, 3) := by decide +kernel
theorem dX11_signByPairs_48 : decode cX11_signByPairs 48 = .ok (.iconst 0, 1) := by decide +kernel
theorem dX11_signByPairs_49 : decode cX11_signByPairs 49 = .ok (.iadd, 1) := by decide +kernel
theorem dX11_signByPairs_50 : decode cX11_signByPairs 50 = .ok (.istore_n 1, 1) := by decide +kernel
theorem dX11_signByPairs_51 : decode cX11_signByPairs 51 = .ok (.iinc 3 1, 3) := by decide +kernel
end
section
theorem dX11_signByPairs_54 : decode cX11_signByPairs 54 = .ok (.goto (-36), 3) := by decide +kernel
theorem dX11_signByPairs_57 : decode cX11_signByPairs 57 = .ok (.iinc 2 1, 3) := by decide +kernel
theorem dX11_signByPairs_60 : decode cX11_signByPairs 60 = .ok (.goto (-56), 3) := by decide +kernel
theorem dX11_signByPairs_63 : decode cX11_signByPairs 63 = .ok (.iload_n 1, 1) := by decide +kernel
theorem dX11_signByPairs_64 : decode cX11_signByPairs 64 = .ok (.iconst 2, 1) := by decide +kernel
theorem dX11_signByPairs_65 : decode cX11_signByPairs 65 = .ok (.irem, 1) := by decide +kernel
theorem dX11_signByPairs_66 : decode cX11_signByPairs 66 = .ok (.ireturn, 1) := by decide +kernel
theorem dX11_signByRings_0 : decode cX11_signByRings 0 = .ok (.iconst 0, 1) := by decide +kernel
theorem dX11_signByRings_1 : decode cX11_signByRings 1 = .ok (.istore_n 1, 1) := by decide +kernel
theorem dX11_signByRings_2 : decode cX11_signByRings 2 = .ok (.iconst 0, 1) := by decide +kernel
theorem dX11_signByRings_3 : decode cX11_signByRings 3 = .ok (.istore_n 2, 1) := by decide +kernel
theorem dX11_signByRings_4 : decode cX11_signByRings 4 = .ok (.iload_n 2, 1) := by decide +kernel
theorem dX11_signByRings_5 : decode cX11_signByRings 5 = .ok (.aload_n 0, 1) := by decide +kernel
theorem dX11_signByRings_6 : decode cX11_signByRings 6 = .ok (.getfield 7, 3) := by decide +kernel
theorem dX11_signByRings_9 : decode cX11_signByRings 9 = .ok (.iconst 0, 1) := by decide +kernel
theorem dX11_signByRings_10 : decode cX11_signByRings 10 = .ok (.iaload, 1) := by decide +kernel
theorem dX11_signByRings_11 : decode cX11_signByRings 11 = .ok (.if_icmp .ge 63, 3) := by decide +kernel
theorem dX11_signByRings_14 : decode cX11_signByRings 14 = .ok (.iload_n 2, 1) := by decide +kernel
theorem dX11_signByRings_15 : decode cX11_signByRings 15 = .ok (.istore_n 3, 1) := by decide +kernel
theorem dX11_signByRings_16 : decode cX11_signByRings 16 = .ok (.aload_n 0, 1) := by decide +kernel
theorem dX11_signByRings_17 : decode cX11_signByRings 17 = .ok (.getfield 22, 3) := by decide +kernel
theorem dX11_signByRings_20 : decode cX11_signByRings 20 = .ok (.iload_n 2, 1) := by decide +kernel
theorem dX11_signByRings_21 : decode cX11_signByRings 21 = .ok (.iaload, 1) := by decide +kernel
theorem dX11_signByRings_22 : decode cX11_signByRings 22 = .ok (.istore 4, 2) := by decide +kernel
theorem dX11_signByRings_24 : decode cX11_signByRings 24 = .ok (.iload 4, 2) := by decide +kernel
theorem dX11_signByRings_26 : decode cX11_signByRings 26 = .ok (.iload_n 2, 1) := by decide +kernel
theorem dX11_signByRings_27 : decode cX11_signByRings 27 = .ok (.if_icmp .eq 28, 3) := by decide +kernel
theorem dX11_signByRings_30 : decode cX11_signByRings 30 = .ok (.iload 4, 2) := by decide +kernel
theorem dX11_signByRings_32 : decode cX11_signByRings 32 = .ok (.iload_n 3, 1) := by decide +kernel
theorem dX11_signByRings_33 : decode cX11_signByRings 33 = .ok (.if_icmp .ge 8, 3) := by decide +kernel
theorem dX11_signByRings_36 : decode cX11_signByRings 36 = .ok (.iload 4, 2) := by decide +kernel
theorem dX11_signByRings_38 : decode cX11_signByRings 38 = .ok (.goto 4, 3) := by decide +kernel
theorem dX11_signByRings_41 : decode cX11_signByRings 41 = .ok (.iload_n 3, 1) := by decide +kernel
theorem dX11_signByRings_42 : decode cX11_signByRings 42 = .ok (.istore_n 3, 1) := by decide +kernel
theorem dX11_signByRings_43 : decode cX11_signByRings 43 = .ok (.aload_n 0, 1) := by decide +kernel
theorem dX11_signByRings_44 : decode cX11_signByRings 44 = .ok (.getfield 22, 3) := by decide +kernel
theorem dX11_signByRings_47 : decode cX11_signByRings 47 = .ok (.iload 4, 2) := by decide +kernel
theorem dX11_signByRings_49 : decode cX11_signByRings 49 = .ok (.iaload, 1) := by decide +kernel
theorem dX11_signByRings_50 : decode cX11_signByRings 50 = .ok (.istore 4, 2) := by decide +kernel
theorem dX11_signByRings_52 : decode cX11_signByRings 52 = .ok (.goto (-28), 3) := by decide +kernel
theorem dX11_signByRings_55 : decode cX11_signByRings 55 = .ok (.iload_n 1, 1) := by decide +kernel
theorem dX11_signByRings_56 : decode cX11_signByRings 56 = .ok (.iload_n 3, 1) := by decide +kernel
theorem dX11_signByRings_57 : decode cX11_signByRings 57 = .ok (.iload_n 2, 1) := by decide +kernel
theorem dX11_signByRings_58 : decode cX11_signByRings 58 = .ok (.if_icmp .ne 7, 3) := by decide +kernel
theorem dX11_signByRings_61 : decode cX11_signByRings 61 = .ok (.iconst 1, 1) := by decide +kernel
theorem dX11_signByRings_62 : decode cX11_signByRings 62 = .ok (.goto 4, 3) := by decide +kernel
theorem dX11_signByRings_65 : decode cX11_signByRings 65 = .ok (.iconst 0, 1) := by decide +kernel
theorem dX11_signByRings_66 : decode cX11_signByRings 66 = .ok (.iadd, 1) := by decide +kernel
theorem dX11_signByRings_67 : decode cX11_signByRings 67 = .ok (.istore_n 1, 1) := by decide +kernel
theorem dX11_signByRings_68 : decode cX11_signByRings 68 = .ok (.iinc 2 1, 3) := by decide +kernel
theorem dX11_signByRings_71 : decode cX11_signByRings 71 = .ok (.goto (-67), 3) := by decide +kernel
theorem dX11_signByRings_74 : decode cX11_signByRings 74 = .ok (.aload_n 0, 1) := by decide +kernel
theorem dX11_signByRings_75 : decode cX11_signByRings 75 = .ok (.getfield 7, 3) := by decide +kernel
theorem dX11_signByRings_78 : decode cX11_signByRings 78 = .ok (.iconst 0, 1) := by decide +kernel
theorem dX11_signByRings_79 : decode cX11_signByRings 79 = .ok (.iaload, 1) := by decide +kernel
theorem dX11_signByRings_80 : decode cX11_signByRings 80 = .ok (.iload_n 1, 1) := by decide +kernel
theorem dX11_signByRings_81 : decode cX11_signByRings 81 = .ok (.isub, 1) := by decide +kernel
theorem dX11_signByRings_82 : decode cX11_signByRings 82 = .ok (.iconst 2, 1) := by decide +kernel
theorem dX11_signByRings_83 : decode cX11_signByRings 83 = .ok (.irem, 1) := by decide +kernel
theorem dX11_signByRings_84 : decode cX11_signByRings 84 = .ok (.ireturn, 1) := by decide +kernel
theorem dX11_soundsWell_0 : decode cX11_soundsWell 0 = .ok (.aload_n 0, 1) := by decide +kernel
theorem dX11_soundsWell_1 : decode cX11_soundsWell 1 = .ok (.getfield 7, 3) := by decide +kernel
theorem dX11_soundsWell_4 : decode cX11_soundsWell 4 = .ok (.iconst 0, 1) := by decide +kernel
theorem dX11_soundsWell_5 : decode cX11_soundsWell 5 = .ok (.iaload, 1) := by decide +kernel
theorem dX11_soundsWell_6 : decode cX11_soundsWell 6 = .ok (.istore_n 1, 1) := by decide +kernel
theorem dX11_soundsWell_7 : decode cX11_soundsWell 7 = .ok (.aload_n 0, 1) := by decide +kernel
theorem dX11_soundsWell_8 : decode cX11_soundsWell 8 = .ok (.getfield 22, 3) := by decide +kernel
theorem dX11_soundsWell_11 : decode cX11_soundsWell 11 = .ok (.iload_n 1, 1) := by decide +kernel
theorem dX11_soundsWell_12 : decode cX11_soundsWell 12 = .ok (.iconst 3, 1) := by decide +kernel
theorem dX11_soundsWell_13 : decode cX11_soundsWell 13 = .ok (.isub, 1) := by decide +kernel
theorem dX11_soundsWell_14 : decode cX11_soundsWell 14 = .ok (.iaload, 1) := by decide +kernel
theorem dX11_soundsWell_15 : decode cX11_soundsWell 15 = .ok (.aload_n 0, 1) := by decide +kernel
theorem dX11_soundsWell_16 : decode cX11_soundsWell 16 = .ok (.getfield 22, 3) := by decide +kernel
theorem dX11_soundsWell_19 : decode cX11_soundsWell 19 = .ok (.iload_n 1, 1) := by decide +kernel
theorem dX11_soundsWell_20 : decode cX11_soundsWell 20 = .ok (.iconst 2, 1) := by decide +kernel
theorem dX11_soundsWell_21 : decode cX11_soundsWell 21 = .ok (.isub, 1) := by decide +kernel
theorem dX11_soundsWell_22 : decode cX11_soundsWell 22 = .ok (.iaload, 1) := by decide +kernel
theorem dX11_soundsWell_23 : decode cX11_soundsWell 23 = .ok (.if_icmp .ge 26, 3) := by decide +kernel
theorem dX11_soundsWell_26 : decode cX11_soundsWell 26 = .ok (.aload_n 0, 1) := by decide +kernel
theorem dX11_soundsWell_27 : decode cX11_soundsWell 27 = .ok (.getfield 22, 3) := by decide +kernel
theorem dX11_soundsWell_30 : decode cX11_soundsWell 30 = .ok (.iload_n 1, 1) := by decide +kernel
theorem dX11_soundsWell_31 : decode cX11_soundsWell 31 = .ok (.iconst 2, 1) := by decide +kernel
theorem dX11_soundsWell_32 : decode cX11_soundsWell 32 = .ok (.isub, 1) := by decide +kernel
theorem dX11_soundsWell_33 : decode cX11_soundsWell 33 = .ok (.iaload, 1) := by decide +kernel
theorem dX11_soundsWell_34 : decode cX11_soundsWell 34 = .ok (.aload_n 0, 1) := by decide +kernel
theorem dX11_soundsWell_35 : decode cX11_soundsWell 35 = .ok (.getfield 22, 3) := by decide +kernel
theorem dX11_soundsWell_38 : decode cX11_soundsWell 38 = .ok (.iload_n 1, 1) := by decide +kernel
theorem dX11_soundsWell_39 : decode cX11_soundsWell 39 = .ok (.iconst 1, 1) := by decide +kernel
theorem dX11_soundsWell_40 : decode cX11_soundsWell 40 = .ok (.isub, 1) := by decide +kernel
theorem dX11_soundsWell_41 : decode cX11_soundsWell 41 = .ok (.iaload, 1) := by decide +kernel
theorem dX11_soundsWell_42 : decode cX11_soundsWell 42 = .ok (.if_icmp .ge 7, 3) := by decide +kernel
theorem dX11_soundsWell_45 : decode cX11_soundsWell 45 = .ok (.iconst 1, 1) := by decide +kernel
theorem dX11_soundsWell_46 : decode cX11_soundsWell 46 = .ok (.goto 4, 3) := by decide +kernel
theorem dX11_soundsWell_49 : decode cX11_soundsWell 49 = .ok (.iconst 0, 1) := by decide +kernel
theorem dX11_soundsWell_50 : decode cX11_soundsWell 50 = .ok (.ireturn, 1) := by decide +kernel
theorem dX11_atHome_0 : decode cX11_atHome 0 = .ok (.iconst 0, 1) := by decide +kernel
theorem dX11_atHome_1 : decode cX11_atHome 1 = .ok (.istore_n 1, 1) := by decide +kernel
theorem dX11_atHome_2 : decode cX11_atHome 2 = .ok (.iconst 0, 1) := by decide +kernel
theorem dX11_atHome_3 : decode cX11_atHome 3 = .ok (.istore_n 2, 1) := by decide +kernel
theorem dX11_atHome_4 : decode cX11_atHome 4 = .ok (.iload_n 2, 1) := by decide +kernel
theorem dX11_atHome_5 : decode cX11_atHome 5 = .ok (.aload_n 0, 1) := by decide +kernel
theorem dX11_atHome_6 : decode cX11_atHome 6 = .ok (.getfield 7, 3) := by decide +kernel
theorem dX11_atHome_9 : decode cX11_atHome 9 = .ok (.iconst 0, 1) := by decide +kernel
theorem dX11_atHome_10 : decode cX11_atHome 10 = .ok (.iaload, 1) := by decide +kernel
theorem dX11_atHome_11 : decode cX11_atHome 11 = .ok (.if_icmp .ge 27, 3) := by decide +kernel
theorem dX11_atHome_14 : decode cX11_atHome 14 = .ok (.iload_n 1, 1) := by decide +kernel
theorem dX11_atHome_15 : decode cX11_atHome 15 = .ok (.aload_n 0, 1) := by decide +kernel
theorem dX11_atHome_16 : decode cX11_atHome 16 = .ok (.getfield 22, 3) := by decide +kernel
theorem dX11_atHome_19 : decode cX11_atHome 19 = .ok (.iload_n 2, 1) := by decide +kernel
theorem dX11_atHome_20 : decode cX11_atHome 20 = .ok (.iaload, 1) := by decide +kernel
theorem dX11_atHome_21 : decode cX11_atHome 21 = .ok (.iload_n 2, 1) := by decide +kernel
theorem dX11_atHome_22 : decode cX11_atHome 22 = .ok (.if_icmp .ne 7, 3) := by decide +kernel
theorem dX11_atHome_25 : decode cX11_atHome 25 = .ok (.iconst 1, 1) := by decide +kernel
theorem dX11_atHome_26 : decode cX11_atHome 26 = .ok (.goto 4, 3) := by decide +kernel
theorem dX11_atHome_29 : decode cX11_atHome 29 = .ok (.iconst 0, 1) := by decide +kernel
theorem dX11_atHome_30 : decode cX11_atHome 30 = .ok (.iadd, 1) := by decide +kernel
theorem dX11_atHome_31 : decode cX11_atHome 31 = .ok (.istore_n 1, 1) := by decide +kernel
theorem dX11_atHome_32 : decode cX11_atHome 32 = .ok (.iinc 2 1, 3) := by decide +kernel
theorem dX11_atHome_35 : decode cX11_atHome 35 = .ok (.goto (-31), 3) := by decide +kernel
theorem dX11_atHome_38 : decode cX11_atHome 38 = .ok (.iload_n 1, 1) := by decide +kernel
theorem dX11_atHome_39 : decode cX11_atHome 39 = .ok (.ireturn, 1) := by decide +kernel
theorem dX11_firstSame_0 : decode cX11_firstSame 0 = .ok (.iload_n 2, 1) := by decide +kernel
theorem dX11_firstSame_1 : decode cX11_firstSame 1 = .ok (.istore_n 3, 1) := by decide +kernel
theorem dX11_firstSame_2 : decode cX11_firstSame 2 = .ok (.aload_n 0, 1) := by decide +kernel
theorem dX11_firstSame_3 : decode cX11_firstSame 3 = .ok (.getfield 28, 3) := by decide +kernel
theorem dX11_firstSame_6 : decode cX11_firstSame 6 = .ok (.iload_n 3, 1) := by decide +kernel
theorem dX11_firstSame_7 : decode cX11_firstSame 7 = .ok (.iaload, 1) := by decide +kernel
theorem dX11_firstSame_8 : decode cX11_firstSame 8 = .ok (.aload_n 0, 1) := by decide +kernel
theorem dX11_firstSame_9 : decode cX11_firstSame 9 = .ok (.getfield 28, 3) := by decide +kernel
theorem dX11_firstSame_12 : decode cX11_firstSame 12 = .ok (.iload_n 1, 1) := by decide +kernel
theorem dX11_firstSame_13 : decode cX11_firstSame 13 = .ok (.iaload, 1) := by decide +kernel
theorem dX11_firstSame_14 : decode cX11_firstSame 14 = .ok (.if_icmp .eq 9, 3) := by decide +kernel
theorem dX11_firstSame_17 : decode cX11_firstSame 17 = .ok (.iinc 3 1, 3) := by decide +kernel
theorem dX11_firstSame_20 : decode cX11_firstSame 20 = .ok (.goto (-18), 3) := by decide +kernel
theorem dX11_firstSame_23 : decode cX11_firstSame 23 = .ok (.iload_n 3, 1) := by decide +kernel
theorem dX11_firstSame_24 : decode cX11_firstSame 24 = .ok (.ireturn, 1) := by decide +kernel
theorem dX11_row_0 : decode cX11_row 0 = .ok (.aload_n 0, 1) := by decide +kernel
theorem dX11_row_1 : decode cX11_row 1 = .ok (.iload_n 1, 1) := by decide +kernel
theorem dX11_row_2 : decode cX11_row 2 = .ok (.invokevirtual 118, 3) := by decide +kernel
theorem dX11_row_5 : decode cX11_row 5 = .ok (.ifCond .eq 12, 3) := by decide +kernel
theorem dX11_row_8 : decode cX11_row 8 = .ok (.iload_n 2, 1) := by decide +kernel
theorem dX11_row_9 : decode cX11_row 9 = .ok (.iconst 0, 1) := by decide +kernel
theorem dX11_row_10 : decode cX11_row 10 = .ok (.iconst 5, 1) := by decide +kernel
theorem dX11_row_11 : decode cX11_row 11 = .ok (.invokestatic 54, 3) := by decide +kernel
theorem dX11_row_14 : decode cX11_row 14 = .ok (.ifCond .ne 5, 3) := by decide +kernel
theorem dX11_row_17 : decode cX11_row 17 = .ok (.iconst (-1), 1) := by decide +kernel
theorem dX11_row_18 : decode cX11_row 18 = .ok (.ireturn, 1) := by decide +kernel
theorem dX11_row_19 : decode cX11_row 19 = .ok (.aload_n 0, 1) := by decide +kernel
theorem dX11_row_20 : decode cX11_row 20 = .ok (.bipush (-4), 2) := by decide +kernel
theorem dX11_row_22 : decode cX11_row 22 = .ok (.invokevirtual 124, 3) := by decide +kernel
theorem dX11_row_25 : decode cX11_row 25 = .ok (.aload_n 0, 1) := by decide +kernel
theorem dX11_row_26 : decode cX11_row 26 = .ok (.getfield 28, 3) := by decide +kernel
theorem dX11_row_29 : decode cX11_row 29 = .ok (.iload_n 1, 1) := by decide +kernel
theorem dX11_row_30 : decode cX11_row 30 = .ok (.iaload, 1) := by decide +kernel
theorem dX11_row_31 : decode cX11_row 31 = .ok (.istore_n 3, 1) := by decide +kernel
theorem dX11_row_32 : decode cX11_row 32 = .ok (.aload_n 0, 1) := by decide +kernel
theorem dX11_row_33 : decode cX11_row 33 = .ok (.iload_n 3, 1) := by decide +kernel
theorem dX11_row_34 : decode cX11_row 34 = .ok (.invokevirtual 127, 3) := by decide +kernel
theorem dX11_row_37 : decode cX11_row 37 = .ok (.iload_n 2, 1) := by decide +kernel
theorem dX11_row_38 : decode cX11_row 38 = .ok (.tableswitch 69 0 4 #[34, 39, 44, 57, 62], 34) := by decide +kernel
theorem dX11_row_72 : decode cX11_row 72 = .ok (.aload_n 0, 1) := by decide +kernel
theorem dX11_row_73 : decode cX11_row 73 = .ok (.invokevirtual 130, 3) := by decide +kernel
theorem dX11_row_76 : decode cX11_row 76 = .ok (.ireturn, 1) := by decide +kernel
theorem dX11_row_77 : decode cX11_row 77 = .ok (.aload_n 0, 1) := by decide +kernel
theorem dX11_row_78 : decode cX11_row 78 = .ok (.invokevirtual 133, 3) := by decide +kernel
theorem dX11_row_81 : decode cX11_row 81 = .ok (.ireturn, 1) := by decide +kernel
theorem dX11_row_82 : decode cX11_row 82 = .ok (.aload_n 0, 1) := by decide +kernel
theorem dX11_row_83 : decode cX11_row 83 = .ok (.invokevirtual 136, 3) := by decide +kernel
theorem dX11_row_86 : decode cX11_row 86 = .ok (.ifCond .eq 7, 3) := by decide +kernel
theorem dX11_row_89 : decode cX11_row 89 = .ok (.iconst 1, 1) := by decide +kernel
theorem dX11_row_90 : decode cX11_row 90 = .ok (.goto 4, 3) := by decide +kernel
theorem dX11_row_93 : decode cX11_row 93 = .ok (.iconst 0, 1) := by decide +kernel
theorem dX11_row_94 : decode cX11_row 94 = .ok (.ireturn, 1) := by decide +kernel
theorem dX11_row_95 : decode cX11_row 95 = .ok (.aload_n 0, 1) := by decide +kernel
theorem dX11_row_96 : decode cX11_row 96 = .ok (.invokevirtual 139, 3) := by decide +kernel
theorem dX11_row_99 : decode cX11_row 99 = .ok (.ireturn, 1) := by decide +kernel
theorem dX11_row_100 : decode cX11_row 100 = .ok (.aload_n 0, 1) := by decide +kernel
theorem dX11_row_101 : decode cX11_row 101 = .ok (.iload_n 1, 1) := by decide +kernel
theorem dX11_row_102 : decode cX11_row 102 = .ok (.iconst 0, 1) := by decide +kernel
theorem dX11_row_103 : decode cX11_row 103 = .ok (.invokevirtual 142, 3) := by decide +kernel
theorem dX11_row_106 : decode cX11_row 106 = .ok (.ireturn, 1) := by decide +kernel
theorem dX11_row_107 : decode cX11_row 107 = .ok (.aload_n 0, 1) := by decide +kernel
theorem dX11_row_108 : decode cX11_row 108 = .ok (.invokevirtual 145, 3) := by decide +kernel
theorem dX11_row_111 : decode cX11_row 111 = .ok (.aload_n 0, 1) := by decide +kernel
theorem dX11_row_112 : decode cX11_row 112 = .ok (.getfield 40, 3) := by decide +kernel
theorem dX11_row_115 : decode cX11_row 115 = .ok (.iload_n 3, 1) := by decide +kernel
theorem dX11_row_116 : decode cX11_row 116 = .ok (.iaload, 1) := by decide +kernel
theorem dX11_row_117 : decode cX11_row 117 = .ok (.ireturn, 1) := by decide +kernel
theorem dX11_follows_0 : decode cX11_follows 0 = .ok (.aload_n 0, 1) := by decide +kernel
theorem dX11_follows_1 : decode cX11_follows 1 = .ok (.bipush (-4), 2) := by decide +kernel
theorem dX11_follows_3 : decode cX11_follows 3 = .ok (.invokevirtual 124, 3) := by decide +kernel
theorem dX11_follows_6 : decode cX11_follows 6 = .ok (.iconst 0, 1) := by decide +kernel
theorem dX11_follows_7 : decode cX11_follows 7 = .ok (.istore_n 2, 1) := by decide +kernel
theorem dX11_follows_8 : decode cX11_follows 8 = .ok (.iload_n 2, 1) := by decide +kernel
theorem dX11_follows_9 : decode cX11_follows 9 = .ok (.aload_n 0, 1) := by decide +kernel
theorem dX11_follows_10 : decode cX11_follows 10 = .ok (.getfield 65, 3) := by decide +kernel
theorem dX11_follows_13 : decode cX11_follows 13 = .ok (.if_icmp .gt 67, 3) := by decide +kernel
theorem dX11_follows_16 : decode cX11_follows 16 = .ok (.aload_n 0, 1) := by decide +kernel
theorem dX11_follows_17 : decode cX11_follows 17 = .ok (.aload_n 0, 1) := by decide +kernel
theorem dX11_follows_18 : decode cX11_follows 18 = .ok (.getfield 28, 3) := by decide +kernel
theorem dX11_follows_21 : decode cX11_follows 21 = .ok (.iload_n 2, 1) := by decide +kernel
theorem dX11_follows_22 : decode cX11_follows 22 = .ok (.iaload, 1) := by decide +kernel
theorem dX11_follows_23 : decode cX11_follows 23 = .ok (.invokevirtual 127, 3) := by decide +kernel
theorem dX11_follows_26 : decode cX11_follows 26 = .ok (.iconst 0, 1) := by decide +kernel
theorem dX11_follows_27 : decode cX11_follows 27 = .ok (.istore_n 3, 1) := by decide +kernel
theorem dX11_follows_28 : decode cX11_follows 28 = .ok (.iload_n 3, 1) := by decide +kernel
theorem dX11_follows_29 : decode cX11_follows 29 = .ok (.aload_n 0, 1) := by decide +kernel
theorem dX11_follows_30 : decode cX11_follows 30 = .ok (.getfield 7, 3) := by decide +kernel
theorem dX11_follows_33 : decode cX11_follows 33 = .ok (.iconst 0, 1) := by decide +kernel
theorem dX11_follows_34 : decode cX11_follows 34 = .ok (.iaload, 1) := by decide +kernel
theorem dX11_follows_35 : decode cX11_follows 35 = .ok (.if_icmp .ge 39, 3) := by decide +kernel
theorem dX11_follows_38 : decode cX11_follows 38 = .ok (.aload_n 0, 1) := by decide +kernel
theorem dX11_follows_39 : decode cX11_follows 39 = .ok (.getfield 34, 3) := by decide +kernel
theorem dX11_follows_42 : decode cX11_follows 42 = .ok (.iload_n 2, 1) := by decide +kernel
theorem dX11_follows_43 : decode cX11_follows 43 = .ok (.aload_n 0, 1) := by decide +kernel
theorem dX11_follows_44 : decode cX11_follows 44 = .ok (.getfield 22, 3) := by decide +kernel
theorem dX11_follows_47 : decode cX11_follows 47 = .ok (.iload_n 3, 1) := by decide +kernel
theorem dX11_follows_48 : decode cX11_follows 48 = .ok (.iaload, 1) := by decide +kernel
theorem dX11_follows_49 : decode cX11_follows 49 = .ok (.iload_n 1, 1) := by decide +kernel
theorem dX11_follows_50 : decode cX11_follows 50 = .ok (.iconst 1, 1) := by decide +kernel
theorem dX11_follows_51 : decode cX11_follows 51 = .ok (.isub, 1) := by decide +kernel
theorem dX11_follows_52 : decode cX11_follows 52 = .ok (.if_icmp .ne 9, 3) := by decide +kernel
theorem dX11_follows_55 : decode cX11_follows 55 = .ok (.iload_n 3, 1) := by decide +kernel
theorem dX11_follows_56 : decode cX11_follows 56 = .ok (.iconst 1, 1) := by decide +kernel
theorem dX11_follows_57 : decode cX11_follows 57 = .ok (.iadd, 1) := by decide +kernel
theorem dX11_follows_58 : decode cX11_follows 58 = .ok (.goto 9, 3) := by decide +kernel
theorem dX11_follows_61 : decode cX11_follows 61 = .ok (.aload_n 0, 1) := by decide +kernel
theorem dX11_follows_62 : decode cX11_follows 62 = .ok (.getfield 34, 3) := by decide +kernel
theorem dX11_follows_65 : decode cX11_follows 65 = .ok (.iload_n 2, 1) := by decide +kernel
theorem dX11_follows_66 : decode cX11_follows 66 = .ok (.iaload, 1) := by decide +kernel
theorem dX11_follows_67 : decode cX11_follows 67 = .ok (.iastore, 1) := by decide +kernel
theorem dX11_follows_68 : decode cX11_follows 68 = .ok (.iinc 3 1, 3) := by decide +kernel
theorem dX11_follows_71 : decode cX11_follows 71 = .ok (.goto (-43), 3) := by decide +kernel
theorem dX11_follows_74 : decode cX11_follows 74 = .ok (.iinc 2 1, 3) := by decide +kernel
theorem dX11_follows_77 : decode cX11_follows 77 = .ok (.goto (-69), 3) := by decide +kernel
theorem dX11_follows_80 : decode cX11_follows 80 = .ok (.return_, 1) := by decide +kernel
theorem dX11_dodges_0 : decode cX11_dodges 0 = .ok (.iconst 0, 1) := by decide +kernel
theorem dX11_dodges_1 : decode cX11_dodges 1 = .ok (.istore_n 2, 1) := by decide +kernel
theorem dX11_dodges_2 : decode cX11_dodges 2 = .ok (.iconst 0, 1) := by decide +kernel
theorem dX11_dodges_3 : decode cX11_dodges 3 = .ok (.istore_n 3, 1) := by decide +kernel
theorem dX11_dodges_4 : decode cX11_dodges 4 = .ok (.iload_n 3, 1) := by decide +kernel
theorem dX11_dodges_5 : decode cX11_dodges 5 = .ok (.iconst 3, 1) := by decide +kernel
theorem dX11_dodges_6 : decode cX11_dodges 6 = .ok (.iadd, 1) := by decide +kernel
theorem dX11_dodges_7 : decode cX11_dodges 7 = .ok (.aload_n 0, 1) := by decide +kernel
theorem dX11_dodges_8 : decode cX11_dodges 8 = .ok (.getfield 65, 3) := by decide +kernel
theorem dX11_dodges_11 : decode cX11_dodges 11 = .ok (.if_icmp .gt 71, 3) := by decide +kernel
theorem dX11_dodges_14 : decode cX11_dodges 14 = .ok (.aload_n 0, 1) := by decide +kernel
theorem dX11_dodges_15 : decode cX11_dodges 15 = .ok (.getfield 34, 3) := by decide +kernel
theorem dX11_dodges_18 : decode cX11_dodges 18 = .ok (.iload_n 3, 1) := by decide +kernel
theorem dX11_dodges_19 : decode cX11_dodges 19 = .ok (.iaload, 1) := by decide +kernel
theorem dX11_dodges_20 : decode cX11_dodges 20 = .ok (.aload_n 0, 1) := by decide +kernel
theorem dX11_dodges_21 : decode cX11_dodges 21 = .ok (.getfield 34, 3) := by decide +kernel
theorem dX11_dodges_24 : decode cX11_dodges 24 = .ok (.iload_n 3, 1) := by decide +kernel
theorem dX11_dodges_25 : decode cX11_dodges 25 = .ok (.iconst 2, 1) := by decide +kernel
theorem dX11_dodges_26 : decode cX11_dodges 26 = .ok (.iadd, 1) := by decide +kernel
theorem dX11_dodges_27 : decode cX11_dodges 27 = .ok (.iaload, 1) := by decide +kernel
theorem dX11_dodges_28 : decode cX11_dodges 28 = .ok (.if_icmp .ne 48, 3) := by decide +kernel
theorem dX11_dodges_31 : decode cX11_dodges 31 = .ok (.aload_n 0, 1) := by decide +kernel
theorem dX11_dodges_32 : decode cX11_dodges 32 = .ok (.getfield 34, 3) := by decide +kernel
theorem dX11_dodges_35 : decode cX11_dodges 35 = .ok (.iload_n 3, 1) := by decide +kernel
theorem dX11_dodges_36 : decode cX11_dodges 36 = .ok (.iconst 1, 1) := by decide +kernel
theorem dX11_dodges_37 : decode cX11_dodges 37 = .ok (.iadd, 1) := by decide +kernel
theorem dX11_dodges_38 : decode cX11_dodges 38 = .ok (.iaload, 1) := by decide +kernel
theorem dX11_dodges_39 : decode cX11_dodges 39 = .ok (.aload_n 0, 1) := by decide +kernel
theorem dX11_dodges_40 : decode cX11_dodges 40 = .ok (.getfield 34, 3) := by decide +kernel
theorem dX11_dodges_43 : decode cX11_dodges 43 = .ok (.iload_n 3, 1) := by decide +kernel
theorem dX11_dodges_44 : decode cX11_dodges 44 = .ok (.iconst 3, 1) := by decide +kernel
theorem dX11_dodges_45 : decode cX11_dodges 45 = .ok (.iadd, 1) := by decide +kernel
theorem dX11_dodges_46 : decode cX11_dodges 46 = .ok (.iaload, 1) := by decide +kernel
theorem dX11_dodges_47 : decode cX11_dodges 47 = .ok (.if_icmp .ne 29, 3) := by decide +kernel
theorem dX11_dodges_50 : decode cX11_dodges 50 = .ok (.aload_n 0, 1) := by decide +kernel
theorem dX11_dodges_51 : decode cX11_dodges 51 = .ok (.getfield 34, 3) := by decide +kernel
theorem dX11_dodges_54 : decode cX11_dodges 54 = .ok (.iload_n 3, 1) := by decide +kernel
theorem dX11_dodges_55 : decode cX11_dodges 55 = .ok (.iaload, 1) := by decide +kernel
theorem dX11_dodges_56 : decode cX11_dodges 56 = .ok (.aload_n 0, 1) := by decide +kernel
theorem dX11_dodges_57 : decode cX11_dodges 57 = .ok (.getfield 34, 3) := by decide +kernel
theorem dX11_dodges_60 : decode cX11_dodges 60 = .ok (.iload_n 3, 1) := by decide +kernel
theorem dX11_dodges_61 : decode cX11_dodges 61 = .ok (.iconst 1, 1) := by decide +kernel
theorem dX11_dodges_62 : decode cX11_dodges 62 = .ok (.iadd, 1) := by decide +kernel
theorem dX11_dodges_63 : decode cX11_dodges 63 = .ok (.iaload, 1) := by decide +kernel
theorem dX11_dodges_64 : decode cX11_dodges 64 = .ok (.if_icmp .eq 12, 3) := by decide +kernel
theorem dX11_dodges_67 : decode cX11_dodges 67 = .ok (.iload_n 1, 1) := by decide +kernel
theorem dX11_dodges_68 : decode cX11_dodges 68 = .ok (.ifCond .eq 5, 3) := by decide +kernel
theorem dX11_dodges_71 : decode cX11_dodges 71 = .ok (.iload_n 3, 1) := by decide +kernel
theorem dX11_dodges_72 : decode cX11_dodges 72 = .ok (.ireturn, 1) := by decide +kernel
theorem dX11_dodges_73 : decode cX11_dodges 73 = .ok (.iinc 2 1, 3) := by decide +kernel
theorem dX11_dodges_76 : decode cX11_dodges 76 = .ok (.iinc 3 1, 3) := by decide +kernel
theorem dX11_dodges_79 : decode cX11_dodges 79 = .ok (.goto (-75), 3) := by decide +kernel
theorem dX11_dodges_82 : decode cX11_dodges 82 = .ok (.iload_n 1, 1) := by decide +kernel
theorem dX11_dodges_83 : decode cX11_dodges 83 = .ok (.ifCond .eq 8, 3) := by decide +kernel
theorem dX11_dodges_86 : decode cX11_dodges 86 = .ok (.bipush (-4), 2) := by decide +kernel
theorem dX11_dodges_88 : decode cX11_dodges 88 = .ok (.goto 4, 3) := by decide +kernel
theorem dX11_dodges_91 : decode cX11_dodges 91 = .ok (.iload_n 2, 1) := by decide +kernel
theorem dX11_dodges_92 : decode cX11_dodges 92 = .ok (.ireturn, 1) := by decide +kernel
theorem dX11_stays_0 : decode cX11_stays 0 = .ok (.iconst 0, 1) := by decide +kernel
theorem dX11_stays_1 : decode cX11_stays 1 = .ok (.istore_n 1, 1) := by decide +kernel
theorem dX11_stays_2 : decode cX11_stays 2 = .ok (.iconst 0, 1) := by decide +kernel
theorem dX11_stays_3 : decode cX11_stays 3 = .ok (.istore_n 2, 1) := by decide +kernel
theorem dX11_stays_4 : decode cX11_stays 4 = .ok (.iload_n 2, 1) := by decide +kernel
theorem dX11_stays_5 : decode cX11_stays 5 = .ok (.aload_n 0, 1) := by decide +kernel
theorem dX11_stays_6 : decode cX11_stays 6 = .ok (.getfield 65, 3) := by decide +kernel
theorem dX11_stays_9 : decode cX11_stays 9 = .ok (.if_icmp .ge 34, 3) := by decide +kernel
theorem dX11_stays_12 : decode cX11_stays 12 = .ok (.iload_n 1, 1) := by decide +kernel
theorem dX11_stays_13 : decode cX11_stays 13 = .ok (.aload_n 0, 1) := by decide +kernel
theorem dX11_stays_14 : decode cX11_stays 14 = .ok (.getfield 34, 3) := by decide +kernel
theorem dX11_stays_17 : decode cX11_stays 17 = .ok (.iload_n 2, 1) := by decide +kernel
theorem dX11_stays_18 : decode cX11_stays 18 = .ok (.iaload, 1) := by decide +kernel
theorem dX11_stays_19 : decode cX11_stays 19 = .ok (.aload_n 0, 1) := by decide +kernel
theorem dX11_stays_20 : decode cX11_stays 20 = .ok (.getfield 34, 3) := by decide +kernel
theorem dX11_stays_23 : decode cX11_stays 23 = .ok (.iload_n 2, 1) := by decide +kernel
theorem dX11_stays_24 : decode cX11_stays 24 = .ok (.iconst 1, 1) := by decide +kernel
theorem dX11_stays_25 : decode cX11_stays 25 = .ok (.iadd, 1) := by decide +kernel
theorem dX11_stays_26 : decode cX11_stays 26 = .ok (.iaload, 1) := by decide +kernel
theorem dX11_stays_27 : decode cX11_stays 27 = .ok (.if_icmp .ne 7, 3) := by decide +kernel
theorem dX11_stays_30 : decode cX11_stays 30 = .ok (.iconst 1, 1) := by decide +kernel
theorem dX11_stays_31 : decode cX11_stays 31 = .ok (.goto 4, 3) := by decide +kernel
theorem dX11_stays_34 : decode cX11_stays 34 = .ok (.iconst 0, 1) := by decide +kernel
theorem dX11_stays_35 : decode cX11_stays 35 = .ok (.iadd, 1) := by decide +kernel
theorem dX11_stays_36 : decode cX11_stays 36 = .ok (.istore_n 1, 1) := by decide +kernel
theorem dX11_stays_37 : decode cX11_stays 37 = .ok (.iinc 2 1, 3) := by decide +kernel
theorem dX11_stays_40 : decode cX11_stays 40 = .ok (.goto (-36), 3) := by decide +kernel
theorem dX11_stays_43 : decode cX11_stays 43 = .ok (.iload_n 1, 1) := by decide +kernel
theorem dX11_stays_44 : decode cX11_stays 44 = .ok (.ireturn, 1) := by decide +kernel
theorem dX11_rowsAt_0 : decode cX11_rowsAt 0 = .ok (.iconst 0, 1) := by decide +kernel
theorem dX11_rowsAt_1 : decode cX11_rowsAt 1 = .ok (.istore_n 2, 1) := by decide +kernel
theorem dX11_rowsAt_2 : decode cX11_rowsAt 2 = .ok (.iconst 1, 1) := by decide +kernel
theorem dX11_rowsAt_3 : decode cX11_rowsAt 3 = .ok (.istore_n 3, 1) := by decide +kernel
theorem dX11_rowsAt_4 : decode cX11_rowsAt 4 = .ok (.iload_n 3, 1) := by decide +kernel
theorem dX11_rowsAt_5 : decode cX11_rowsAt 5 = .ok (.aload_n 0, 1) := by decide +kernel
theorem dX11_rowsAt_6 : decode cX11_rowsAt 6 = .ok (.getfield 65, 3) := by decide +kernel
theorem dX11_rowsAt_9 : decode cX11_rowsAt 9 = .ok (.if_icmp .gt 27, 3) := by decide +kernel
theorem dX11_rowsAt_12 : decode cX11_rowsAt 12 = .ok (.iload_n 2, 1) := by decide +kernel
theorem dX11_rowsAt_13 : decode cX11_rowsAt 13 = .ok (.aload_n 0, 1) := by decide +kernel
theorem dX11_rowsAt_14 : decode cX11_rowsAt 14 = .ok (.getfield 34, 3) := by decide +kernel
theorem dX11_rowsAt_17 : decode cX11_rowsAt 17 = .ok (.iload_n 3, 1) := by decide +kernel
theorem dX11_rowsAt_18 : decode cX11_rowsAt 18 = .ok (.iaload, 1) := by decide +kernel
theorem dX11_rowsAt_19 : decode cX11_rowsAt 19 = .ok (.iload_n 1, 1) := by decide +kernel
theorem dX11_rowsAt_20 : decode cX11_rowsAt 20 = .ok (.if_icmp .ne 7, 3) := by decide +kernel
theorem dX11_rowsAt_23 : decode cX11_rowsAt 23 = .ok (.iconst 1, 1) := by decide +kernel
theorem dX11_rowsAt_24 : decode cX11_rowsAt 24 = .ok (.goto 4, 3) := by decide +kernel
theorem dX11_rowsAt_27 : decode cX11_rowsAt 27 = .ok (.iconst 0, 1) := by decide +kernel
theorem dX11_rowsAt_28 : decode cX11_rowsAt 28 = .ok (.iadd, 1) := by decide +kernel
theorem dX11_rowsAt_29 : decode cX11_rowsAt 29 = .ok (.istore_n 2, 1) := by decide +kernel
theorem dX11_rowsAt_30 : decode cX11_rowsAt 30 = .ok (.iinc 3 1, 3) := by decide +kernel
theorem dX11_rowsAt_33 : decode cX11_rowsAt 33 = .ok (.goto (-29), 3) := by decide +kernel
theorem dX11_rowsAt_36 : decode cX11_rowsAt 36 = .ok (.iload_n 2, 1) := by decide +kernel
theorem dX11_rowsAt_37 : decode cX11_rowsAt 37 = .ok (.ireturn, 1) := by decide +kernel
theorem dX11_path_0 : decode cX11_path 0 = .ok (.aload_n 0, 1) := by decide +kernel
theorem dX11_path_1 : decode cX11_path 1 = .ok (.iload_n 1, 1) := by decide +kernel
theorem dX11_path_2 : decode cX11_path 2 = .ok (.invokevirtual 121, 3) := by decide +kernel
theorem dX11_path_5 : decode cX11_path 5 = .ok (.ifCond .eq 12, 3) := by decide +kernel
theorem dX11_path_8 : decode cX11_path 8 = .ok (.iload_n 2, 1) := by decide +kernel
theorem dX11_path_9 : decode cX11_path 9 = .ok (.iconst 0, 1) := by decide +kernel
theorem dX11_path_10 : decode cX11_path 10 = .ok (.iconst 4, 1) := by decide +kernel
theorem dX11_path_11 : decode cX11_path 11 = .ok (.invokestatic 54, 3) := by decide +kernel
theorem dX11_path_14 : decode cX11_path 14 = .ok (.ifCond .ne 5, 3) := by decide +kernel
theorem dX11_path_17 : decode cX11_path 17 = .ok (.iconst (-1), 1) := by decide +kernel
theorem dX11_path_18 : decode cX11_path 18 = .ok (.ireturn, 1) := by decide +kernel
theorem dX11_path_19 : decode cX11_path 19 = .ok (.aload_n 0, 1) := by decide +kernel
theorem dX11_path_20 : decode cX11_path 20 = .ok (.iload_n 1, 1) := by decide +kernel
theorem dX11_path_21 : decode cX11_path 21 = .ok (.invokevirtual 148, 3) := by decide +kernel
theorem dX11_path_24 : decode cX11_path 24 = .ok (.iload_n 2, 1) := by decide +kernel
theorem dX11_path_25 : decode cX11_path 25 = .ok (.tableswitch 57 0 3 #[31, 31, 46, 52], 31) := by decide +kernel
theorem dX11_path_56 : decode cX11_path 56 = .ok (.aload_n 0, 1) := by decide +kernel
theorem dX11_path_57 : decode cX11_path 57 = .ok (.iload_n 2, 1) := by decide +kernel
theorem dX11_path_58 : decode cX11_path 58 = .ok (.iconst 1, 1) := by decide +kernel
theorem dX11_path_59 : decode cX11_path 59 = .ok (.if_icmp .ne 7, 3) := by decide +kernel
theorem dX11_path_62 : decode cX11_path 62 = .ok (.iconst 1, 1) := by decide +kernel
theorem dX11_path_63 : decode cX11_path 63 = .ok (.goto 4, 3) := by decide +kernel
theorem dX11_path_66 : decode cX11_path 66 = .ok (.iconst 0, 1) := by decide +kernel
theorem dX11_path_67 : decode cX11_path 67 = .ok (.invokevirtual 151, 3) := by decide +kernel
theorem dX11_path_70 : decode cX11_path 70 = .ok (.ireturn, 1) := by decide +kernel
theorem dX11_path_71 : decode cX11_path 71 = .ok (.aload_n 0, 1) := by decide +kernel
theorem dX11_path_72 : decode cX11_path 72 = .ok (.iconst 1, 1) := by decide +kernel
theorem dX11_path_73 : decode cX11_path 73 = .ok (.invokevirtual 155, 3) := by decide +kernel
theorem dX11_path_76 : decode cX11_path 76 = .ok (.ireturn, 1) := by decide +kernel
theorem dX11_path_77 : decode cX11_path 77 = .ok (.aload_n 0, 1) := by decide +kernel
theorem dX11_path_78 : decode cX11_path 78 = .ok (.invokevirtual 158, 3) := by decide +kernel
theorem dX11_path_81 : decode cX11_path 81 = .ok (.ireturn, 1) := by decide +kernel
theorem dX11_path_82 : decode cX11_path 82 = .ok (.aload_n 0, 1) := by decide +kernel
theorem dX11_path_83 : decode cX11_path 83 = .ok (.getfield 34, 3) := by decide +kernel
theorem dX11_path_86 : decode cX11_path 86 = .ok (.aload_n 0, 1) := by decide +kernel
theorem dX11_path_87 : decode cX11_path 87 = .ok (.getfield 65, 3) := by decide +kernel
theorem dX11_path_90 : decode cX11_path 90 = .ok (.iaload, 1) := by decide +kernel
theorem dX11_path_91 : decode cX11_path 91 = .ok (.ireturn, 1) := by decide +kernel
theorem dX11_blows_0 : decode cX11_blows 0 = .ok (.aload_n 0, 1) := by decide +kernel
theorem dX11_blows_1 : decode cX11_blows 1 = .ok (.iload_n 1, 1) := by decide +kernel
theorem dX11_blows_2 : decode cX11_blows 2 = .ok (.invokevirtual 121, 3) := by decide +kernel
theorem dX11_blows_5 : decode cX11_blows 5 = .ok (.ifCond .eq 11, 3) := by decide +kernel
theorem dX11_blows_8 : decode cX11_blows 8 = .ok (.aload_n 0, 1) := by decide +kernel
theorem dX11_blows_9 : decode cX11_blows 9 = .ok (.iload_n 2, 1) := by decide +kernel
theorem dX11_blows_10 : decode cX11_blows 10 = .ok (.invokevirtual 121, 3) := by decide +kernel
theorem dX11_blows_13 : decode cX11_blows 13 = .ok (.ifCond .ne 5, 3) := by decide +kernel
theorem dX11_blows_16 : decode cX11_blows 16 = .ok (.iconst (-1), 1) := by decide +kernel
theorem dX11_blows_17 : decode cX11_blows 17 = .ok (.ireturn, 1) := by decide +kernel
theorem dX11_blows_18 : decode cX11_blows 18 = .ok (.aload_n 0, 1) := by decide +kernel
theorem dX11_blows_19 : decode cX11_blows 19 = .ok (.iload_n 1, 1) := by decide +kernel
theorem dX11_blows_20 : decode cX11_blows 20 = .ok (.invokevirtual 148, 3) := by decide +kernel
theorem dX11_blows_23 : decode cX11_blows 23 = .ok (.aload_n 0, 1) := by decide +kernel
theorem dX11_blows_24 : decode cX11_blows 24 = .ok (.iload_n 2, 1) := by decide +kernel
theorem dX11_blows_25 : decode cX11_blows 25 = .ok (.invokevirtual 155, 3) := by decide +kernel
theorem dX11_blows_28 : decode cX11_blows 28 = .ok (.ireturn, 1) := by decide +kernel
theorem dX11_roundAt_0 : decode cX11_roundAt 0 = .ok (.iconst 1, 1) := by decide +kernel
theorem dX11_roundAt_1 : decode cX11_roundAt 1 = .ok (.istore_n 1, 1) := by decide +kernel
theorem dX11_roundAt_2 : decode cX11_roundAt 2 = .ok (.iload_n 1, 1) := by decide +kernel
theorem dX11_roundAt_3 : decode cX11_roundAt 3 = .ok (.aload_n 0, 1) := by decide +kernel
theorem dX11_roundAt_4 : decode cX11_roundAt 4 = .ok (.getfield 65, 3) := by decide +kernel
theorem dX11_roundAt_7 : decode cX11_roundAt 7 = .ok (.if_icmp .gt 20, 3) := by decide +kernel
theorem dX11_roundAt_10 : decode cX11_roundAt 10 = .ok (.aload_n 0, 1) := by decide +kernel
theorem dX11_roundAt_11 : decode cX11_roundAt 11 = .ok (.getfield 28, 3) := by decide +kernel
theorem dX11_roundAt_14 : decode cX11_roundAt 14 = .ok (.iload_n 1, 1) := by decide +kernel
theorem dX11_roundAt_15 : decode cX11_roundAt 15 = .ok (.iaload, 1) := by decide +kernel
theorem dX11_roundAt_16 : decode cX11_roundAt 16 = .ok (.ifCond .ne 5, 3) := by decide +kernel
theorem dX11_roundAt_19 : decode cX11_roundAt 19 = .ok (.iload_n 1, 1) := by decide +kernel
theorem dX11_roundAt_20 : decode cX11_roundAt 20 = .ok (.ireturn, 1) := by decide +kernel
theorem dX11_roundAt_21 : decode cX11_roundAt 21 = .ok (.iinc 1 1, 3) := by decide +kernel
theorem dX11_roundAt_24 : decode cX11_roundAt 24 = .ok (.goto (-22), 3) := by decide +kernel
theorem dX11_roundAt_27 : decode cX11_roundAt 27 = .ok (.bipush (-4), 2) := by decide +kernel
theorem dX11_roundAt_29 : decode cX11_roundAt 29 = .ok (.ireturn, 1) := by decide +kernel
theorem dX11_firstTwice_0 : decode cX11_firstTwice 0 = .ok (.iconst 1, 1) := by decide +kernel
theorem dX11_firstTwice_1 : decode cX11_firstTwice 1 = .ok (.istore_n 1, 1) := by decide +kernel
theorem dX11_firstTwice_2 : decode cX11_firstTwice 2 = .ok (.iload_n 1, 1) := by decide +kernel
theorem dX11_firstTwice_3 : decode cX11_firstTwice 3 = .ok (.aload_n 0, 1) := by decide +kernel
theorem dX11_firstTwice_4 : decode cX11_firstTwice 4 = .ok (.getfield 65, 3) := by decide +kernel
theorem dX11_firstTwice_7 : decode cX11_firstTwice 7 = .ok (.if_icmp .gt 21, 3) := by decide +kernel
theorem dX11_firstTwice_10 : decode cX11_firstTwice 10 = .ok (.aload_n 0, 1) := by decide +kernel
theorem dX11_firstTwice_11 : decode cX11_firstTwice 11 = .ok (.iload_n 1, 1) := by decide +kernel
theorem dX11_firstTwice_12 : decode cX11_firstTwice 12 = .ok (.iconst 1, 1) := by decide +kernel
theorem dX11_firstTwice_13 : decode cX11_firstTwice 13 = .ok (.invokevirtual 142, 3) := by decide +kernel
theorem dX11_firstTwice_16 : decode cX11_firstTwice 16 = .ok (.iload_n 1, 1) := by decide +kernel
theorem dX11_firstTwice_17 : decode cX11_firstTwice 17 = .ok (.if_icmp .ge 5, 3) := by decide +kernel
theorem dX11_firstTwice_20 : decode cX11_firstTwice 20 = .ok (.iload_n 1, 1) := by decide +kernel
theorem dX11_firstTwice_21 : decode cX11_firstTwice 21 = .ok (.ireturn, 1) := by decide +kernel
theorem dX11_firstTwice_22 : decode cX11_firstTwice 22 = .ok (.iinc 1 1, 3) := by decide +kernel
theorem dX11_firstTwice_25 : decode cX11_firstTwice 25 = .ok (.goto (-23), 3) := by decide +kernel
theorem dX11_firstTwice_28 : decode cX11_firstTwice 28 = .ok (.bipush (-4), 2) := by decide +kernel
theorem dX11_firstTwice_30 : decode cX11_firstTwice 30 = .ok (.ireturn, 1) := by decide +kernel
theorem dX11_unlike_0 : decode cX11_unlike 0 = .ok (.iconst 0, 1) := by decide +kernel
theorem dX11_unlike_1 : decode cX11_unlike 1 = .ok (.istore_n 1, 1) := by decide +kernel
theorem dX11_unlike_2 : decode cX11_unlike 2 = .ok (.iconst 1, 1) := by decide +kernel
theorem dX11_unlike_3 : decode cX11_unlike 3 = .ok (.istore_n 2, 1) := by decide +kernel
theorem dX11_unlike_4 : decode cX11_unlike 4 = .ok (.iload_n 2, 1) := by decide +kernel
theorem dX11_unlike_5 : decode cX11_unlike 5 = .ok (.aload_n 0, 1) := by decide +kernel
theorem dX11_unlike_6 : decode cX11_unlike 6 = .ok (.getfield 65, 3) := by decide +kernel
theorem dX11_unlike_9 : decode cX11_unlike 9 = .ok (.if_icmp .gt 27, 3) := by decide +kernel
theorem dX11_unlike_12 : decode cX11_unlike 12 = .ok (.iload_n 1, 1) := by decide +kernel
theorem dX11_unlike_13 : decode cX11_unlike 13 = .ok (.aload_n 0, 1) := by decide +kernel
theorem dX11_unlike_14 : decode cX11_unlike 14 = .ok (.iload_n 2, 1) := by decide +kernel
theorem dX11_unlike_15 : decode cX11_unlike 15 = .ok (.iconst 1, 1) := by decide +kernel
theorem dX11_unlike_16 : decode cX11_unlike 16 = .ok (.invokevirtual 142, 3) := by decide +kernel
theorem dX11_unlike_19 : decode cX11_unlike 19 = .ok (.iload_n 2, 1) := by decide +kernel
theorem dX11_unlike_20 : decode cX11_unlike 20 = .ok (.if_icmp .ne 7, 3) := by decide +kernel
theorem dX11_unlike_23 : decode cX11_unlike 23 = .ok (.iconst 1, 1) := by decide +kernel
theorem dX11_unlike_24 : decode cX11_unlike 24 = .ok (.goto 4, 3) := by decide +kernel
theorem dX11_unlike_27 : decode cX11_unlike 27 = .ok (.iconst 0, 1) := by decide +kernel
theorem dX11_unlike_28 : decode cX11_unlike 28 = .ok (.iadd, 1) := by decide +kernel
theorem dX11_unlike_29 : decode cX11_unlike 29 = .ok (.istore_n 1, 1) := by decide +kernel
theorem dX11_unlike_30 : decode cX11_unlike 30 = .ok (.iinc 2 1, 3) := by decide +kernel
theorem dX11_unlike_33 : decode cX11_unlike 33 = .ok (.goto (-29), 3) := by decide +kernel
theorem dX11_unlike_36 : decode cX11_unlike 36 = .ok (.iload_n 1, 1) := by decide +kernel
theorem dX11_unlike_37 : decode cX11_unlike 37 = .ok (.ireturn, 1) := by decide +kernel
theorem dX11_areFalse_0 : decode cX11_areFalse 0 = .ok (.aload_n 0, 1) := by decide +kernel
theorem dX11_areFalse_1 : decode cX11_areFalse 1 = .ok (.getfield 7, 3) := by decide +kernel
theorem dX11_areFalse_4 : decode cX11_areFalse 4 = .ok (.iconst 1, 1) := by decide +kernel
theorem dX11_areFalse_5 : decode cX11_areFalse 5 = .ok (.iaload, 1) := by decide +kernel
theorem dX11_areFalse_6 : decode cX11_areFalse 6 = .ok (.istore_n 3, 1) := by decide +kernel
theorem dX11_areFalse_7 : decode cX11_areFalse 7 = .ok (.iconst 0, 1) := by decide +kernel
theorem dX11_areFalse_8 : decode cX11_areFalse 8 = .ok (.istore 4, 2) := by decide +kernel
theorem dX11_areFalse_10 : decode cX11_areFalse 10 = .ok (.iconst 1, 1) := by decide +kernel
theorem dX11_areFalse_11 : decode cX11_areFalse 11 = .ok (.istore 5, 2) := by decide +kernel
theorem dX11_areFalse_13 : decode cX11_areFalse 13 = .ok (.iload 5, 2) := by decide +kernel
theorem dX11_areFalse_15 : decode cX11_areFalse 15 = .ok (.iload_n 3, 1) := by decide +kernel
theorem dX11_areFalse_16 : decode cX11_areFalse 16 = .ok (.if_icmp .gt 61, 3) := by decide +kernel
theorem dX11_areFalse_19 : decode cX11_areFalse 19 = .ok (.iconst 1, 1) := by decide +kernel
theorem dX11_areFalse_20 : decode cX11_areFalse 20 = .ok (.istore 6, 2) := by decide +kernel
theorem dX11_areFalse_22 : decode cX11_areFalse 22 = .ok (.iload 6, 2) := by decide +kernel
theorem dX11_areFalse_24 : decode cX11_areFalse 24 = .ok (.iload_n 3, 1) := by decide +kernel
theorem dX11_areFalse_25 : decode cX11_areFalse 25 = .ok (.if_icmp .gt 46, 3) := by decide +kernel
theorem dX11_areFalse_28 : decode cX11_areFalse 28 = .ok (.iload 4, 2) := by decide +kernel
theorem dX11_areFalse_30 : decode cX11_areFalse 30 = .ok (.ifCond .ne 28, 3) := by decide +kernel
theorem dX11_areFalse_33 : decode cX11_areFalse 33 = .ok (.aload_n 0, 1) := by decide +kernel
theorem dX11_areFalse_34 : decode cX11_areFalse 34 = .ok (.getfield 28, 3) := by decide +kernel
theorem dX11_areFalse_37 : decode cX11_areFalse 37 = .ok (.iload_n 1, 1) := by decide +kernel
theorem dX11_areFalse_38 : decode cX11_areFalse 38 = .ok (.iload_n 3, 1) := by decide +kernel
theorem dX11_areFalse_39 : decode cX11_areFalse 39 = .ok (.imul, 1) := by decide +kernel
theorem dX11_areFalse_40 : decode cX11_areFalse 40 = .ok (.iload 5, 2) := by decide +kernel
theorem dX11_areFalse_42 : decode cX11_areFalse 42 = .ok (.iadd, 1) := by decide +kernel
theorem dX11_areFalse_43 : decode cX11_areFalse 43 = .ok (.iaload, 1) := by decide +kernel
theorem dX11_areFalse_44 : decode cX11_areFalse 44 = .ok (.aload_n 0, 1) := by decide +kernel
theorem dX11_areFalse_45 : decode cX11_areFalse 45 = .ok (.getfield 28, 3) := by decide +kernel
theorem dX11_areFalse_48 : decode cX11_areFalse 48 = .ok (.iload_n 2, 1) := by decide +kernel
theorem dX11_areFalse_49 : decode cX11_areFalse 49 = .ok (.iload_n 3, 1) := by decide +kernel
theorem dX11_areFalse_50 : decode cX11_areFalse 50 = .ok (.imul, 1) := by decide +kernel
theorem dX11_areFalse_51 : decode cX11_areFalse 51 = .ok (.iload 6, 2) := by decide +kernel
theorem dX11_areFalse_53 : decode cX11_areFalse 53 = .ok (.iadd, 1) := by decide +kernel
theorem dX11_areFalse_54 : decode cX11_areFalse 54 = .ok (.iaload, 1) := by decide +kernel
theorem dX11_areFalse_55 : decode cX11_areFalse 55 = .ok (.if_icmp .ne 7, 3) := by decide +kernel
theorem dX11_areFalse_58 : decode cX11_areFalse 58 = .ok (.iconst 1, 1) := by decide +kernel
theorem dX11_areFalse_59 : decode cX11_areFalse 59 = .ok (.goto 4, 3) := by decide +kernel
theorem dX11_areFalse_62 : decode cX11_areFalse 62 = .ok (.iconst 0, 1) := by decide +kernel
theorem dX11_areFalse_63 : decode cX11_areFalse 63 = .ok (.istore 4, 2) := by decide +kernel
theorem dX11_areFalse_65 : decode cX11_areFalse 65 = .ok (.iinc 6 1, 3) := by decide +kernel
theorem dX11_areFalse_68 : decode cX11_areFalse 68 = .ok (.goto (-46), 3) := by decide +kernel
theorem dX11_areFalse_71 : decode cX11_areFalse 71 = .ok (.iinc 5 1, 3) := by decide +kernel
theorem dX11_areFalse_74 : decode cX11_areFalse 74 = .ok (.goto (-61), 3) := by decide +kernel
theorem dX11_areFalse_77 : decode cX11_areFalse 77 = .ok (.iload 4, 2) := by decide +kernel
theorem dX11_areFalse_79 : decode cX11_areFalse 79 = .ok (.ireturn, 1) := by decide +kernel
theorem dX11_falsePairs_0 : decode cX11_falsePairs 0 = .ok (.iconst 0, 1) := by decide +kernel
theorem dX11_falsePairs_1 : decode cX11_falsePairs 1 = .ok (.istore_n 1, 1) := by decide +kernel
theorem dX11_falsePairs_2 : decode cX11_falsePairs 2 = .ok (.iconst 0, 1) := by decide +kernel
theorem dX11_falsePairs_3 : decode cX11_falsePairs 3 = .ok (.istore_n 2, 1) := by decide +kernel
theorem dX11_falsePairs_4 : decode cX11_falsePairs 4 = .ok (.iload_n 2, 1) := by decide +kernel
theorem dX11_falsePairs_5 : decode cX11_falsePairs 5 = .ok (.aload_n 0, 1) := by decide +kernel
theorem dX11_falsePairs_6 : decode cX11_falsePairs 6 = .ok (.getfield 7, 3) := by decide +kernel
theorem dX11_falsePairs_9 : decode cX11_falsePairs 9 = .ok (.iconst 2, 1) := by decide +kernel
theorem dX11_falsePairs_10 : decode cX11_falsePairs 10 = .ok (.iaload, 1) := by decide +kernel
theorem dX11_falsePairs_11 : decode cX11_falsePairs 11 = .ok (.if_icmp .ge 46, 3) := by decide +kernel
theorem dX11_falsePairs_14 : decode cX11_falsePairs 14 = .ok (.iload_n 2, 1) := by decide +kernel
theorem dX11_falsePairs_15 : decode cX11_falsePairs 15 = .ok (.iconst 1, 1) := by decide +kernel
theorem dX11_falsePairs_16 : decode cX11_falsePairs 16 = .ok (.iadd, 1) := by decide +kernel
theorem dX11_falsePairs_17 : decode cX11_falsePairs 17 = .ok (.istore_n 3, 1) := by decide +kernel
theorem dX11_falsePairs_18 : decode cX11_falsePairs 18 = .ok (.iload_n 3, 1) := by decide +kernel
theorem dX11_falsePairs_19 : decode cX11_falsePairs 19 = .ok (.aload_n 0, 1) := by decide +kernel
theorem dX11_falsePairs_20 : decode cX11_falsePairs 20 = .ok (.getfield 7, 3) := by decide +kernel
theorem dX11_falsePairs_23 : decode cX11_falsePairs 23 = .ok (.iconst 2, 1) := by decide +kernel
theorem dX11_falsePairs_24 : decode cX11_falsePairs 24 = .ok (.iaload, 1) := by decide +kernel
theorem dX11_falsePairs_25 : decode cX11_falsePairs 25 = .ok (.if_icmp .ge 26, 3) := by decide +kernel
theorem dX11_falsePairs_28 : decode cX11_falsePairs 28 = .ok (.iload_n 1, 1) := by decide +kernel
theorem dX11_falsePairs_29 : decode cX11_falsePairs 29 = .ok (.aload_n 0, 1) := by decide +kernel
theorem dX11_falsePairs_30 : decode cX11_falsePairs 30 = .ok (.iload_n 2, 1) := by decide +kernel
theorem dX11_falsePairs_31 : decode cX11_falsePairs 31 = .ok (.iload_n 3, 1) := by decide +kernel
theorem dX11_falsePairs_32 : decode cX11_falsePairs 32 = .ok (.invokevirtual 161, 3) := by decide +kernel
theorem dX11_falsePairs_35 : decode cX11_falsePairs 35 = .ok (.ifCond .eq 7, 3) := by decide +kernel
theorem dX11_falsePairs_38 : decode cX11_falsePairs 38 = .ok (.iconst 1, 1) := by decide +kernel
theorem dX11_falsePairs_39 : decode cX11_falsePairs 39 = .ok (.goto 4, 3) := by decide +kernel
theorem dX11_falsePairs_42 : decode cX11_falsePairs 42 = .ok (.iconst 0, 1) := by decide +kernel
theorem dX11_falsePairs_43 : decode cX11_falsePairs 43 = .ok (.iadd, 1) := by decide +kernel
theorem dX11_falsePairs_44 : decode cX11_falsePairs 44 = .ok (.istore_n 1, 1) := by decide +kernel
theorem dX11_falsePairs_45 : decode cX11_falsePairs 45 = .ok (.iinc 3 1, 3) := by decide +kernel
theorem dX11_falsePairs_48 : decode cX11_falsePairs 48 = .ok (.goto (-30), 3) := by decide +kernel
theorem dX11_falsePairs_51 : decode cX11_falsePairs 51 = .ok (.iinc 2 1, 3) := by decide +kernel
theorem dX11_falsePairs_54 : decode cX11_falsePairs 54 = .ok (.goto (-50), 3) := by decide +kernel
theorem dX11_falsePairs_57 : decode cX11_falsePairs 57 = .ok (.iload_n 1, 1) := by decide +kernel
theorem dX11_falsePairs_58 : decode cX11_falsePairs 58 = .ok (.ireturn, 1) := by decide +kernel
theorem dX11_musical_0 : decode cX11_musical 0 = .ok (.iconst 0, 1) := by decide +kernel
theorem dX11_musical_1 : decode cX11_musical 1 = .ok (.istore_n 1, 1) := by decide +kernel
theorem dX11_musical_2 : decode cX11_musical 2 = .ok (.iconst 1, 1) := by decide +kernel
theorem dX11_musical_3 : decode cX11_musical 3 = .ok (.istore_n 2, 1) := by decide +kernel
theorem dX11_musical_4 : decode cX11_musical 4 = .ok (.iload_n 2, 1) := by decide +kernel
theorem dX11_musical_5 : decode cX11_musical 5 = .ok (.aload_n 0, 1) := by decide +kernel
theorem dX11_musical_6 : decode cX11_musical 6 = .ok (.getfield 65, 3) := by decide +kernel
theorem dX11_musical_9 : decode cX11_musical 9 = .ok (.if_icmp .gt 34, 3) := by decide +kernel
theorem dX11_musical_12 : decode cX11_musical 12 = .ok (.aload_n 0, 1) := by decide +kernel
theorem dX11_musical_13 : decode cX11_musical 13 = .ok (.aload_n 0, 1) := by decide +kernel
theorem dX11_musical_14 : decode cX11_musical 14 = .ok (.getfield 28, 3) := by decide +kernel
theorem dX11_musical_17 : decode cX11_musical 17 = .ok (.iload_n 2, 1) := by decide +kernel
theorem dX11_musical_18 : decode cX11_musical 18 = .ok (.iaload, 1) := by decide +kernel
theorem dX11_musical_19 : decode cX11_musical 19 = .ok (.invokevirtual 127, 3) := by decide +kernel
theorem dX11_musical_22 : decode cX11_musical 22 = .ok (.iload_n 1, 1) := by decide +kernel
theorem dX11_musical_23 : decode cX11_musical 23 = .ok (.aload_n 0, 1) := by decide +kernel
theorem dX11_musical_24 : decode cX11_musical 24 = .ok (.invokevirtual 136, 3) := by decide +kernel
theorem dX11_musical_27 : decode cX11_musical 27 = .ok (.ifCond .eq 7, 3) := by decide +kernel
theorem dX11_musical_30 : decode cX11_musical 30 = .ok (.iconst 1, 1) := by decide +kernel
theorem dX11_musical_31 : decode cX11_musical 31 = .ok (.goto 4, 3) := by decide +kernel
theorem dX11_musical_34 : decode cX11_musical 34 = .ok (.iconst 0, 1) := by decide +kernel
theorem dX11_musical_35 : decode cX11_musical 35 = .ok (.iadd, 1) := by decide +kernel
theorem dX11_musical_36 : decode cX11_musical 36 = .ok (.istore_n 1, 1) := by decide +kernel
theorem dX11_musical_37 : decode cX11_musical 37 = .ok (.iinc 2 1, 3) := by decide +kernel
theorem dX11_musical_40 : decode cX11_musical 40 = .ok (.goto (-36), 3) := by decide +kernel
theorem dX11_musical_43 : decode cX11_musical 43 = .ok (.iload_n 1, 1) := by decide +kernel
theorem dX11_musical_44 : decode cX11_musical 44 = .ok (.ireturn, 1) := by decide +kernel
theorem dX11_called_0 : decode cX11_called 0 = .ok (.iconst 0, 1) := by decide +kernel
theorem dX11_called_1 : decode cX11_called 1 = .ok (.istore_n 1, 1) := by decide +kernel
theorem dX11_called_2 : decode cX11_called 2 = .ok (.iconst 0, 1) := by decide +kernel
theorem dX11_called_3 : decode cX11_called 3 = .ok (.istore_n 2, 1) := by decide +kernel
theorem dX11_called_4 : decode cX11_called 4 = .ok (.iload_n 2, 1) := by decide +kernel
theorem dX11_called_5 : decode cX11_called 5 = .ok (.aload_n 0, 1) := by decide +kernel
theorem dX11_called_6 : decode cX11_called 6 = .ok (.getfield 7, 3) := by decide +kernel
theorem dX11_called_9 : decode cX11_called 9 = .ok (.iconst 2, 1) := by decide +kernel
theorem dX11_called_10 : decode cX11_called 10 = .ok (.iaload, 1) := by decide +kernel
theorem dX11_called_11 : decode cX11_called 11 = .ok (.if_icmp .ge 29, 3) := by decide +kernel
theorem dX11_called_14 : decode cX11_called 14 = .ok (.iload_n 1, 1) := by decide +kernel
theorem dX11_called_15 : decode cX11_called 15 = .ok (.aload_n 0, 1) := by decide +kernel
theorem dX11_called_16 : decode cX11_called 16 = .ok (.getfield 7, 3) := by decide +kernel
theorem dX11_called_19 : decode cX11_called 19 = .ok (.bipush 25, 2) := by decide +kernel
theorem dX11_called_21 : decode cX11_called 21 = .ok (.iload_n 2, 1) := by decide +kernel
theorem dX11_called_22 : decode cX11_called 22 = .ok (.iadd, 1) := by decide +kernel
theorem dX11_called_23 : decode cX11_called 23 = .ok (.iaload, 1) := by decide +kernel
theorem dX11_called_24 : decode cX11_called 24 = .ok (.ifCond .le 7, 3) := by decide +kernel
theorem dX11_called_27 : decode cX11_called 27 = .ok (.iconst 1, 1) := by decide +kernel
theorem dX11_called_28 : decode cX11_called 28 = .ok (.goto 4, 3) := by decide +kernel
theorem dX11_called_31 : decode cX11_called 31 = .ok (.iconst 0, 1) := by decide +kernel
theorem dX11_called_32 : decode cX11_called 32 = .ok (.iadd, 1) := by decide +kernel
theorem dX11_called_33 : decode cX11_called 33 = .ok (.istore_n 1, 1) := by decide +kernel
theorem dX11_called_34 : decode cX11_called 34 = .ok (.iinc 2 1, 3) := by decide +kernel
theorem dX11_called_37 : decode cX11_called 37 = .ok (.goto (-33), 3) := by decide +kernel
theorem dX11_called_40 : decode cX11_called 40 = .ok (.iload_n 1, 1) := by decide +kernel
theorem dX11_called_41 : decode cX11_called 41 = .ok (.ireturn, 1) := by decide +kernel
theorem dX11_plainCourse_0 : decode cX11_plainCourse 0 = .ok (.aload_n 0, 1) := by decide +kernel
theorem dX11_plainCourse_1 : decode cX11_plainCourse 1 = .ok (.invokevirtual 72, 3) := by decide +kernel
theorem dX11_plainCourse_4 : decode cX11_plainCourse 4 = .ok (.iconst 0, 1) := by decide +kernel
theorem dX11_plainCourse_5 : decode cX11_plainCourse 5 = .ok (.istore_n 1, 1) := by decide +kernel
theorem dX11_plainCourse_6 : decode cX11_plainCourse 6 = .ok (.iconst 1, 1) := by decide +kernel
theorem dX11_plainCourse_7 : decode cX11_plainCourse 7 = .ok (.istore_n 2, 1) := by decide +kernel
theorem dX11_plainCourse_8 : decode cX11_plainCourse 8 = .ok (.iload_n 2, 1) := by decide +kernel
theorem dX11_plainCourse_9 : decode cX11_plainCourse 9 = .ok (.ifCond .eq 44, 3) := by decide +kernel
theorem dX11_plainCourse_12 : decode cX11_plainCourse 12 = .ok (.iconst 0, 1) := by decide +kernel
theorem dX11_plainCourse_13 : decode cX11_plainCourse 13 = .ok (.istore_n 3, 1) := by decide +kernel
theorem dX11_plainCourse_14 : decode cX11_plainCourse 14 = .ok (.iload_n 3, 1) := by decide +kernel
theorem dX11_plainCourse_15 : decode cX11_plainCourse 15 = .ok (.aload_n 0, 1) := by decide +kernel
theorem dX11_plainCourse_16 : decode cX11_plainCourse 16 = .ok (.getfield 7, 3) := by decide +kernel
theorem dX11_plainCourse_19 : decode cX11_plainCourse 19 = .ok (.iconst 1, 1) := by decide +kernel
theorem dX11_plainCourse_20 : decode cX11_plainCourse 20 = .ok (.iaload, 1) := by decide +kernel
theorem dX11_plainCourse_21 : decode cX11_plainCourse 21 = .ok (.if_icmp .ge 21, 3) := by decide +kernel
theorem dX11_plainCourse_24 : decode cX11_plainCourse 24 = .ok (.aload_n 0, 1) := by decide +kernel
theorem dX11_plainCourse_25 : decode cX11_plainCourse 25 = .ok (.aload_n 0, 1) := by decide +kernel
theorem dX11_plainCourse_26 : decode cX11_plainCourse 26 = .ok (.getfield 7, 3) := by decide +kernel
theorem dX11_plainCourse_29 : decode cX11_plainCourse 29 = .ok (.iconst 5, 1) := by decide +kernel
theorem dX11_plainCourse_30 : decode cX11_plainCourse 30 = .ok (.iload_n 3, 1) := by decide +kernel
theorem dX11_plainCourse_31 : decode cX11_plainCourse 31 = .ok (.iadd, 1) := by decide +kernel
theorem dX11_plainCourse_32 : decode cX11_plainCourse 32 = .ok (.iaload, 1) := by decide +kernel
theorem dX11_plainCourse_33 : decode cX11_plainCourse 33 = .ok (.invokevirtual 62, 3) := by decide +kernel
theorem dX11_plainCourse_36 : decode cX11_plainCourse 36 = .ok (.iinc 3 1, 3) := by decide +kernel
theorem dX11_plainCourse_39 : decode cX11_plainCourse 39 = .ok (.goto (-25), 3) := by decide +kernel
theorem dX11_plainCourse_42 : decode cX11_plainCourse 42 = .ok (.aload_n 0, 1) := by decide +kernel
theorem dX11_plainCourse_43 : decode cX11_plainCourse 43 = .ok (.invokevirtual 68, 3) := by decide +kernel
theorem dX11_plainCourse_46 : decode cX11_plainCourse 46 = .ok (.istore_n 2, 1) := by decide +kernel
theorem dX11_plainCourse_47 : decode cX11_plainCourse 47 = .ok (.iinc 1 1, 3) := by decide +kernel
theorem dX11_plainCourse_50 : decode cX11_plainCourse 50 = .ok (.goto (-42), 3) := by decide +kernel
theorem dX11_plainCourse_53 : decode cX11_plainCourse 53 = .ok (.iload_n 1, 1) := by decide +kernel
theorem dX11_plainCourse_54 : decode cX11_plainCourse 54 = .ok (.ireturn, 1) := by decide +kernel
theorem dX11_count_0 : decode cX11_count 0 = .ok (.aload_n 0, 1) := by decide +kernel
theorem dX11_count_1 : decode cX11_count 1 = .ok (.bipush (-4), 2) := by decide +kernel
theorem dX11_count_3 : decode cX11_count 3 = .ok (.invokevirtual 124, 3) := by decide +kernel
theorem dX11_count_6 : decode cX11_count 6 = .ok (.iload_n 1, 1) := by decide +kernel
theorem dX11_count_7 : decode cX11_count 7 = .ok (.tableswitch 159 0 15 #[77, 77, 77, 84, 89, 94, 107, 112, 117, 122, 127, 132, 137, 137, 149, 154], 77) := by decide +kernel
theorem dX11_count_84 : decode cX11_count 84 = .ok (.aload_n 0, 1) := by decide +kernel
theorem dX11_count_85 : decode cX11_count 85 = .ok (.getfield 7, 3) := by decide +kernel
theorem dX11_count_88 : decode cX11_count 88 = .ok (.iload_n 1, 1) := by decide +kernel
theorem dX11_count_89 : decode cX11_count 89 = .ok (.iaload, 1) := by decide +kernel
theorem dX11_count_90 : decode cX11_count 90 = .ok (.ireturn, 1) := by decide +kernel
theorem dX11_count_91 : decode cX11_count 91 = .ok (.aload_n 0, 1) := by decide +kernel
theorem dX11_count_92 : decode cX11_count 92 = .ok (.invokevirtual 115, 3) := by decide +kernel
theorem dX11_count_95 : decode cX11_count 95 = .ok (.ireturn, 1) := by decide +kernel
theorem dX11_count_96 : decode cX11_count 96 = .ok (.aload_n 0, 1) := by decide +kernel
theorem dX11_count_97 : decode cX11_count 97 = .ok (.invokevirtual 164, 3) := by decide +kernel
theorem dX11_count_100 : decode cX11_count 100 = .ok (.ireturn, 1) := by decide +kernel
theorem dX11_count_101 : decode cX11_count 101 = .ok (.aload_n 0, 1) := by decide +kernel
theorem dX11_count_102 : decode cX11_count 102 = .ok (.invokevirtual 167, 3) := by decide +kernel
theorem dX11_count_105 : decode cX11_count 105 = .ok (.ifCond .ge 7, 3) := by decide +kernel
theorem dX11_count_108 : decode cX11_count 108 = .ok (.iconst 1, 1) := by decide +kernel
theorem dX11_count_109 : decode cX11_count 109 = .ok (.goto 4, 3) := by decide +kernel
theorem dX11_count_112 : decode cX11_count 112 = .ok (.iconst 0, 1) := by decide +kernel
theorem dX11_count_113 : decode cX11_count 113 = .ok (.ireturn, 1) := by decide +kernel
theorem dX11_count_114 : decode cX11_count 114 = .ok (.aload_n 0, 1) := by decide +kernel
theorem dX11_count_115 : decode cX11_count 115 = .ok (.invokevirtual 167, 3) := by decide +kernel
theorem dX11_count_118 : decode cX11_count 118 = .ok (.ireturn, 1) := by decide +kernel
theorem dX11_count_119 : decode cX11_count 119 = .ok (.aload_n 0, 1) := by decide +kernel
theorem dX11_count_120 : decode cX11_count 120 = .ok (.invokevirtual 170, 3) := by decide +kernel
theorem dX11_count_123 : decode cX11_count 123 = .ok (.ireturn, 1) := by decide +kernel
theorem dX11_count_124 : decode cX11_count 124 = .ok (.aload_n 0, 1) := by decide +kernel
theorem dX11_count_125 : decode cX11_count 125 = .ok (.invokevirtual 173, 3) := by decide +kernel
theorem dX11_count_128 : decode cX11_count 128 = .ok (.ireturn, 1) := by decide +kernel
theorem dX11_count_129 : decode cX11_count 129 = .ok (.aload_n 0, 1) := by decide +kernel
theorem dX11_count_130 : decode cX11_count 130 = .ok (.invokevirtual 176, 3) := by decide +kernel
theorem dX11_count_133 : decode cX11_count 133 = .ok (.ireturn, 1) := by decide +kernel
theorem dX11_count_134 : decode cX11_count 134 = .ok (.aload_n 0, 1) := by decide +kernel
theorem dX11_count_135 : decode cX11_count 135 = .ok (.invokevirtual 179, 3) := by decide +kernel
theorem dX11_count_138 : decode cX11_count 138 = .ok (.ireturn, 1) := by decide +kernel
theorem dX11_count_139 : decode cX11_count 139 = .ok (.aload_n 0, 1) := by decide +kernel
theorem dX11_count_140 : decode cX11_count 140 = .ok (.invokevirtual 182, 3) := by decide +kernel
theorem dX11_count_143 : decode cX11_count 143 = .ok (.ireturn, 1) := by decide +kernel
theorem dX11_count_144 : decode cX11_count 144 = .ok (.aload_n 0, 1) := by decide +kernel
theorem dX11_count_145 : decode cX11_count 145 = .ok (.getfield 7, 3) := by decide +kernel
theorem dX11_count_148 : decode cX11_count 148 = .ok (.iconst 2, 1) := by decide +kernel
theorem dX11_count_149 : decode cX11_count 149 = .ok (.iload_n 1, 1) := by decide +kernel
theorem dX11_count_150 : decode cX11_count 150 = .ok (.iadd, 1) := by decide +kernel
theorem dX11_count_151 : decode cX11_count 151 = .ok (.bipush 11, 2) := by decide +kernel
theorem dX11_count_153 : decode cX11_count 153 = .ok (.isub, 1) := by decide +kernel
theorem dX11_count_154 : decode cX11_count 154 = .ok (.iaload, 1) := by decide +kernel
theorem dX11_count_155 : decode cX11_count 155 = .ok (.ireturn, 1) := by decide +kernel
theorem dX11_count_156 : decode cX11_count 156 = .ok (.aload_n 0, 1) := by decide +kernel
theorem dX11_count_157 : decode cX11_count 157 = .ok (.getfield 84, 3) := by decide +kernel
theorem dX11_count_160 : decode cX11_count 160 = .ok (.ireturn, 1) := by decide +kernel
theorem dX11_count_161 : decode cX11_count 161 = .ok (.aload_n 0, 1) := by decide +kernel
theorem dX11_count_162 : decode cX11_count 162 = .ok (.getfield 50, 3) := by decide +kernel
theorem dX11_count_165 : decode cX11_count 165 = .ok (.ireturn, 1) := by decide +kernel
theorem dX11_count_166 : decode cX11_count 166 = .ok (.iconst (-1), 1) := by decide +kernel
theorem dX11_count_167 : decode cX11_count 167 = .ok (.ireturn, 1) := by decide +kernel
theorem dX11_music_0 : decode cX11_music 0 = .ok (.aload_n 0, 1) := by decide +kernel
theorem dX11_music_1 : decode cX11_music 1 = .ok (.bipush (-4), 2) := by decide +kernel
theorem dX11_music_3 : decode cX11_music 3 = .ok (.invokevirtual 124, 3) := by decide +kernel
theorem dX11_music_6 : decode cX11_music 6 = .ok (.aload_n 0, 1) := by decide +kernel
theorem dX11_music_7 : decode cX11_music 7 = .ok (.invokevirtual 176, 3) := by decide +kernel
theorem dX11_music_10 : decode cX11_music 10 = .ok (.i2d, 1) := by decide +kernel
theorem dX11_music_11 : decode cX11_music 11 = .ok (.dstore_n 1, 1) := by decide +kernel
theorem dX11_music_12 : decode cX11_music 12 = .ok (.aload_n 0, 1) := by decide +kernel
theorem dX11_music_13 : decode cX11_music 13 = .ok (.getfield 65, 3) := by decide +kernel
theorem dX11_music_16 : decode cX11_music 16 = .ok (.ifCond .ne 7, 3) := by decide +kernel
theorem dX11_music_19 : decode cX11_music 19 = .ok (.dconst 0, 1) := by decide +kernel
theorem dX11_music_20 : decode cX11_music 20 = .ok (.goto 10, 3) := by decide +kernel
theorem dX11_music_23 : decode cX11_music 23 = .ok (.dload_n 1, 1) := by decide +kernel
theorem dX11_music_24 : decode cX11_music 24 = .ok (.aload_n 0, 1) := by decide +kernel
theorem dX11_music_25 : decode cX11_music 25 = .ok (.getfield 65, 3) := by decide +kernel
theorem dX11_music_28 : decode cX11_music 28 = .ok (.i2d, 1) := by decide +kernel
theorem dX11_music_29 : decode cX11_music 29 = .ok (.ddiv, 1) := by decide +kernel
theorem dX11_music_30 : decode cX11_music 30 = .ok (.dreturn, 1) := by decide +kernel
theorem dX11_takesLeads_0 : decode cX11_takesLeads 0 = .ok (.iconst 0, 1) := by decide +kernel
theorem dX11_takesLeads_1 : decode cX11_takesLeads 1 = .ok (.istore_n 1, 1) := by decide +kernel
theorem dX11_takesLeads_2 : decode cX11_takesLeads 2 = .ok (.iload_n 1, 1) := by decide +kernel
theorem dX11_takesLeads_3 : decode cX11_takesLeads 3 = .ok (.iconst 3, 1) := by decide +kernel
theorem dX11_takesLeads_4 : decode cX11_takesLeads 4 = .ok (.if_icmp .ge 76, 3) := by decide +kernel
theorem dX11_takesLeads_7 : decode cX11_takesLeads 7 = .ok (.aload_n 0, 1) := by decide +kernel
theorem dX11_takesLeads_8 : decode cX11_takesLeads 8 = .ok (.invokevirtual 72, 3) := by decide +kernel
theorem dX11_takesLeads_11 : decode cX11_takesLeads 11 = .ok (.iconst 0, 1) := by decide +kernel
theorem dX11_takesLeads_12 : decode cX11_takesLeads 12 = .ok (.istore_n 2, 1) := by decide +kernel
theorem dX11_takesLeads_13 : decode cX11_takesLeads 13 = .ok (.iload_n 2, 1) := by decide +kernel
theorem dX11_takesLeads_14 : decode cX11_takesLeads 14 = .ok (.aload_n 0, 1) := by decide +kernel
theorem dX11_takesLeads_15 : decode cX11_takesLeads 15 = .ok (.getfield 7, 3) := by decide +kernel
theorem dX11_takesLeads_18 : decode cX11_takesLeads 18 = .ok (.iconst 1, 1) := by decide +kernel
theorem dX11_takesLeads_19 : decode cX11_takesLeads 19 = .ok (.iaload, 1) := by decide +kernel
theorem dX11_takesLeads_20 : decode cX11_takesLeads 20 = .ok (.if_icmp .ge 19, 3) := by decide +kernel
theorem dX11_takesLeads_23 : decode cX11_takesLeads 23 = .ok (.aload_n 0, 1) := by decide +kernel
theorem dX11_takesLeads_24 : decode cX11_takesLeads 24 = .ok (.aload_n 0, 1) := by decide +kernel
theorem dX11_takesLeads_25 : decode cX11_takesLeads 25 = .ok (.iload_n 1, 1) := by decide +kernel
theorem dX11_takesLeads_26 : decode cX11_takesLeads 26 = .ok (.iload_n 2, 1) := by decide +kernel
theorem dX11_takesLeads_27 : decode cX11_takesLeads 27 = .ok (.invokevirtual 58, 3) := by decide +kernel
theorem dX11_takesLeads_30 : decode cX11_takesLeads 30 = .ok (.invokevirtual 62, 3) := by decide +kernel
theorem dX11_takesLeads_33 : decode cX11_takesLeads 33 = .ok (.iinc 2 1, 3) := by decide +kernel
theorem dX11_takesLeads_36 : decode cX11_takesLeads 36 = .ok (.goto (-23), 3) := by decide +kernel
theorem dX11_takesLeads_39 : decode cX11_takesLeads 39 = .ok (.iconst 0, 1) := by decide +kernel
theorem dX11_takesLeads_40 : decode cX11_takesLeads 40 = .ok (.istore_n 2, 1) := by decide +kernel
theorem dX11_takesLeads_41 : decode cX11_takesLeads 41 = .ok (.iload_n 2, 1) := by decide +kernel
theorem dX11_takesLeads_42 : decode cX11_takesLeads 42 = .ok (.aload_n 0, 1) := by decide +kernel
theorem dX11_takesLeads_43 : decode cX11_takesLeads 43 = .ok (.getfield 7, 3) := by decide +kernel
theorem dX11_takesLeads_46 : decode cX11_takesLeads 46 = .ok (.iconst 0, 1) := by decide +kernel
theorem dX11_takesLeads_47 : decode cX11_takesLeads 47 = .ok (.iaload, 1) := by decide +kernel
theorem dX11_takesLeads_48 : decode cX11_takesLeads 48 = .ok (.if_icmp .ge 26, 3) := by decide +kernel
theorem dX11_takesLeads_51 : decode cX11_takesLeads 51 = .ok (.aload_n 0, 1) := by decide +kernel
theorem dX11_takesLeads_52 : decode cX11_takesLeads 52 = .ok (.getfield 37, 3) := by decide +kernel
theorem dX11_takesLeads_55 : decode cX11_takesLeads 55 = .ok (.bipush 7, 2) := by decide +kernel
theorem dX11_takesLeads_57 : decode cX11_takesLeads 57 = .ok (.iload_n 1, 1) := by decide +kernel
theorem dX11_takesLeads_58 : decode cX11_takesLeads 58 = .ok (.imul, 1) := by decide +kernel
theorem dX11_takesLeads_59 : decode cX11_takesLeads 59 = .ok (.iload_n 2, 1) := by decide +kernel
theorem dX11_takesLeads_60 : decode cX11_takesLeads 60 = .ok (.iadd, 1) := by decide +kernel
theorem dX11_takesLeads_61 : decode cX11_takesLeads 61 = .ok (.aload_n 0, 1) := by decide +kernel
theorem dX11_takesLeads_62 : decode cX11_takesLeads 62 = .ok (.getfield 22, 3) := by decide +kernel
theorem dX11_takesLeads_65 : decode cX11_takesLeads 65 = .ok (.iload_n 2, 1) := by decide +kernel
theorem dX11_takesLeads_66 : decode cX11_takesLeads 66 = .ok (.iaload, 1) := by decide +kernel
theorem dX11_takesLeads_67 : decode cX11_takesLeads 67 = .ok (.iastore, 1) := by decide +kernel
theorem dX11_takesLeads_68 : decode cX11_takesLeads 68 = .ok (.iinc 2 1, 3) := by decide +kernel
theorem dX11_takesLeads_71 : decode cX11_takesLeads 71 = .ok (.goto (-30), 3) := by decide +kernel
theorem dX11_takesLeads_74 : decode cX11_takesLeads 74 = .ok (.iinc 1 1, 3) := by decide +kernel
theorem dX11_takesLeads_77 : decode cX11_takesLeads 77 = .ok (.goto (-75), 3) := by decide +kernel
theorem dX11_takesLeads_80 : decode cX11_takesLeads 80 = .ok (.return_, 1) := by decide +kernel
theorem dX11_moved_0 : decode cX11_moved 0 = .ok (.aload_n 0, 1) := by decide +kernel
theorem dX11_moved_1 : decode cX11_moved 1 = .ok (.iload_n 1, 1) := by decide +kernel
theorem dX11_moved_2 : decode cX11_moved 2 = .ok (.invokevirtual 127, 3) := by decide +kernel
theorem dX11_moved_5 : decode cX11_moved 5 = .ok (.iconst 0, 1) := by decide +kernel
theorem dX11_moved_6 : decode cX11_moved 6 = .ok (.istore 4, 2) := by decide +kernel
theorem dX11_moved_8 : decode cX11_moved 8 = .ok (.iload 4, 2) := by decide +kernel
theorem dX11_moved_10 : decode cX11_moved 10 = .ok (.aload_n 0, 1) := by decide +kernel
theorem dX11_moved_11 : decode cX11_moved 11 = .ok (.getfield 7, 3) := by decide +kernel
theorem dX11_moved_14 : decode cX11_moved 14 = .ok (.iconst 0, 1) := by decide +kernel
theorem dX11_moved_15 : decode cX11_moved 15 = .ok (.iaload, 1) := by decide +kernel
theorem dX11_moved_16 : decode cX11_moved 16 = .ok (.if_icmp .ge 23, 3) := by decide +kernel
theorem dX11_moved_19 : decode cX11_moved 19 = .ok (.aload_n 0, 1) := by decide +kernel
theorem dX11_moved_20 : decode cX11_moved 20 = .ok (.getfield 25, 3) := by decide +kernel
theorem dX11_moved_23 : decode cX11_moved 23 = .ok (.iload 4, 2) := by decide +kernel
theorem dX11_moved_25 : decode cX11_moved 25 = .ok (.aload_n 0, 1) := by decide +kernel
theorem dX11_moved_26 : decode cX11_moved 26 = .ok (.getfield 22, 3) := by decide +kernel
theorem dX11_moved_29 : decode cX11_moved 29 = .ok (.iload 4, 2) := by decide +kernel
theorem dX11_moved_31 : decode cX11_moved 31 = .ok (.iaload, 1) := by decide +kernel
theorem dX11_moved_32 : decode cX11_moved 32 = .ok (.iastore, 1) := by decide +kernel
theorem dX11_moved_33 : decode cX11_moved 33 = .ok (.iinc 4 1, 3) := by decide +kernel
theorem dX11_moved_36 : decode cX11_moved 36 = .ok (.goto (-28), 3) := by decide +kernel
theorem dX11_moved_39 : decode cX11_moved 39 = .ok (.iconst 0, 1) := by decide +kernel
theorem dX11_moved_40 : decode cX11_moved 40 = .ok (.istore 4, 2) := by decide +kernel
theorem dX11_moved_42 : decode cX11_moved 42 = .ok (.iload 4, 2) := by decide +kernel
theorem dX11_moved_44 : decode cX11_moved 44 = .ok (.aload_n 0, 1) := by decide +kernel
theorem dX11_moved_45 : decode cX11_moved 45 = .ok (.getfield 7, 3) := by decide +kernel
theorem dX11_moved_48 : decode cX11_moved 48 = .ok (.iconst 0, 1) := by decide +kernel
theorem dX11_moved_49 : decode cX11_moved 49 = .ok (.iaload, 1) := by decide +kernel
theorem dX11_moved_50 : decode cX11_moved 50 = .ok (.if_icmp .ge 58, 3) := by decide +kernel
theorem dX11_moved_53 : decode cX11_moved 53 = .ok (.aload_n 0, 1) := by decide +kernel
theorem dX11_moved_54 : decode cX11_moved 54 = .ok (.getfield 37, 3) := by decide +kernel
theorem dX11_moved_57 : decode cX11_moved 57 = .ok (.bipush 7, 2) := by decide +kernel
theorem dX11_moved_59 : decode cX11_moved 59 = .ok (.iload_n 2, 1) := by decide +kernel
theorem dX11_moved_60 : decode cX11_moved 60 = .ok (.imul, 1) := by decide +kernel
theorem dX11_moved_61 : decode cX11_moved 61 = .ok (.iload 4, 2) := by decide +kernel
theorem dX11_moved_63 : decode cX11_moved 63 = .ok (.iadd, 1) := by decide +kernel
theorem dX11_moved_64 : decode cX11_moved 64 = .ok (.iaload, 1) := by decide +kernel
theorem dX11_moved_65 : decode cX11_moved 65 = .ok (.istore 5, 2) := by decide +kernel
theorem dX11_moved_67 : decode cX11_moved 67 = .ok (.iload_n 3, 1) := by decide +kernel
theorem dX11_moved_68 : decode cX11_moved 68 = .ok (.ifCond .eq 20, 3) := by decide +kernel
theorem dX11_moved_71 : decode cX11_moved 71 = .ok (.aload_n 0, 1) := by decide +kernel
theorem dX11_moved_72 : decode cX11_moved 72 = .ok (.getfield 22, 3) := by decide +kernel
theorem dX11_moved_75 : decode cX11_moved 75 = .ok (.iload 5, 2) := by decide +kernel
theorem dX11_moved_77 : decode cX11_moved 77 = .ok (.aload_n 0, 1) := by decide +kernel
theorem dX11_moved_78 : decode cX11_moved 78 = .ok (.getfield 25, 3) := by decide +kernel
theorem dX11_moved_81 : decode cX11_moved 81 = .ok (.iload 4, 2) := by decide +kernel
theorem dX11_moved_83 : decode cX11_moved 83 = .ok (.iaload, 1) := by decide +kernel
theorem dX11_moved_84 : decode cX11_moved 84 = .ok (.iastore, 1) := by decide +kernel
theorem dX11_moved_85 : decode cX11_moved 85 = .ok (.goto 17, 3) := by decide +kernel
theorem dX11_moved_88 : decode cX11_moved 88 = .ok (.aload_n 0, 1) := by decide +kernel
theorem dX11_moved_89 : decode cX11_moved 89 = .ok (.getfield 22, 3) := by decide +kernel
theorem dX11_moved_92 : decode cX11_moved 92 = .ok (.iload 4, 2) := by decide +kernel
theorem dX11_moved_94 : decode cX11_moved 94 = .ok (.aload_n 0, 1) := by decide +kernel
theorem dX11_moved_95 : decode cX11_moved 95 = .ok (.getfield 25, 3) := by decide +kernel
theorem dX11_moved_98 : decode cX11_moved 98 = .ok (.iload 5, 2) := by decide +kernel
theorem dX11_moved_100 : decode cX11_moved 100 = .ok (.iaload, 1) := by decide +kernel
theorem dX11_moved_101 : decode cX11_moved 101 = .ok (.iastore, 1) := by decide +kernel
theorem dX11_moved_102 : decode cX11_moved 102 = .ok (.iinc 4 1, 3) := by decide +kernel
theorem dX11_moved_105 : decode cX11_moved 105 = .ok (.goto (-63), 3) := by decide +kernel
theorem dX11_moved_108 : decode cX11_moved 108 = .ok (.aload_n 0, 1) := by decide +kernel
theorem dX11_moved_109 : decode cX11_moved 109 = .ok (.invokevirtual 68, 3) := by decide +kernel
theorem dX11_moved_112 : decode cX11_moved 112 = .ok (.ireturn, 1) := by decide +kernel
theorem dX11_spreadsFrom_0 : decode cX11_spreadsFrom 0 = .ok (.aload_n 0, 1) := by decide +kernel
theorem dX11_spreadsFrom_1 : decode cX11_spreadsFrom 1 = .ok (.invokevirtual 185, 3) := by decide +kernel
theorem dX11_spreadsFrom_4 : decode cX11_spreadsFrom 4 = .ok (.iconst 0, 1) := by decide +kernel
theorem dX11_spreadsFrom_5 : decode cX11_spreadsFrom 5 = .ok (.istore_n 3, 1) := by decide +kernel
theorem dX11_spreadsFrom_6 : decode cX11_spreadsFrom 6 = .ok (.iload_n 3, 1) := by decide +kernel
theorem dX11_spreadsFrom_7 : decode cX11_spreadsFrom 7 = .ok (.sipush 5040, 3) := by decide +kernel
theorem dX11_spreadsFrom_10 : decode cX11_spreadsFrom 10 = .ok (.if_icmp .ge 17, 3) := by decide +kernel
theorem dX11_spreadsFrom_13 : decode cX11_spreadsFrom 13 = .ok (.aload_n 0, 1) := by decide +kernel
theorem dX11_spreadsFrom_14 : decode cX11_spreadsFrom 14 = .ok (.getfield 40, 3) := by decide +kernel
theorem dX11_spreadsFrom_17 : decode cX11_spreadsFrom 17 = .ok (.iload_n 3, 1) := by decide +kernel
theorem dX11_spreadsFrom_18 : decode cX11_spreadsFrom 18 = .ok (.bipush (-4), 2) := by decide +kernel
theorem dX11_spreadsFrom_20 : decode cX11_spreadsFrom 20 = .ok (.iastore, 1) := by decide +kernel
theorem dX11_spreadsFrom_21 : decode cX11_spreadsFrom 21 = .ok (.iinc 3 1, 3) := by decide +kernel
theorem dX11_spreadsFrom_24 : decode cX11_spreadsFrom 24 = .ok (.goto (-18), 3) := by decide +kernel
theorem dX11_spreadsFrom_27 : decode cX11_spreadsFrom 27 = .ok (.aload_n 0, 1) := by decide +kernel
theorem dX11_spreadsFrom_28 : decode cX11_spreadsFrom 28 = .ok (.getfield 40, 3) := by decide +kernel
theorem dX11_spreadsFrom_31 : decode cX11_spreadsFrom 31 = .ok (.iload_n 1, 1) := by decide +kernel
theorem dX11_spreadsFrom_32 : decode cX11_spreadsFrom 32 = .ok (.iconst 0, 1) := by decide +kernel
theorem dX11_spreadsFrom_33 : decode cX11_spreadsFrom 33 = .ok (.iastore, 1) := by decide +kernel
theorem dX11_spreadsFrom_34 : decode cX11_spreadsFrom 34 = .ok (.aload_n 0, 1) := by decide +kernel
theorem dX11_spreadsFrom_35 : decode cX11_spreadsFrom 35 = .ok (.getfield 43, 3) := by decide +kernel
theorem dX11_spreadsFrom_38 : decode cX11_spreadsFrom 38 = .ok (.iconst 0, 1) := by decide +kernel
theorem dX11_spreadsFrom_39 : decode cX11_spreadsFrom 39 = .ok (.iload_n 1, 1) := by decide +kernel
theorem dX11_spreadsFrom_40 : decode cX11_spreadsFrom 40 = .ok (.iastore, 1) := by decide +kernel
theorem dX11_spreadsFrom_41 : decode cX11_spreadsFrom 41 = .ok (.iconst 1, 1) := by decide +kernel
theorem dX11_spreadsFrom_42 : decode cX11_spreadsFrom 42 = .ok (.istore_n 3, 1) := by decide +kernel
theorem dX11_spreadsFrom_43 : decode cX11_spreadsFrom 43 = .ok (.iconst 0, 1) := by decide +kernel
theorem dX11_spreadsFrom_44 : decode cX11_spreadsFrom 44 = .ok (.istore 4, 2) := by decide +kernel
theorem dX11_spreadsFrom_46 : decode cX11_spreadsFrom 46 = .ok (.iload 4, 2) := by decide +kernel
theorem dX11_spreadsFrom_48 : decode cX11_spreadsFrom 48 = .ok (.iload_n 3, 1) := by decide +kernel
theorem dX11_spreadsFrom_49 : decode cX11_spreadsFrom 49 = .ok (.if_icmp .ge 82, 3) := by decide +kernel
theorem dX11_spreadsFrom_52 : decode cX11_spreadsFrom 52 = .ok (.iconst 0, 1) := by decide +kernel
theorem dX11_spreadsFrom_53 : decode cX11_spreadsFrom 53 = .ok (.istore 5, 2) := by decide +kernel
theorem dX11_spreadsFrom_55 : decode cX11_spreadsFrom 55 = .ok (.iload 5, 2) := by decide +kernel
theorem dX11_spreadsFrom_57 : decode cX11_spreadsFrom 57 = .ok (.iconst 3, 1) := by decide +kernel
theorem dX11_spreadsFrom_58 : decode cX11_spreadsFrom 58 = .ok (.if_icmp .ge 67, 3) := by decide +kernel
theorem dX11_spreadsFrom_61 : decode cX11_spreadsFrom 61 = .ok (.aload_n 0, 1) := by decide +kernel
theorem dX11_spreadsFrom_62 : decode cX11_spreadsFrom 62 = .ok (.aload_n 0, 1) := by decide +kernel
theorem dX11_spreadsFrom_63 : decode cX11_spreadsFrom 63 = .ok (.getfield 43, 3) := by decide +kernel
theorem dX11_spreadsFrom_66 : decode cX11_spreadsFrom 66 = .ok (.iload 4, 2) := by decide +kernel
theorem dX11_spreadsFrom_68 : decode cX11_spreadsFrom 68 = .ok (.iaload, 1) := by decide +kernel
theorem dX11_spreadsFrom_69 : decode cX11_spreadsFrom 69 = .ok (.iload 5, 2) := by decide +kernel
theorem dX11_spreadsFrom_71 : decode cX11_spreadsFrom 71 = .ok (.iload_n 2, 1) := by decide +kernel
theorem dX11_spreadsFrom_72 : decode cX11_spreadsFrom 72 = .ok (.invokevirtual 188, 3) := by decide +kernel
theorem dX11_spreadsFrom_75 : decode cX11_spreadsFrom 75 = .ok (.istore 6, 2) := by decide +kernel
theorem dX11_spreadsFrom_77 : decode cX11_spreadsFrom 77 = .ok (.aload_n 0, 1) := by decide +kernel
theorem dX11_spreadsFrom_78 : decode cX11_spreadsFrom 78 = .ok (.getfield 40, 3) := by decide +kernel
theorem dX11_spreadsFrom_81 : decode cX11_spreadsFrom 81 = .ok (.iload 6, 2) := by decide +kernel
theorem dX11_spreadsFrom_83 : decode cX11_spreadsFrom 83 = .ok (.iaload, 1) := by decide +kernel
theorem dX11_spreadsFrom_84 : decode cX11_spreadsFrom 84 = .ok (.ifCond .ge 35, 3) := by decide +kernel
theorem dX11_spreadsFrom_87 : decode cX11_spreadsFrom 87 = .ok (.aload_n 0, 1) := by decide +kernel
theorem dX11_spreadsFrom_88 : decode cX11_spreadsFrom 88 = .ok (.getfield 40, 3) := by decide +kernel
theorem dX11_spreadsFrom_91 : decode cX11_spreadsFrom 91 = .ok (.iload 6, 2) := by decide +kernel
theorem dX11_spreadsFrom_93 : decode cX11_spreadsFrom 93 = .ok (.aload_n 0, 1) := by decide +kernel
theorem dX11_spreadsFrom_94 : decode cX11_spreadsFrom 94 = .ok (.getfield 40, 3) := by decide +kernel
theorem dX11_spreadsFrom_97 : decode cX11_spreadsFrom 97 = .ok (.aload_n 0, 1) := by decide +kernel
theorem dX11_spreadsFrom_98 : decode cX11_spreadsFrom 98 = .ok (.getfield 43, 3) := by decide +kernel
theorem dX11_spreadsFrom_101 : decode cX11_spreadsFrom 101 = .ok (.iload 4, 2) := by decide +kernel
theorem dX11_spreadsFrom_103 : decode cX11_spreadsFrom 103 = .ok (.iaload, 1) := by decide +kernel
theorem dX11_spreadsFrom_104 : decode cX11_spreadsFrom 104 = .ok (.iaload, 1) := by decide +kernel
theorem dX11_spreadsFrom_105 : decode cX11_spreadsFrom 105 = .ok (.iconst 1, 1) := by decide +kernel
theorem dX11_spreadsFrom_106 : decode cX11_spreadsFrom 106 = .ok (.iadd, 1) := by decide +kernel
theorem dX11_spreadsFrom_107 : decode cX11_spreadsFrom 107 = .ok (.iastore, 1) := by decide +kernel
theorem dX11_spreadsFrom_108 : decode cX11_spreadsFrom 108 = .ok (.aload_n 0, 1) := by decide +kernel
theorem dX11_spreadsFrom_109 : decode cX11_spreadsFrom 109 = .ok (.getfield 43, 3) := by decide +kernel
theorem dX11_spreadsFrom_112 : decode cX11_spreadsFrom 112 = .ok (.iload_n 3, 1) := by decide +kernel
theorem dX11_spreadsFrom_113 : decode cX11_spreadsFrom 113 = .ok (.iload 6, 2) := by decide +kernel
theorem dX11_spreadsFrom_115 : decode cX11_spreadsFrom 115 = .ok (.iastore, 1) := by decide +kernel
theorem dX11_spreadsFrom_116 : decode cX11_spreadsFrom 116 = .ok (.iinc 3 1, 3) := by decide +kernel
theorem dX11_spreadsFrom_119 : decode cX11_spreadsFrom 119 = .ok (.iinc 5 1, 3) := by decide +kernel
theorem dX11_spreadsFrom_122 : decode cX11_spreadsFrom 122 = .ok (.goto (-67), 3) := by decide +kernel
theorem dX11_spreadsFrom_125 : decode cX11_spreadsFrom 125 = .ok (.iinc 4 1, 3) := by decide +kernel
theorem dX11_spreadsFrom_128 : decode cX11_spreadsFrom 128 = .ok (.goto (-82), 3) := by decide +kernel
theorem dX11_spreadsFrom_131 : decode cX11_spreadsFrom 131 = .ok (.return_, 1) := by decide +kernel
theorem dX11_spreads_0 : decode cX11_spreads 0 = .ok (.aload_n 0, 1) := by decide +kernel
theorem dX11_spreads_1 : decode cX11_spreads 1 = .ok (.iconst 0, 1) := by decide +kernel
theorem dX11_spreads_2 : decode cX11_spreads 2 = .ok (.iconst 1, 1) := by decide +kernel
theorem dX11_spreads_3 : decode cX11_spreads 3 = .ok (.invokevirtual 192, 3) := by decide +kernel
theorem dX11_spreads_6 : decode cX11_spreads 6 = .ok (.return_, 1) := by decide +kernel
theorem dX11_home_0 : decode cX11_home 0 = .ok (.iload_n 1, 1) := by decide +kernel
theorem dX11_home_1 : decode cX11_home 1 = .ok (.iconst 0, 1) := by decide +kernel
theorem dX11_home_2 : decode cX11_home 2 = .ok (.iconst 1, 1) := by decide +kernel
theorem dX11_home_3 : decode cX11_home 3 = .ok (.invokestatic 54, 3) := by decide +kernel
theorem dX11_home_6 : decode cX11_home 6 = .ok (.ifCond .ne 5, 3) := by decide +kernel
theorem dX11_home_9 : decode cX11_home 9 = .ok (.iconst (-1), 1) := by decide +kernel
theorem dX11_home_10 : decode cX11_home 10 = .ok (.ireturn, 1) := by decide +kernel
theorem dX11_home_11 : decode cX11_home 11 = .ok (.aload_n 0, 1) := by decide +kernel
theorem dX11_home_12 : decode cX11_home 12 = .ok (.bipush (-4), 2) := by decide +kernel
theorem dX11_home_14 : decode cX11_home 14 = .ok (.invokevirtual 124, 3) := by decide +kernel
theorem dX11_home_17 : decode cX11_home 17 = .ok (.aload_n 0, 1) := by decide +kernel
theorem dX11_home_18 : decode cX11_home 18 = .ok (.getfield 28, 3) := by decide +kernel
theorem dX11_home_21 : decode cX11_home 21 = .ok (.aload_n 0, 1) := by decide +kernel
theorem dX11_home_22 : decode cX11_home 22 = .ok (.getfield 65, 3) := by decide +kernel
theorem dX11_home_25 : decode cX11_home 25 = .ok (.iaload, 1) := by decide +kernel
theorem dX11_home_26 : decode cX11_home 26 = .ok (.istore_n 2, 1) := by decide +kernel
theorem dX11_home_27 : decode cX11_home 27 = .ok (.aload_n 0, 1) := by decide +kernel
theorem dX11_home_28 : decode cX11_home 28 = .ok (.iload_n 1, 1) := by decide +kernel
theorem dX11_home_29 : decode cX11_home 29 = .ok (.ifCond .ne 7, 3) := by decide +kernel
theorem dX11_home_32 : decode cX11_home 32 = .ok (.iconst 0, 1) := by decide +kernel
theorem dX11_home_33 : decode cX11_home 33 = .ok (.goto 4, 3) := by decide +kernel
theorem dX11_home_36 : decode cX11_home 36 = .ok (.iload_n 2, 1) := by decide +kernel
theorem dX11_home_37 : decode cX11_home 37 = .ok (.iload_n 1, 1) := by decide +kernel
theorem dX11_home_38 : decode cX11_home 38 = .ok (.ifCond .ne 7, 3) := by decide +kernel
theorem dX11_home_41 : decode cX11_home 41 = .ok (.iconst 1, 1) := by decide +kernel
theorem dX11_home_42 : decode cX11_home 42 = .ok (.goto 4, 3) := by decide +kernel
theorem dX11_home_45 : decode cX11_home 45 = .ok (.iconst 0, 1) := by decide +kernel
theorem dX11_home_46 : decode cX11_home 46 = .ok (.invokevirtual 192, 3) := by decide +kernel
theorem dX11_home_49 : decode cX11_home 49 = .ok (.aload_n 0, 1) := by decide +kernel
theorem dX11_home_50 : decode cX11_home 50 = .ok (.getfield 40, 3) := by decide +kernel
theorem dX11_home_53 : decode cX11_home 53 = .ok (.iload_n 1, 1) := by decide +kernel
theorem dX11_home_54 : decode cX11_home 54 = .ok (.ifCond .ne 7, 3) := by decide +kernel
theorem dX11_home_57 : decode cX11_home 57 = .ok (.iload_n 2, 1) := by decide +kernel
theorem dX11_home_58 : decode cX11_home 58 = .ok (.goto 4, 3) := by decide +kernel
theorem dX11_home_61 : decode cX11_home 61 = .ok (.iconst 0, 1) := by decide +kernel
theorem dX11_home_62 : decode cX11_home 62 = .ok (.iaload, 1) := by decide +kernel
theorem dX11_home_63 : decode cX11_home 63 = .ok (.ireturn, 1) := by decide +kernel
theorem dX11_homeCall_0 : decode cX11_homeCall 0 = .ok (.iload_n 1, 1) := by decide +kernel
theorem dX11_homeCall_1 : decode cX11_homeCall 1 = .ok (.ifCond .ge 5, 3) := by decide +kernel
theorem dX11_homeCall_4 : decode cX11_homeCall 4 = .ok (.iconst (-1), 1) := by decide +kernel
theorem dX11_homeCall_5 : decode cX11_homeCall 5 = .ok (.ireturn, 1) := by decide +kernel
theorem dX11_homeCall_6 : decode cX11_homeCall 6 = .ok (.aload_n 0, 1) := by decide +kernel
theorem dX11_homeCall_7 : decode cX11_homeCall 7 = .ok (.bipush (-4), 2) := by decide +kernel
theorem dX11_homeCall_9 : decode cX11_homeCall 9 = .ok (.invokevirtual 124, 3) := by decide +kernel
theorem dX11_homeCall_12 : decode cX11_homeCall 12 = .ok (.aload_n 0, 1) := by decide +kernel
theorem dX11_homeCall_13 : decode cX11_homeCall 13 = .ok (.invokevirtual 145, 3) := by decide +kernel
theorem dX11_homeCall_16 : decode cX11_homeCall 16 = .ok (.aload_n 0, 1) := by decide +kernel
theorem dX11_homeCall_17 : decode cX11_homeCall 17 = .ok (.getfield 28, 3) := by decide +kernel
theorem dX11_homeCall_20 : decode cX11_homeCall 20 = .ok (.aload_n 0, 1) := by decide +kernel
theorem dX11_homeCall_21 : decode cX11_homeCall 21 = .ok (.getfield 65, 3) := by decide +kernel
theorem dX11_homeCall_24 : decode cX11_homeCall 24 = .ok (.iaload, 1) := by decide +kernel
theorem dX11_homeCall_25 : decode cX11_homeCall 25 = .ok (.istore_n 2, 1) := by decide +kernel
theorem dX11_homeCall_26 : decode cX11_homeCall 26 = .ok (.iload_n 1, 1) := by decide +kernel
theorem dX11_homeCall_27 : decode cX11_homeCall 27 = .ok (.aload_n 0, 1) := by decide +kernel
theorem dX11_homeCall_28 : decode cX11_homeCall 28 = .ok (.getfield 40, 3) := by decide +kernel
theorem dX11_homeCall_31 : decode cX11_homeCall 31 = .ok (.iload_n 2, 1) := by decide +kernel
theorem dX11_homeCall_32 : decode cX11_homeCall 32 = .ok (.iaload, 1) := by decide +kernel
theorem dX11_homeCall_33 : decode cX11_homeCall 33 = .ok (.if_icmp .lt 6, 3) := by decide +kernel
theorem dX11_homeCall_36 : decode cX11_homeCall 36 = .ok (.bipush (-4), 2) := by decide +kernel
theorem dX11_homeCall_38 : decode cX11_homeCall 38 = .ok (.ireturn, 1) := by decide +kernel
theorem dX11_homeCall_39 : decode cX11_homeCall 39 = .ok (.iconst 0, 1) := by decide +kernel
theorem dX11_homeCall_40 : decode cX11_homeCall 40 = .ok (.istore_n 3, 1) := by decide +kernel
theorem dX11_homeCall_41 : decode cX11_homeCall 41 = .ok (.iconst 0, 1) := by decide +kernel
theorem dX11_homeCall_42 : decode cX11_homeCall 42 = .ok (.istore 4, 2) := by decide +kernel
theorem dX11_homeCall_44 : decode cX11_homeCall 44 = .ok (.iload 4, 2) := by decide +kernel
theorem dX11_homeCall_46 : decode cX11_homeCall 46 = .ok (.iload_n 1, 1) := by decide +kernel
theorem dX11_homeCall_47 : decode cX11_homeCall 47 = .ok (.if_icmp .gt 56, 3) := by decide +kernel
theorem dX11_homeCall_50 : decode cX11_homeCall 50 = .ok (.iconst 0, 1) := by decide +kernel
theorem dX11_homeCall_51 : decode cX11_homeCall 51 = .ok (.istore_n 3, 1) := by decide +kernel
theorem dX11_homeCall_52 : decode cX11_homeCall 52 = .ok (.aload_n 0, 1) := by decide +kernel
theorem dX11_homeCall_53 : decode cX11_homeCall 53 = .ok (.iload_n 2, 1) := by decide +kernel
theorem dX11_homeCall_54 : decode cX11_homeCall 54 = .ok (.iload_n 3, 1) := by decide +kernel
theorem dX11_homeCall_55 : decode cX11_homeCall 55 = .ok (.iconst 0, 1) := by decide +kernel
theorem dX11_homeCall_56 : decode cX11_homeCall 56 = .ok (.invokevirtual 188, 3) := by decide +kernel
theorem dX11_homeCall_59 : decode cX11_homeCall 59 = .ok (.istore 5, 2) := by decide +kernel
theorem dX11_homeCall_61 : decode cX11_homeCall 61 = .ok (.aload_n 0, 1) := by decide +kernel
theorem dX11_homeCall_62 : decode cX11_homeCall 62 = .ok (.getfield 40, 3) := by decide +kernel
theorem dX11_homeCall_65 : decode cX11_homeCall 65 = .ok (.iload 5, 2) := by decide +kernel
theorem dX11_homeCall_67 : decode cX11_homeCall 67 = .ok (.iaload, 1) := by decide +kernel
theorem dX11_homeCall_68 : decode cX11_homeCall 68 = .ok (.aload_n 0, 1) := by decide +kernel
theorem dX11_homeCall_69 : decode cX11_homeCall 69 = .ok (.getfield 40, 3) := by decide +kernel
theorem dX11_homeCall_72 : decode cX11_homeCall 72 = .ok (.iload_n 2, 1) := by decide +kernel
theorem dX11_homeCall_73 : decode cX11_homeCall 73 = .ok (.iaload, 1) := by decide +kernel
theorem dX11_homeCall_74 : decode cX11_homeCall 74 = .ok (.iconst 1, 1) := by decide +kernel
theorem dX11_homeCall_75 : decode cX11_homeCall 75 = .ok (.isub, 1) := by decide +kernel
theorem dX11_homeCall_76 : decode cX11_homeCall 76 = .ok (.if_icmp .eq 18, 3) := by decide +kernel
theorem dX11_homeCall_79 : decode cX11_homeCall 79 = .ok (.iinc 3 1, 3) := by decide +kernel
theorem dX11_homeCall_82 : decode cX11_homeCall 82 = .ok (.aload_n 0, 1) := by decide +kernel
theorem dX11_homeCall_83 : decode cX11_homeCall 83 = .ok (.iload_n 2, 1) := by decide +kernel
theorem dX11_homeCall_84 : decode cX11_homeCall 84 = .ok (.iload_n 3, 1) := by decide +kernel
theorem dX11_homeCall_85 : decode cX11_homeCall 85 = .ok (.iconst 0, 1) := by decide +kernel
theorem dX11_homeCall_86 : decode cX11_homeCall 86 = .ok (.invokevirtual 188, 3) := by decide +kernel
theorem dX11_homeCall_89 : decode cX11_homeCall 89 = .ok (.istore 5, 2) := by decide +kernel
theorem dX11_homeCall_91 : decode cX11_homeCall 91 = .ok (.goto (-30), 3) := by decide +kernel
theorem dX11_homeCall_94 : decode cX11_homeCall 94 = .ok (.iload 5, 2) := by decide +kernel
theorem dX11_homeCall_96 : decode cX11_homeCall 96 = .ok (.istore_n 2, 1) := by decide +kernel
theorem dX11_homeCall_97 : decode cX11_homeCall 97 = .ok (.iinc 4 1, 3) := by decide +kernel
theorem dX11_homeCall_100 : decode cX11_homeCall 100 = .ok (.goto (-56), 3) := by decide +kernel
theorem dX11_homeCall_103 : decode cX11_homeCall 103 = .ok (.iload_n 3, 1) := by decide +kernel
theorem dX11_homeCall_104 : decode cX11_homeCall 104 = .ok (.ireturn, 1) := by decide +kernel
theorem dX11_ifCalled_0 : decode cX11_ifCalled 0 = .ok (.iload_n 1, 1) := by decide +kernel
theorem dX11_ifCalled_1 : decode cX11_ifCalled 1 = .ok (.iconst 0, 1) := by decide +kernel
theorem dX11_ifCalled_2 : decode cX11_ifCalled 2 = .ok (.aload_n 0, 1) := by decide +kernel
theorem dX11_ifCalled_3 : decode cX11_ifCalled 3 = .ok (.getfield 7, 3) := by decide +kernel
theorem dX11_ifCalled_6 : decode cX11_ifCalled 6 = .ok (.iconst 2, 1) := by decide +kernel
theorem dX11_ifCalled_7 : decode cX11_ifCalled 7 = .ok (.iaload, 1) := by decide +kernel
theorem dX11_ifCalled_8 : decode cX11_ifCalled 8 = .ok (.iconst 1, 1) := by decide +kernel
theorem dX11_ifCalled_9 : decode cX11_ifCalled 9 = .ok (.isub, 1) := by decide +kernel
theorem dX11_ifCalled_10 : decode cX11_ifCalled 10 = .ok (.invokestatic 54, 3) := by decide +kernel
theorem dX11_ifCalled_13 : decode cX11_ifCalled 13 = .ok (.ifCond .eq 21, 3) := by decide +kernel
theorem dX11_ifCalled_16 : decode cX11_ifCalled 16 = .ok (.iload_n 2, 1) := by decide +kernel
theorem dX11_ifCalled_17 : decode cX11_ifCalled 17 = .ok (.iconst 0, 1) := by decide +kernel
theorem dX11_ifCalled_18 : decode cX11_ifCalled 18 = .ok (.iconst 2, 1) := by decide +kernel
theorem dX11_ifCalled_19 : decode cX11_ifCalled 19 = .ok (.invokestatic 54, 3) := by decide +kernel
theorem dX11_ifCalled_22 : decode cX11_ifCalled 22 = .ok (.ifCond .eq 12, 3) := by decide +kernel
theorem dX11_ifCalled_25 : decode cX11_ifCalled 25 = .ok (.iload_n 3, 1) := by decide +kernel
theorem dX11_ifCalled_26 : decode cX11_ifCalled 26 = .ok (.iconst 0, 1) := by decide +kernel
theorem dX11_ifCalled_27 : decode cX11_ifCalled 27 = .ok (.iconst 2, 1) := by decide +kernel
theorem dX11_ifCalled_28 : decode cX11_ifCalled 28 = .ok (.invokestatic 54, 3) := by decide +kernel
theorem dX11_ifCalled_31 : decode cX11_ifCalled 31 = .ok (.ifCond .ne 5, 3) := by decide +kernel
theorem dX11_ifCalled_34 : decode cX11_ifCalled 34 = .ok (.iconst (-1), 1) := by decide +kernel
theorem dX11_ifCalled_35 : decode cX11_ifCalled 35 = .ok (.ireturn, 1) := by decide +kernel
theorem dX11_ifCalled_36 : decode cX11_ifCalled 36 = .ok (.aload_n 0, 1) := by decide +kernel
theorem dX11_ifCalled_37 : decode cX11_ifCalled 37 = .ok (.getfield 7, 3) := by decide +kernel
theorem dX11_ifCalled_40 : decode cX11_ifCalled 40 = .ok (.bipush 25, 2) := by decide +kernel
theorem dX11_ifCalled_42 : decode cX11_ifCalled 42 = .ok (.iload_n 1, 1) := by decide +kernel
theorem dX11_ifCalled_43 : decode cX11_ifCalled 43 = .ok (.iadd, 1) := by decide +kernel
theorem dX11_ifCalled_44 : decode cX11_ifCalled 44 = .ok (.iaload, 1) := by decide +kernel
theorem dX11_ifCalled_45 : decode cX11_ifCalled 45 = .ok (.istore 4, 2) := by decide +kernel
theorem dX11_ifCalled_47 : decode cX11_ifCalled 47 = .ok (.aload_n 0, 1) := by decide +kernel
theorem dX11_ifCalled_48 : decode cX11_ifCalled 48 = .ok (.getfield 7, 3) := by decide +kernel
theorem dX11_ifCalled_51 : decode cX11_ifCalled 51 = .ok (.bipush 25, 2) := by decide +kernel
theorem dX11_ifCalled_53 : decode cX11_ifCalled 53 = .ok (.iload_n 1, 1) := by decide +kernel
theorem dX11_ifCalled_54 : decode cX11_ifCalled 54 = .ok (.iadd, 1) := by decide +kernel
theorem dX11_ifCalled_55 : decode cX11_ifCalled 55 = .ok (.iload_n 2, 1) := by decide +kernel
theorem dX11_ifCalled_56 : decode cX11_ifCalled 56 = .ok (.iastore, 1) := by decide +kernel
theorem dX11_ifCalled_57 : decode cX11_ifCalled 57 = .ok (.aload_n 0, 1) := by decide +kernel
theorem dX11_ifCalled_58 : decode cX11_ifCalled 58 = .ok (.bipush (-4), 2) := by decide +kernel
theorem dX11_ifCalled_60 : decode cX11_ifCalled 60 = .ok (.invokevirtual 124, 3) := by decide +kernel
theorem dX11_ifCalled_63 : decode cX11_ifCalled 63 = .ok (.iload_n 3, 1) := by decide +kernel
theorem dX11_ifCalled_64 : decode cX11_ifCalled 64 = .ok (.ifCond .ne 18, 3) := by decide +kernel
theorem dX11_ifCalled_67 : decode cX11_ifCalled 67 = .ok (.aload_n 0, 1) := by decide +kernel
theorem dX11_ifCalled_68 : decode cX11_ifCalled 68 = .ok (.invokevirtual 167, 3) := by decide +kernel
theorem dX11_ifCalled_71 : decode cX11_ifCalled 71 = .ok (.ifCond .ge 7, 3) := by decide +kernel
theorem dX11_ifCalled_74 : decode cX11_ifCalled 74 = .ok (.iconst 1, 1) := by decide +kernel
theorem dX11_ifCalled_75 : decode cX11_ifCalled 75 = .ok (.goto 23, 3) := by decide +kernel
theorem dX11_ifCalled_78 : decode cX11_ifCalled 78 = .ok (.iconst 0, 1) := by decide +kernel
theorem dX11_ifCalled_79 : decode cX11_ifCalled 79 = .ok (.goto 19, 3) := by decide +kernel
theorem dX11_ifCalled_82 : decode cX11_ifCalled 82 = .ok (.iload_n 3, 1) := by decide +kernel
theorem dX11_ifCalled_83 : decode cX11_ifCalled 83 = .ok (.iconst 1, 1) := by decide +kernel
theorem dX11_ifCalled_84 : decode cX11_ifCalled 84 = .ok (.if_icmp .ne 10, 3) := by decide +kernel
theorem dX11_ifCalled_87 : decode cX11_ifCalled 87 = .ok (.aload_n 0, 1) := by decide +kernel
theorem dX11_ifCalled_88 : decode cX11_ifCalled 88 = .ok (.invokevirtual 164, 3) := by decide +kernel
theorem dX11_ifCalled_91 : decode cX11_ifCalled 91 = .ok (.goto 7, 3) := by decide +kernel
theorem dX11_ifCalled_94 : decode cX11_ifCalled 94 = .ok (.aload_n 0, 1) := by decide +kernel
theorem dX11_ifCalled_95 : decode cX11_ifCalled 95 = .ok (.invokevirtual 176, 3) := by decide +kernel
theorem dX11_ifCalled_98 : decode cX11_ifCalled 98 = .ok (.istore 5, 2) := by decide +kernel
theorem dX11_ifCalled_100 : decode cX11_ifCalled 100 = .ok (.aload_n 0, 1) := by decide +kernel
theorem dX11_ifCalled_101 : decode cX11_ifCalled 101 = .ok (.getfield 7, 3) := by decide +kernel
theorem dX11_ifCalled_104 : decode cX11_ifCalled 104 = .ok (.bipush 25, 2) := by decide +kernel
theorem dX11_ifCalled_106 : decode cX11_ifCalled 106 = .ok (.iload_n 1, 1) := by decide +kernel
theorem dX11_ifCalled_107 : decode cX11_ifCalled 107 = .ok (.iadd, 1) := by decide +kernel
theorem dX11_ifCalled_108 : decode cX11_ifCalled 108 = .ok (.iload 4, 2) := by decide +kernel
theorem dX11_ifCalled_110 : decode cX11_ifCalled 110 = .ok (.iastore, 1) := by decide +kernel
theorem dX11_ifCalled_111 : decode cX11_ifCalled 111 = .ok (.iload 5, 2) := by decide +kernel
theorem dX11_ifCalled_113 : decode cX11_ifCalled 113 = .ok (.ireturn, 1) := by decide +kernel
theorem dX11_best_0 : decode cX11_best 0 = .ok (.iconst 0, 1) := by decide +kernel
theorem dX11_best_1 : decode cX11_best 1 = .ok (.istore_n 1, 1) := by decide +kernel
theorem dX11_best_2 : decode cX11_best 2 = .ok (.iconst 0, 1) := by decide +kernel
theorem dX11_best_3 : decode cX11_best 3 = .ok (.istore_n 2, 1) := by decide +kernel
theorem dX11_best_4 : decode cX11_best 4 = .ok (.iconst 0, 1) := by decide +kernel
theorem dX11_best_5 : decode cX11_best 5 = .ok (.istore_n 3, 1) := by decide +kernel
theorem dX11_best_6 : decode cX11_best 6 = .ok (.iload_n 3, 1) := by decide +kernel
theorem dX11_best_7 : decode cX11_best 7 = .ok (.iconst 3, 1) := by decide +kernel
theorem dX11_best_8 : decode cX11_best 8 = .ok (.if_icmp .ge 45, 3) := by decide +kernel
theorem dX11_best_11 : decode cX11_best 11 = .ok (.aload_n 0, 1) := by decide +kernel
theorem dX11_best_12 : decode cX11_best 12 = .ok (.iload_n 3, 1) := by decide +kernel
theorem dX11_best_13 : decode cX11_best 13 = .ok (.invokevirtual 124, 3) := by decide +kernel
theorem dX11_best_16 : decode cX11_best 16 = .ok (.aload_n 0, 1) := by decide +kernel
theorem dX11_best_17 : decode cX11_best 17 = .ok (.invokevirtual 170, 3) := by decide +kernel
theorem dX11_best_20 : decode cX11_best 20 = .ok (.istore 4, 2) := by decide +kernel
theorem dX11_best_22 : decode cX11_best 22 = .ok (.iload 4, 2) := by decide +kernel
theorem dX11_best_24 : decode cX11_best 24 = .ok (.iload_n 2, 1) := by decide +kernel
theorem dX11_best_25 : decode cX11_best 25 = .ok (.if_icmp .le 7, 3) := by decide +kernel
theorem dX11_best_28 : decode cX11_best 28 = .ok (.iload_n 3, 1) := by decide +kernel
theorem dX11_best_29 : decode cX11_best 29 = .ok (.goto 4, 3) := by decide +kernel
theorem dX11_best_32 : decode cX11_best 32 = .ok (.iload_n 1, 1) := by decide +kernel
theorem dX11_best_33 : decode cX11_best 33 = .ok (.istore_n 1, 1) := by decide +kernel
theorem dX11_best_34 : decode cX11_best 34 = .ok (.iload 4, 2) := by decide +kernel
theorem dX11_best_36 : decode cX11_best 36 = .ok (.iload_n 2, 1) := by decide +kernel
theorem dX11_best_37 : decode cX11_best 37 = .ok (.if_icmp .le 8, 3) := by decide +kernel
theorem dX11_best_40 : decode cX11_best 40 = .ok (.iload 4, 2) := by decide +kernel
theorem dX11_best_42 : decode cX11_best 42 = .ok (.goto 4, 3) := by decide +kernel
theorem dX11_best_45 : decode cX11_best 45 = .ok (.iload_n 2, 1) := by decide +kernel
theorem dX11_best_46 : decode cX11_best 46 = .ok (.istore_n 2, 1) := by decide +kernel
theorem dX11_best_47 : decode cX11_best 47 = .ok (.iinc 3 1, 3) := by decide +kernel
theorem dX11_best_50 : decode cX11_best 50 = .ok (.goto (-44), 3) := by decide +kernel
theorem dX11_best_53 : decode cX11_best 53 = .ok (.iload_n 1, 1) := by decide +kernel
theorem dX11_best_54 : decode cX11_best 54 = .ok (.ireturn, 1) := by decide +kernel
theorem dX11_undo_0 : decode cX11_undo 0 = .ok (.aload_n 0, 1) := by decide +kernel
theorem dX11_undo_1 : decode cX11_undo 1 = .ok (.getfield 50, 3) := by decide +kernel
theorem dX11_undo_4 : decode cX11_undo 4 = .ok (.ifCond .ne 6, 3) := by decide +kernel
theorem dX11_undo_7 : decode cX11_undo 7 = .ok (.bipush (-2), 2) := by decide +kernel
theorem dX11_undo_9 : decode cX11_undo 9 = .ok (.ireturn, 1) := by decide +kernel
theorem dX11_undo_10 : decode cX11_undo 10 = .ok (.aload_n 0, 1) := by decide +kernel
theorem dX11_undo_11 : decode cX11_undo 11 = .ok (.dup, 1) := by decide +kernel
theorem dX11_undo_12 : decode cX11_undo 12 = .ok (.getfield 50, 3) := by decide +kernel
theorem dX11_undo_15 : decode cX11_undo 15 = .ok (.iconst 1, 1) := by decide +kernel
theorem dX11_undo_16 : decode cX11_undo 16 = .ok (.isub, 1) := by decide +kernel
theorem dX11_undo_17 : decode cX11_undo 17 = .ok (.putfield 50, 3) := by decide +kernel
theorem dX11_undo_20 : decode cX11_undo 20 = .ok (.iconst 0, 1) := by decide +kernel
theorem dX11_undo_21 : decode cX11_undo 21 = .ok (.istore_n 1, 1) := by decide +kernel
theorem dX11_undo_22 : decode cX11_undo 22 = .ok (.iload_n 1, 1) := by decide +kernel
theorem dX11_undo_23 : decode cX11_undo 23 = .ok (.bipush 41, 2) := by decide +kernel
theorem dX11_undo_25 : decode cX11_undo 25 = .ok (.if_icmp .ge 29, 3) := by decide +kernel
theorem dX11_undo_28 : decode cX11_undo 28 = .ok (.aload_n 0, 1) := by decide +kernel
theorem dX11_undo_29 : decode cX11_undo 29 = .ok (.getfield 7, 3) := by decide +kernel
theorem dX11_undo_32 : decode cX11_undo 32 = .ok (.iload_n 1, 1) := by decide +kernel
theorem dX11_undo_33 : decode cX11_undo 33 = .ok (.aload_n 0, 1) := by decide +kernel
theorem dX11_undo_34 : decode cX11_undo 34 = .ok (.getfield 13, 3) := by decide +kernel
theorem dX11_undo_37 : decode cX11_undo 37 = .ok (.bipush 41, 2) := by decide +kernel
theorem dX11_undo_39 : decode cX11_undo 39 = .ok (.aload_n 0, 1) := by decide +kernel
theorem dX11_undo_40 : decode cX11_undo 40 = .ok (.getfield 50, 3) := by decide +kernel
theorem dX11_undo_43 : decode cX11_undo 43 = .ok (.imul, 1) := by decide +kernel
theorem dX11_undo_44 : decode cX11_undo 44 = .ok (.iload_n 1, 1) := by decide +kernel
theorem dX11_undo_45 : decode cX11_undo 45 = .ok (.iadd, 1) := by decide +kernel
theorem dX11_undo_46 : decode cX11_undo 46 = .ok (.iaload, 1) := by decide +kernel
theorem dX11_undo_47 : decode cX11_undo 47 = .ok (.iastore, 1) := by decide +kernel
theorem dX11_undo_48 : decode cX11_undo 48 = .ok (.iinc 1 1, 3) := by decide +kernel
theorem dX11_undo_51 : decode cX11_undo 51 = .ok (.goto (-29), 3) := by decide +kernel
theorem dX11_undo_54 : decode cX11_undo 54 = .ok (.aload_n 0, 1) := by decide +kernel
theorem dX11_undo_55 : decode cX11_undo 55 = .ok (.getfield 50, 3) := by decide +kernel
theorem dX11_undo_58 : decode cX11_undo 58 = .ok (.ireturn, 1) := by decide +kernel
theorem dX11_save_0 : decode cX11_save 0 = .ok (.aload_n 0, 1) := by decide +kernel
theorem dX11_save_1 : decode cX11_save 1 = .ok (.iconst 1, 1) := by decide +kernel
theorem dX11_save_2 : decode cX11_save 2 = .ok (.putfield 196, 3) := by decide +kernel
theorem dX11_save_5 : decode cX11_save 5 = .ok (.iconst 0, 1) := by decide +kernel
theorem dX11_save_6 : decode cX11_save 6 = .ok (.istore_n 1, 1) := by decide +kernel
theorem dX11_save_7 : decode cX11_save 7 = .ok (.iload_n 1, 1) := by decide +kernel
theorem dX11_save_8 : decode cX11_save 8 = .ok (.bipush 41, 2) := by decide +kernel
theorem dX11_save_10 : decode cX11_save 10 = .ok (.if_icmp .ge 21, 3) := by decide +kernel
theorem dX11_save_13 : decode cX11_save 13 = .ok (.aload_n 0, 1) := by decide +kernel
theorem dX11_save_14 : decode cX11_save 14 = .ok (.getfield 16, 3) := by decide +kernel
theorem dX11_save_17 : decode cX11_save 17 = .ok (.iload_n 1, 1) := by decide +kernel
theorem dX11_save_18 : decode cX11_save 18 = .ok (.aload_n 0, 1) := by decide +kernel
theorem dX11_save_19 : decode cX11_save 19 = .ok (.getfield 7, 3) := by decide +kernel
theorem dX11_save_22 : decode cX11_save 22 = .ok (.iload_n 1, 1) := by decide +kernel
theorem dX11_save_23 : decode cX11_save 23 = .ok (.iaload, 1) := by decide +kernel
theorem dX11_save_24 : decode cX11_save 24 = .ok (.iastore, 1) := by decide +kernel
theorem dX11_save_25 : decode cX11_save 25 = .ok (.iinc 1 1, 3) := by decide +kernel
theorem dX11_save_28 : decode cX11_save 28 = .ok (.goto (-21), 3) := by decide +kernel
theorem dX11_save_31 : decode cX11_save 31 = .ok (.aload_n 0, 1) := by decide +kernel
theorem dX11_save_32 : decode cX11_save 32 = .ok (.getfield 7, 3) := by decide +kernel
theorem dX11_save_35 : decode cX11_save 35 = .ok (.iconst 2, 1) := by decide +kernel
theorem dX11_save_36 : decode cX11_save 36 = .ok (.iaload, 1) := by decide +kernel
theorem dX11_save_37 : decode cX11_save 37 = .ok (.ireturn, 1) := by decide +kernel
theorem dX11_restore_0 : decode cX11_restore 0 = .ok (.aload_n 0, 1) := by decide +kernel
theorem dX11_restore_1 : decode cX11_restore 1 = .ok (.getfield 196, 3) := by decide +kernel
theorem dX11_restore_4 : decode cX11_restore 4 = .ok (.ifCond .ne 6, 3) := by decide +kernel
theorem dX11_restore_7 : decode cX11_restore 7 = .ok (.bipush (-2), 2) := by decide +kernel
theorem dX11_restore_9 : decode cX11_restore 9 = .ok (.ireturn, 1) := by decide +kernel
theorem dX11_restore_10 : decode cX11_restore 10 = .ok (.aload_n 0, 1) := by decide +kernel
theorem dX11_restore_11 : decode cX11_restore 11 = .ok (.invokevirtual 78, 3) := by decide +kernel
theorem dX11_restore_14 : decode cX11_restore 14 = .ok (.iconst 0, 1) := by decide +kernel
theorem dX11_restore_15 : decode cX11_restore 15 = .ok (.istore_n 1, 1) := by decide +kernel
theorem dX11_restore_16 : decode cX11_restore 16 = .ok (.iload_n 1, 1) := by decide +kernel
theorem dX11_restore_17 : decode cX11_restore 17 = .ok (.bipush 41, 2) := by decide +kernel
theorem dX11_restore_19 : decode cX11_restore 19 = .ok (.if_icmp .ge 21, 3) := by decide +kernel
theorem dX11_restore_22 : decode cX11_restore 22 = .ok (.aload_n 0, 1) := by decide +kernel
theorem dX11_restore_23 : decode cX11_restore 23 = .ok (.getfield 7, 3) := by decide +kernel
theorem dX11_restore_26 : decode cX11_restore 26 = .ok (.iload_n 1, 1) := by decide +kernel
theorem dX11_restore_27 : decode cX11_restore 27 = .ok (.aload_n 0, 1) := by decide +kernel
theorem dX11_restore_28 : decode cX11_restore 28 = .ok (.getfield 16, 3) := by decide +kernel
theorem dX11_restore_31 : decode cX11_restore 31 = .ok (.iload_n 1, 1) := by decide +kernel
theorem dX11_restore_32 : decode cX11_restore 32 = .ok (.iaload, 1) := by decide +kernel
theorem dX11_restore_33 : decode cX11_restore 33 = .ok (.iastore, 1) := by decide +kernel
theorem dX11_restore_34 : decode cX11_restore 34 = .ok (.iinc 1 1, 3) := by decide +kernel
theorem dX11_restore_37 : decode cX11_restore 37 = .ok (.goto (-21), 3) := by decide +kernel
theorem dX11_restore_40 : decode cX11_restore 40 = .ok (.aload_n 0, 1) := by decide +kernel
theorem dX11_restore_41 : decode cX11_restore 41 = .ok (.getfield 7, 3) := by decide +kernel
theorem dX11_restore_44 : decode cX11_restore 44 = .ok (.iconst 2, 1) := by decide +kernel
theorem dX11_restore_45 : decode cX11_restore 45 = .ok (.iaload, 1) := by decide +kernel
theorem dX11_restore_46 : decode cX11_restore 46 = .ok (.ireturn, 1) := by decide +kernel
end
section
theorem dL_law_0 : decode cL_law 0 = .ok (.new 7, 3) := by decide +kernel
theorem dL_law_3 : decode cL_law 3 = .ok (.dup, 1) := by decide +kernel
theorem dL_law_4 : decode cL_law 4 = .ok (.invokespecial 9, 3) := by decide +kernel
theorem dL_law_7 : decode cL_law 7 = .ok (.astore_n 1, 1) := by decide +kernel
theorem dL_law_8 : decode cL_law 8 = .ok (.new 10, 3) := by decide +kernel
theorem dL_law_11 : decode cL_law 11 = .ok (.dup, 1) := by decide +kernel
theorem dL_law_12 : decode cL_law 12 = .ok (.invokespecial 12, 3) := by decide +kernel
theorem dL_law_15 : decode cL_law 15 = .ok (.astore_n 2, 1) := by decide +kernel
theorem dL_law_16 : decode cL_law 16 = .ok (.iconst 0, 1) := by decide +kernel
theorem dL_law_17 : decode cL_law 17 = .ok (.istore_n 3, 1) := by decide +kernel
theorem dL_law_18 : decode cL_law 18 = .ok (.iload_n 3, 1) := by decide +kernel
theorem dL_law_19 : decode cL_law 19 = .ok (.aload_n 0, 1) := by decide +kernel
theorem dL_law_20 : decode cL_law 20 = .ok (.arraylength, 1) := by decide +kernel
theorem dL_law_21 : decode cL_law 21 = .ok (.iconst 4, 1) := by decide +kernel
theorem dL_law_22 : decode cL_law 22 = .ok (.isub, 1) := by decide +kernel
theorem dL_law_23 : decode cL_law 23 = .ok (.if_icmp .gt 680, 3) := by decide +kernel
theorem dL_law_26 : decode cL_law 26 = .ok (.aload_n 0, 1) := by decide +kernel
theorem dL_law_27 : decode cL_law 27 = .ok (.iload_n 3, 1) := by decide +kernel
theorem dL_law_28 : decode cL_law 28 = .ok (.iaload, 1) := by decide +kernel
theorem dL_law_29 : decode cL_law 29 = .ok (.bipush 31, 2) := by decide +kernel
theorem dL_law_31 : decode cL_law 31 = .ok (.iand, 1) := by decide +kernel
theorem dL_law_32 : decode cL_law 32 = .ok (.tableswitch 665 0 22 #[108, 131, 144, 177, 190, 213, 236, 259, 272, 295, 328, 361, 394, 427, 460, 483, 524, 547, 570, 613, 626, 639, 652], 108) := by decide +kernel
theorem dL_law_140 : decode cL_law 140 = .ok (.aload_n 1, 1) := by decide +kernel
theorem dL_law_141 : decode cL_law 141 = .ok (.aload_n 0, 1) := by decide +kernel
theorem dL_law_142 : decode cL_law 142 = .ok (.iload_n 3, 1) := by decide +kernel
theorem dL_law_143 : decode cL_law 143 = .ok (.iconst 1, 1) := by decide +kernel
theorem dL_law_144 : decode cL_law 144 = .ok (.iadd, 1) := by decide +kernel
theorem dL_law_145 : decode cL_law 145 = .ok (.iaload, 1) := by decide +kernel
theorem dL_law_146 : decode cL_law 146 = .ok (.invokevirtual 13, 3) := by decide +kernel
theorem dL_law_149 : decode cL_law 149 = .ok (.aload_n 2, 1) := by decide +kernel
theorem dL_law_150 : decode cL_law 150 = .ok (.aload_n 0, 1) := by decide +kernel
theorem dL_law_151 : decode cL_law 151 = .ok (.iload_n 3, 1) := by decide +kernel
theorem dL_law_152 : decode cL_law 152 = .ok (.iconst 1, 1) := by decide +kernel
theorem dL_law_153 : decode cL_law 153 = .ok (.iadd, 1) := by decide +kernel
theorem dL_law_154 : decode cL_law 154 = .ok (.iaload, 1) := by decide +kernel
theorem dL_law_155 : decode cL_law 155 = .ok (.invokevirtual 17, 3) := by decide +kernel
theorem dL_law_158 : decode cL_law 158 = .ok (.if_icmp .eq 539, 3) := by decide +kernel
theorem dL_law_161 : decode cL_law 161 = .ok (.iconst 0, 1) := by decide +kernel
theorem dL_law_162 : decode cL_law 162 = .ok (.ireturn, 1) := by decide +kernel
theorem dL_law_163 : decode cL_law 163 = .ok (.aload_n 1, 1) := by decide +kernel
theorem dL_law_164 : decode cL_law 164 = .ok (.invokevirtual 18, 3) := by decide +kernel
theorem dL_law_167 : decode cL_law 167 = .ok (.aload_n 2, 1) := by decide +kernel
theorem dL_law_168 : decode cL_law 168 = .ok (.invokevirtual 22, 3) := by decide +kernel
theorem dL_law_171 : decode cL_law 171 = .ok (.if_icmp .eq 526, 3) := by decide +kernel
theorem dL_law_174 : decode cL_law 174 = .ok (.iconst 0, 1) := by decide +kernel
theorem dL_law_175 : decode cL_law 175 = .ok (.ireturn, 1) := by decide +kernel
theorem dL_law_176 : decode cL_law 176 = .ok (.aload_n 1, 1) := by decide +kernel
theorem dL_law_177 : decode cL_law 177 = .ok (.aload_n 0, 1) := by decide +kernel
theorem dL_law_178 : decode cL_law 178 = .ok (.iload_n 3, 1) := by decide +kernel
theorem dL_law_179 : decode cL_law 179 = .ok (.iconst 1, 1) := by decide +kernel
theorem dL_law_180 : decode cL_law 180 = .ok (.iadd, 1) := by decide +kernel
theorem dL_law_181 : decode cL_law 181 = .ok (.iaload, 1) := by decide +kernel
theorem dL_law_182 : decode cL_law 182 = .ok (.aload_n 0, 1) := by decide +kernel
theorem dL_law_183 : decode cL_law 183 = .ok (.iload_n 3, 1) := by decide +kernel
theorem dL_law_184 : decode cL_law 184 = .ok (.iconst 2, 1) := by decide +kernel
theorem dL_law_185 : decode cL_law 185 = .ok (.iadd, 1) := by decide +kernel
theorem dL_law_186 : decode cL_law 186 = .ok (.iaload, 1) := by decide +kernel
theorem dL_law_187 : decode cL_law 187 = .ok (.invokevirtual 23, 3) := by decide +kernel
theorem dL_law_190 : decode cL_law 190 = .ok (.aload_n 2, 1) := by decide +kernel
theorem dL_law_191 : decode cL_law 191 = .ok (.aload_n 0, 1) := by decide +kernel
theorem dL_law_192 : decode cL_law 192 = .ok (.iload_n 3, 1) := by decide +kernel
theorem dL_law_193 : decode cL_law 193 = .ok (.iconst 1, 1) := by decide +kernel
theorem dL_law_194 : decode cL_law 194 = .ok (.iadd, 1) := by decide +kernel
theorem dL_law_195 : decode cL_law 195 = .ok (.iaload, 1) := by decide +kernel
theorem dL_law_196 : decode cL_law 196 = .ok (.aload_n 0, 1) := by decide +kernel
theorem dL_law_197 : decode cL_law 197 = .ok (.iload_n 3, 1) := by decide +kernel
theorem dL_law_198 : decode cL_law 198 = .ok (.iconst 2, 1) := by decide +kernel
theorem dL_law_199 : decode cL_law 199 = .ok (.iadd, 1) := by decide +kernel
theorem dL_law_200 : decode cL_law 200 = .ok (.iaload, 1) := by decide +kernel
theorem dL_law_201 : decode cL_law 201 = .ok (.invokevirtual 27, 3) := by decide +kernel
theorem dL_law_204 : decode cL_law 204 = .ok (.if_icmp .eq 493, 3) := by decide +kernel
theorem dL_law_207 : decode cL_law 207 = .ok (.iconst 0, 1) := by decide +kernel
theorem dL_law_208 : decode cL_law 208 = .ok (.ireturn, 1) := by decide +kernel
theorem dL_law_209 : decode cL_law 209 = .ok (.aload_n 1, 1) := by decide +kernel
theorem dL_law_210 : decode cL_law 210 = .ok (.invokevirtual 28, 3) := by decide +kernel
theorem dL_law_213 : decode cL_law 213 = .ok (.aload_n 2, 1) := by decide +kernel
theorem dL_law_214 : decode cL_law 214 = .ok (.invokevirtual 31, 3) := by decide +kernel
theorem dL_law_217 : decode cL_law 217 = .ok (.if_icmp .eq 480, 3) := by decide +kernel
theorem dL_law_220 : decode cL_law 220 = .ok (.iconst 0, 1) := by decide +kernel
theorem dL_law_221 : decode cL_law 221 = .ok (.ireturn, 1) := by decide +kernel
theorem dL_law_222 : decode cL_law 222 = .ok (.aload_n 1, 1) := by decide +kernel
theorem dL_law_223 : decode cL_law 223 = .ok (.aload_n 0, 1) := by decide +kernel
theorem dL_law_224 : decode cL_law 224 = .ok (.iload_n 3, 1) := by decide +kernel
theorem dL_law_225 : decode cL_law 225 = .ok (.iconst 1, 1) := by decide +kernel
theorem dL_law_226 : decode cL_law 226 = .ok (.iadd, 1) := by decide +kernel
theorem dL_law_227 : decode cL_law 227 = .ok (.iaload, 1) := by decide +kernel
theorem dL_law_228 : decode cL_law 228 = .ok (.invokevirtual 32, 3) := by decide +kernel
theorem dL_law_231 : decode cL_law 231 = .ok (.aload_n 2, 1) := by decide +kernel
theorem dL_law_232 : decode cL_law 232 = .ok (.aload_n 0, 1) := by decide +kernel
theorem dL_law_233 : decode cL_law 233 = .ok (.iload_n 3, 1) := by decide +kernel
theorem dL_law_234 : decode cL_law 234 = .ok (.iconst 1, 1) := by decide +kernel
theorem dL_law_235 : decode cL_law 235 = .ok (.iadd, 1) := by decide +kernel
theorem dL_law_236 : decode cL_law 236 = .ok (.iaload, 1) := by decide +kernel
theorem dL_law_237 : decode cL_law 237 = .ok (.invokevirtual 35, 3) := by decide +kernel
theorem dL_law_240 : decode cL_law 240 = .ok (.if_icmp .eq 457, 3) := by decide +kernel
theorem dL_law_243 : decode cL_law 243 = .ok (.iconst 0, 1) := by decide +kernel
theorem dL_law_244 : decode cL_law 244 = .ok (.ireturn, 1) := by decide +kernel
theorem dL_law_245 : decode cL_law 245 = .ok (.aload_n 1, 1) := by decide +kernel
theorem dL_law_246 : decode cL_law 246 = .ok (.aload_n 0, 1) := by decide +kernel
theorem dL_law_247 : decode cL_law 247 = .ok (.iload_n 3, 1) := by decide +kernel
theorem dL_law_248 : decode cL_law 248 = .ok (.iconst 1, 1) := by decide +kernel
theorem dL_law_249 : decode cL_law 249 = .ok (.iadd, 1) := by decide +kernel
theorem dL_law_250 : decode cL_law 250 = .ok (.iaload, 1) := by decide +kernel
theorem dL_law_251 : decode cL_law 251 = .ok (.invokevirtual 36, 3) := by decide +kernel
theorem dL_law_254 : decode cL_law 254 = .ok (.aload_n 2, 1) := by decide +kernel
theorem dL_law_255 : decode cL_law 255 = .ok (.aload_n 0, 1) := by decide +kernel
theorem dL_law_256 : decode cL_law 256 = .ok (.iload_n 3, 1) := by decide +kernel
theorem dL_law_257 : decode cL_law 257 = .ok (.iconst 1, 1) := by decide +kernel
theorem dL_law_258 : decode cL_law 258 = .ok (.iadd, 1) := by decide +kernel
theorem dL_law_259 : decode cL_law 259 = .ok (.iaload, 1) := by decide +kernel
theorem dL_law_260 : decode cL_law 260 = .ok (.invokevirtual 39, 3) := by decide +kernel
theorem dL_law_263 : decode cL_law 263 = .ok (.if_icmp .eq 434, 3) := by decide +kernel
theorem dL_law_266 : decode cL_law 266 = .ok (.iconst 0, 1) := by decide +kernel
theorem dL_law_267 : decode cL_law 267 = .ok (.ireturn, 1) := by decide +kernel
theorem dL_law_268 : decode cL_law 268 = .ok (.aload_n 1, 1) := by decide +kernel
theorem dL_law_269 : decode cL_law 269 = .ok (.aload_n 0, 1) := by decide +kernel
theorem dL_law_270 : decode cL_law 270 = .ok (.iload_n 3, 1) := by decide +kernel
theorem dL_law_271 : decode cL_law 271 = .ok (.iconst 1, 1) := by decide +kernel
theorem dL_law_272 : decode cL_law 272 = .ok (.iadd, 1) := by decide +kernel
theorem dL_law_273 : decode cL_law 273 = .ok (.iaload, 1) := by decide +kernel
theorem dL_law_274 : decode cL_law 274 = .ok (.invokevirtual 40, 3) := by decide +kernel
theorem dL_law_277 : decode cL_law 277 = .ok (.aload_n 2, 1) := by decide +kernel
theorem dL_law_278 : decode cL_law 278 = .ok (.aload_n 0, 1) := by decide +kernel
theorem dL_law_279 : decode cL_law 279 = .ok (.iload_n 3, 1) := by decide +kernel
theorem dL_law_280 : decode cL_law 280 = .ok (.iconst 1, 1) := by decide +kernel
theorem dL_law_281 : decode cL_law 281 = .ok (.iadd, 1) := by decide +kernel
theorem dL_law_282 : decode cL_law 282 = .ok (.iaload, 1) := by decide +kernel
theorem dL_law_283 : decode cL_law 283 = .ok (.invokevirtual 43, 3) := by decide +kernel
theorem dL_law_286 : decode cL_law 286 = .ok (.if_icmp .eq 411, 3) := by decide +kernel
theorem dL_law_289 : decode cL_law 289 = .ok (.iconst 0, 1) := by decide +kernel
theorem dL_law_290 : decode cL_law 290 = .ok (.ireturn, 1) := by decide +kernel
theorem dL_law_291 : decode cL_law 291 = .ok (.aload_n 1, 1) := by decide +kernel
theorem dL_law_292 : decode cL_law 292 = .ok (.invokevirtual 44, 3) := by decide +kernel
theorem dL_law_295 : decode cL_law 295 = .ok (.aload_n 2, 1) := by decide +kernel
theorem dL_law_296 : decode cL_law 296 = .ok (.invokevirtual 47, 3) := by decide +kernel
theorem dL_law_299 : decode cL_law 299 = .ok (.if_icmp .eq 398, 3) := by decide +kernel
theorem dL_law_302 : decode cL_law 302 = .ok (.iconst 0, 1) := by decide +kernel
theorem dL_law_303 : decode cL_law 303 = .ok (.ireturn, 1) := by decide +kernel
theorem dL_law_304 : decode cL_law 304 = .ok (.aload_n 1, 1) := by decide +kernel
theorem dL_law_305 : decode cL_law 305 = .ok (.aload_n 0, 1) := by decide +kernel
theorem dL_law_306 : decode cL_law 306 = .ok (.iload_n 3, 1) := by decide +kernel
theorem dL_law_307 : decode cL_law 307 = .ok (.iconst 1, 1) := by decide +kernel
theorem dL_law_308 : decode cL_law 308 = .ok (.iadd, 1) := by decide +kernel
theorem dL_law_309 : decode cL_law 309 = .ok (.iaload, 1) := by decide +kernel
theorem dL_law_310 : decode cL_law 310 = .ok (.invokevirtual 48, 3) := by decide +kernel
theorem dL_law_313 : decode cL_law 313 = .ok (.aload_n 2, 1) := by decide +kernel
theorem dL_law_314 : decode cL_law 314 = .ok (.aload_n 0, 1) := by decide +kernel
theorem dL_law_315 : decode cL_law 315 = .ok (.iload_n 3, 1) := by decide +kernel
theorem dL_law_316 : decode cL_law 316 = .ok (.iconst 1, 1) := by decide +kernel
theorem dL_law_317 : decode cL_law 317 = .ok (.iadd, 1) := by decide +kernel
theorem dL_law_318 : decode cL_law 318 = .ok (.iaload, 1) := by decide +kernel
theorem dL_law_319 : decode cL_law 319 = .ok (.invokevirtual 51, 3) := by decide +kernel
theorem dL_law_322 : decode cL_law 322 = .ok (.if_icmp .eq 375, 3) := by decide +kernel
theorem dL_law_325 : decode cL_law 325 = .ok (.iconst 0, 1) := by decide +kernel
theorem dL_law_326 : decode cL_law 326 = .ok (.ireturn, 1) := by decide +kernel
theorem dL_law_327 : decode cL_law 327 = .ok (.aload_n 1, 1) := by decide +kernel
theorem dL_law_328 : decode cL_law 328 = .ok (.aload_n 0, 1) := by decide +kernel
theorem dL_law_329 : decode cL_law 329 = .ok (.iload_n 3, 1) := by decide +kernel
theorem dL_law_330 : decode cL_law 330 = .ok (.iconst 1, 1) := by decide +kernel
theorem dL_law_331 : decode cL_law 331 = .ok (.iadd, 1) := by decide +kernel
theorem dL_law_332 : decode cL_law 332 = .ok (.iaload, 1) := by decide +kernel
theorem dL_law_333 : decode cL_law 333 = .ok (.aload_n 0, 1) := by decide +kernel
theorem dL_law_334 : decode cL_law 334 = .ok (.iload_n 3, 1) := by decide +kernel
theorem dL_law_335 : decode cL_law 335 = .ok (.iconst 2, 1) := by decide +kernel
theorem dL_law_336 : decode cL_law 336 = .ok (.iadd, 1) := by decide +kernel
theorem dL_law_337 : decode cL_law 337 = .ok (.iaload, 1) := by decide +kernel
theorem dL_law_338 : decode cL_law 338 = .ok (.invokevirtual 52, 3) := by decide +kernel
theorem dL_law_341 : decode cL_law 341 = .ok (.aload_n 2, 1) := by decide +kernel
theorem dL_law_342 : decode cL_law 342 = .ok (.aload_n 0, 1) := by decide +kernel
theorem dL_law_343 : decode cL_law 343 = .ok (.iload_n 3, 1) := by decide +kernel
theorem dL_law_344 : decode cL_law 344 = .ok (.iconst 1, 1) := by decide +kernel
theorem dL_law_345 : decode cL_law 345 = .ok (.iadd, 1) := by decide +kernel
theorem dL_law_346 : decode cL_law 346 = .ok (.iaload, 1) := by decide +kernel
theorem dL_law_347 : decode cL_law 347 = .ok (.aload_n 0, 1) := by decide +kernel
theorem dL_law_348 : decode cL_law 348 = .ok (.iload_n 3, 1) := by decide +kernel
theorem dL_law_349 : decode cL_law 349 = .ok (.iconst 2, 1) := by decide +kernel
theorem dL_law_350 : decode cL_law 350 = .ok (.iadd, 1) := by decide +kernel
theorem dL_law_351 : decode cL_law 351 = .ok (.iaload, 1) := by decide +kernel
theorem dL_law_352 : decode cL_law 352 = .ok (.invokevirtual 55, 3) := by decide +kernel
theorem dL_law_355 : decode cL_law 355 = .ok (.if_icmp .eq 342, 3) := by decide +kernel
theorem dL_law_358 : decode cL_law 358 = .ok (.iconst 0, 1) := by decide +kernel
theorem dL_law_359 : decode cL_law 359 = .ok (.ireturn, 1) := by decide +kernel
theorem dL_law_360 : decode cL_law 360 = .ok (.aload_n 1, 1) := by decide +kernel
theorem dL_law_361 : decode cL_law 361 = .ok (.aload_n 0, 1) := by decide +kernel
theorem dL_law_362 : decode cL_law 362 = .ok (.iload_n 3, 1) := by decide +kernel
theorem dL_law_363 : decode cL_law 363 = .ok (.iconst 1, 1) := by decide +kernel
theorem dL_law_364 : decode cL_law 364 = .ok (.iadd, 1) := by decide +kernel
theorem dL_law_365 : decode cL_law 365 = .ok (.iaload, 1) := by decide +kernel
theorem dL_law_366 : decode cL_law 366 = .ok (.aload_n 0, 1) := by decide +kernel
theorem dL_law_367 : decode cL_law 367 = .ok (.iload_n 3, 1) := by decide +kernel
theorem dL_law_368 : decode cL_law 368 = .ok (.iconst 2, 1) := by decide +kernel
theorem dL_law_369 : decode cL_law 369 = .ok (.iadd, 1) := by decide +kernel
theorem dL_law_370 : decode cL_law 370 = .ok (.iaload, 1) := by decide +kernel
theorem dL_law_371 : decode cL_law 371 = .ok (.invokevirtual 56, 3) := by decide +kernel
theorem dL_law_374 : decode cL_law 374 = .ok (.aload_n 2, 1) := by decide +kernel
theorem dL_law_375 : decode cL_law 375 = .ok (.aload_n 0, 1) := by decide +kernel
theorem dL_law_376 : decode cL_law 376 = .ok (.iload_n 3, 1) := by decide +kernel
theorem dL_law_377 : decode cL_law 377 = .ok (.iconst 1, 1) := by decide +kernel
theorem dL_law_378 : decode cL_law 378 = .ok (.iadd, 1) := by decide +kernel
theorem dL_law_379 : decode cL_law 379 = .ok (.iaload, 1) := by decide +kernel
theorem dL_law_380 : decode cL_law 380 = .ok (.aload_n 0, 1) := by decide +kernel
theorem dL_law_381 : decode cL_law 381 = .ok (.iload_n 3, 1) := by decide +kernel
theorem dL_law_382 : decode cL_law 382 = .ok (.iconst 2, 1) := by decide +kernel
theorem dL_law_383 : decode cL_law 383 = .ok (.iadd, 1) := by decide +kernel
theorem dL_law_384 : decode cL_law 384 = .ok (.iaload, 1) := by decide +kernel
theorem dL_law_385 : decode cL_law 385 = .ok (.invokevirtual 59, 3) := by decide +kernel
theorem dL_law_388 : decode cL_law 388 = .ok (.if_icmp .eq 309, 3) := by decide +kernel
theorem dL_law_391 : decode cL_law 391 = .ok (.iconst 0, 1) := by decide +kernel
theorem dL_law_392 : decode cL_law 392 = .ok (.ireturn, 1) := by decide +kernel
theorem dL_law_393 : decode cL_law 393 = .ok (.aload_n 1, 1) := by decide +kernel
theorem dL_law_394 : decode cL_law 394 = .ok (.aload_n 0, 1) := by decide +kernel
theorem dL_law_395 : decode cL_law 395 = .ok (.iload_n 3, 1) := by decide +kernel
theorem dL_law_396 : decode cL_law 396 = .ok (.iconst 1, 1) := by decide +kernel
theorem dL_law_397 : decode cL_law 397 = .ok (.iadd, 1) := by decide +kernel
theorem dL_law_398 : decode cL_law 398 = .ok (.iaload, 1) := by decide +kernel
theorem dL_law_399 : decode cL_law 399 = .ok (.aload_n 0, 1) := by decide +kernel
theorem dL_law_400 : decode cL_law 400 = .ok (.iload_n 3, 1) := by decide +kernel
theorem dL_law_401 : decode cL_law 401 = .ok (.iconst 2, 1) := by decide +kernel
theorem dL_law_402 : decode cL_law 402 = .ok (.iadd, 1) := by decide +kernel
theorem dL_law_403 : decode cL_law 403 = .ok (.iaload, 1) := by decide +kernel
theorem dL_law_404 : decode cL_law 404 = .ok (.invokevirtual 60, 3) := by decide +kernel
theorem dL_law_407 : decode cL_law 407 = .ok (.aload_n 2, 1) := by decide +kernel
theorem dL_law_408 : decode cL_law 408 = .ok (.aload_n 0, 1) := by decide +kernel
theorem dL_law_409 : decode cL_law 409 = .ok (.iload_n 3, 1) := by decide +kernel
theorem dL_law_410 : decode cL_law 410 = .ok (.iconst 1, 1) := by decide +kernel
theorem dL_law_411 : decode cL_law 411 = .ok (.iadd, 1) := by decide +kernel
theorem dL_law_412 : decode cL_law 412 = .ok (.iaload, 1) := by decide +kernel
theorem dL_law_413 : decode cL_law 413 = .ok (.aload_n 0, 1) := by decide +kernel
theorem dL_law_414 : decode cL_law 414 = .ok (.iload_n 3, 1) := by decide +kernel
theorem dL_law_415 : decode cL_law 415 = .ok (.iconst 2, 1) := by decide +kernel
theorem dL_law_416 : decode cL_law 416 = .ok (.iadd, 1) := by decide +kernel
theorem dL_law_417 : decode cL_law 417 = .ok (.iaload, 1) := by decide +kernel
theorem dL_law_418 : decode cL_law 418 = .ok (.invokevirtual 63, 3) := by decide +kernel
theorem dL_law_421 : decode cL_law 421 = .ok (.if_icmp .eq 276, 3) := by decide +kernel
theorem dL_law_424 : decode cL_law 424 = .ok (.iconst 0, 1) := by decide +kernel
theorem dL_law_425 : decode cL_law 425 = .ok (.ireturn, 1) := by decide +kernel
theorem dL_law_426 : decode cL_law 426 = .ok (.aload_n 1, 1) := by decide +kernel
theorem dL_law_427 : decode cL_law 427 = .ok (.aload_n 0, 1) := by decide +kernel
theorem dL_law_428 : decode cL_law 428 = .ok (.iload_n 3, 1) := by decide +kernel
theorem dL_law_429 : decode cL_law 429 = .ok (.iconst 1, 1) := by decide +kernel
theorem dL_law_430 : decode cL_law 430 = .ok (.iadd, 1) := by decide +kernel
theorem dL_law_431 : decode cL_law 431 = .ok (.iaload, 1) := by decide +kernel
theorem dL_law_432 : decode cL_law 432 = .ok (.aload_n 0, 1) := by decide +kernel
theorem dL_law_433 : decode cL_law 433 = .ok (.iload_n 3, 1) := by decide +kernel
theorem dL_law_434 : decode cL_law 434 = .ok (.iconst 2, 1) := by decide +kernel
theorem dL_law_435 : decode cL_law 435 = .ok (.iadd, 1) := by decide +kernel
theorem dL_law_436 : decode cL_law 436 = .ok (.iaload, 1) := by decide +kernel
theorem dL_law_437 : decode cL_law 437 = .ok (.invokevirtual 64, 3) := by decide +kernel
theorem dL_law_440 : decode cL_law 440 = .ok (.aload_n 2, 1) := by decide +kernel
theorem dL_law_441 : decode cL_law 441 = .ok (.aload_n 0, 1) := by decide +kernel
theorem dL_law_442 : decode cL_law 442 = .ok (.iload_n 3, 1) := by decide +kernel
theorem dL_law_443 : decode cL_law 443 = .ok (.iconst 1, 1) := by decide +kernel
theorem dL_law_444 : decode cL_law 444 = .ok (.iadd, 1) := by decide +kernel
theorem dL_law_445 : decode cL_law 445 = .ok (.iaload, 1) := by decide +kernel
theorem dL_law_446 : decode cL_law 446 = .ok (.aload_n 0, 1) := by decide +kernel
theorem dL_law_447 : decode cL_law 447 = .ok (.iload_n 3, 1) := by decide +kernel
theorem dL_law_448 : decode cL_law 448 = .ok (.iconst 2, 1) := by decide +kernel
theorem dL_law_449 : decode cL_law 449 = .ok (.iadd, 1) := by decide +kernel
theorem dL_law_450 : decode cL_law 450 = .ok (.iaload, 1) := by decide +kernel
theorem dL_law_451 : decode cL_law 451 = .ok (.invokevirtual 67, 3) := by decide +kernel
theorem dL_law_454 : decode cL_law 454 = .ok (.if_icmp .eq 243, 3) := by decide +kernel
theorem dL_law_457 : decode cL_law 457 = .ok (.iconst 0, 1) := by decide +kernel
theorem dL_law_458 : decode cL_law 458 = .ok (.ireturn, 1) := by decide +kernel
theorem dL_law_459 : decode cL_law 459 = .ok (.aload_n 1, 1) := by decide +kernel
theorem dL_law_460 : decode cL_law 460 = .ok (.aload_n 0, 1) := by decide +kernel
theorem dL_law_461 : decode cL_law 461 = .ok (.iload_n 3, 1) := by decide +kernel
theorem dL_law_462 : decode cL_law 462 = .ok (.iconst 1, 1) := by decide +kernel
theorem dL_law_463 : decode cL_law 463 = .ok (.iadd, 1) := by decide +kernel
theorem dL_law_464 : decode cL_law 464 = .ok (.iaload, 1) := by decide +kernel
theorem dL_law_465 : decode cL_law 465 = .ok (.aload_n 0, 1) := by decide +kernel
theorem dL_law_466 : decode cL_law 466 = .ok (.iload_n 3, 1) := by decide +kernel
theorem dL_law_467 : decode cL_law 467 = .ok (.iconst 2, 1) := by decide +kernel
theorem dL_law_468 : decode cL_law 468 = .ok (.iadd, 1) := by decide +kernel
theorem dL_law_469 : decode cL_law 469 = .ok (.iaload, 1) := by decide +kernel
theorem dL_law_470 : decode cL_law 470 = .ok (.invokevirtual 68, 3) := by decide +kernel
theorem dL_law_473 : decode cL_law 473 = .ok (.aload_n 2, 1) := by decide +kernel
theorem dL_law_474 : decode cL_law 474 = .ok (.aload_n 0, 1) := by decide +kernel
theorem dL_law_475 : decode cL_law 475 = .ok (.iload_n 3, 1) := by decide +kernel
theorem dL_law_476 : decode cL_law 476 = .ok (.iconst 1, 1) := by decide +kernel
theorem dL_law_477 : decode cL_law 477 = .ok (.iadd, 1) := by decide +kernel
theorem dL_law_478 : decode cL_law 478 = .ok (.iaload, 1) := by decide +kernel
theorem dL_law_479 : decode cL_law 479 = .ok (.aload_n 0, 1) := by decide +kernel
theorem dL_law_480 : decode cL_law 480 = .ok (.iload_n 3, 1) := by decide +kernel
theorem dL_law_481 : decode cL_law 481 = .ok (.iconst 2, 1) := by decide +kernel
theorem dL_law_482 : decode cL_law 482 = .ok (.iadd, 1) := by decide +kernel
theorem dL_law_483 : decode cL_law 483 = .ok (.iaload, 1) := by decide +kernel
theorem dL_law_484 : decode cL_law 484 = .ok (.invokevirtual 71, 3) := by decide +kernel
theorem dL_law_487 : decode cL_law 487 = .ok (.if_icmp .eq 210, 3) := by decide +kernel
theorem dL_law_490 : decode cL_law 490 = .ok (.iconst 0, 1) := by decide +kernel
theorem dL_law_491 : decode cL_law 491 = .ok (.ireturn, 1) := by decide +kernel
theorem dL_law_492 : decode cL_law 492 = .ok (.aload_n 1, 1) := by decide +kernel
theorem dL_law_493 : decode cL_law 493 = .ok (.aload_n 0, 1) := by decide +kernel
theorem dL_law_494 : decode cL_law 494 = .ok (.iload_n 3, 1) := by decide +kernel
theorem dL_law_495 : decode cL_law 495 = .ok (.iconst 1, 1) := by decide +kernel
theorem dL_law_496 : decode cL_law 496 = .ok (.iadd, 1) := by decide +kernel
theorem dL_law_497 : decode cL_law 497 = .ok (.iaload, 1) := by decide +kernel
theorem dL_law_498 : decode cL_law 498 = .ok (.invokevirtual 72, 3) := by decide +kernel
theorem dL_law_501 : decode cL_law 501 = .ok (.aload_n 2, 1) := by decide +kernel
theorem dL_law_502 : decode cL_law 502 = .ok (.aload_n 0, 1) := by decide +kernel
theorem dL_law_503 : decode cL_law 503 = .ok (.iload_n 3, 1) := by decide +kernel
theorem dL_law_504 : decode cL_law 504 = .ok (.iconst 1, 1) := by decide +kernel
theorem dL_law_505 : decode cL_law 505 = .ok (.iadd, 1) := by decide +kernel
theorem dL_law_506 : decode cL_law 506 = .ok (.iaload, 1) := by decide +kernel
theorem dL_law_507 : decode cL_law 507 = .ok (.invokevirtual 75, 3) := by decide +kernel
theorem dL_law_510 : decode cL_law 510 = .ok (.if_icmp .eq 187, 3) := by decide +kernel
theorem dL_law_513 : decode cL_law 513 = .ok (.iconst 0, 1) := by decide +kernel
theorem dL_law_514 : decode cL_law 514 = .ok (.ireturn, 1) := by decide +kernel
theorem dL_law_515 : decode cL_law 515 = .ok (.aload_n 1, 1) := by decide +kernel
theorem dL_law_516 : decode cL_law 516 = .ok (.invokevirtual 76, 3) := by decide +kernel
theorem dL_law_519 : decode cL_law 519 = .ok (.dstore 4, 2) := by decide +kernel
theorem dL_law_521 : decode cL_law 521 = .ok (.aload_n 2, 1) := by decide +kernel
theorem dL_law_522 : decode cL_law 522 = .ok (.invokevirtual 80, 3) := by decide +kernel
theorem dL_law_525 : decode cL_law 525 = .ok (.dstore 6, 2) := by decide +kernel
theorem dL_law_527 : decode cL_law 527 = .ok (.dload 4, 2) := by decide +kernel
theorem dL_law_529 : decode cL_law 529 = .ok (.dload 6, 2) := by decide +kernel
theorem dL_law_531 : decode cL_law 531 = .ok (.dcmp .l, 1) := by decide +kernel
theorem dL_law_532 : decode cL_law 532 = .ok (.ifCond .eq 21, 3) := by decide +kernel
theorem dL_law_535 : decode cL_law 535 = .ok (.dload 4, 2) := by decide +kernel
theorem dL_law_537 : decode cL_law 537 = .ok (.dload 4, 2) := by decide +kernel
theorem dL_law_539 : decode cL_law 539 = .ok (.dcmp .l, 1) := by decide +kernel
theorem dL_law_540 : decode cL_law 540 = .ok (.ifCond .eq 11, 3) := by decide +kernel
theorem dL_law_543 : decode cL_law 543 = .ok (.dload 6, 2) := by decide +kernel
theorem dL_law_545 : decode cL_law 545 = .ok (.dload 6, 2) := by decide +kernel
theorem dL_law_547 : decode cL_law 547 = .ok (.dcmp .l, 1) := by decide +kernel
theorem dL_law_548 : decode cL_law 548 = .ok (.ifCond .ne 5, 3) := by decide +kernel
theorem dL_law_551 : decode cL_law 551 = .ok (.iconst 0, 1) := by decide +kernel
theorem dL_law_552 : decode cL_law 552 = .ok (.ireturn, 1) := by decide +kernel
theorem dL_law_553 : decode cL_law 553 = .ok (.goto 144, 3) := by decide +kernel
theorem dL_law_556 : decode cL_law 556 = .ok (.aload_n 1, 1) := by decide +kernel
theorem dL_law_557 : decode cL_law 557 = .ok (.aload_n 0, 1) := by decide +kernel
theorem dL_law_558 : decode cL_law 558 = .ok (.iload_n 3, 1) := by decide +kernel
theorem dL_law_559 : decode cL_law 559 = .ok (.iconst 1, 1) := by decide +kernel
theorem dL_law_560 : decode cL_law 560 = .ok (.iadd, 1) := by decide +kernel
theorem dL_law_561 : decode cL_law 561 = .ok (.iaload, 1) := by decide +kernel
theorem dL_law_562 : decode cL_law 562 = .ok (.invokevirtual 81, 3) := by decide +kernel
theorem dL_law_565 : decode cL_law 565 = .ok (.aload_n 2, 1) := by decide +kernel
theorem dL_law_566 : decode cL_law 566 = .ok (.aload_n 0, 1) := by decide +kernel
theorem dL_law_567 : decode cL_law 567 = .ok (.iload_n 3, 1) := by decide +kernel
theorem dL_law_568 : decode cL_law 568 = .ok (.iconst 1, 1) := by decide +kernel
theorem dL_law_569 : decode cL_law 569 = .ok (.iadd, 1) := by decide +kernel
theorem dL_law_570 : decode cL_law 570 = .ok (.iaload, 1) := by decide +kernel
theorem dL_law_571 : decode cL_law 571 = .ok (.invokevirtual 84, 3) := by decide +kernel
theorem dL_law_574 : decode cL_law 574 = .ok (.if_icmp .eq 123, 3) := by decide +kernel
theorem dL_law_577 : decode cL_law 577 = .ok (.iconst 0, 1) := by decide +kernel
theorem dL_law_578 : decode cL_law 578 = .ok (.ireturn, 1) := by decide +kernel
theorem dL_law_579 : decode cL_law 579 = .ok (.aload_n 1, 1) := by decide +kernel
theorem dL_law_580 : decode cL_law 580 = .ok (.aload_n 0, 1) := by decide +kernel
theorem dL_law_581 : decode cL_law 581 = .ok (.iload_n 3, 1) := by decide +kernel
theorem dL_law_582 : decode cL_law 582 = .ok (.iconst 1, 1) := by decide +kernel
theorem dL_law_583 : decode cL_law 583 = .ok (.iadd, 1) := by decide +kernel
theorem dL_law_584 : decode cL_law 584 = .ok (.iaload, 1) := by decide +kernel
theorem dL_law_585 : decode cL_law 585 = .ok (.invokevirtual 85, 3) := by decide +kernel
theorem dL_law_588 : decode cL_law 588 = .ok (.aload_n 2, 1) := by decide +kernel
theorem dL_law_589 : decode cL_law 589 = .ok (.aload_n 0, 1) := by decide +kernel
theorem dL_law_590 : decode cL_law 590 = .ok (.iload_n 3, 1) := by decide +kernel
theorem dL_law_591 : decode cL_law 591 = .ok (.iconst 1, 1) := by decide +kernel
theorem dL_law_592 : decode cL_law 592 = .ok (.iadd, 1) := by decide +kernel
theorem dL_law_593 : decode cL_law 593 = .ok (.iaload, 1) := by decide +kernel
theorem dL_law_594 : decode cL_law 594 = .ok (.invokevirtual 88, 3) := by decide +kernel
theorem dL_law_597 : decode cL_law 597 = .ok (.if_icmp .eq 100, 3) := by decide +kernel
theorem dL_law_600 : decode cL_law 600 = .ok (.iconst 0, 1) := by decide +kernel
theorem dL_law_601 : decode cL_law 601 = .ok (.ireturn, 1) := by decide +kernel
theorem dL_law_602 : decode cL_law 602 = .ok (.aload_n 1, 1) := by decide +kernel
theorem dL_law_603 : decode cL_law 603 = .ok (.aload_n 0, 1) := by decide +kernel
theorem dL_law_604 : decode cL_law 604 = .ok (.iload_n 3, 1) := by decide +kernel
theorem dL_law_605 : decode cL_law 605 = .ok (.iconst 1, 1) := by decide +kernel
theorem dL_law_606 : decode cL_law 606 = .ok (.iadd, 1) := by decide +kernel
theorem dL_law_607 : decode cL_law 607 = .ok (.iaload, 1) := by decide +kernel
theorem dL_law_608 : decode cL_law 608 = .ok (.aload_n 0, 1) := by decide +kernel
theorem dL_law_609 : decode cL_law 609 = .ok (.iload_n 3, 1) := by decide +kernel
theorem dL_law_610 : decode cL_law 610 = .ok (.iconst 2, 1) := by decide +kernel
theorem dL_law_611 : decode cL_law 611 = .ok (.iadd, 1) := by decide +kernel
theorem dL_law_612 : decode cL_law 612 = .ok (.iaload, 1) := by decide +kernel
theorem dL_law_613 : decode cL_law 613 = .ok (.aload_n 0, 1) := by decide +kernel
theorem dL_law_614 : decode cL_law 614 = .ok (.iload_n 3, 1) := by decide +kernel
theorem dL_law_615 : decode cL_law 615 = .ok (.iconst 3, 1) := by decide +kernel
theorem dL_law_616 : decode cL_law 616 = .ok (.iadd, 1) := by decide +kernel
theorem dL_law_617 : decode cL_law 617 = .ok (.iaload, 1) := by decide +kernel
theorem dL_law_618 : decode cL_law 618 = .ok (.invokevirtual 89, 3) := by decide +kernel
theorem dL_law_621 : decode cL_law 621 = .ok (.aload_n 2, 1) := by decide +kernel
theorem dL_law_622 : decode cL_law 622 = .ok (.aload_n 0, 1) := by decide +kernel
theorem dL_law_623 : decode cL_law 623 = .ok (.iload_n 3, 1) := by decide +kernel
theorem dL_law_624 : decode cL_law 624 = .ok (.iconst 1, 1) := by decide +kernel
theorem dL_law_625 : decode cL_law 625 = .ok (.iadd, 1) := by decide +kernel
theorem dL_law_626 : decode cL_law 626 = .ok (.iaload, 1) := by decide +kernel
theorem dL_law_627 : decode cL_law 627 = .ok (.aload_n 0, 1) := by decide +kernel
theorem dL_law_628 : decode cL_law 628 = .ok (.iload_n 3, 1) := by decide +kernel
theorem dL_law_629 : decode cL_law 629 = .ok (.iconst 2, 1) := by decide +kernel
theorem dL_law_630 : decode cL_law 630 = .ok (.iadd, 1) := by decide +kernel
theorem dL_law_631 : decode cL_law 631 = .ok (.iaload, 1) := by decide +kernel
theorem dL_law_632 : decode cL_law 632 = .ok (.aload_n 0, 1) := by decide +kernel
theorem dL_law_633 : decode cL_law 633 = .ok (.iload_n 3, 1) := by decide +kernel
theorem dL_law_634 : decode cL_law 634 = .ok (.iconst 3, 1) := by decide +kernel
theorem dL_law_635 : decode cL_law 635 = .ok (.iadd, 1) := by decide +kernel
theorem dL_law_636 : decode cL_law 636 = .ok (.iaload, 1) := by decide +kernel
theorem dL_law_637 : decode cL_law 637 = .ok (.invokevirtual 93, 3) := by decide +kernel
theorem dL_law_640 : decode cL_law 640 = .ok (.if_icmp .eq 57, 3) := by decide +kernel
theorem dL_law_643 : decode cL_law 643 = .ok (.iconst 0, 1) := by decide +kernel
theorem dL_law_644 : decode cL_law 644 = .ok (.ireturn, 1) := by decide +kernel
theorem dL_law_645 : decode cL_law 645 = .ok (.aload_n 1, 1) := by decide +kernel
theorem dL_law_646 : decode cL_law 646 = .ok (.invokevirtual 94, 3) := by decide +kernel
theorem dL_law_649 : decode cL_law 649 = .ok (.aload_n 2, 1) := by decide +kernel
theorem dL_law_650 : decode cL_law 650 = .ok (.invokevirtual 97, 3) := by decide +kernel
theorem dL_law_653 : decode cL_law 653 = .ok (.if_icmp .eq 44, 3) := by decide +kernel
theorem dL_law_656 : decode cL_law 656 = .ok (.iconst 0, 1) := by decide +kernel
theorem dL_law_657 : decode cL_law 657 = .ok (.ireturn, 1) := by decide +kernel
theorem dL_law_658 : decode cL_law 658 = .ok (.aload_n 1, 1) := by decide +kernel
theorem dL_law_659 : decode cL_law 659 = .ok (.invokevirtual 98, 3) := by decide +kernel
theorem dL_law_662 : decode cL_law 662 = .ok (.aload_n 2, 1) := by decide +kernel
theorem dL_law_663 : decode cL_law 663 = .ok (.invokevirtual 101, 3) := by decide +kernel
theorem dL_law_666 : decode cL_law 666 = .ok (.if_icmp .eq 31, 3) := by decide +kernel
theorem dL_law_669 : decode cL_law 669 = .ok (.iconst 0, 1) := by decide +kernel
theorem dL_law_670 : decode cL_law 670 = .ok (.ireturn, 1) := by decide +kernel
theorem dL_law_671 : decode cL_law 671 = .ok (.aload_n 1, 1) := by decide +kernel
theorem dL_law_672 : decode cL_law 672 = .ok (.invokevirtual 102, 3) := by decide +kernel
theorem dL_law_675 : decode cL_law 675 = .ok (.aload_n 2, 1) := by decide +kernel
theorem dL_law_676 : decode cL_law 676 = .ok (.invokevirtual 105, 3) := by decide +kernel
theorem dL_law_679 : decode cL_law 679 = .ok (.if_icmp .eq 18, 3) := by decide +kernel
theorem dL_law_682 : decode cL_law 682 = .ok (.iconst 0, 1) := by decide +kernel
theorem dL_law_683 : decode cL_law 683 = .ok (.ireturn, 1) := by decide +kernel
theorem dL_law_684 : decode cL_law 684 = .ok (.aload_n 1, 1) := by decide +kernel
theorem dL_law_685 : decode cL_law 685 = .ok (.invokevirtual 106, 3) := by decide +kernel
theorem dL_law_688 : decode cL_law 688 = .ok (.aload_n 2, 1) := by decide +kernel
theorem dL_law_689 : decode cL_law 689 = .ok (.invokevirtual 109, 3) := by decide +kernel
theorem dL_law_692 : decode cL_law 692 = .ok (.if_icmp .eq 5, 3) := by decide +kernel
theorem dL_law_695 : decode cL_law 695 = .ok (.iconst 0, 1) := by decide +kernel
theorem dL_law_696 : decode cL_law 696 = .ok (.ireturn, 1) := by decide +kernel
theorem dL_law_697 : decode cL_law 697 = .ok (.iinc 3 4, 3) := by decide +kernel
theorem dL_law_700 : decode cL_law 700 = .ok (.goto (-682), 3) := by decide +kernel
theorem dL_law_703 : decode cL_law 703 = .ok (.iconst 1, 1) := by decide +kernel
theorem dL_law_704 : decode cL_law 704 = .ok (.ireturn, 1) := by decide +kernel
end
section
/-! ===== more rows for the walks that a program lays ===== -/
def zob (v : Int32) : Bool := decide (v = 0) || decide (v = 1)
theorem zob_s {v : Int32} (h : zob v = true) : v = 0 ∨ v = 1 := by
  simpa [zob] using h
def nnb (r : UInt64) : Bool := decide (r &&& 0x7fffffffffffffff ≤ 0x7ff0000000000000)
theorem nnb_n {r : UInt64} (h : nnb r = true) : vf_n64 r := by
  unfold vf_n64
  simpa [nnb] using h
theorem sw_ne {x k : Int32} {z : Int} (hk : k.toInt = z) (h : ¬ x = k) : x.toInt ≠ z := fun q => h (Int32.toInt_inj.mp (q.trans hk.symm))
theorem mg {α β : Type} {G : Prop} {x : α} {f : α → β} {r : β} (P : α → Prop) (_h : nm x f = r) (J : ∀ w, f w = r → P w) (B : (∀ w, f w = r → P w) → G) : G := B J
section B2
variable {p : Program} {l : Launch} {e : Env} {R : Room} {s : State} {m : MethodId} {args : Array Value} {below : List Frame} {meth : Method} {c : Code} {H : Heap} {locs : List Loc} {cells slots : Nat} {Q : State → Prop} {pc : Nat} {ls : Array Slot} {rest : List Value}
theorem nm_W {β : Type} {x : Int32} {f : Int32 → β} {r : β} (h : nm x f = r) (k : ∀ v, f v = r → W p l e R s m args below meth c H locs cells slots Q (F0 m pc ls (.int v :: rest))) : W p l e R s m args below meth c H locs cells slots Q (F0 m pc ls (.int x :: rest)) := k x h
variable {cc bytes : ByteArray} {D : va_G} {A0 : Nat → Prop} {ws wc wr w1 wn : va_W} {a : Array Value} {st0 : List Value}
theorem af_i0 {r0 : Int32} (hr : va_Run p l e R s m args below meth c H locs cells slots 0 0 (F0 m pc ls st0) rest (QI D r0 w1 (va_A wc H.size) a) (va_A wc H.size)) (hP : va_P D vwCl ws H) (hD : va_D A0 ws) (hS : va_S A0 s.heap H locs) (hA : ∀ q : Nat, s.heap.size ≤ q → A0 q)
    (isC isR isN : List Nat) (hC : isC.map (fun i => ws[i]?) = wc.map some) (hR : isR.map (fun i => ws[i]?) = wr.map some) (hn : va_nd isR = true) (hdis : ∀ i ∈ isR, i ∉ isC) (hN : isN.map (fun i => (wr ++ w1)[i]?) = wn.map some) (hN' : isN.filterMap (fun i => (wr ++ w1)[i]?) = wn) (hnN : va_nd isN = true)
    (kk : ∀ (H1 : Heap) (locs1 : List Loc), va_P D vwCl wn H1 → va_D A0 wn → va_S A0 s.heap H1 locs1 → W p l e R s m args below meth c H1 locs1 cells slots Q (F0 m (pc + 3) ls (.int r0 :: rest))) : W p l e R s m args below meth c H locs cells slots Q (F0 m pc ls st0) := af_i hr hP hD hS hA isC isR isN hC hR hn hdis hN hN' hnN kk
theorem af_z0 {r0 : Int32} (hr : va_Run p l e R s m args below meth c H locs cells slots 0 0 (F0 m pc ls st0) rest (QZ D r0 w1 (va_A wc H.size) a) (va_A wc H.size)) (hP : va_P D vwCl ws H) (hD : va_D A0 ws) (hS : va_S A0 s.heap H locs) (hA : ∀ q : Nat, s.heap.size ≤ q → A0 q)
    (isC isR isN : List Nat) (hC : isC.map (fun i => ws[i]?) = wc.map some) (hR : isR.map (fun i => ws[i]?) = wr.map some) (hn : va_nd isR = true) (hdis : ∀ i ∈ isR, i ∉ isC) (hN : isN.map (fun i => (wr ++ w1)[i]?) = wn.map some) (hN' : isN.filterMap (fun i => (wr ++ w1)[i]?) = wn) (hnN : va_nd isN = true)
    (kk : ∀ (H1 : Heap) (locs1 : List Loc), (r0 = 0 ∨ r0 = 1) → va_P D vwCl wn H1 → va_D A0 wn → va_S A0 s.heap H1 locs1 → W p l e R s m args below meth c H1 locs1 cells slots Q (F0 m (pc + 3) ls (.int r0 :: rest))) : W p l e R s m args below meth c H locs cells slots Q (F0 m pc ls st0) := af_z hr hP hD hS hA isC isR isN hC hR hn hdis hN hN' hnN kk
theorem af_v0 (hr : va_Run p l e R s m args below meth c H locs cells slots 0 0 (F0 m pc ls st0) rest (QV D w1 (va_A wc H.size) a) (va_A wc H.size)) (hP : va_P D vwCl ws H) (hD : va_D A0 ws) (hS : va_S A0 s.heap H locs) (hA : ∀ q : Nat, s.heap.size ≤ q → A0 q)
    (isC isR isN : List Nat) (hC : isC.map (fun i => ws[i]?) = wc.map some) (hR : isR.map (fun i => ws[i]?) = wr.map some) (hn : va_nd isR = true) (hdis : ∀ i ∈ isR, i ∉ isC) (hN : isN.map (fun i => (wr ++ w1)[i]?) = wn.map some) (hN' : isN.filterMap (fun i => (wr ++ w1)[i]?) = wn) (hnN : va_nd isN = true)
    (kk : ∀ (H1 : Heap) (locs1 : List Loc), va_P D vwCl wn H1 → va_D A0 wn → va_S A0 s.heap H1 locs1 → W p l e R s m args below meth c H1 locs1 cells slots Q (F0 m (pc + 3) ls rest)) : W p l e R s m args below meth c H locs cells slots Q (F0 m pc ls st0) := af_v hr hP hD hS hA isC isR isN hC hR hn hdis hN hN' hnN kk
theorem af_d0 {r0 : UInt64} (hr : va_Run p l e R s m args below meth c H locs cells slots 0 0 (F0 m pc ls st0) rest (QD D r0 w1 (va_A wc H.size) a) (va_A wc H.size)) (hP : va_P D vwCl ws H) (hD : va_D A0 ws) (hS : va_S A0 s.heap H locs) (hA : ∀ q : Nat, s.heap.size ≤ q → A0 q)
    (isC isR isN : List Nat) (hC : isC.map (fun i => ws[i]?) = wc.map some) (hR : isR.map (fun i => ws[i]?) = wr.map some) (hn : va_nd isR = true) (hdis : ∀ i ∈ isR, i ∉ isC) (hN : isN.map (fun i => (wr ++ w1)[i]?) = wn.map some) (hN' : isN.filterMap (fun i => (wr ++ w1)[i]?) = wn) (hnN : va_nd isN = true)
    (kk : ∀ (H1 : Heap) (locs1 : List Loc), va_P D vwCl wn H1 → va_D A0 wn → va_S A0 s.heap H1 locs1 → W p l e R s m args below meth c H1 locs1 cells slots Q (F0 m (pc + 3) ls (.double r0 :: rest))) : W p l e R s m args below meth c H locs cells slots Q (F0 m pc ls st0) := af_d hr hP hD hS hA isC isR isN hC hR hn hdis hN hN' hnN kk
end B2
end
section
def f_X4_bit (s0 : Int32) : Int32 :=
  (1 <<< ((s0 - 1) &&& 31))
abbrev rm_X4_bit : Room := { frames := 1, cells := 0, slots := 0, locals := 24 }
set_option maxHeartbeats 4000000 in
set_option maxRecDepth 100000 in
theorem c_X4_bit (l : Launch) (D : va_G) (Y : ClassId × ClassId × ClassId) (s0 : Int32) (R : Int32) (hf : f_X4_bit s0 = R) : Met l yX4_bit (ws_ yX4_bit cX4_bit 1 (some .int)) rm_X4_bit (va_Pc [.int s0] (RO D Y [])) (OI R) 0 0 (fun _ => False) := by
  refine ro_start (by decide) (Nat.le_of_ble_eq_true rfl) ?_
  intro p e s m below meth c ls hx hb hml hr hlocks hown hts hP hE hl
  generalize hargs : List.toArray _ = args at hts ⊢
  have hown : s.vm.findClass RX4 = some m.cls := hown
  have E : EN p m c cX4_bit 1 s args RX4 := ⟨hx, hb, hml, hown, hts⟩
  have hl : lv_has ls 1 [(0, .int s0)] := hl
  generalize hQ : MQ below _ args s 0 0 _ = Q
  unfold f_X4_bit at hf
  refine lv_iconst (v := 1) hx hb dX4_bit_0 (by decide) ?_
  refine lv_iload_n hx hb dX4_bit_1 rfl (lv_at hl 0 rfl) ?_
  refine lv_iconst (v := 1) hx hb dX4_bit_2 (by decide) ?_
  refine lv_isub hx hb dX4_bit_3 ?_
  refine lv_ishl hx hb dX4_bit_4 ?_
  subst hf
  subst hQ
  exact en_oi hx hb hr hlocks rfl dX4_bit_5

def f_X4_has (s0 : Int32) (s1 : Int32) : Int32 :=
  (if (s0 &&& (f_X4_bit s1)) = 0 then 0 else 1)
abbrev rm_X4_has : Room := { frames := 2, cells := 0, slots := 0, locals := 44 }
set_option maxHeartbeats 4000000 in
set_option maxRecDepth 100000 in
theorem c_X4_has (l : Launch) (D : va_G) (Y : ClassId × ClassId × ClassId) (s0 : Int32) (s1 : Int32) (R : Int32) (hf : f_X4_has s0 s1 = R) : Met l yX4_has (ws_ yX4_has cX4_has 2 (some .boolean)) rm_X4_has (va_Pc [.int s0, .int s1] (RO D Y [])) (OZ R) 0 0 (fun _ => False) := by
  refine ro_start (by decide) (Nat.le_of_ble_eq_true rfl) ?_
  intro p e s m below meth c ls hx hb hml hr hlocks hown hts hP hE hl
  generalize hargs : List.toArray _ = args at hts ⊢
  have hown : s.vm.findClass RX4 = some m.cls := hown
  have E : EN p m c cX4_has 2 s args RX4 := ⟨hx, hb, hml, hown, hts⟩
  have hl : lv_has ls 2 [(0, .int s0), (1, .int s1)] := hl
  generalize hQ : MQ below _ args s 0 0 _ = Q
  unfold f_X4_has at hf
  refine lv_iload_n hx hb dX4_has_0 rfl (lv_at hl 0 rfl) ?_
  refine lv_iload_n hx hb dX4_has_1 rfl (lv_at hl 1 rfl) ?_
  refine af_oi (run_S (As := [.int s1]) (rest := [.int s0]) E (c_X4_bit l D Y s1 (f_X4_bit s1) rfl) qw345 qw346 qw75 qw347 rfl rfl hd_X4_bit ⟨Nat.le_of_ble_eq_true rfl, Nat.le_of_ble_eq_true rfl⟩ (pre_roS hP hE [] rfl) rfl hl.1 rfl (Nat.le_of_ble_eq_true rfl) dX4_has_2 ⟨Nat.zero_le _, Nat.zero_le _⟩) ?_
  refine lv_iand hx hb dX4_has_5 ?_
  refine lv_if_eq (tgt := 13) hx hb dX4_has_6 (by decide) (fun c1 => ?_) (fun c1 => ?_)
  · have hf := ite_t c1 hf
    refine lv_iconst (v := 0) hx hb dX4_has_13 (by decide) ?_
    subst hf
    subst hQ
    exact en_oz hx hb hr hlocks rfl (Or.inl rfl) dX4_has_14
  have hf := ite_f c1 hf
  refine lv_iconst (v := 1) hx hb dX4_has_9 (by decide) ?_
  refine lv_goto (tgt := 14) hx hb dX4_has_10 (by decide) ?_
  subst hf
  subst hQ
  exact en_oz hx hb hr hlocks rfl (Or.inr rfl) dX4_has_14

def f_X4_areRight_L22 (s0 : Int32) (s1 : Int32) : Nat → Int32 → Option (Int32)
  | 0, _ => none
  | n + 1, s3 => (if s1 < s3 then some 1 else (if (f_X4_has s0 s3) = 0 then (if s3 = s1 then some 0 else (if (f_X4_has s0 (s3 + 1)) = 0 then (f_X4_areRight_L22 s0 s1 n (s3 + 2)) else some 0)) else (f_X4_areRight_L22 s0 s1 n (s3 + 1))))
def f_X4_areRight (s0 : Int32) (s1 : Int32) : Option (Int32) :=
  nm ((f_X4_bit (s1 + 1)) - 1) (fun (x1 : Int32) => (if s0 < 0 then some 0 else (if s0 < x1 then (f_X4_areRight_L22 s0 s1 fu 1) else some 0)))
abbrev rm_X4_areRight : Room := { frames := 3, cells := 0, slots := 0, locals := 65 }
set_option maxHeartbeats 4000000 in
set_option maxRecDepth 100000 in
theorem c_X4_areRight (l : Launch) (D : va_G) (Y : ClassId × ClassId × ClassId) (s0 : Int32) (s1 : Int32) (R : Int32) (hf : f_X4_areRight s0 s1 = some R) : Met l yX4_areRight (ws_ yX4_areRight cX4_areRight 4 (some .boolean)) rm_X4_areRight (va_Pc [.int s0, .int s1] (RO D Y [])) (OZ R) 0 0 (fun _ => False) := by
  refine ro_start (by decide) (Nat.le_of_ble_eq_true rfl) ?_
  intro p e s m below meth c ls hx hb hml hr hlocks hown hts hP hE hl
  generalize hargs : List.toArray _ = args at hts ⊢
  have hown : s.vm.findClass RX4 = some m.cls := hown
  have E : EN p m c cX4_areRight 4 s args RX4 := ⟨hx, hb, hml, hown, hts⟩
  have hl : lv_has ls 4 [(0, .int s0), (1, .int s1)] := hl
  generalize hQ : MQ below _ args s 0 0 _ = Q
  unfold f_X4_areRight at hf
  have L22 : ∀ (n : Nat) (s0 : Int32) (s1 : Int32) (s3 : Int32) (ls : Array Slot), f_X4_areRight_L22 s0 s1 n s3 = some R → lv_has ls 4 [(0, .int s0), (1, .int s1), (3, .int s3)] → W p l e rm_X4_areRight s m args below meth c s.heap [] 0 0 Q (F0 m 22 ls []) := by
    intro n
    induction n with
    | zero =>
      intro s0 s1 s3 ls hf
      cases hf
    | succ n ih =>
      intro s0 s1 s3 ls hf hl
      unfold f_X4_areRight_L22 at hf
      refine lv_iload_n hx hb dX4_areRight_22 rfl (lv_at hl 2 rfl) ?_
      refine lv_iload_n hx hb dX4_areRight_23 rfl (lv_at hl 1 rfl) ?_
      refine lv_icmp_gt (tgt := 64) hx hb dX4_areRight_24 (by decide) (fun c4 => ?_) (fun c4 => ?_)
      · have hf := ite_t c4 hf
        refine lv_iconst (v := 1) hx hb dX4_areRight_64 (by decide) ?_
        obtain rfl := Option.some.inj hf
        subst hQ
        exact en_oz hx hb hr hlocks rfl (Or.inr rfl) dX4_areRight_65
      have hf := ite_f c4 hf
      refine lv_iload_n hx hb dX4_areRight_27 rfl (lv_at hl 0 rfl) ?_
      refine lv_iload_n hx hb dX4_areRight_28 rfl (lv_at hl 2 rfl) ?_
      refine af_oz (run_S (As := [.int s0, .int s3]) (rest := []) E (c_X4_has l D Y s0 s3 (f_X4_has s0 s3) rfl) qw348 qw349 qw75 qw350 rfl rfl hd_X4_has ⟨Nat.le_of_ble_eq_true rfl, Nat.le_of_ble_eq_true rfl⟩ (pre_roS hP hE [] rfl) rfl hl.1 rfl (Nat.le_of_ble_eq_true rfl) dX4_areRight_29 ⟨Nat.zero_le _, Nat.zero_le _⟩) (fun z5 => ?_)
      refine lv_if_eq (tgt := 41) hx hb dX4_areRight_32 (by decide) (fun c6 => ?_) (fun c6 => ?_)
      · have hf := ite_t c6 hf
        refine lv_iload_n hx hb dX4_areRight_41 rfl (lv_at hl 2 rfl) ?_
        refine lv_iload_n hx hb dX4_areRight_42 rfl (lv_at hl 1 rfl) ?_
        refine lv_icmp_eq (tgt := 56) hx hb dX4_areRight_43 (by decide) (fun c7 => ?_) (fun c7 => ?_)
        · have hf := ite_t c7 hf
          refine lv_iconst (v := 0) hx hb dX4_areRight_56 (by decide) ?_
          obtain rfl := Option.some.inj hf
          subst hQ
          exact en_oz hx hb hr hlocks rfl (Or.inl rfl) dX4_areRight_57
        have hf := ite_f c7 hf
        refine lv_iload_n hx hb dX4_areRight_46 rfl (lv_at hl 0 rfl) ?_
        refine lv_iload_n hx hb dX4_areRight_47 rfl (lv_at hl 2 rfl) ?_
        refine lv_iconst (v := 1) hx hb dX4_areRight_48 (by decide) ?_
        refine lv_iadd hx hb dX4_areRight_49 ?_
        refine af_oz (run_S (As := [.int s0, .int (s3 + 1)]) (rest := []) E (c_X4_has l D Y s0 (s3 + 1) (f_X4_has s0 (s3 + 1)) rfl) qw348 qw349 qw75 qw350 rfl rfl hd_X4_has ⟨Nat.le_of_ble_eq_true rfl, Nat.le_of_ble_eq_true rfl⟩ (pre_roS hP hE [] rfl) rfl hl.1 rfl (Nat.le_of_ble_eq_true rfl) dX4_areRight_50 ⟨Nat.zero_le _, Nat.zero_le _⟩) (fun z8 => ?_)
        refine lv_if_eq (tgt := 58) hx hb dX4_areRight_53 (by decide) (fun c9 => ?_) (fun c9 => ?_)
        · have hf := ite_t c9 hf
          refine lv_iinc (v := (s3 + 2)) (lv' := [(3, .int (s3 + 2)), (0, .int s0), (1, .int s1)]) hx hb dX4_areRight_58 hl (k := 2) rfl rfl (by decide) rfl (fun ls hl => ?_)
          refine lv_goto (tgt := 22) hx hb dX4_areRight_61 (by decide) ?_
          exact ih _ _ _ _ hf (lv_sub hl [1, 2, 0] rfl)
        have hf := ite_f c9 hf
        refine lv_iconst (v := 0) hx hb dX4_areRight_56 (by decide) ?_
        obtain rfl := Option.some.inj hf
        subst hQ
        exact en_oz hx hb hr hlocks rfl (Or.inl rfl) dX4_areRight_57
      have hf := ite_f c6 hf
      refine lv_iinc (v := (s3 + 1)) (lv' := [(3, .int (s3 + 1)), (0, .int s0), (1, .int s1)]) hx hb dX4_areRight_35 hl (k := 2) rfl rfl (by decide) rfl (fun ls hl => ?_)
      refine lv_goto (tgt := 22) hx hb dX4_areRight_38 (by decide) ?_
      exact ih _ _ _ _ hf (lv_sub hl [1, 2, 0] rfl)
  refine lv_iload_n hx hb dX4_areRight_0 rfl (lv_at hl 1 rfl) ?_
  refine lv_iconst (v := 1) hx hb dX4_areRight_1 (by decide) ?_
  refine lv_iadd hx hb dX4_areRight_2 ?_
  refine af_oi (run_S (As := [.int (s1 + 1)]) (rest := []) E (c_X4_bit l D Y (s1 + 1) (f_X4_bit (s1 + 1)) rfl) qw345 qw346 qw75 qw347 rfl rfl hd_X4_bit ⟨Nat.le_of_ble_eq_true rfl, Nat.le_of_ble_eq_true rfl⟩ (pre_roS hP hE [] rfl) rfl hl.1 rfl (Nat.le_of_ble_eq_true rfl) dX4_areRight_3 ⟨Nat.zero_le _, Nat.zero_le _⟩) ?_
  refine lv_iconst (v := 1) hx hb dX4_areRight_6 (by decide) ?_
  refine lv_isub hx hb dX4_areRight_7 ?_
  refine nm_W hf (fun x1 hf => ?_)
  refine lv_istore_n (lv' := [(2, .int x1), (0, .int s0), (1, .int s1)]) hx hb dX4_areRight_8 rfl hl (by decide) rfl (fun ls hl => ?_)
  refine lv_iload_n hx hb dX4_areRight_9 rfl (lv_at hl 1 rfl) ?_
  refine lv_if_lt (tgt := 18) hx hb dX4_areRight_10 (by decide) (fun c2 => ?_) (fun c2 => ?_)
  · have hf := ite_t c2 hf
    refine lv_iconst (v := 0) hx hb dX4_areRight_18 (by decide) ?_
    obtain rfl := Option.some.inj hf
    subst hQ
    exact en_oz hx hb hr hlocks rfl (Or.inl rfl) dX4_areRight_19
  have hf := ite_f c2 hf
  refine lv_iload_n hx hb dX4_areRight_13 rfl (lv_at hl 1 rfl) ?_
  refine lv_iload_n hx hb dX4_areRight_14 rfl (lv_at hl 0 rfl) ?_
  refine lv_icmp_lt (tgt := 20) hx hb dX4_areRight_15 (by decide) (fun c3 => ?_) (fun c3 => ?_)
  · have hf := ite_t c3 hf
    refine lv_iconst (v := 1) hx hb dX4_areRight_20 (by decide) ?_
    refine lv_istore_n (lv' := [(3, .int 1), (2, .int x1), (0, .int s0), (1, .int s1)]) hx hb dX4_areRight_21 rfl hl (by decide) rfl (fun ls hl => ?_)
    exact L22 _ _ _ _ _ hf (lv_sub hl [2, 3, 0] rfl)
  have hf := ite_f c3 hf
  refine lv_iconst (v := 0) hx hb dX4_areRight_18 (by decide) ?_
  obtain rfl := Option.some.inj hf
  subst hQ
  exact en_oz hx hb hr hlocks rfl (Or.inl rfl) dX4_areRight_19

def f_X4_canBecomeRight_L14 (s0 : Int32) (s2 : Int32) : Nat → Int32 → Option (Int32)
  | 0, _ => none
  | n + 1, s3 => (if s2 < s3 then some 0 else bd (f_X4_areRight (s0 ||| (f_X4_bit s3)) s2) (fun q7 => (if q7 = 0 then (f_X4_canBecomeRight_L14 s0 s2 n (s3 + 1)) else some 1)))
def f_X4_canBecomeRight (s0 : Int32) (s1 : Int32) (s2 : Int32) : Option (Int32) :=
  bd (f_X4_areRight s0 s2) (fun q1 => (if q1 = 0 then nm (s1 + 1) (fun (x5 : Int32) => (f_X4_canBecomeRight_L14 s0 s2 fu x5)) else some 1))
abbrev rm_X4_canBecomeRight : Room := { frames := 4, cells := 0, slots := 0, locals := 88 }
set_option maxHeartbeats 4000000 in
set_option maxRecDepth 100000 in
theorem c_X4_canBecomeRight (l : Launch) (D : va_G) (Y : ClassId × ClassId × ClassId) (s0 : Int32) (s1 : Int32) (s2 : Int32) (R : Int32) (hf : f_X4_canBecomeRight s0 s1 s2 = some R) : Met l yX4_canBecomeRight (ws_ yX4_canBecomeRight cX4_canBecomeRight 4 (some .boolean)) rm_X4_canBecomeRight (va_Pc [.int s0, .int s1, .int s2] (RO D Y [])) (OZ R) 0 0 (fun _ => False) := by
  refine ro_start (by decide) (Nat.le_of_ble_eq_true rfl) ?_
  intro p e s m below meth c ls hx hb hml hr hlocks hown hts hP hE hl
  generalize hargs : List.toArray _ = args at hts ⊢
  have hown : s.vm.findClass RX4 = some m.cls := hown
  have E : EN p m c cX4_canBecomeRight 4 s args RX4 := ⟨hx, hb, hml, hown, hts⟩
  have hl : lv_has ls 4 [(0, .int s0), (1, .int s1), (2, .int s2)] := hl
  generalize hQ : MQ below _ args s 0 0 _ = Q
  unfold f_X4_canBecomeRight at hf
  have L14 : ∀ (n : Nat) (s0 : Int32) (s2 : Int32) (s3 : Int32) (ls : Array Slot), f_X4_canBecomeRight_L14 s0 s2 n s3 = some R → lv_has ls 4 [(0, .int s0), (2, .int s2), (3, .int s3)] → W p l e rm_X4_canBecomeRight s m args below meth c s.heap [] 0 0 Q (F0 m 14 ls []) := by
    intro n
    induction n with
    | zero =>
      intro s0 s2 s3 ls hf
      cases hf
    | succ n ih =>
      intro s0 s2 s3 ls hf hl
      unfold f_X4_canBecomeRight_L14 at hf
      refine lv_iload_n hx hb dX4_canBecomeRight_14 rfl (lv_at hl 2 rfl) ?_
      refine lv_iload_n hx hb dX4_canBecomeRight_15 rfl (lv_at hl 1 rfl) ?_
      refine lv_icmp_gt (tgt := 40) hx hb dX4_canBecomeRight_16 (by decide) (fun c6 => ?_) (fun c6 => ?_)
      · have hf := ite_t c6 hf
        refine lv_iconst (v := 0) hx hb dX4_canBecomeRight_40 (by decide) ?_
        obtain rfl := Option.some.inj hf
        subst hQ
        exact en_oz hx hb hr hlocks rfl (Or.inl rfl) dX4_canBecomeRight_41
      have hf := ite_f c6 hf
      refine lv_iload_n hx hb dX4_canBecomeRight_19 rfl (lv_at hl 0 rfl) ?_
      refine lv_iload_n hx hb dX4_canBecomeRight_20 rfl (lv_at hl 2 rfl) ?_
      refine af_oi (run_S (As := [.int s3]) (rest := [.int s0]) E (c_X4_bit l D Y s3 (f_X4_bit s3) rfl) qw345 qw346 qw75 qw347 rfl rfl hd_X4_bit ⟨Nat.le_of_ble_eq_true rfl, Nat.le_of_ble_eq_true rfl⟩ (pre_roS hP hE [] rfl) rfl hl.1 rfl (Nat.le_of_ble_eq_true rfl) dX4_canBecomeRight_21 ⟨Nat.zero_le _, Nat.zero_le _⟩) ?_
      refine lv_ior hx hb dX4_canBecomeRight_24 ?_
      refine lv_iload_n hx hb dX4_canBecomeRight_25 rfl (lv_at hl 1 rfl) ?_
      obtain ⟨q7, h8, hf⟩ := bd_s hf
      refine af_oz (run_S (As := [.int (s0 ||| (f_X4_bit s3)), .int s2]) (rest := []) E (c_X4_areRight l D Y (s0 ||| (f_X4_bit s3)) s2 q7 h8) qw367 qw343 qw75 qw344 rfl rfl hd_X4_areRight ⟨Nat.le_of_ble_eq_true rfl, Nat.le_of_ble_eq_true rfl⟩ (pre_roS hP hE [] rfl) rfl hl.1 rfl (Nat.le_of_ble_eq_true rfl) dX4_canBecomeRight_26 ⟨Nat.zero_le _, Nat.zero_le _⟩) (fun z9 => ?_)
      refine lv_if_eq (tgt := 34) hx hb dX4_canBecomeRight_29 (by decide) (fun c10 => ?_) (fun c10 => ?_)
      · have hf := ite_t c10 hf
        refine lv_iinc (v := (s3 + 1)) (lv' := [(3, .int (s3 + 1)), (0, .int s0), (2, .int s2)]) hx hb dX4_canBecomeRight_34 hl (k := 2) rfl rfl (by decide) rfl (fun ls hl => ?_)
        refine lv_goto (tgt := 14) hx hb dX4_canBecomeRight_37 (by decide) ?_
        exact ih _ _ _ _ hf (lv_sub hl [1, 2, 0] rfl)
      have hf := ite_f c10 hf
      refine lv_iconst (v := 1) hx hb dX4_canBecomeRight_32 (by decide) ?_
      obtain rfl := Option.some.inj hf
      subst hQ
      exact en_oz hx hb hr hlocks rfl (Or.inr rfl) dX4_canBecomeRight_33
  refine lv_iload_n hx hb dX4_canBecomeRight_0 rfl (lv_at hl 0 rfl) ?_
  refine lv_iload_n hx hb dX4_canBecomeRight_1 rfl (lv_at hl 2 rfl) ?_
  obtain ⟨q1, h2, hf⟩ := bd_s hf
  refine af_oz (run_S (As := [.int s0, .int s2]) (rest := []) E (c_X4_areRight l D Y s0 s2 q1 h2) qw367 qw343 qw75 qw344 rfl rfl hd_X4_areRight ⟨Nat.le_of_ble_eq_true rfl, Nat.le_of_ble_eq_true rfl⟩ (pre_roS hP hE [] rfl) rfl hl.1 rfl (Nat.le_of_ble_eq_true rfl) dX4_canBecomeRight_2 ⟨Nat.zero_le _, Nat.zero_le _⟩) (fun z3 => ?_)
  refine lv_if_eq (tgt := 10) hx hb dX4_canBecomeRight_5 (by decide) (fun c4 => ?_) (fun c4 => ?_)
  · have hf := ite_t c4 hf
    refine lv_iload_n hx hb dX4_canBecomeRight_10 rfl (lv_at hl 1 rfl) ?_
    refine lv_iconst (v := 1) hx hb dX4_canBecomeRight_11 (by decide) ?_
    refine lv_iadd hx hb dX4_canBecomeRight_12 ?_
    refine nm_W hf (fun x5 hf => ?_)
    refine lv_istore_n (lv' := [(3, .int x5), (0, .int s0), (1, .int s1), (2, .int s2)]) hx hb dX4_canBecomeRight_13 rfl hl (by decide) rfl (fun ls hl => ?_)
    exact L14 _ _ _ _ _ hf (lv_sub hl [1, 3, 0] rfl)
  have hf := ite_f c4 hf
  refine lv_iconst (v := 1) hx hb dX4_canBecomeRight_8 (by decide) ?_
  obtain rfl := Option.some.inj hf
  subst hQ
  exact en_oz hx hb hr hlocks rfl (Or.inr rfl) dX4_canBecomeRight_9

def f_X6_put (s0 : Int32) (s1 : Int32) (s2 : Int32) : Int32 :=
  (s0 ||| (s2 <<< ((3 * (s1 - 1)) &&& 31)))
abbrev rm_X6_put : Room := { frames := 1, cells := 0, slots := 0, locals := 24 }
set_option maxHeartbeats 4000000 in
set_option maxRecDepth 100000 in
theorem c_X6_put (l : Launch) (D : va_G) (Y : ClassId × ClassId × ClassId) (s0 : Int32) (s1 : Int32) (s2 : Int32) (R : Int32) (hf : f_X6_put s0 s1 s2 = R) : Met l yX6_put (ws_ yX6_put cX6_put 3 (some .int)) rm_X6_put (va_Pc [.int s0, .int s1, .int s2] (RO D Y [])) (OI R) 0 0 (fun _ => False) := by
  refine ro_start (by decide) (Nat.le_of_ble_eq_true rfl) ?_
  intro p e s m below meth c ls hx hb hml hr hlocks hown hts hP hE hl
  generalize hargs : List.toArray _ = args at hts ⊢
  have hown : s.vm.findClass RX6 = some m.cls := hown
  have E : EN p m c cX6_put 3 s args RX6 := ⟨hx, hb, hml, hown, hts⟩
  have hl : lv_has ls 3 [(0, .int s0), (1, .int s1), (2, .int s2)] := hl
  generalize hQ : MQ below _ args s 0 0 _ = Q
  unfold f_X6_put at hf
  refine lv_iload_n hx hb dX6_put_0 rfl (lv_at hl 0 rfl) ?_
  refine lv_iload_n hx hb dX6_put_1 rfl (lv_at hl 2 rfl) ?_
  refine lv_iconst (v := 3) hx hb dX6_put_2 (by decide) ?_
  refine lv_iload_n hx hb dX6_put_3 rfl (lv_at hl 1 rfl) ?_
  refine lv_iconst (v := 1) hx hb dX6_put_4 (by decide) ?_
  refine lv_isub hx hb dX6_put_5 ?_
  refine lv_imul hx hb dX6_put_6 ?_
  refine lv_ishl hx hb dX6_put_7 ?_
  refine lv_ior hx hb dX6_put_8 ?_
  subst hf
  subst hQ
  exact en_oi hx hb hr hlocks rfl dX6_put_9

def f_X6_bellAt (s0 : Int32) (s1 : Int32) : Int32 :=
  ((s0 >>> ((3 * (s1 - 1)) &&& 31)) &&& 7)
abbrev rm_X6_bellAt : Room := { frames := 1, cells := 0, slots := 0, locals := 24 }
set_option maxHeartbeats 4000000 in
set_option maxRecDepth 100000 in
theorem c_X6_bellAt (l : Launch) (D : va_G) (Y : ClassId × ClassId × ClassId) (s0 : Int32) (s1 : Int32) (R : Int32) (hf : f_X6_bellAt s0 s1 = R) : Met l yX6_bellAt (ws_ yX6_bellAt cX6_bellAt 2 (some .int)) rm_X6_bellAt (va_Pc [.int s0, .int s1] (RO D Y [])) (OI R) 0 0 (fun _ => False) := by
  refine ro_start (by decide) (Nat.le_of_ble_eq_true rfl) ?_
  intro p e s m below meth c ls hx hb hml hr hlocks hown hts hP hE hl
  generalize hargs : List.toArray _ = args at hts ⊢
  have hown : s.vm.findClass RX6 = some m.cls := hown
  have E : EN p m c cX6_bellAt 2 s args RX6 := ⟨hx, hb, hml, hown, hts⟩
  have hl : lv_has ls 2 [(0, .int s0), (1, .int s1)] := hl
  generalize hQ : MQ below _ args s 0 0 _ = Q
  unfold f_X6_bellAt at hf
  refine lv_iload_n hx hb dX6_bellAt_0 rfl (lv_at hl 0 rfl) ?_
  refine lv_iconst (v := 3) hx hb dX6_bellAt_1 (by decide) ?_
  refine lv_iload_n hx hb dX6_bellAt_2 rfl (lv_at hl 1 rfl) ?_
  refine lv_iconst (v := 1) hx hb dX6_bellAt_3 (by decide) ?_
  refine lv_isub hx hb dX6_bellAt_4 ?_
  refine lv_imul hx hb dX6_bellAt_5 ?_
  refine lv_ishr hx hb dX6_bellAt_6 ?_
  refine lv_bipush (v := 7) hx hb dX6_bellAt_7 (by decide) ?_
  refine lv_iand hx hb dX6_bellAt_9 ?_
  subst hf
  subst hQ
  exact en_oi hx hb hr hlocks rfl dX6_bellAt_10

def f_X6_rounds_L4 (s0 : Int32) : Nat → Int32 → Int32 → Option (Int32)
  | 0, _, _ => none
  | n + 1, s1, s2 => (if s0 < s2 then some s1 else nm (f_X6_put s1 s2 s2) (fun (x2 : Int32) => (f_X6_rounds_L4 s0 n x2 (s2 + 1))))
def f_X6_rounds (s0 : Int32) : Option (Int32) :=
  (f_X6_rounds_L4 s0 fu 0 1)
abbrev rm_X6_rounds : Room := { frames := 2, cells := 0, slots := 0, locals := 46 }
set_option maxHeartbeats 4000000 in
set_option maxRecDepth 100000 in
theorem c_X6_rounds (l : Launch) (D : va_G) (Y : ClassId × ClassId × ClassId) (s0 : Int32) (R : Int32) (hf : f_X6_rounds s0 = some R) : Met l yX6_rounds (ws_ yX6_rounds cX6_rounds 3 (some .int)) rm_X6_rounds (va_Pc [.int s0] (RO D Y [])) (OI R) 0 0 (fun _ => False) := by
  refine ro_start (by decide) (Nat.le_of_ble_eq_true rfl) ?_
  intro p e s m below meth c ls hx hb hml hr hlocks hown hts hP hE hl
  generalize hargs : List.toArray _ = args at hts ⊢
  have hown : s.vm.findClass RX6 = some m.cls := hown
  have E : EN p m c cX6_rounds 3 s args RX6 := ⟨hx, hb, hml, hown, hts⟩
  have hl : lv_has ls 3 [(0, .int s0)] := hl
  generalize hQ : MQ below _ args s 0 0 _ = Q
  unfold f_X6_rounds at hf
  have L4 : ∀ (n : Nat) (s0 : Int32) (s1 : Int32) (s2 : Int32) (ls : Array Slot), f_X6_rounds_L4 s0 n s1 s2 = some R → lv_has ls 3 [(0, .int s0), (1, .int s1), (2, .int s2)] → W p l e rm_X6_rounds s m args below meth c s.heap [] 0 0 Q (F0 m 4 ls []) := by
    intro n
    induction n with
    | zero =>
      intro s0 s1 s2 ls hf
      cases hf
    | succ n ih =>
      intro s0 s1 s2 ls hf hl
      unfold f_X6_rounds_L4 at hf
      refine lv_iload_n hx hb dX6_rounds_4 rfl (lv_at hl 2 rfl) ?_
      refine lv_iload_n hx hb dX6_rounds_5 rfl (lv_at hl 0 rfl) ?_
      refine lv_icmp_gt (tgt := 22) hx hb dX6_rounds_6 (by decide) (fun c1 => ?_) (fun c1 => ?_)
      · have hf := ite_t c1 hf
        refine lv_iload_n hx hb dX6_rounds_22 rfl (lv_at hl 1 rfl) ?_
        obtain rfl := Option.some.inj hf
        subst hQ
        exact en_oi hx hb hr hlocks rfl dX6_rounds_23
      have hf := ite_f c1 hf
      refine lv_iload_n hx hb dX6_rounds_9 rfl (lv_at hl 1 rfl) ?_
      refine lv_iload_n hx hb dX6_rounds_10 rfl (lv_at hl 2 rfl) ?_
      refine lv_iload_n hx hb dX6_rounds_11 rfl (lv_at hl 2 rfl) ?_
      refine af_oi (run_S (As := [.int s1, .int s2, .int s2]) (rest := []) E (c_X6_put l D Y s1 s2 s2 (f_X6_put s1 s2 s2) rfl) qw505 qw506 qw78 qw507 rfl rfl hd_X6_put ⟨Nat.le_of_ble_eq_true rfl, Nat.le_of_ble_eq_true rfl⟩ (pre_roS hP hE [] rfl) rfl hl.1 rfl (Nat.le_of_ble_eq_true rfl) dX6_rounds_12 ⟨Nat.zero_le _, Nat.zero_le _⟩) ?_
      refine nm_W hf (fun x2 hf => ?_)
      refine lv_istore_n (lv' := [(1, .int x2), (0, .int s0), (2, .int s2)]) hx hb dX6_rounds_15 rfl hl (by decide) rfl (fun ls hl => ?_)
      refine lv_iinc (v := (s2 + 1)) (lv' := [(2, .int (s2 + 1)), (1, .int x2), (0, .int s0)]) hx hb dX6_rounds_16 hl (k := 2) rfl rfl (by decide) rfl (fun ls hl => ?_)
      refine lv_goto (tgt := 4) hx hb dX6_rounds_19 (by decide) ?_
      exact ih _ _ _ _ hf (lv_sub hl [2, 1, 0] rfl)
  refine lv_iconst (v := 0) hx hb dX6_rounds_0 (by decide) ?_
  refine lv_istore_n (lv' := [(1, .int 0), (0, .int s0)]) hx hb dX6_rounds_1 rfl hl (by decide) rfl (fun ls hl => ?_)
  refine lv_iconst (v := 1) hx hb dX6_rounds_2 (by decide) ?_
  refine lv_istore_n (lv' := [(2, .int 1), (1, .int 0), (0, .int s0)]) hx hb dX6_rounds_3 rfl hl (by decide) rfl (fun ls hl => ?_)
  exact L4 _ _ _ _ _ hf (lv_sub hl [2, 1, 0] rfl)

def f_X6_placeOf_L2 (s0 : Int32) (s1 : Int32) (s2 : Int32) : Nat → Int32 → Option (Int32)
  | 0, _ => none
  | n + 1, s3 => (if s2 ≤ s3 then some s2 else (if (f_X6_bellAt s0 s3) = s1 then some s3 else (f_X6_placeOf_L2 s0 s1 s2 n (s3 + 1))))
def f_X6_placeOf (s0 : Int32) (s1 : Int32) (s2 : Int32) : Option (Int32) :=
  (f_X6_placeOf_L2 s0 s1 s2 fu 1)
abbrev rm_X6_placeOf : Room := { frames := 2, cells := 0, slots := 0, locals := 45 }
set_option maxHeartbeats 4000000 in
set_option maxRecDepth 100000 in
theorem c_X6_placeOf (l : Launch) (D : va_G) (Y : ClassId × ClassId × ClassId) (s0 : Int32) (s1 : Int32) (s2 : Int32) (R : Int32) (hf : f_X6_placeOf s0 s1 s2 = some R) : Met l yX6_placeOf (ws_ yX6_placeOf cX6_placeOf 4 (some .int)) rm_X6_placeOf (va_Pc [.int s0, .int s1, .int s2] (RO D Y [])) (OI R) 0 0 (fun _ => False) := by
  refine ro_start (by decide) (Nat.le_of_ble_eq_true rfl) ?_
  intro p e s m below meth c ls hx hb hml hr hlocks hown hts hP hE hl
  generalize hargs : List.toArray _ = args at hts ⊢
  have hown : s.vm.findClass RX6 = some m.cls := hown
  have E : EN p m c cX6_placeOf 4 s args RX6 := ⟨hx, hb, hml, hown, hts⟩
  have hl : lv_has ls 4 [(0, .int s0), (1, .int s1), (2, .int s2)] := hl
  generalize hQ : MQ below _ args s 0 0 _ = Q
  unfold f_X6_placeOf at hf
  have L2 : ∀ (n : Nat) (s0 : Int32) (s1 : Int32) (s2 : Int32) (s3 : Int32) (ls : Array Slot), f_X6_placeOf_L2 s0 s1 s2 n s3 = some R → lv_has ls 4 [(0, .int s0), (1, .int s1), (2, .int s2), (3, .int s3)] → W p l e rm_X6_placeOf s m args below meth c s.heap [] 0 0 Q (F0 m 2 ls []) := by
    intro n
    induction n with
    | zero =>
      intro s0 s1 s2 s3 ls hf
      cases hf
    | succ n ih =>
      intro s0 s1 s2 s3 ls hf hl
      unfold f_X6_placeOf_L2 at hf
      refine lv_iload_n hx hb dX6_placeOf_2 rfl (lv_at hl 3 rfl) ?_
      refine lv_iload_n hx hb dX6_placeOf_3 rfl (lv_at hl 2 rfl) ?_
      refine lv_icmp_ge (tgt := 24) hx hb dX6_placeOf_4 (by decide) (fun c1 => ?_) (fun c1 => ?_)
      · have hf := ite_t c1 hf
        refine lv_iload_n hx hb dX6_placeOf_24 rfl (lv_at hl 2 rfl) ?_
        obtain rfl := Option.some.inj hf
        subst hQ
        exact en_oi hx hb hr hlocks rfl dX6_placeOf_25
      have hf := ite_f c1 hf
      refine lv_iload_n hx hb dX6_placeOf_7 rfl (lv_at hl 0 rfl) ?_
      refine lv_iload_n hx hb dX6_placeOf_8 rfl (lv_at hl 3 rfl) ?_
      refine af_oi (run_S (As := [.int s0, .int s3]) (rest := []) E (c_X6_bellAt l D Y s0 s3 (f_X6_bellAt s0 s3) rfl) qw520 qw521 qw78 qw522 rfl rfl hd_X6_bellAt ⟨Nat.le_of_ble_eq_true rfl, Nat.le_of_ble_eq_true rfl⟩ (pre_roS hP hE [] rfl) rfl hl.1 rfl (Nat.le_of_ble_eq_true rfl) dX6_placeOf_9 ⟨Nat.zero_le _, Nat.zero_le _⟩) ?_
      refine lv_iload_n hx hb dX6_placeOf_12 rfl (lv_at hl 1 rfl) ?_
      refine lv_icmp_ne (tgt := 18) hx hb dX6_placeOf_13 (by decide) (fun c2 => ?_) (fun c2 => ?_)
      · have hf := ite_f c2 hf
        refine lv_iinc (v := (s3 + 1)) (lv' := [(3, .int (s3 + 1)), (0, .int s0), (1, .int s1), (2, .int s2)]) hx hb dX6_placeOf_18 hl (k := 3) rfl rfl (by decide) rfl (fun ls hl => ?_)
        refine lv_goto (tgt := 2) hx hb dX6_placeOf_21 (by decide) ?_
        exact ih _ _ _ _ _ hf (lv_sub hl [1, 2, 3, 0] rfl)
      have hf := ite_t c2 hf
      refine lv_iload_n hx hb dX6_placeOf_16 rfl (lv_at hl 3 rfl) ?_
      obtain rfl := Option.some.inj hf
      subst hQ
      exact en_oi hx hb hr hlocks rfl dX6_placeOf_17
  refine lv_iconst (v := 1) hx hb dX6_placeOf_0 (by decide) ?_
  refine lv_istore_n (lv' := [(3, .int 1), (0, .int s0), (1, .int s1), (2, .int s2)]) hx hb dX6_placeOf_1 rfl hl (by decide) rfl (fun ls hl => ?_)
  exact L2 _ _ _ _ _ _ hf (lv_sub hl [1, 2, 3, 0] rfl)
end
