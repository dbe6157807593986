theorem qw0 : Cond.selects RX10 yX10_begin yX10_begin ∈ lw_all := lw_in (List.mem_of_getElem? (i := 0) (by decide +kernel)) rfl
theorem qw1 : Cond.selects RX2 yX2_beginChange yX2_beginChange ∈ lw_all := lw_in (List.mem_of_getElem? (i := 1) (by decide +kernel)) rfl
theorem qw2 : Cond.selects RX2 yX2_accepts yX2_accepts ∈ lw_all := lw_in (List.mem_of_getElem? (i := 2) (by decide +kernel)) rfl
theorem qw3 : Cond.selects RX2 yX2_acceptsDot yX2_acceptsDot ∈ lw_all := lw_in (List.mem_of_getElem? (i := 3) (by decide +kernel)) rfl
theorem qw4 : Cond.selects RX2 yX2_isChangeRight yX2_isChangeRight ∈ lw_all := lw_in (List.mem_of_getElem? (i := 4) (by decide +kernel)) rfl
theorem qw5 : Cond.selects RX2 yX2_keepChange yX2_keepChange ∈ lw_all := lw_in (List.mem_of_getElem? (i := 5) (by decide +kernel)) rfl
theorem qw6 : Cond.selects RX2 yX2_acceptsCross yX2_acceptsCross ∈ lw_all := lw_in (List.mem_of_getElem? (i := 6) (by decide +kernel)) rfl
theorem qw7 : Cond.selects RX2 yX2_acceptsPlace yX2_acceptsPlace ∈ lw_all := lw_in (List.mem_of_getElem? (i := 7) (by decide +kernel)) rfl
theorem qw8 : Cond.selects RX10 yX10_isBell yX10_isBell ∈ lw_all := lw_in (List.mem_of_getElem? (i := 8) (by decide +kernel)) rfl
theorem qw9 : Cond.selects RX5 yX5_keep yX5_keep ∈ lw_all := lw_in (List.mem_of_getElem? (i := 9) (by decide +kernel)) rfl
theorem qw10 : Cond.selects RX5 yX5_findFirsts yX5_findFirsts ∈ lw_all := lw_in (List.mem_of_getElem? (i := 10) (by decide +kernel)) rfl
theorem qw11 : Cond.selects RX5 yX5_firstWithRank yX5_firstWithRank ∈ lw_all := lw_in (List.mem_of_getElem? (i := 11) (by decide +kernel)) rfl
theorem qw12 : Cond.selects RX7 yX7_reach yX7_reach ∈ lw_all := lw_in (List.mem_of_getElem? (i := 12) (by decide +kernel)) rfl
theorem qw13 : Cond.selects RX10 yX10_countRows yX10_countRows ∈ lw_all := lw_in (List.mem_of_getElem? (i := 13) (by decide +kernel)) rfl
theorem qw14 : Cond.selects RX5 yX5_isFirst yX5_isFirst ∈ lw_all := lw_in (List.mem_of_getElem? (i := 14) (by decide +kernel)) rfl
theorem qw15 : Cond.selects RX5 yX5_areFalse yX5_areFalse ∈ lw_all := lw_in (List.mem_of_getElem? (i := 15) (by decide +kernel)) rfl
theorem qw16 : Cond.selects RX5 yX5_dodgesAt yX5_dodgesAt ∈ lw_all := lw_in (List.mem_of_getElem? (i := 16) (by decide +kernel)) rfl
theorem qw17 : Cond.selects RX0 yX0_dropOldest yX0_dropOldest ∈ lw_all := lw_in (List.mem_of_getElem? (i := 17) (by decide +kernel)) rfl
theorem qw18 : Cond.initialized RL ∈ lw_all := lw_in (List.mem_of_getElem? (i := 18) (by decide +kernel)) rfl
theorem qw19 : Cond.initialized RX10 ∈ lw_all := lw_in (List.mem_of_getElem? (i := 19) (by decide +kernel)) rfl
theorem qw20 : Cond.initialized RX9 ∈ lw_all := lw_in (List.mem_of_getElem? (i := 20) (by decide +kernel)) rfl
theorem qw21 : Cond.initialized RX0 ∈ lw_all := lw_in (List.mem_of_getElem? (i := 21) (by decide +kernel)) rfl
theorem qw22 : Cond.initialized RX3 ∈ lw_all := lw_in (List.mem_of_getElem? (i := 22) (by decide +kernel)) rfl
theorem qw23 : Cond.initialized RX2 ∈ lw_all := lw_in (List.mem_of_getElem? (i := 23) (by decide +kernel)) rfl
theorem qw24 : Cond.initialized RX5 ∈ lw_all := lw_in (List.mem_of_getElem? (i := 24) (by decide +kernel)) rfl
theorem qw25 : Cond.initialized RX1 ∈ lw_all := lw_in (List.mem_of_getElem? (i := 25) (by decide +kernel)) rfl
theorem qw26 : Cond.initialized RX7 ∈ lw_all := lw_in (List.mem_of_getElem? (i := 26) (by decide +kernel)) rfl
theorem qw27 : Cond.initialized RX8 ∈ lw_all := lw_in (List.mem_of_getElem? (i := 27) (by decide +kernel)) rfl
theorem qw28 : Cond.initialized RJ0 ∈ lw_all := lw_in (List.mem_of_getElem? (i := 28) (by decide +kernel)) rfl
theorem qw29 : Cond.initialized RJ1 ∈ lw_all := lw_in (List.mem_of_getElem? (i := 29) (by decide +kernel)) rfl
theorem qw30 : Cond.initialized RJ2 ∈ lw_all := lw_in (List.mem_of_getElem? (i := 30) (by decide +kernel)) rfl
theorem qw31 : Cond.initialized RJ3 ∈ lw_all := lw_in (List.mem_of_getElem? (i := 31) (by decide +kernel)) rfl
theorem qw32 : Cond.initialized RX4 ∈ lw_all := lw_in (List.mem_of_getElem? (i := 32) (by decide +kernel)) rfl
theorem qw33 : Cond.initialized RJ10 ∈ lw_all := lw_in (List.mem_of_getElem? (i := 33) (by decide +kernel)) rfl
theorem qw34 : Cond.initialized RX6 ∈ lw_all := lw_in (List.mem_of_getElem? (i := 34) (by decide +kernel)) rfl
theorem qw35 : Cond.initialized RJ6 ∈ lw_all := lw_in (List.mem_of_getElem? (i := 35) (by decide +kernel)) rfl
theorem qw36 : Cond.initialized RJ7 ∈ lw_all := lw_in (List.mem_of_getElem? (i := 36) (by decide +kernel)) rfl
theorem qw37 : Cond.classLink RL 42 RX10 ∈ lw_all := lw_in (List.mem_of_getElem? (i := 37) (by decide +kernel)) rfl
theorem qw38 : Cond.instantiable RX10 9 ∈ lw_all := lw_in (List.mem_of_getElem? (i := 38) (by decide +kernel)) rfl
theorem qw39 : Cond.methodLink RL 111 yX10_init ∈ lw_all := lw_in (List.mem_of_getElem? (i := 39) (by decide +kernel)) rfl
theorem qw40 : Cond.instanceMethod yX10_init ∈ lw_all := lw_in (List.mem_of_getElem? (i := 40) (by decide +kernel)) rfl
theorem qw41 : Cond.code yX10_init cX10_init 1 none ∈ lw_all := lw_in (List.mem_of_getElem? (i := 41) (by decide +kernel)) rfl
theorem qw42 : Cond.methodLink RX10 3 ⟨"java/lang/Object", "<init>", "()V"⟩ ∈ lw_all := lw_in (List.mem_of_getElem? (i := 42) (by decide +kernel)) rfl
theorem qw43 : Cond.instanceMethod ⟨"java/lang/Object", "<init>", "()V"⟩ ∈ lw_all := lw_in (List.mem_of_getElem? (i := 43) (by decide +kernel)) rfl
theorem qw45 : Cond.classLink RX10 9 RX9 ∈ lw_all := lw_in (List.mem_of_getElem? (i := 45) (by decide +kernel)) rfl
theorem qw46 : Cond.instantiable RX9 7 ∈ lw_all := lw_in (List.mem_of_getElem? (i := 46) (by decide +kernel)) rfl
theorem qw47 : Cond.methodLinkNest RX10 11 yX9_init "CalledTouches" ∈ lw_nest := lw_inN (List.mem_of_getElem? (i := 47) (by decide +kernel)) rfl
theorem qw48 : Cond.instanceMethod yX9_init ∈ lw_all := lw_in (List.mem_of_getElem? (i := 48) (by decide +kernel)) rfl
theorem qw49 : Cond.code yX9_init cX9_init 1 none ∈ lw_all := lw_in (List.mem_of_getElem? (i := 49) (by decide +kernel)) rfl
theorem qw50 : Cond.methodLink RX9 3 ⟨"java/lang/Object", "<init>", "()V"⟩ ∈ lw_all := lw_in (List.mem_of_getElem? (i := 50) (by decide +kernel)) rfl
theorem qw51 : Cond.fieldLink RX9 18 "CalledTouches$Touch" "bells" "I" ∈ lw_all := lw_in (List.mem_of_getElem? (i := 51) (by decide +kernel)) rfl
theorem qw52 : Cond.fieldLinkNest RX5 21 "CalledTouches$Touch" "bells" "I" "CalledTouches" ∈ lw_nest := lw_inN (List.mem_of_getElem? (i := 52) (by decide +kernel)) rfl
theorem qw53 : Cond.fieldLinkNest RX1 32 "CalledTouches$Touch" "bells" "I" "CalledTouches" ∈ lw_nest := lw_inN (List.mem_of_getElem? (i := 53) (by decide +kernel)) rfl
theorem qw54 : Cond.fieldLinkNest RX10 65 "CalledTouches$Touch" "bells" "I" "CalledTouches" ∈ lw_nest := lw_inN (List.mem_of_getElem? (i := 54) (by decide +kernel)) rfl
theorem qw55 : Cond.fieldLink RX9 22 "CalledTouches$Touch" "changes" "I" ∈ lw_all := lw_in (List.mem_of_getElem? (i := 55) (by decide +kernel)) rfl
theorem qw56 : Cond.fieldLinkNest RX5 28 "CalledTouches$Touch" "changes" "I" "CalledTouches" ∈ lw_nest := lw_inN (List.mem_of_getElem? (i := 56) (by decide +kernel)) rfl
theorem qw57 : Cond.fieldLinkNest RX10 88 "CalledTouches$Touch" "changes" "I" "CalledTouches" ∈ lw_nest := lw_inN (List.mem_of_getElem? (i := 57) (by decide +kernel)) rfl
theorem qw58 : Cond.fieldLink RX9 25 "CalledTouches$Touch" "bob" "I" ∈ lw_all := lw_in (List.mem_of_getElem? (i := 58) (by decide +kernel)) rfl
theorem qw59 : Cond.fieldLinkNest RX10 97 "CalledTouches$Touch" "bob" "I" "CalledTouches" ∈ lw_nest := lw_inN (List.mem_of_getElem? (i := 59) (by decide +kernel)) rfl
theorem qw60 : Cond.fieldLink RX9 28 "CalledTouches$Touch" "single" "I" ∈ lw_all := lw_in (List.mem_of_getElem? (i := 60) (by decide +kernel)) rfl
theorem qw61 : Cond.fieldLinkNest RX10 100 "CalledTouches$Touch" "single" "I" "CalledTouches" ∈ lw_nest := lw_inN (List.mem_of_getElem? (i := 61) (by decide +kernel)) rfl
theorem qw62 : Cond.fieldLinkNest RX5 32 "CalledTouches$Touch" "leads" "I" "CalledTouches" ∈ lw_nest := lw_inN (List.mem_of_getElem? (i := 62) (by decide +kernel)) rfl
theorem qw63 : Cond.fieldLink RX9 31 "CalledTouches$Touch" "leads" "I" ∈ lw_all := lw_in (List.mem_of_getElem? (i := 63) (by decide +kernel)) rfl
theorem qw64 : Cond.fieldLinkNest RX10 107 "CalledTouches$Touch" "leads" "I" "CalledTouches" ∈ lw_nest := lw_inN (List.mem_of_getElem? (i := 64) (by decide +kernel)) rfl
theorem qw65 : Cond.fieldLink RX9 9 "CalledTouches$Touch" "places" "[I" ∈ lw_all := lw_in (List.mem_of_getElem? (i := 65) (by decide +kernel)) rfl
theorem qw66 : Cond.fieldLink RX9 15 "CalledTouches$Touch" "kinds" "[I" ∈ lw_all := lw_in (List.mem_of_getElem? (i := 66) (by decide +kernel)) rfl
theorem qw82 : Cond.arrayClass .int ∈ lw_all := lw_in (List.mem_of_getElem? (i := 82) (by decide +kernel)) rfl
theorem qw83 : Cond.classLink RX10 22 RX0 ∈ lw_all := lw_in (List.mem_of_getElem? (i := 83) (by decide +kernel)) rfl
theorem qw84 : Cond.instantiable RX0 2 ∈ lw_all := lw_in (List.mem_of_getElem? (i := 84) (by decide +kernel)) rfl
theorem qw85 : Cond.methodLink RX10 24 yX0_init ∈ lw_all := lw_in (List.mem_of_getElem? (i := 85) (by decide +kernel)) rfl
theorem qw86 : Cond.instanceMethod yX0_init ∈ lw_all := lw_in (List.mem_of_getElem? (i := 86) (by decide +kernel)) rfl
theorem qw87 : Cond.code yX0_init cX0_init 2 none ∈ lw_all := lw_in (List.mem_of_getElem? (i := 87) (by decide +kernel)) rfl
theorem qw88 : Cond.methodLink RX0 3 ⟨"java/lang/Object", "<init>", "()V"⟩ ∈ lw_all := lw_in (List.mem_of_getElem? (i := 88) (by decide +kernel)) rfl
theorem qw89 : Cond.classLink RX0 9 RX9 ∈ lw_all := lw_in (List.mem_of_getElem? (i := 89) (by decide +kernel)) rfl
theorem qw91 : Cond.methodLinkNest RX0 17 yX9_init "CalledTouches" ∈ lw_nest := lw_inN (List.mem_of_getElem? (i := 91) (by decide +kernel)) rfl
theorem qw92 : Cond.fieldLink RX0 11 "CalledTouches$History" "states" "[LCalledTouches$Touch;" ∈ lw_all := lw_in (List.mem_of_getElem? (i := 92) (by decide +kernel)) rfl
theorem qw93 : Cond.fieldLink RX0 18 "CalledTouches$History" "size" "I" ∈ lw_all := lw_in (List.mem_of_getElem? (i := 93) (by decide +kernel)) rfl
theorem qw94 : Cond.fieldLinkNest RX10 192 "CalledTouches$History" "size" "I" "CalledTouches" ∈ lw_nest := lw_inN (List.mem_of_getElem? (i := 94) (by decide +kernel)) rfl
theorem qw100 : Cond.classLink RX10 29 RX3 ∈ lw_all := lw_in (List.mem_of_getElem? (i := 100) (by decide +kernel)) rfl
theorem qw101 : Cond.instantiable RX3 2 ∈ lw_all := lw_in (List.mem_of_getElem? (i := 101) (by decide +kernel)) rfl
theorem qw102 : Cond.methodLinkNest RX10 31 yX3_init "CalledTouches" ∈ lw_nest := lw_inN (List.mem_of_getElem? (i := 102) (by decide +kernel)) rfl
theorem qw103 : Cond.instanceMethod yX3_init ∈ lw_all := lw_in (List.mem_of_getElem? (i := 103) (by decide +kernel)) rfl
theorem qw104 : Cond.code yX3_init cX3_init 1 none ∈ lw_all := lw_in (List.mem_of_getElem? (i := 104) (by decide +kernel)) rfl
theorem qw105 : Cond.methodLink RX3 3 ⟨"java/lang/Object", "<init>", "()V"⟩ ∈ lw_all := lw_in (List.mem_of_getElem? (i := 105) (by decide +kernel)) rfl
theorem qw106 : Cond.fieldLink RX3 9 "CalledTouches$Pad" "signs" "[C" ∈ lw_all := lw_in (List.mem_of_getElem? (i := 106) (by decide +kernel)) rfl
theorem qw107 : Cond.fieldLinkNest RX10 73 "CalledTouches$Pad" "signs" "[C" "CalledTouches" ∈ lw_nest := lw_inN (List.mem_of_getElem? (i := 107) (by decide +kernel)) rfl
theorem qw108 : Cond.fieldLink RX3 15 "CalledTouches$Pad" "length" "I" ∈ lw_all := lw_in (List.mem_of_getElem? (i := 108) (by decide +kernel)) rfl
theorem qw109 : Cond.fieldLinkNest RX10 77 "CalledTouches$Pad" "length" "I" "CalledTouches" ∈ lw_nest := lw_inN (List.mem_of_getElem? (i := 109) (by decide +kernel)) rfl
theorem qw115 : Cond.arrayClass .char ∈ lw_all := lw_in (List.mem_of_getElem? (i := 115) (by decide +kernel)) rfl
theorem qw116 : Cond.classLink RX10 36 RX2 ∈ lw_all := lw_in (List.mem_of_getElem? (i := 116) (by decide +kernel)) rfl
theorem qw117 : Cond.instantiable RX2 5 ∈ lw_all := lw_in (List.mem_of_getElem? (i := 117) (by decide +kernel)) rfl
theorem qw118 : Cond.methodLinkNest RX10 38 yX2_init "CalledTouches" ∈ lw_nest := lw_inN (List.mem_of_getElem? (i := 118) (by decide +kernel)) rfl
theorem qw119 : Cond.instanceMethod yX2_init ∈ lw_all := lw_in (List.mem_of_getElem? (i := 119) (by decide +kernel)) rfl
theorem qw120 : Cond.code yX2_init cX2_init 1 none ∈ lw_all := lw_in (List.mem_of_getElem? (i := 120) (by decide +kernel)) rfl
theorem qw121 : Cond.methodLink RX2 3 ⟨"java/lang/Object", "<init>", "()V"⟩ ∈ lw_all := lw_in (List.mem_of_getElem? (i := 121) (by decide +kernel)) rfl
theorem qw122 : Cond.fieldLink RX2 9 "CalledTouches$MethodReader" "places" "[I" ∈ lw_all := lw_in (List.mem_of_getElem? (i := 122) (by decide +kernel)) rfl
theorem qw123 : Cond.fieldLinkNest RX9 43 "CalledTouches$MethodReader" "places" "[I" "CalledTouches" ∈ lw_nest := lw_inN (List.mem_of_getElem? (i := 123) (by decide +kernel)) rfl
theorem qw124 : Cond.fieldLinkNest RX10 250 "CalledTouches$MethodReader" "places" "[I" "CalledTouches" ∈ lw_nest := lw_inN (List.mem_of_getElem? (i := 124) (by decide +kernel)) rfl
theorem qw125 : Cond.fieldLink RX2 15 "CalledTouches$MethodReader" "changes" "I" ∈ lw_all := lw_in (List.mem_of_getElem? (i := 125) (by decide +kernel)) rfl
theorem qw126 : Cond.fieldLinkNest RX9 40 "CalledTouches$MethodReader" "changes" "I" "CalledTouches" ∈ lw_nest := lw_inN (List.mem_of_getElem? (i := 126) (by decide +kernel)) rfl
theorem qw127 : Cond.fieldLink RX2 50 "CalledTouches$MethodReader" "made" "I" ∈ lw_all := lw_in (List.mem_of_getElem? (i := 127) (by decide +kernel)) rfl
theorem qw128 : Cond.fieldLink RX2 47 "CalledTouches$MethodReader" "lastPlace" "I" ∈ lw_all := lw_in (List.mem_of_getElem? (i := 128) (by decide +kernel)) rfl
theorem qw129 : Cond.fieldLink RX2 43 "CalledTouches$MethodReader" "crossed" "Z" ∈ lw_all := lw_in (List.mem_of_getElem? (i := 129) (by decide +kernel)) rfl
theorem qw141 : Cond.classLink RX10 43 RX5 ∈ lw_all := lw_in (List.mem_of_getElem? (i := 141) (by decide +kernel)) rfl
theorem qw142 : Cond.instantiable RX5 7 ∈ lw_all := lw_in (List.mem_of_getElem? (i := 142) (by decide +kernel)) rfl
theorem qw143 : Cond.methodLinkNest RX10 45 yX5_init "CalledTouches" ∈ lw_nest := lw_inN (List.mem_of_getElem? (i := 143) (by decide +kernel)) rfl
theorem qw144 : Cond.instanceMethod yX5_init ∈ lw_all := lw_in (List.mem_of_getElem? (i := 144) (by decide +kernel)) rfl
theorem qw145 : Cond.code yX5_init cX5_init 1 none ∈ lw_all := lw_in (List.mem_of_getElem? (i := 145) (by decide +kernel)) rfl
theorem qw146 : Cond.methodLink RX5 3 ⟨"java/lang/Object", "<init>", "()V"⟩ ∈ lw_all := lw_in (List.mem_of_getElem? (i := 146) (by decide +kernel)) rfl
theorem qw147 : Cond.fieldLink RX5 9 "CalledTouches$Ringing" "rows" "[I" ∈ lw_all := lw_in (List.mem_of_getElem? (i := 147) (by decide +kernel)) rfl
theorem qw148 : Cond.fieldLink RX5 15 "CalledTouches$Ringing" "firsts" "[I" ∈ lw_all := lw_in (List.mem_of_getElem? (i := 148) (by decide +kernel)) rfl
theorem qw149 : Cond.fieldLink RX5 18 "CalledTouches$Ringing" "firstOfRank" "[I" ∈ lw_all := lw_in (List.mem_of_getElem? (i := 149) (by decide +kernel)) rfl
theorem qw150 : Cond.fieldLink RX5 27 "CalledTouches$Ringing" "bells" "I" ∈ lw_all := lw_in (List.mem_of_getElem? (i := 150) (by decide +kernel)) rfl
theorem qw151 : Cond.fieldLink RX5 31 "CalledTouches$Ringing" "changes" "I" ∈ lw_all := lw_in (List.mem_of_getElem? (i := 151) (by decide +kernel)) rfl
theorem qw152 : Cond.fieldLink RX5 35 "CalledTouches$Ringing" "leads" "I" ∈ lw_all := lw_in (List.mem_of_getElem? (i := 152) (by decide +kernel)) rfl
theorem qw153 : Cond.fieldLink RX5 42 "CalledTouches$Ringing" "last" "I" ∈ lw_all := lw_in (List.mem_of_getElem? (i := 153) (by decide +kernel)) rfl
theorem qw154 : Cond.fieldLinkNest RX10 180 "CalledTouches$Ringing" "last" "I" "CalledTouches" ∈ lw_nest := lw_inN (List.mem_of_getElem? (i := 154) (by decide +kernel)) rfl
theorem qw170 : Cond.classLink RX10 50 RX1 ∈ lw_all := lw_in (List.mem_of_getElem? (i := 170) (by decide +kernel)) rfl
theorem qw171 : Cond.instantiable RX1 5 ∈ lw_all := lw_in (List.mem_of_getElem? (i := 171) (by decide +kernel)) rfl
theorem qw172 : Cond.methodLinkNest RX10 52 yX1_init "CalledTouches" ∈ lw_nest := lw_inN (List.mem_of_getElem? (i := 172) (by decide +kernel)) rfl
theorem qw173 : Cond.instanceMethod yX1_init ∈ lw_all := lw_in (List.mem_of_getElem? (i := 173) (by decide +kernel)) rfl
theorem qw174 : Cond.code yX1_init cX1_init 1 none ∈ lw_all := lw_in (List.mem_of_getElem? (i := 174) (by decide +kernel)) rfl
theorem qw175 : Cond.methodLink RX1 3 ⟨"java/lang/Object", "<init>", "()V"⟩ ∈ lw_all := lw_in (List.mem_of_getElem? (i := 175) (by decide +kernel)) rfl
theorem qw176 : Cond.classLink RX1 9 RX7 ∈ lw_all := lw_in (List.mem_of_getElem? (i := 176) (by decide +kernel)) rfl
theorem qw177 : Cond.instantiable RX7 4 ∈ lw_all := lw_in (List.mem_of_getElem? (i := 177) (by decide +kernel)) rfl
theorem qw178 : Cond.methodLinkNest RX1 11 yX7_init "CalledTouches" ∈ lw_nest := lw_inN (List.mem_of_getElem? (i := 178) (by decide +kernel)) rfl
theorem qw179 : Cond.instanceMethod yX7_init ∈ lw_all := lw_in (List.mem_of_getElem? (i := 179) (by decide +kernel)) rfl
theorem qw180 : Cond.code yX7_init cX7_init 1 none ∈ lw_all := lw_in (List.mem_of_getElem? (i := 180) (by decide +kernel)) rfl
theorem qw181 : Cond.methodLink RX7 3 ⟨"java/lang/Object", "<init>", "()V"⟩ ∈ lw_all := lw_in (List.mem_of_getElem? (i := 181) (by decide +kernel)) rfl
theorem qw182 : Cond.fieldLink RX7 9 "CalledTouches$Spread" "fewest" "[I" ∈ lw_all := lw_in (List.mem_of_getElem? (i := 182) (by decide +kernel)) rfl
theorem qw183 : Cond.fieldLink RX7 15 "CalledTouches$Spread" "reached" "[I" ∈ lw_all := lw_in (List.mem_of_getElem? (i := 183) (by decide +kernel)) rfl
theorem qw184 : Cond.fieldLink RX7 18 "CalledTouches$Spread" "bells" "I" ∈ lw_all := lw_in (List.mem_of_getElem? (i := 184) (by decide +kernel)) rfl
theorem qw185 : Cond.fieldLink RX7 22 "CalledTouches$Spread" "size" "I" ∈ lw_all := lw_in (List.mem_of_getElem? (i := 185) (by decide +kernel)) rfl
theorem qw195 : Cond.fieldLink RX1 12 "CalledTouches$Homeward" "fromRounds" "LCalledTouches$Spread;" ∈ lw_all := lw_in (List.mem_of_getElem? (i := 195) (by decide +kernel)) rfl
theorem qw196 : Cond.fieldLink RX1 18 "CalledTouches$Homeward" "fromRow" "LCalledTouches$Spread;" ∈ lw_all := lw_in (List.mem_of_getElem? (i := 196) (by decide +kernel)) rfl
theorem qw197 : Cond.fieldLink RX1 21 "CalledTouches$Homeward" "leads" "[I" ∈ lw_all := lw_in (List.mem_of_getElem? (i := 197) (by decide +kernel)) rfl
theorem qw198 : Cond.fieldLink RX1 25 "CalledTouches$Homeward" "leadsBack" "[I" ∈ lw_all := lw_in (List.mem_of_getElem? (i := 198) (by decide +kernel)) rfl
theorem qw199 : Cond.fieldLink RX1 28 "CalledTouches$Homeward" "bells" "I" ∈ lw_all := lw_in (List.mem_of_getElem? (i := 199) (by decide +kernel)) rfl
theorem qw211 : Cond.methodLink RX10 57 yX10_begin ∈ lw_all := lw_in (List.mem_of_getElem? (i := 211) (by decide +kernel)) rfl
theorem qw213 : Cond.instanceMethod yX10_begin ∈ lw_all := lw_in (List.mem_of_getElem? (i := 213) (by decide +kernel)) rfl
theorem qw214 : Cond.code yX10_begin cX10_begin 5 none ∈ lw_all := lw_in (List.mem_of_getElem? (i := 214) (by decide +kernel)) rfl
theorem qw215 : Cond.methodLink RX10 234 yX8_bob ∈ lw_all := lw_in (List.mem_of_getElem? (i := 215) (by decide +kernel)) rfl
theorem qw216 : Cond.static yX8_bob ∈ lw_all := lw_in (List.mem_of_getElem? (i := 216) (by decide +kernel)) rfl
theorem qw217 : Cond.code yX8_bob cX8_bob 1 (some (.object RJ0)) ∈ lw_all := lw_in (List.mem_of_getElem? (i := 217) (by decide +kernel)) rfl
theorem qw221 : Cond.methodLink RX10 239 yJ0_toCharArray_70df3 ∈ lw_all := lw_in (List.mem_of_getElem? (i := 221) (by decide +kernel)) rfl
theorem qw222 : Cond.instanceMethod yJ0_toCharArray_70df3 ∈ lw_all := lw_in (List.mem_of_getElem? (i := 222) (by decide +kernel)) rfl
theorem qw223 : Cond.selects RJ0 yJ0_toCharArray_70df3 yJ0_toCharArray_70df3 ∈ lw_all := lw_in (List.mem_of_getElem? (i := 223) (by decide +kernel)) rfl
theorem qw224 : Cond.code yJ0_toCharArray_70df3 cJ0_toCharArray_70df3 1 (some (.array .char)) ∈ lw_all := lw_in (List.mem_of_getElem? (i := 224) (by decide +kernel)) rfl
theorem qw225 : Cond.methodLink RJ0 492 yJ0_isLatin1_aae02 ∈ lw_all := lw_in (List.mem_of_getElem? (i := 225) (by decide +kernel)) rfl
theorem qw226 : Cond.instanceMethod yJ0_isLatin1_aae02 ∈ lw_all := lw_in (List.mem_of_getElem? (i := 226) (by decide +kernel)) rfl
theorem qw227 : Cond.selects RJ0 yJ0_isLatin1_aae02 yJ0_isLatin1_aae02 ∈ lw_all := lw_in (List.mem_of_getElem? (i := 227) (by decide +kernel)) rfl
theorem qw228 : Cond.code yJ0_isLatin1_aae02 cJ0_isLatin1_aae02 1 (some .boolean) ∈ lw_all := lw_in (List.mem_of_getElem? (i := 228) (by decide +kernel)) rfl
theorem qw229 : Cond.fieldLink RJ0 38 "java/lang/String" "COMPACT_STRINGS" "Z" ∈ lw_all := lw_in (List.mem_of_getElem? (i := 229) (by decide +kernel)) rfl
theorem qw231 : Cond.methodLink RJ0 299 yJ1_toChars_9d188 ∈ lw_all := lw_in (List.mem_of_getElem? (i := 231) (by decide +kernel)) rfl
theorem qw232 : Cond.static yJ1_toChars_9d188 ∈ lw_all := lw_in (List.mem_of_getElem? (i := 232) (by decide +kernel)) rfl
theorem qw233 : Cond.code yJ1_toChars_9d188 cJ1_toChars_9d188 2 (some (.array .char)) ∈ lw_all := lw_in (List.mem_of_getElem? (i := 233) (by decide +kernel)) rfl
theorem qw234 : Cond.methodLink RJ1 13 yJ1_inflate_03870 ∈ lw_all := lw_in (List.mem_of_getElem? (i := 234) (by decide +kernel)) rfl
theorem qw235 : Cond.static yJ1_inflate_03870 ∈ lw_all := lw_in (List.mem_of_getElem? (i := 235) (by decide +kernel)) rfl
theorem qw236 : Cond.code yJ1_inflate_03870 cJ1_inflate_03870 6 none ∈ lw_all := lw_in (List.mem_of_getElem? (i := 236) (by decide +kernel)) rfl
theorem qw237 : Cond.methodLink RJ0 303 yJ2_toChars_9d188 ∈ lw_all := lw_in (List.mem_of_getElem? (i := 237) (by decide +kernel)) rfl
theorem qw238 : Cond.static yJ2_toChars_9d188 ∈ lw_all := lw_in (List.mem_of_getElem? (i := 238) (by decide +kernel)) rfl
theorem qw239 : Cond.code yJ2_toChars_9d188 cJ2_toChars_9d188 2 (some (.array .char)) ∈ lw_all := lw_in (List.mem_of_getElem? (i := 239) (by decide +kernel)) rfl
theorem qw240 : Cond.methodLink RJ2 103 yJ2_getChars_a1a8b ∈ lw_all := lw_in (List.mem_of_getElem? (i := 240) (by decide +kernel)) rfl
theorem qw241 : Cond.static yJ2_getChars_a1a8b ∈ lw_all := lw_in (List.mem_of_getElem? (i := 241) (by decide +kernel)) rfl
theorem qw242 : Cond.code yJ2_getChars_a1a8b cJ2_getChars_a1a8b 6 none ∈ lw_all := lw_in (List.mem_of_getElem? (i := 242) (by decide +kernel)) rfl
theorem qw243 : Cond.methodLink RJ2 173 yJ2_checkBoundsOffCount_d044e ∈ lw_all := lw_in (List.mem_of_getElem? (i := 243) (by decide +kernel)) rfl
theorem qw244 : Cond.static yJ2_checkBoundsOffCount_d044e ∈ lw_all := lw_in (List.mem_of_getElem? (i := 244) (by decide +kernel)) rfl
theorem qw245 : Cond.code yJ2_checkBoundsOffCount_d044e cJ2_checkBoundsOffCount_d044e 3 none ∈ lw_all := lw_in (List.mem_of_getElem? (i := 245) (by decide +kernel)) rfl
theorem qw246 : Cond.methodLink RJ2 48 yJ2_length_9d52b ∈ lw_all := lw_in (List.mem_of_getElem? (i := 246) (by decide +kernel)) rfl
theorem qw247 : Cond.static yJ2_length_9d52b ∈ lw_all := lw_in (List.mem_of_getElem? (i := 247) (by decide +kernel)) rfl
theorem qw248 : Cond.code yJ2_length_9d52b cJ2_length_9d52b 1 (some .int) ∈ lw_all := lw_in (List.mem_of_getElem? (i := 248) (by decide +kernel)) rfl
theorem qw249 : Cond.methodLink RJ2 419 yJ0_checkBoundsOffCount_cabcc ∈ lw_all := lw_in (List.mem_of_getElem? (i := 249) (by decide +kernel)) rfl
theorem qw250 : Cond.static yJ0_checkBoundsOffCount_cabcc ∈ lw_all := lw_in (List.mem_of_getElem? (i := 250) (by decide +kernel)) rfl
theorem qw251 : Cond.code yJ0_checkBoundsOffCount_cabcc cJ0_checkBoundsOffCount_cabcc 3 (some .int) ∈ lw_all := lw_in (List.mem_of_getElem? (i := 251) (by decide +kernel)) rfl
theorem qw252 : Cond.fieldLink RJ0 1053 "jdk/internal/util/Preconditions" "SIOOBE_FORMATTER" "Ljava/util/function/BiFunction;" ∈ lw_all := lw_in (List.mem_of_getElem? (i := 252) (by decide +kernel)) rfl
theorem qw254 : Cond.methodLink RJ0 1065 yJ3_checkFromIndexSize_8c36e ∈ lw_all := lw_in (List.mem_of_getElem? (i := 254) (by decide +kernel)) rfl
theorem qw255 : Cond.static yJ3_checkFromIndexSize_8c36e ∈ lw_all := lw_in (List.mem_of_getElem? (i := 255) (by decide +kernel)) rfl
theorem qw256 : Cond.code yJ3_checkFromIndexSize_8c36e cJ3_checkFromIndexSize_8c36e 4 (some .int) ∈ lw_all := lw_in (List.mem_of_getElem? (i := 256) (by decide +kernel)) rfl
theorem qw257 : Cond.methodLink RJ2 71 yJ2_getChar_3b067 ∈ lw_all := lw_in (List.mem_of_getElem? (i := 257) (by decide +kernel)) rfl
theorem qw258 : Cond.static yJ2_getChar_3b067 ∈ lw_all := lw_in (List.mem_of_getElem? (i := 258) (by decide +kernel)) rfl
theorem qw259 : Cond.code yJ2_getChar_3b067 cJ2_getChar_3b067 2 (some .char) ∈ lw_all := lw_in (List.mem_of_getElem? (i := 259) (by decide +kernel)) rfl
theorem qw260 : Cond.fieldLink RJ2 44 "java/lang/StringUTF16" "$assertionsDisabled" "Z" ∈ lw_all := lw_in (List.mem_of_getElem? (i := 260) (by decide +kernel)) rfl
theorem qw262 : Cond.fieldLink RJ2 59 "java/lang/StringUTF16" "HI_BYTE_SHIFT" "I" ∈ lw_all := lw_in (List.mem_of_getElem? (i := 262) (by decide +kernel)) rfl
theorem qw264 : Cond.fieldLink RJ2 63 "java/lang/StringUTF16" "LO_BYTE_SHIFT" "I" ∈ lw_all := lw_in (List.mem_of_getElem? (i := 264) (by decide +kernel)) rfl
theorem qw266 : Cond.methodLink RX10 245 yX8_single ∈ lw_all := lw_in (List.mem_of_getElem? (i := 266) (by decide +kernel)) rfl
theorem qw267 : Cond.static yX8_single ∈ lw_all := lw_in (List.mem_of_getElem? (i := 267) (by decide +kernel)) rfl
theorem qw268 : Cond.code yX8_single cX8_single 1 (some (.object RJ0)) ∈ lw_all := lw_in (List.mem_of_getElem? (i := 268) (by decide +kernel)) rfl
theorem qw273 : Cond.methodLink RX10 247 yX8_lead ∈ lw_all := lw_in (List.mem_of_getElem? (i := 273) (by decide +kernel)) rfl
theorem qw274 : Cond.static yX8_lead ∈ lw_all := lw_in (List.mem_of_getElem? (i := 274) (by decide +kernel)) rfl
theorem qw275 : Cond.code yX8_lead cX8_lead 1 (some (.object RJ0)) ∈ lw_all := lw_in (List.mem_of_getElem? (i := 275) (by decide +kernel)) rfl
theorem qw280 : Cond.methodLink RX10 80 yX2_read ∈ lw_all := lw_in (List.mem_of_getElem? (i := 280) (by decide +kernel)) rfl
theorem qw281 : Cond.instanceMethod yX2_read ∈ lw_all := lw_in (List.mem_of_getElem? (i := 281) (by decide +kernel)) rfl
theorem qw282 : Cond.selects RX2 yX2_read yX2_read ∈ lw_all := lw_in (List.mem_of_getElem? (i := 282) (by decide +kernel)) rfl
theorem qw283 : Cond.code yX2_read cX2_read 5 (some .int) ∈ lw_all := lw_in (List.mem_of_getElem? (i := 283) (by decide +kernel)) rfl
theorem qw284 : Cond.methodLink RX2 19 yX2_beginChange ∈ lw_all := lw_in (List.mem_of_getElem? (i := 284) (by decide +kernel)) rfl
theorem qw286 : Cond.instanceMethod yX2_beginChange ∈ lw_all := lw_in (List.mem_of_getElem? (i := 286) (by decide +kernel)) rfl
theorem qw287 : Cond.code yX2_beginChange cX2_beginChange 1 none ∈ lw_all := lw_in (List.mem_of_getElem? (i := 287) (by decide +kernel)) rfl
theorem qw288 : Cond.methodLink RX2 22 yX2_accepts ∈ lw_all := lw_in (List.mem_of_getElem? (i := 288) (by decide +kernel)) rfl
theorem qw290 : Cond.instanceMethod yX2_accepts ∈ lw_all := lw_in (List.mem_of_getElem? (i := 290) (by decide +kernel)) rfl
theorem qw291 : Cond.code yX2_accepts cX2_accepts 3 (some .boolean) ∈ lw_all := lw_in (List.mem_of_getElem? (i := 291) (by decide +kernel)) rfl
theorem qw292 : Cond.methodLink RX2 33 yX2_acceptsDot ∈ lw_all := lw_in (List.mem_of_getElem? (i := 292) (by decide +kernel)) rfl
theorem qw294 : Cond.instanceMethod yX2_acceptsDot ∈ lw_all := lw_in (List.mem_of_getElem? (i := 294) (by decide +kernel)) rfl
theorem qw295 : Cond.code yX2_acceptsDot cX2_acceptsDot 2 (some .boolean) ∈ lw_all := lw_in (List.mem_of_getElem? (i := 295) (by decide +kernel)) rfl
theorem qw296 : Cond.methodLink RX2 26 yX2_isChangeRight ∈ lw_all := lw_in (List.mem_of_getElem? (i := 296) (by decide +kernel)) rfl
theorem qw298 : Cond.instanceMethod yX2_isChangeRight ∈ lw_all := lw_in (List.mem_of_getElem? (i := 298) (by decide +kernel)) rfl
theorem qw299 : Cond.code yX2_isChangeRight cX2_isChangeRight 2 (some .boolean) ∈ lw_all := lw_in (List.mem_of_getElem? (i := 299) (by decide +kernel)) rfl
theorem qw300 : Cond.methodLink RX2 30 yX2_keepChange ∈ lw_all := lw_in (List.mem_of_getElem? (i := 300) (by decide +kernel)) rfl
theorem qw302 : Cond.instanceMethod yX2_keepChange ∈ lw_all := lw_in (List.mem_of_getElem? (i := 302) (by decide +kernel)) rfl
theorem qw303 : Cond.code yX2_keepChange cX2_keepChange 1 none ∈ lw_all := lw_in (List.mem_of_getElem? (i := 303) (by decide +kernel)) rfl
theorem qw304 : Cond.methodLink RX2 36 yX2_acceptsCross ∈ lw_all := lw_in (List.mem_of_getElem? (i := 304) (by decide +kernel)) rfl
theorem qw306 : Cond.instanceMethod yX2_acceptsCross ∈ lw_all := lw_in (List.mem_of_getElem? (i := 306) (by decide +kernel)) rfl
theorem qw307 : Cond.code yX2_acceptsCross cX2_acceptsCross 2 (some .boolean) ∈ lw_all := lw_in (List.mem_of_getElem? (i := 307) (by decide +kernel)) rfl
theorem qw308 : Cond.methodLink RX2 39 yX2_acceptsPlace ∈ lw_all := lw_in (List.mem_of_getElem? (i := 308) (by decide +kernel)) rfl
theorem qw310 : Cond.instanceMethod yX2_acceptsPlace ∈ lw_all := lw_in (List.mem_of_getElem? (i := 310) (by decide +kernel)) rfl
theorem qw311 : Cond.code yX2_acceptsPlace cX2_acceptsPlace 5 (some .boolean) ∈ lw_all := lw_in (List.mem_of_getElem? (i := 311) (by decide +kernel)) rfl
theorem qw312 : Cond.methodLink RX2 53 yX4_bit ∈ lw_all := lw_in (List.mem_of_getElem? (i := 312) (by decide +kernel)) rfl
theorem qw313 : Cond.static yX4_bit ∈ lw_all := lw_in (List.mem_of_getElem? (i := 313) (by decide +kernel)) rfl
theorem qw314 : Cond.code yX4_bit cX4_bit 1 (some .int) ∈ lw_all := lw_in (List.mem_of_getElem? (i := 314) (by decide +kernel)) rfl
theorem qw315 : Cond.methodLink RX10 84 yX9_takeMethod ∈ lw_all := lw_in (List.mem_of_getElem? (i := 315) (by decide +kernel)) rfl
theorem qw316 : Cond.instanceMethod yX9_takeMethod ∈ lw_all := lw_in (List.mem_of_getElem? (i := 316) (by decide +kernel)) rfl
theorem qw317 : Cond.selects RX9 yX9_takeMethod yX9_takeMethod ∈ lw_all := lw_in (List.mem_of_getElem? (i := 317) (by decide +kernel)) rfl
theorem qw318 : Cond.code yX9_takeMethod cX9_takeMethod 2 none ∈ lw_all := lw_in (List.mem_of_getElem? (i := 318) (by decide +kernel)) rfl
theorem qw319 : Cond.methodLink RX9 34 ⟨RJ10, "arraycopy", "(Ljava/lang/Object;ILjava/lang/Object;II)V"⟩ ∈ lw_all := lw_in (List.mem_of_getElem? (i := 319) (by decide +kernel)) rfl
theorem qw320 : Cond.static ⟨RJ10, "arraycopy", "(Ljava/lang/Object;ILjava/lang/Object;II)V"⟩ ∈ lw_all := lw_in (List.mem_of_getElem? (i := 320) (by decide +kernel)) rfl
theorem qw321 : Cond.native ⟨RJ10, "arraycopy", "(Ljava/lang/Object;ILjava/lang/Object;II)V"⟩ ∈ lw_all := lw_in (List.mem_of_getElem? (i := 321) (by decide +kernel)) rfl
theorem qw322 : Cond.fieldLink RX10 12 "CalledTouches" "now" "LCalledTouches$Touch;" ∈ lw_all := lw_in (List.mem_of_getElem? (i := 322) (by decide +kernel)) rfl
theorem qw323 : Cond.fieldLink RX10 16 "CalledTouches" "trial" "LCalledTouches$Touch;" ∈ lw_all := lw_in (List.mem_of_getElem? (i := 323) (by decide +kernel)) rfl
theorem qw324 : Cond.fieldLink RX10 19 "CalledTouches" "snapshot" "LCalledTouches$Touch;" ∈ lw_all := lw_in (List.mem_of_getElem? (i := 324) (by decide +kernel)) rfl
theorem qw325 : Cond.fieldLink RX10 25 "CalledTouches" "history" "LCalledTouches$History;" ∈ lw_all := lw_in (List.mem_of_getElem? (i := 325) (by decide +kernel)) rfl
theorem qw326 : Cond.fieldLink RX10 32 "CalledTouches" "pad" "LCalledTouches$Pad;" ∈ lw_all := lw_in (List.mem_of_getElem? (i := 326) (by decide +kernel)) rfl
theorem qw327 : Cond.fieldLink RX10 39 "CalledTouches" "reader" "LCalledTouches$MethodReader;" ∈ lw_all := lw_in (List.mem_of_getElem? (i := 327) (by decide +kernel)) rfl
theorem qw328 : Cond.fieldLink RX10 46 "CalledTouches" "ringing" "LCalledTouches$Ringing;" ∈ lw_all := lw_in (List.mem_of_getElem? (i := 328) (by decide +kernel)) rfl
theorem qw329 : Cond.fieldLink RX10 53 "CalledTouches" "homeward" "LCalledTouches$Homeward;" ∈ lw_all := lw_in (List.mem_of_getElem? (i := 329) (by decide +kernel)) rfl
theorem qw349 : Cond.arrayClass .byte ∈ lw_all := lw_in (List.mem_of_getElem? (i := 349) (by decide +kernel)) rfl
theorem qw350 : Cond.methodLink RL 112 yL_cell ∈ lw_all := lw_in (List.mem_of_getElem? (i := 350) (by decide +kernel)) rfl
theorem qw351 : Cond.static yL_cell ∈ lw_all := lw_in (List.mem_of_getElem? (i := 351) (by decide +kernel)) rfl
theorem qw352 : Cond.code yL_cell cL_cell 2 (some .int) ∈ lw_all := lw_in (List.mem_of_getElem? (i := 352) (by decide +kernel)) rfl
theorem qw353 : Cond.constant RL 7 (40503) ∈ lw_all := lw_in (List.mem_of_getElem? (i := 353) (by decide +kernel)) rfl
theorem qw354 : Cond.methodLink RL 94 yL_beginning ∈ lw_all := lw_in (List.mem_of_getElem? (i := 354) (by decide +kernel)) rfl
theorem qw355 : Cond.static yL_beginning ∈ lw_all := lw_in (List.mem_of_getElem? (i := 355) (by decide +kernel)) rfl
theorem qw356 : Cond.code yL_beginning cL_beginning 7 none ∈ lw_all := lw_in (List.mem_of_getElem? (i := 356) (by decide +kernel)) rfl
theorem qw357 : Cond.methodLink RL 120 yL_all ∈ lw_all := lw_in (List.mem_of_getElem? (i := 357) (by decide +kernel)) rfl
theorem qw358 : Cond.static yL_all ∈ lw_all := lw_in (List.mem_of_getElem? (i := 358) (by decide +kernel)) rfl
theorem qw359 : Cond.code yL_all cL_all 7 none ∈ lw_all := lw_in (List.mem_of_getElem? (i := 359) (by decide +kernel)) rfl
theorem qw360 : Cond.methodLink RL 13 yL_rounds ∈ lw_all := lw_in (List.mem_of_getElem? (i := 360) (by decide +kernel)) rfl
theorem qw361 : Cond.static yL_rounds ∈ lw_all := lw_in (List.mem_of_getElem? (i := 361) (by decide +kernel)) rfl
theorem qw362 : Cond.code yL_rounds cL_rounds 3 none ∈ lw_all := lw_in (List.mem_of_getElem? (i := 362) (by decide +kernel)) rfl
theorem qw363 : Cond.methodLink RL 19 yL_code ∈ lw_all := lw_in (List.mem_of_getElem? (i := 363) (by decide +kernel)) rfl
theorem qw364 : Cond.static yL_code ∈ lw_all := lw_in (List.mem_of_getElem? (i := 364) (by decide +kernel)) rfl
theorem qw365 : Cond.code yL_code cL_code 5 (some .long) ∈ lw_all := lw_in (List.mem_of_getElem? (i := 365) (by decide +kernel)) rfl
theorem qw367 : Cond.methodLink RL 23 yL_change ∈ lw_all := lw_in (List.mem_of_getElem? (i := 367) (by decide +kernel)) rfl
theorem qw368 : Cond.static yL_change ∈ lw_all := lw_in (List.mem_of_getElem? (i := 368) (by decide +kernel)) rfl
theorem qw369 : Cond.code yL_change cL_change 7 (some .int) ∈ lw_all := lw_in (List.mem_of_getElem? (i := 369) (by decide +kernel)) rfl
theorem qw370 : Cond.methodLink RL 27 yL_ring ∈ lw_all := lw_in (List.mem_of_getElem? (i := 370) (by decide +kernel)) rfl
theorem qw371 : Cond.static yL_ring ∈ lw_all := lw_in (List.mem_of_getElem? (i := 371) (by decide +kernel)) rfl
theorem qw372 : Cond.code yL_ring cL_ring 6 none ∈ lw_all := lw_in (List.mem_of_getElem? (i := 372) (by decide +kernel)) rfl
theorem qw373 : Cond.methodLink RL 128 yL_areRows ∈ lw_all := lw_in (List.mem_of_getElem? (i := 373) (by decide +kernel)) rfl
theorem qw374 : Cond.static yL_areRows ∈ lw_all := lw_in (List.mem_of_getElem? (i := 374) (by decide +kernel)) rfl
theorem qw375 : Cond.code yL_areRows cL_areRows 18 (some .boolean) ∈ lw_all := lw_in (List.mem_of_getElem? (i := 375) (by decide +kernel)) rfl
theorem qw376 : Cond.methodLink RL 41 yX10_bell ∈ lw_all := lw_in (List.mem_of_getElem? (i := 376) (by decide +kernel)) rfl
theorem qw377 : Cond.instanceMethod yX10_bell ∈ lw_all := lw_in (List.mem_of_getElem? (i := 377) (by decide +kernel)) rfl
theorem qw378 : Cond.selects RX10 yX10_bell yX10_bell ∈ lw_all := lw_in (List.mem_of_getElem? (i := 378) (by decide +kernel)) rfl
theorem qw379 : Cond.code yX10_bell cX10_bell 3 (some .int) ∈ lw_all := lw_in (List.mem_of_getElem? (i := 379) (by decide +kernel)) rfl
theorem qw380 : Cond.methodLink RX10 121 yX9_lastRow ∈ lw_all := lw_in (List.mem_of_getElem? (i := 380) (by decide +kernel)) rfl
theorem qw381 : Cond.instanceMethod yX9_lastRow ∈ lw_all := lw_in (List.mem_of_getElem? (i := 381) (by decide +kernel)) rfl
theorem qw382 : Cond.selects RX9 yX9_lastRow yX9_lastRow ∈ lw_all := lw_in (List.mem_of_getElem? (i := 382) (by decide +kernel)) rfl
theorem qw383 : Cond.code yX9_lastRow cX9_lastRow 1 (some .int) ∈ lw_all := lw_in (List.mem_of_getElem? (i := 383) (by decide +kernel)) rfl
theorem qw384 : Cond.methodLink RX10 61 yX10_isWithin ∈ lw_all := lw_in (List.mem_of_getElem? (i := 384) (by decide +kernel)) rfl
theorem qw385 : Cond.static yX10_isWithin ∈ lw_all := lw_in (List.mem_of_getElem? (i := 385) (by decide +kernel)) rfl
theorem qw386 : Cond.code yX10_isWithin cX10_isWithin 3 (some .boolean) ∈ lw_all := lw_in (List.mem_of_getElem? (i := 386) (by decide +kernel)) rfl
theorem qw387 : Cond.methodLink RX10 124 yX10_isBell ∈ lw_all := lw_in (List.mem_of_getElem? (i := 387) (by decide +kernel)) rfl
theorem qw389 : Cond.instanceMethod yX10_isBell ∈ lw_all := lw_in (List.mem_of_getElem? (i := 389) (by decide +kernel)) rfl
theorem qw390 : Cond.code yX10_isBell cX10_isBell 2 (some .boolean) ∈ lw_all := lw_in (List.mem_of_getElem? (i := 390) (by decide +kernel)) rfl
theorem qw391 : Cond.methodLink RX10 128 yX5_ring ∈ lw_all := lw_in (List.mem_of_getElem? (i := 391) (by decide +kernel)) rfl
theorem qw392 : Cond.instanceMethod yX5_ring ∈ lw_all := lw_in (List.mem_of_getElem? (i := 392) (by decide +kernel)) rfl
theorem qw393 : Cond.selects RX5 yX5_ring yX5_ring ∈ lw_all := lw_in (List.mem_of_getElem? (i := 393) (by decide +kernel)) rfl
theorem qw394 : Cond.code yX5_ring cX5_ring 6 none ∈ lw_all := lw_in (List.mem_of_getElem? (i := 394) (by decide +kernel)) rfl
theorem qw395 : Cond.methodLink RX5 36 yX6_rounds ∈ lw_all := lw_in (List.mem_of_getElem? (i := 395) (by decide +kernel)) rfl
theorem qw396 : Cond.static yX6_rounds ∈ lw_all := lw_in (List.mem_of_getElem? (i := 396) (by decide +kernel)) rfl
theorem qw397 : Cond.code yX6_rounds cX6_rounds 3 (some .int) ∈ lw_all := lw_in (List.mem_of_getElem? (i := 397) (by decide +kernel)) rfl
theorem qw398 : Cond.methodLink RX6 7 yX6_put ∈ lw_all := lw_in (List.mem_of_getElem? (i := 398) (by decide +kernel)) rfl
theorem qw399 : Cond.static yX6_put ∈ lw_all := lw_in (List.mem_of_getElem? (i := 399) (by decide +kernel)) rfl
theorem qw400 : Cond.code yX6_put cX6_put 3 (some .int) ∈ lw_all := lw_in (List.mem_of_getElem? (i := 400) (by decide +kernel)) rfl
theorem qw401 : Cond.methodLink RX5 45 yX9_kindOfLead ∈ lw_all := lw_in (List.mem_of_getElem? (i := 401) (by decide +kernel)) rfl
theorem qw402 : Cond.instanceMethod yX9_kindOfLead ∈ lw_all := lw_in (List.mem_of_getElem? (i := 402) (by decide +kernel)) rfl
theorem qw403 : Cond.selects RX9 yX9_kindOfLead yX9_kindOfLead ∈ lw_all := lw_in (List.mem_of_getElem? (i := 403) (by decide +kernel)) rfl
theorem qw404 : Cond.code yX9_kindOfLead cX9_kindOfLead 2 (some .int) ∈ lw_all := lw_in (List.mem_of_getElem? (i := 404) (by decide +kernel)) rfl
theorem qw405 : Cond.methodLink RX5 48 yX9_placesMade ∈ lw_all := lw_in (List.mem_of_getElem? (i := 405) (by decide +kernel)) rfl
theorem qw406 : Cond.instanceMethod yX9_placesMade ∈ lw_all := lw_in (List.mem_of_getElem? (i := 406) (by decide +kernel)) rfl
theorem qw407 : Cond.selects RX9 yX9_placesMade yX9_placesMade ∈ lw_all := lw_in (List.mem_of_getElem? (i := 407) (by decide +kernel)) rfl
theorem qw408 : Cond.code yX9_placesMade cX9_placesMade 3 (some .int) ∈ lw_all := lw_in (List.mem_of_getElem? (i := 408) (by decide +kernel)) rfl
theorem qw409 : Cond.methodLink RX5 52 yX6_behindChange ∈ lw_all := lw_in (List.mem_of_getElem? (i := 409) (by decide +kernel)) rfl
theorem qw410 : Cond.static yX6_behindChange ∈ lw_all := lw_in (List.mem_of_getElem? (i := 410) (by decide +kernel)) rfl
theorem qw411 : Cond.code yX6_behindChange cX6_behindChange 5 (some .int) ∈ lw_all := lw_in (List.mem_of_getElem? (i := 411) (by decide +kernel)) rfl
theorem qw412 : Cond.methodLink RX6 17 yX4_has ∈ lw_all := lw_in (List.mem_of_getElem? (i := 412) (by decide +kernel)) rfl
theorem qw413 : Cond.static yX4_has ∈ lw_all := lw_in (List.mem_of_getElem? (i := 413) (by decide +kernel)) rfl
theorem qw414 : Cond.code yX4_has cX4_has 2 (some .boolean) ∈ lw_all := lw_in (List.mem_of_getElem? (i := 414) (by decide +kernel)) rfl
theorem qw415 : Cond.methodLink RX4 7 yX4_bit ∈ lw_all := lw_in (List.mem_of_getElem? (i := 415) (by decide +kernel)) rfl
theorem qw416 : Cond.methodLink RX6 13 yX6_bellAt ∈ lw_all := lw_in (List.mem_of_getElem? (i := 416) (by decide +kernel)) rfl
theorem qw417 : Cond.static yX6_bellAt ∈ lw_all := lw_in (List.mem_of_getElem? (i := 417) (by decide +kernel)) rfl
theorem qw418 : Cond.code yX6_bellAt cX6_bellAt 2 (some .int) ∈ lw_all := lw_in (List.mem_of_getElem? (i := 418) (by decide +kernel)) rfl
theorem qw419 : Cond.methodLink RX5 56 yX5_keep ∈ lw_all := lw_in (List.mem_of_getElem? (i := 419) (by decide +kernel)) rfl
theorem qw421 : Cond.instanceMethod yX5_keep ∈ lw_all := lw_in (List.mem_of_getElem? (i := 421) (by decide +kernel)) rfl
theorem qw422 : Cond.code yX5_keep cX5_keep 2 none ∈ lw_all := lw_in (List.mem_of_getElem? (i := 422) (by decide +kernel)) rfl
theorem qw423 : Cond.methodLink RX5 60 yX5_findFirsts ∈ lw_all := lw_in (List.mem_of_getElem? (i := 423) (by decide +kernel)) rfl
theorem qw425 : Cond.instanceMethod yX5_findFirsts ∈ lw_all := lw_in (List.mem_of_getElem? (i := 425) (by decide +kernel)) rfl
theorem qw426 : Cond.code yX5_findFirsts cX5_findFirsts 3 none ∈ lw_all := lw_in (List.mem_of_getElem? (i := 426) (by decide +kernel)) rfl
theorem qw427 : Cond.methodLink RX5 63 yX5_rowAt ∈ lw_all := lw_in (List.mem_of_getElem? (i := 427) (by decide +kernel)) rfl
theorem qw428 : Cond.instanceMethod yX5_rowAt ∈ lw_all := lw_in (List.mem_of_getElem? (i := 428) (by decide +kernel)) rfl
theorem qw429 : Cond.selects RX5 yX5_rowAt yX5_rowAt ∈ lw_all := lw_in (List.mem_of_getElem? (i := 429) (by decide +kernel)) rfl
theorem qw430 : Cond.code yX5_rowAt cX5_rowAt 2 (some .int) ∈ lw_all := lw_in (List.mem_of_getElem? (i := 430) (by decide +kernel)) rfl
theorem qw431 : Cond.methodLink RX5 66 yX6_rank ∈ lw_all := lw_in (List.mem_of_getElem? (i := 431) (by decide +kernel)) rfl
theorem qw432 : Cond.static yX6_rank ∈ lw_all := lw_in (List.mem_of_getElem? (i := 432) (by decide +kernel)) rfl
theorem qw433 : Cond.code yX6_rank cX6_rank 8 (some .int) ∈ lw_all := lw_in (List.mem_of_getElem? (i := 433) (by decide +kernel)) rfl
theorem qw434 : Cond.methodLink RX6 23 yX4_bit ∈ lw_all := lw_in (List.mem_of_getElem? (i := 434) (by decide +kernel)) rfl
theorem qw435 : Cond.methodLink RX6 27 yJ6_bitCount_0f7a4 ∈ lw_all := lw_in (List.mem_of_getElem? (i := 435) (by decide +kernel)) rfl
theorem qw436 : Cond.static yJ6_bitCount_0f7a4 ∈ lw_all := lw_in (List.mem_of_getElem? (i := 436) (by decide +kernel)) rfl
theorem qw437 : Cond.code yJ6_bitCount_0f7a4 cJ6_bitCount_0f7a4 1 (some .int) ∈ lw_all := lw_in (List.mem_of_getElem? (i := 437) (by decide +kernel)) rfl
theorem qw438 : Cond.constant RJ6 265 (1431655765) ∈ lw_all := lw_in (List.mem_of_getElem? (i := 438) (by decide +kernel)) rfl
theorem qw439 : Cond.constant RJ6 266 (858993459) ∈ lw_all := lw_in (List.mem_of_getElem? (i := 439) (by decide +kernel)) rfl
theorem qw440 : Cond.constant RJ6 267 (252645135) ∈ lw_all := lw_in (List.mem_of_getElem? (i := 440) (by decide +kernel)) rfl
theorem qw441 : Cond.methodLink RX5 69 yX5_firstWithRank ∈ lw_all := lw_in (List.mem_of_getElem? (i := 441) (by decide +kernel)) rfl
theorem qw443 : Cond.instanceMethod yX5_firstWithRank ∈ lw_all := lw_in (List.mem_of_getElem? (i := 443) (by decide +kernel)) rfl
theorem qw444 : Cond.code yX5_firstWithRank cX5_firstWithRank 3 (some .int) ∈ lw_all := lw_in (List.mem_of_getElem? (i := 444) (by decide +kernel)) rfl
theorem qw445 : Cond.methodLink RX10 131 yX5_rowAt ∈ lw_all := lw_in (List.mem_of_getElem? (i := 445) (by decide +kernel)) rfl
theorem qw446 : Cond.methodLink RX10 135 yX6_bellAt ∈ lw_all := lw_in (List.mem_of_getElem? (i := 446) (by decide +kernel)) rfl
theorem qw447 : Cond.methodLink RL 47 yX10_row ∈ lw_all := lw_in (List.mem_of_getElem? (i := 447) (by decide +kernel)) rfl
theorem qw448 : Cond.instanceMethod yX10_row ∈ lw_all := lw_in (List.mem_of_getElem? (i := 448) (by decide +kernel)) rfl
theorem qw449 : Cond.selects RX10 yX10_row yX10_row ∈ lw_all := lw_in (List.mem_of_getElem? (i := 449) (by decide +kernel)) rfl
theorem qw450 : Cond.code yX10_row cX10_row 4 (some .int) ∈ lw_all := lw_in (List.mem_of_getElem? (i := 450) (by decide +kernel)) rfl
theorem qw451 : Cond.methodLink RX10 147 yX6_signByPairs ∈ lw_all := lw_in (List.mem_of_getElem? (i := 451) (by decide +kernel)) rfl
theorem qw452 : Cond.static yX6_signByPairs ∈ lw_all := lw_in (List.mem_of_getElem? (i := 452) (by decide +kernel)) rfl
theorem qw453 : Cond.code yX6_signByPairs cX6_signByPairs 5 (some .int) ∈ lw_all := lw_in (List.mem_of_getElem? (i := 453) (by decide +kernel)) rfl
theorem qw454 : Cond.methodLink RX10 150 yX6_signByCycles ∈ lw_all := lw_in (List.mem_of_getElem? (i := 454) (by decide +kernel)) rfl
theorem qw455 : Cond.static yX6_signByCycles ∈ lw_all := lw_in (List.mem_of_getElem? (i := 455) (by decide +kernel)) rfl
theorem qw456 : Cond.code yX6_signByCycles cX6_signByCycles 7 (some .int) ∈ lw_all := lw_in (List.mem_of_getElem? (i := 456) (by decide +kernel)) rfl
theorem qw457 : Cond.methodLink RX10 153 yX6_soundsWell ∈ lw_all := lw_in (List.mem_of_getElem? (i := 457) (by decide +kernel)) rfl
theorem qw458 : Cond.static yX6_soundsWell ∈ lw_all := lw_in (List.mem_of_getElem? (i := 458) (by decide +kernel)) rfl
theorem qw459 : Cond.code yX6_soundsWell cX6_soundsWell 4 (some .boolean) ∈ lw_all := lw_in (List.mem_of_getElem? (i := 459) (by decide +kernel)) rfl
theorem qw460 : Cond.methodLink RX10 156 yX6_bellsInPlace ∈ lw_all := lw_in (List.mem_of_getElem? (i := 460) (by decide +kernel)) rfl
theorem qw461 : Cond.static yX6_bellsInPlace ∈ lw_all := lw_in (List.mem_of_getElem? (i := 461) (by decide +kernel)) rfl
theorem qw462 : Cond.code yX6_bellsInPlace cX6_bellsInPlace 4 (some .int) ∈ lw_all := lw_in (List.mem_of_getElem? (i := 462) (by decide +kernel)) rfl
theorem qw463 : Cond.methodLink RX10 159 yX5_firstLike ∈ lw_all := lw_in (List.mem_of_getElem? (i := 463) (by decide +kernel)) rfl
theorem qw464 : Cond.instanceMethod yX5_firstLike ∈ lw_all := lw_in (List.mem_of_getElem? (i := 464) (by decide +kernel)) rfl
theorem qw465 : Cond.selects RX5 yX5_firstLike yX5_firstLike ∈ lw_all := lw_in (List.mem_of_getElem? (i := 465) (by decide +kernel)) rfl
theorem qw466 : Cond.code yX5_firstLike cX5_firstLike 2 (some .int) ∈ lw_all := lw_in (List.mem_of_getElem? (i := 466) (by decide +kernel)) rfl
theorem qw467 : Cond.methodLink RX10 162 yX1_learn ∈ lw_all := lw_in (List.mem_of_getElem? (i := 467) (by decide +kernel)) rfl
theorem qw468 : Cond.instanceMethod yX1_learn ∈ lw_all := lw_in (List.mem_of_getElem? (i := 468) (by decide +kernel)) rfl
theorem qw469 : Cond.selects RX1 yX1_learn yX1_learn ∈ lw_all := lw_in (List.mem_of_getElem? (i := 469) (by decide +kernel)) rfl
theorem qw470 : Cond.code yX1_learn cX1_learn 5 none ∈ lw_all := lw_in (List.mem_of_getElem? (i := 470) (by decide +kernel)) rfl
theorem qw471 : Cond.methodLink RX1 35 yX9_roundsBehindLead ∈ lw_all := lw_in (List.mem_of_getElem? (i := 471) (by decide +kernel)) rfl
theorem qw472 : Cond.instanceMethod yX9_roundsBehindLead ∈ lw_all := lw_in (List.mem_of_getElem? (i := 472) (by decide +kernel)) rfl
theorem qw473 : Cond.selects RX9 yX9_roundsBehindLead yX9_roundsBehindLead ∈ lw_all := lw_in (List.mem_of_getElem? (i := 473) (by decide +kernel)) rfl
theorem qw474 : Cond.code yX9_roundsBehindLead cX9_roundsBehindLead 4 (some .int) ∈ lw_all := lw_in (List.mem_of_getElem? (i := 474) (by decide +kernel)) rfl
theorem qw475 : Cond.methodLink RX9 48 yX6_rounds ∈ lw_all := lw_in (List.mem_of_getElem? (i := 475) (by decide +kernel)) rfl
theorem qw476 : Cond.methodLink RX9 53 yX9_placesMade ∈ lw_all := lw_in (List.mem_of_getElem? (i := 476) (by decide +kernel)) rfl
theorem qw477 : Cond.methodLink RX9 57 yX6_behindChange ∈ lw_all := lw_in (List.mem_of_getElem? (i := 477) (by decide +kernel)) rfl
theorem qw478 : Cond.methodLink RX1 39 yX6_backwards ∈ lw_all := lw_in (List.mem_of_getElem? (i := 478) (by decide +kernel)) rfl
theorem qw479 : Cond.static yX6_backwards ∈ lw_all := lw_in (List.mem_of_getElem? (i := 479) (by decide +kernel)) rfl
theorem qw480 : Cond.code yX6_backwards cX6_backwards 4 (some .int) ∈ lw_all := lw_in (List.mem_of_getElem? (i := 480) (by decide +kernel)) rfl
theorem qw481 : Cond.methodLink RX1 45 yX6_rounds ∈ lw_all := lw_in (List.mem_of_getElem? (i := 481) (by decide +kernel)) rfl
theorem qw482 : Cond.methodLink RX1 48 yX7_from ∈ lw_all := lw_in (List.mem_of_getElem? (i := 482) (by decide +kernel)) rfl
theorem qw483 : Cond.instanceMethod yX7_from ∈ lw_all := lw_in (List.mem_of_getElem? (i := 483) (by decide +kernel)) rfl
theorem qw484 : Cond.selects RX7 yX7_from yX7_from ∈ lw_all := lw_in (List.mem_of_getElem? (i := 484) (by decide +kernel)) rfl
theorem qw485 : Cond.code yX7_from cX7_from 9 none ∈ lw_all := lw_in (List.mem_of_getElem? (i := 485) (by decide +kernel)) rfl
theorem qw486 : Cond.methodLink RX7 25 yJ7_fill_53178 ∈ lw_all := lw_in (List.mem_of_getElem? (i := 486) (by decide +kernel)) rfl
theorem qw487 : Cond.static yJ7_fill_53178 ∈ lw_all := lw_in (List.mem_of_getElem? (i := 487) (by decide +kernel)) rfl
theorem qw488 : Cond.code yJ7_fill_53178 cJ7_fill_53178 4 none ∈ lw_all := lw_in (List.mem_of_getElem? (i := 488) (by decide +kernel)) rfl
theorem qw489 : Cond.methodLink RX7 31 yX7_reach ∈ lw_all := lw_in (List.mem_of_getElem? (i := 489) (by decide +kernel)) rfl
theorem qw491 : Cond.instanceMethod yX7_reach ∈ lw_all := lw_in (List.mem_of_getElem? (i := 491) (by decide +kernel)) rfl
theorem qw492 : Cond.code yX7_reach cX7_reach 4 none ∈ lw_all := lw_in (List.mem_of_getElem? (i := 492) (by decide +kernel)) rfl
theorem qw493 : Cond.methodLink RX7 45 yX6_rank ∈ lw_all := lw_in (List.mem_of_getElem? (i := 493) (by decide +kernel)) rfl
theorem qw494 : Cond.methodLink RX7 35 yX7_fewestTo ∈ lw_all := lw_in (List.mem_of_getElem? (i := 494) (by decide +kernel)) rfl
theorem qw495 : Cond.instanceMethod yX7_fewestTo ∈ lw_all := lw_in (List.mem_of_getElem? (i := 495) (by decide +kernel)) rfl
theorem qw496 : Cond.selects RX7 yX7_fewestTo yX7_fewestTo ∈ lw_all := lw_in (List.mem_of_getElem? (i := 496) (by decide +kernel)) rfl
theorem qw497 : Cond.code yX7_fewestTo cX7_fewestTo 3 (some .int) ∈ lw_all := lw_in (List.mem_of_getElem? (i := 497) (by decide +kernel)) rfl
theorem qw498 : Cond.methodLink RX7 39 yX6_behindLead ∈ lw_all := lw_in (List.mem_of_getElem? (i := 498) (by decide +kernel)) rfl
theorem qw499 : Cond.static yX6_behindLead ∈ lw_all := lw_in (List.mem_of_getElem? (i := 499) (by decide +kernel)) rfl
theorem qw500 : Cond.code yX6_behindLead cX6_behindLead 5 (some .int) ∈ lw_all := lw_in (List.mem_of_getElem? (i := 500) (by decide +kernel)) rfl
theorem qw501 : Cond.methodLink RX10 165 yX1_leadsFrom ∈ lw_all := lw_in (List.mem_of_getElem? (i := 501) (by decide +kernel)) rfl
theorem qw502 : Cond.instanceMethod yX1_leadsFrom ∈ lw_all := lw_in (List.mem_of_getElem? (i := 502) (by decide +kernel)) rfl
theorem qw503 : Cond.selects RX1 yX1_leadsFrom yX1_leadsFrom ∈ lw_all := lw_in (List.mem_of_getElem? (i := 503) (by decide +kernel)) rfl
theorem qw504 : Cond.code yX1_leadsFrom cX1_leadsFrom 2 (some .int) ∈ lw_all := lw_in (List.mem_of_getElem? (i := 504) (by decide +kernel)) rfl
theorem qw505 : Cond.methodLink RX1 52 yX7_fewestTo ∈ lw_all := lw_in (List.mem_of_getElem? (i := 505) (by decide +kernel)) rfl
theorem qw506 : Cond.methodLink RL 37 yL_rowAt ∈ lw_all := lw_in (List.mem_of_getElem? (i := 506) (by decide +kernel)) rfl
theorem qw507 : Cond.static yL_rowAt ∈ lw_all := lw_in (List.mem_of_getElem? (i := 507) (by decide +kernel)) rfl
theorem qw508 : Cond.code yL_rowAt cL_rowAt 2 (some .long) ∈ lw_all := lw_in (List.mem_of_getElem? (i := 508) (by decide +kernel)) rfl
theorem qw510 : Cond.methodLink RL 50 yL_first ∈ lw_all := lw_in (List.mem_of_getElem? (i := 510) (by decide +kernel)) rfl
theorem qw511 : Cond.static yL_first ∈ lw_all := lw_in (List.mem_of_getElem? (i := 511) (by decide +kernel)) rfl
theorem qw512 : Cond.code yL_first cL_first 4 (some .int) ∈ lw_all := lw_in (List.mem_of_getElem? (i := 512) (by decide +kernel)) rfl
theorem qw513 : Cond.methodLink RL 54 yL_sounds ∈ lw_all := lw_in (List.mem_of_getElem? (i := 513) (by decide +kernel)) rfl
theorem qw514 : Cond.static yL_sounds ∈ lw_all := lw_in (List.mem_of_getElem? (i := 514) (by decide +kernel)) rfl
theorem qw515 : Cond.code yL_sounds cL_sounds 3 (some .boolean) ∈ lw_all := lw_in (List.mem_of_getElem? (i := 515) (by decide +kernel)) rfl
theorem qw516 : Cond.methodLink RL 33 yL_digit ∈ lw_all := lw_in (List.mem_of_getElem? (i := 516) (by decide +kernel)) rfl
theorem qw517 : Cond.static yL_digit ∈ lw_all := lw_in (List.mem_of_getElem? (i := 517) (by decide +kernel)) rfl
theorem qw518 : Cond.code yL_digit cL_digit 4 (some .int) ∈ lw_all := lw_in (List.mem_of_getElem? (i := 518) (by decide +kernel)) rfl
theorem qw520 : Cond.methodLink RL 58 yX10_count ∈ lw_all := lw_in (List.mem_of_getElem? (i := 520) (by decide +kernel)) rfl
theorem qw521 : Cond.instanceMethod yX10_count ∈ lw_all := lw_in (List.mem_of_getElem? (i := 521) (by decide +kernel)) rfl
theorem qw522 : Cond.selects RX10 yX10_count yX10_count ∈ lw_all := lw_in (List.mem_of_getElem? (i := 522) (by decide +kernel)) rfl
theorem qw523 : Cond.code yX10_count cX10_count 2 (some .int) ∈ lw_all := lw_in (List.mem_of_getElem? (i := 523) (by decide +kernel)) rfl
theorem qw524 : Cond.methodLink RX10 186 yX9_calledLeads ∈ lw_all := lw_in (List.mem_of_getElem? (i := 524) (by decide +kernel)) rfl
theorem qw525 : Cond.instanceMethod yX9_calledLeads ∈ lw_all := lw_in (List.mem_of_getElem? (i := 525) (by decide +kernel)) rfl
theorem qw526 : Cond.selects RX9 yX9_calledLeads yX9_calledLeads ∈ lw_all := lw_in (List.mem_of_getElem? (i := 526) (by decide +kernel)) rfl
theorem qw527 : Cond.code yX9_calledLeads cX9_calledLeads 3 (some .int) ∈ lw_all := lw_in (List.mem_of_getElem? (i := 527) (by decide +kernel)) rfl
theorem qw528 : Cond.methodLink RX9 44 yX9_kindOfLead ∈ lw_all := lw_in (List.mem_of_getElem? (i := 528) (by decide +kernel)) rfl
theorem qw529 : Cond.methodLink RX10 189 yX9_plainCourse ∈ lw_all := lw_in (List.mem_of_getElem? (i := 529) (by decide +kernel)) rfl
theorem qw530 : Cond.instanceMethod yX9_plainCourse ∈ lw_all := lw_in (List.mem_of_getElem? (i := 530) (by decide +kernel)) rfl
theorem qw531 : Cond.selects RX9 yX9_plainCourse yX9_plainCourse ∈ lw_all := lw_in (List.mem_of_getElem? (i := 531) (by decide +kernel)) rfl
theorem qw532 : Cond.code yX9_plainCourse cX9_plainCourse 5 (some .int) ∈ lw_all := lw_in (List.mem_of_getElem? (i := 532) (by decide +kernel)) rfl
theorem qw533 : Cond.methodLink RX9 61 yX9_roundsBehindLead ∈ lw_all := lw_in (List.mem_of_getElem? (i := 533) (by decide +kernel)) rfl
theorem qw534 : Cond.methodLink RX9 64 yX6_behindLead ∈ lw_all := lw_in (List.mem_of_getElem? (i := 534) (by decide +kernel)) rfl
theorem qw535 : Cond.methodLink RX10 195 yX10_countRows ∈ lw_all := lw_in (List.mem_of_getElem? (i := 535) (by decide +kernel)) rfl
theorem qw537 : Cond.instanceMethod yX10_countRows ∈ lw_all := lw_in (List.mem_of_getElem? (i := 537) (by decide +kernel)) rfl
theorem qw538 : Cond.code yX10_countRows cX10_countRows 2 (some .int) ∈ lw_all := lw_in (List.mem_of_getElem? (i := 538) (by decide +kernel)) rfl
theorem qw539 : Cond.methodLink RX10 221 yX5_comesRound ∈ lw_all := lw_in (List.mem_of_getElem? (i := 539) (by decide +kernel)) rfl
theorem qw540 : Cond.instanceMethod yX5_comesRound ∈ lw_all := lw_in (List.mem_of_getElem? (i := 540) (by decide +kernel)) rfl
theorem qw541 : Cond.selects RX5 yX5_comesRound yX5_comesRound ∈ lw_all := lw_in (List.mem_of_getElem? (i := 541) (by decide +kernel)) rfl
theorem qw542 : Cond.code yX5_comesRound cX5_comesRound 2 (some .int) ∈ lw_all := lw_in (List.mem_of_getElem? (i := 542) (by decide +kernel)) rfl
theorem qw543 : Cond.methodLink RX10 217 yX5_isTrue ∈ lw_all := lw_in (List.mem_of_getElem? (i := 543) (by decide +kernel)) rfl
theorem qw544 : Cond.instanceMethod yX5_isTrue ∈ lw_all := lw_in (List.mem_of_getElem? (i := 544) (by decide +kernel)) rfl
theorem qw545 : Cond.selects RX5 yX5_isTrue yX5_isTrue ∈ lw_all := lw_in (List.mem_of_getElem? (i := 545) (by decide +kernel)) rfl
theorem qw546 : Cond.code yX5_isTrue cX5_isTrue 1 (some .boolean) ∈ lw_all := lw_in (List.mem_of_getElem? (i := 546) (by decide +kernel)) rfl
theorem qw547 : Cond.methodLink RX5 79 yX5_firstRepeat ∈ lw_all := lw_in (List.mem_of_getElem? (i := 547) (by decide +kernel)) rfl
theorem qw548 : Cond.instanceMethod yX5_firstRepeat ∈ lw_all := lw_in (List.mem_of_getElem? (i := 548) (by decide +kernel)) rfl
theorem qw549 : Cond.selects RX5 yX5_firstRepeat yX5_firstRepeat ∈ lw_all := lw_in (List.mem_of_getElem? (i := 549) (by decide +kernel)) rfl
theorem qw550 : Cond.code yX5_firstRepeat cX5_firstRepeat 2 (some .int) ∈ lw_all := lw_in (List.mem_of_getElem? (i := 550) (by decide +kernel)) rfl
theorem qw551 : Cond.methodLink RX5 75 yX5_isFirst ∈ lw_all := lw_in (List.mem_of_getElem? (i := 551) (by decide +kernel)) rfl
theorem qw553 : Cond.instanceMethod yX5_isFirst ∈ lw_all := lw_in (List.mem_of_getElem? (i := 553) (by decide +kernel)) rfl
theorem qw554 : Cond.code yX5_isFirst cX5_isFirst 2 (some .boolean) ∈ lw_all := lw_in (List.mem_of_getElem? (i := 554) (by decide +kernel)) rfl
theorem qw555 : Cond.methodLink RX10 254 yX5_firstRepeat ∈ lw_all := lw_in (List.mem_of_getElem? (i := 555) (by decide +kernel)) rfl
theorem qw556 : Cond.methodLink RX10 224 yX5_differentRows ∈ lw_all := lw_in (List.mem_of_getElem? (i := 556) (by decide +kernel)) rfl
theorem qw557 : Cond.instanceMethod yX5_differentRows ∈ lw_all := lw_in (List.mem_of_getElem? (i := 557) (by decide +kernel)) rfl
theorem qw558 : Cond.selects RX5 yX5_differentRows yX5_differentRows ∈ lw_all := lw_in (List.mem_of_getElem? (i := 558) (by decide +kernel)) rfl
theorem qw559 : Cond.code yX5_differentRows cX5_differentRows 3 (some .int) ∈ lw_all := lw_in (List.mem_of_getElem? (i := 559) (by decide +kernel)) rfl
theorem qw560 : Cond.methodLink RX10 257 yX5_falsePairs ∈ lw_all := lw_in (List.mem_of_getElem? (i := 560) (by decide +kernel)) rfl
theorem qw561 : Cond.instanceMethod yX5_falsePairs ∈ lw_all := lw_in (List.mem_of_getElem? (i := 561) (by decide +kernel)) rfl
theorem qw562 : Cond.selects RX5 yX5_falsePairs yX5_falsePairs ∈ lw_all := lw_in (List.mem_of_getElem? (i := 562) (by decide +kernel)) rfl
theorem qw563 : Cond.code yX5_falsePairs cX5_falsePairs 4 (some .int) ∈ lw_all := lw_in (List.mem_of_getElem? (i := 563) (by decide +kernel)) rfl
theorem qw564 : Cond.methodLink RX5 87 yX5_areFalse ∈ lw_all := lw_in (List.mem_of_getElem? (i := 564) (by decide +kernel)) rfl
theorem qw566 : Cond.instanceMethod yX5_areFalse ∈ lw_all := lw_in (List.mem_of_getElem? (i := 566) (by decide +kernel)) rfl
theorem qw567 : Cond.code yX5_areFalse cX5_areFalse 5 (some .boolean) ∈ lw_all := lw_in (List.mem_of_getElem? (i := 567) (by decide +kernel)) rfl
theorem qw568 : Cond.methodLink RX10 198 yX5_wellSounding ∈ lw_all := lw_in (List.mem_of_getElem? (i := 568) (by decide +kernel)) rfl
theorem qw569 : Cond.instanceMethod yX5_wellSounding ∈ lw_all := lw_in (List.mem_of_getElem? (i := 569) (by decide +kernel)) rfl
theorem qw570 : Cond.selects RX5 yX5_wellSounding yX5_wellSounding ∈ lw_all := lw_in (List.mem_of_getElem? (i := 570) (by decide +kernel)) rfl
theorem qw571 : Cond.code yX5_wellSounding cX5_wellSounding 3 (some .int) ∈ lw_all := lw_in (List.mem_of_getElem? (i := 571) (by decide +kernel)) rfl
theorem qw572 : Cond.methodLink RX5 83 yX6_soundsWell ∈ lw_all := lw_in (List.mem_of_getElem? (i := 572) (by decide +kernel)) rfl
theorem qw573 : Cond.methodLink RL 62 yX10_music ∈ lw_all := lw_in (List.mem_of_getElem? (i := 573) (by decide +kernel)) rfl
theorem qw574 : Cond.instanceMethod yX10_music ∈ lw_all := lw_in (List.mem_of_getElem? (i := 574) (by decide +kernel)) rfl
theorem qw575 : Cond.selects RX10 yX10_music yX10_music ∈ lw_all := lw_in (List.mem_of_getElem? (i := 575) (by decide +kernel)) rfl
theorem qw576 : Cond.code yX10_music cX10_music 1 (some .double) ∈ lw_all := lw_in (List.mem_of_getElem? (i := 576) (by decide +kernel)) rfl
theorem qw577 : Cond.methodLink RL 124 yL_areLeads ∈ lw_all := lw_in (List.mem_of_getElem? (i := 577) (by decide +kernel)) rfl
theorem qw578 : Cond.static yL_areLeads ∈ lw_all := lw_in (List.mem_of_getElem? (i := 578) (by decide +kernel)) rfl
theorem qw579 : Cond.code yL_areLeads cL_areLeads 14 (some .boolean) ∈ lw_all := lw_in (List.mem_of_getElem? (i := 579) (by decide +kernel)) rfl
theorem qw580 : Cond.methodLink RL 66 yX10_change ∈ lw_all := lw_in (List.mem_of_getElem? (i := 580) (by decide +kernel)) rfl
theorem qw581 : Cond.instanceMethod yX10_change ∈ lw_all := lw_in (List.mem_of_getElem? (i := 581) (by decide +kernel)) rfl
theorem qw582 : Cond.selects RX10 yX10_change yX10_change ∈ lw_all := lw_in (List.mem_of_getElem? (i := 582) (by decide +kernel)) rfl
theorem qw583 : Cond.code yX10_change cX10_change 3 (some .int) ∈ lw_all := lw_in (List.mem_of_getElem? (i := 583) (by decide +kernel)) rfl
theorem qw584 : Cond.methodLink RX10 141 yX9_kindOfLead ∈ lw_all := lw_in (List.mem_of_getElem? (i := 584) (by decide +kernel)) rfl
theorem qw585 : Cond.methodLink RX10 144 yX9_placesMade ∈ lw_all := lw_in (List.mem_of_getElem? (i := 585) (by decide +kernel)) rfl
theorem qw586 : Cond.methodLink RL 132 yL_isPath ∈ lw_all := lw_in (List.mem_of_getElem? (i := 586) (by decide +kernel)) rfl
theorem qw587 : Cond.static yL_isPath ∈ lw_all := lw_in (List.mem_of_getElem? (i := 587) (by decide +kernel)) rfl
theorem qw588 : Cond.code yL_isPath cL_isPath 16 (some .boolean) ∈ lw_all := lw_in (List.mem_of_getElem? (i := 588) (by decide +kernel)) rfl
theorem qw589 : Cond.methodLink RL 68 yX10_path ∈ lw_all := lw_in (List.mem_of_getElem? (i := 589) (by decide +kernel)) rfl
theorem qw590 : Cond.instanceMethod yX10_path ∈ lw_all := lw_in (List.mem_of_getElem? (i := 590) (by decide +kernel)) rfl
theorem qw591 : Cond.selects RX10 yX10_path yX10_path ∈ lw_all := lw_in (List.mem_of_getElem? (i := 591) (by decide +kernel)) rfl
theorem qw592 : Cond.code yX10_path cX10_path 3 (some .int) ∈ lw_all := lw_in (List.mem_of_getElem? (i := 592) (by decide +kernel)) rfl
theorem qw593 : Cond.methodLink RX10 168 yX5_dodges ∈ lw_all := lw_in (List.mem_of_getElem? (i := 593) (by decide +kernel)) rfl
theorem qw594 : Cond.instanceMethod yX5_dodges ∈ lw_all := lw_in (List.mem_of_getElem? (i := 594) (by decide +kernel)) rfl
theorem qw595 : Cond.selects RX5 yX5_dodges yX5_dodges ∈ lw_all := lw_in (List.mem_of_getElem? (i := 595) (by decide +kernel)) rfl
theorem qw596 : Cond.code yX5_dodges cX5_dodges 4 (some .int) ∈ lw_all := lw_in (List.mem_of_getElem? (i := 596) (by decide +kernel)) rfl
theorem qw597 : Cond.methodLink RX5 93 yX5_dodgesAt ∈ lw_all := lw_in (List.mem_of_getElem? (i := 597) (by decide +kernel)) rfl
theorem qw599 : Cond.instanceMethod yX5_dodgesAt ∈ lw_all := lw_in (List.mem_of_getElem? (i := 599) (by decide +kernel)) rfl
theorem qw600 : Cond.code yX5_dodgesAt cX5_dodgesAt 5 (some .boolean) ∈ lw_all := lw_in (List.mem_of_getElem? (i := 600) (by decide +kernel)) rfl
theorem qw601 : Cond.methodLink RX5 90 yX5_placeIn ∈ lw_all := lw_in (List.mem_of_getElem? (i := 601) (by decide +kernel)) rfl
theorem qw602 : Cond.instanceMethod yX5_placeIn ∈ lw_all := lw_in (List.mem_of_getElem? (i := 602) (by decide +kernel)) rfl
theorem qw603 : Cond.selects RX5 yX5_placeIn yX5_placeIn ∈ lw_all := lw_in (List.mem_of_getElem? (i := 603) (by decide +kernel)) rfl
theorem qw604 : Cond.code yX5_placeIn cX5_placeIn 3 (some .int) ∈ lw_all := lw_in (List.mem_of_getElem? (i := 604) (by decide +kernel)) rfl
theorem qw605 : Cond.methodLink RX5 72 yX6_placeOf ∈ lw_all := lw_in (List.mem_of_getElem? (i := 605) (by decide +kernel)) rfl
theorem qw606 : Cond.static yX6_placeOf ∈ lw_all := lw_in (List.mem_of_getElem? (i := 606) (by decide +kernel)) rfl
theorem qw607 : Cond.code yX6_placeOf cX6_placeOf 4 (some .int) ∈ lw_all := lw_in (List.mem_of_getElem? (i := 607) (by decide +kernel)) rfl
theorem qw608 : Cond.methodLink RX10 171 yX5_firstDodge ∈ lw_all := lw_in (List.mem_of_getElem? (i := 608) (by decide +kernel)) rfl
theorem qw609 : Cond.instanceMethod yX5_firstDodge ∈ lw_all := lw_in (List.mem_of_getElem? (i := 609) (by decide +kernel)) rfl
theorem qw610 : Cond.selects RX5 yX5_firstDodge yX5_firstDodge ∈ lw_all := lw_in (List.mem_of_getElem? (i := 610) (by decide +kernel)) rfl
theorem qw611 : Cond.code yX5_firstDodge cX5_firstDodge 3 (some .int) ∈ lw_all := lw_in (List.mem_of_getElem? (i := 611) (by decide +kernel)) rfl
theorem qw612 : Cond.methodLink RX10 174 yX5_blowsAt ∈ lw_all := lw_in (List.mem_of_getElem? (i := 612) (by decide +kernel)) rfl
theorem qw613 : Cond.instanceMethod yX5_blowsAt ∈ lw_all := lw_in (List.mem_of_getElem? (i := 613) (by decide +kernel)) rfl
theorem qw614 : Cond.selects RX5 yX5_blowsAt yX5_blowsAt ∈ lw_all := lw_in (List.mem_of_getElem? (i := 614) (by decide +kernel)) rfl
theorem qw615 : Cond.code yX5_blowsAt cX5_blowsAt 5 (some .int) ∈ lw_all := lw_in (List.mem_of_getElem? (i := 615) (by decide +kernel)) rfl
theorem qw616 : Cond.methodLink RX5 96 yX6_bellAt ∈ lw_all := lw_in (List.mem_of_getElem? (i := 616) (by decide +kernel)) rfl
theorem qw617 : Cond.methodLink RX10 177 yX5_stays ∈ lw_all := lw_in (List.mem_of_getElem? (i := 617) (by decide +kernel)) rfl
theorem qw618 : Cond.instanceMethod yX5_stays ∈ lw_all := lw_in (List.mem_of_getElem? (i := 618) (by decide +kernel)) rfl
theorem qw619 : Cond.selects RX5 yX5_stays yX5_stays ∈ lw_all := lw_in (List.mem_of_getElem? (i := 619) (by decide +kernel)) rfl
theorem qw620 : Cond.code yX5_stays cX5_stays 4 (some .int) ∈ lw_all := lw_in (List.mem_of_getElem? (i := 620) (by decide +kernel)) rfl
theorem qw621 : Cond.methodLink RX10 183 yX5_placeIn ∈ lw_all := lw_in (List.mem_of_getElem? (i := 621) (by decide +kernel)) rfl
theorem qw622 : Cond.methodLink RL 71 yX10_blows ∈ lw_all := lw_in (List.mem_of_getElem? (i := 622) (by decide +kernel)) rfl
theorem qw623 : Cond.instanceMethod yX10_blows ∈ lw_all := lw_in (List.mem_of_getElem? (i := 623) (by decide +kernel)) rfl
theorem qw624 : Cond.selects RX10 yX10_blows yX10_blows ∈ lw_all := lw_in (List.mem_of_getElem? (i := 624) (by decide +kernel)) rfl
theorem qw625 : Cond.code yX10_blows cX10_blows 3 (some .int) ∈ lw_all := lw_in (List.mem_of_getElem? (i := 625) (by decide +kernel)) rfl
theorem qw626 : Cond.methodLink RL 116 yL_isActed ∈ lw_all := lw_in (List.mem_of_getElem? (i := 626) (by decide +kernel)) rfl
theorem qw627 : Cond.static yL_isActed ∈ lw_all := lw_in (List.mem_of_getElem? (i := 627) (by decide +kernel)) rfl
theorem qw628 : Cond.code yL_isActed cL_isActed 11 (some .boolean) ∈ lw_all := lw_in (List.mem_of_getElem? (i := 628) (by decide +kernel)) rfl
theorem qw629 : Cond.methodLink RL 81 yX10_add ∈ lw_all := lw_in (List.mem_of_getElem? (i := 629) (by decide +kernel)) rfl
theorem qw630 : Cond.instanceMethod yX10_add ∈ lw_all := lw_in (List.mem_of_getElem? (i := 630) (by decide +kernel)) rfl
theorem qw631 : Cond.selects RX10 yX10_add yX10_add ∈ lw_all := lw_in (List.mem_of_getElem? (i := 631) (by decide +kernel)) rfl
theorem qw632 : Cond.code yX10_add cX10_add 2 (some .int) ∈ lw_all := lw_in (List.mem_of_getElem? (i := 632) (by decide +kernel)) rfl
theorem qw633 : Cond.methodLink RX10 69 yX0_record ∈ lw_all := lw_in (List.mem_of_getElem? (i := 633) (by decide +kernel)) rfl
theorem qw634 : Cond.instanceMethod yX0_record ∈ lw_all := lw_in (List.mem_of_getElem? (i := 634) (by decide +kernel)) rfl
theorem qw635 : Cond.selects RX0 yX0_record yX0_record ∈ lw_all := lw_in (List.mem_of_getElem? (i := 635) (by decide +kernel)) rfl
theorem qw636 : Cond.code yX0_record cX0_record 2 none ∈ lw_all := lw_in (List.mem_of_getElem? (i := 636) (by decide +kernel)) rfl
theorem qw637 : Cond.methodLink RX0 22 yX0_dropOldest ∈ lw_all := lw_in (List.mem_of_getElem? (i := 637) (by decide +kernel)) rfl
theorem qw639 : Cond.instanceMethod yX0_dropOldest ∈ lw_all := lw_in (List.mem_of_getElem? (i := 639) (by decide +kernel)) rfl
theorem qw640 : Cond.code yX0_dropOldest cX0_dropOldest 3 none ∈ lw_all := lw_in (List.mem_of_getElem? (i := 640) (by decide +kernel)) rfl
theorem qw641 : Cond.methodLink RX0 25 yX9_become ∈ lw_all := lw_in (List.mem_of_getElem? (i := 641) (by decide +kernel)) rfl
theorem qw642 : Cond.instanceMethod yX9_become ∈ lw_all := lw_in (List.mem_of_getElem? (i := 642) (by decide +kernel)) rfl
theorem qw643 : Cond.selects RX9 yX9_become yX9_become ∈ lw_all := lw_in (List.mem_of_getElem? (i := 643) (by decide +kernel)) rfl
theorem qw644 : Cond.code yX9_become cX9_become 2 none ∈ lw_all := lw_in (List.mem_of_getElem? (i := 644) (by decide +kernel)) rfl
theorem qw645 : Cond.methodLink RX10 114 yX9_addLead ∈ lw_all := lw_in (List.mem_of_getElem? (i := 645) (by decide +kernel)) rfl
theorem qw646 : Cond.instanceMethod yX9_addLead ∈ lw_all := lw_in (List.mem_of_getElem? (i := 646) (by decide +kernel)) rfl
theorem qw647 : Cond.selects RX9 yX9_addLead yX9_addLead ∈ lw_all := lw_in (List.mem_of_getElem? (i := 647) (by decide +kernel)) rfl
theorem qw648 : Cond.code yX9_addLead cX9_addLead 2 none ∈ lw_all := lw_in (List.mem_of_getElem? (i := 648) (by decide +kernel)) rfl
theorem qw649 : Cond.methodLink RL 84 yX10_cut ∈ lw_all := lw_in (List.mem_of_getElem? (i := 649) (by decide +kernel)) rfl
theorem qw650 : Cond.instanceMethod yX10_cut ∈ lw_all := lw_in (List.mem_of_getElem? (i := 650) (by decide +kernel)) rfl
theorem qw651 : Cond.selects RX10 yX10_cut yX10_cut ∈ lw_all := lw_in (List.mem_of_getElem? (i := 651) (by decide +kernel)) rfl
theorem qw652 : Cond.code yX10_cut cX10_cut 3 (some .int) ∈ lw_all := lw_in (List.mem_of_getElem? (i := 652) (by decide +kernel)) rfl
theorem qw653 : Cond.methodLink RL 87 yL_isRight ∈ lw_all := lw_in (List.mem_of_getElem? (i := 653) (by decide +kernel)) rfl
theorem qw654 : Cond.static yL_isRight ∈ lw_all := lw_in (List.mem_of_getElem? (i := 654) (by decide +kernel)) rfl
theorem qw655 : Cond.code yL_isRight cL_isRight 5 (some .boolean) ∈ lw_all := lw_in (List.mem_of_getElem? (i := 655) (by decide +kernel)) rfl
theorem qw656 : Cond.methodLink RL 91 yX10_call ∈ lw_all := lw_in (List.mem_of_getElem? (i := 656) (by decide +kernel)) rfl
theorem qw657 : Cond.instanceMethod yX10_call ∈ lw_all := lw_in (List.mem_of_getElem? (i := 657) (by decide +kernel)) rfl
theorem qw658 : Cond.selects RX10 yX10_call yX10_call ∈ lw_all := lw_in (List.mem_of_getElem? (i := 658) (by decide +kernel)) rfl
theorem qw659 : Cond.code yX10_call cX10_call 4 (some .int) ∈ lw_all := lw_in (List.mem_of_getElem? (i := 659) (by decide +kernel)) rfl
theorem qw660 : Cond.methodLink RX10 91 yX4_areRight ∈ lw_all := lw_in (List.mem_of_getElem? (i := 660) (by decide +kernel)) rfl
theorem qw661 : Cond.static yX4_areRight ∈ lw_all := lw_in (List.mem_of_getElem? (i := 661) (by decide +kernel)) rfl
theorem qw662 : Cond.code yX4_areRight cX4_areRight 5 (some .boolean) ∈ lw_all := lw_in (List.mem_of_getElem? (i := 662) (by decide +kernel)) rfl
theorem qw663 : Cond.methodLink RX4 13 yX4_has ∈ lw_all := lw_in (List.mem_of_getElem? (i := 663) (by decide +kernel)) rfl
theorem qw664 : Cond.methodLink RL 98 yX10_bells ∈ lw_all := lw_in (List.mem_of_getElem? (i := 664) (by decide +kernel)) rfl
theorem qw665 : Cond.instanceMethod yX10_bells ∈ lw_all := lw_in (List.mem_of_getElem? (i := 665) (by decide +kernel)) rfl
theorem qw666 : Cond.selects RX10 yX10_bells yX10_bells ∈ lw_all := lw_in (List.mem_of_getElem? (i := 666) (by decide +kernel)) rfl
theorem qw667 : Cond.code yX10_bells cX10_bells 3 (some .int) ∈ lw_all := lw_in (List.mem_of_getElem? (i := 667) (by decide +kernel)) rfl
theorem qw668 : Cond.methodLink RL 101 yL_typed ∈ lw_all := lw_in (List.mem_of_getElem? (i := 668) (by decide +kernel)) rfl
theorem qw669 : Cond.static yL_typed ∈ lw_all := lw_in (List.mem_of_getElem? (i := 669) (by decide +kernel)) rfl
theorem qw670 : Cond.code yL_typed cL_typed 7 (some .boolean) ∈ lw_all := lw_in (List.mem_of_getElem? (i := 670) (by decide +kernel)) rfl
theorem qw671 : Cond.methodLink RL 74 yX10_clear ∈ lw_all := lw_in (List.mem_of_getElem? (i := 671) (by decide +kernel)) rfl
theorem qw672 : Cond.instanceMethod yX10_clear ∈ lw_all := lw_in (List.mem_of_getElem? (i := 672) (by decide +kernel)) rfl
theorem qw673 : Cond.selects RX10 yX10_clear yX10_clear ∈ lw_all := lw_in (List.mem_of_getElem? (i := 673) (by decide +kernel)) rfl
theorem qw674 : Cond.code yX10_clear cX10_clear 2 (some .int) ∈ lw_all := lw_in (List.mem_of_getElem? (i := 674) (by decide +kernel)) rfl
theorem qw675 : Cond.methodLink RL 78 yX10_append ∈ lw_all := lw_in (List.mem_of_getElem? (i := 675) (by decide +kernel)) rfl
theorem qw676 : Cond.instanceMethod yX10_append ∈ lw_all := lw_in (List.mem_of_getElem? (i := 676) (by decide +kernel)) rfl
theorem qw677 : Cond.selects RX10 yX10_append yX10_append ∈ lw_all := lw_in (List.mem_of_getElem? (i := 677) (by decide +kernel)) rfl
theorem qw678 : Cond.code yX10_append cX10_append 2 (some .int) ∈ lw_all := lw_in (List.mem_of_getElem? (i := 678) (by decide +kernel)) rfl
theorem qw679 : Cond.methodLink RX10 117 yX3_put ∈ lw_all := lw_in (List.mem_of_getElem? (i := 679) (by decide +kernel)) rfl
theorem qw680 : Cond.instanceMethod yX3_put ∈ lw_all := lw_in (List.mem_of_getElem? (i := 680) (by decide +kernel)) rfl
theorem qw681 : Cond.selects RX3 yX3_put yX3_put ∈ lw_all := lw_in (List.mem_of_getElem? (i := 681) (by decide +kernel)) rfl
theorem qw682 : Cond.code yX3_put cX3_put 2 none ∈ lw_all := lw_in (List.mem_of_getElem? (i := 682) (by decide +kernel)) rfl
theorem qw683 : Cond.methodLink RL 105 yX10_fault ∈ lw_all := lw_in (List.mem_of_getElem? (i := 683) (by decide +kernel)) rfl
theorem qw684 : Cond.instanceMethod yX10_fault ∈ lw_all := lw_in (List.mem_of_getElem? (i := 684) (by decide +kernel)) rfl
theorem qw685 : Cond.selects RX10 yX10_fault yX10_fault ∈ lw_all := lw_in (List.mem_of_getElem? (i := 685) (by decide +kernel)) rfl
theorem qw686 : Cond.code yX10_fault cX10_fault 2 (some .int) ∈ lw_all := lw_in (List.mem_of_getElem? (i := 686) (by decide +kernel)) rfl
theorem qw687 : Cond.methodLink RX10 103 yX3_faultAsTouch ∈ lw_all := lw_in (List.mem_of_getElem? (i := 687) (by decide +kernel)) rfl
theorem qw688 : Cond.instanceMethod yX3_faultAsTouch ∈ lw_all := lw_in (List.mem_of_getElem? (i := 688) (by decide +kernel)) rfl
theorem qw689 : Cond.selects RX3 yX3_faultAsTouch yX3_faultAsTouch ∈ lw_all := lw_in (List.mem_of_getElem? (i := 689) (by decide +kernel)) rfl
theorem qw690 : Cond.code yX3_faultAsTouch cX3_faultAsTouch 2 (some .int) ∈ lw_all := lw_in (List.mem_of_getElem? (i := 690) (by decide +kernel)) rfl
theorem qw691 : Cond.methodLink RX3 19 yX3_kindOf ∈ lw_all := lw_in (List.mem_of_getElem? (i := 691) (by decide +kernel)) rfl
theorem qw692 : Cond.static yX3_kindOf ∈ lw_all := lw_in (List.mem_of_getElem? (i := 692) (by decide +kernel)) rfl
theorem qw693 : Cond.code yX3_kindOf cX3_kindOf 1 (some .int) ∈ lw_all := lw_in (List.mem_of_getElem? (i := 693) (by decide +kernel)) rfl
theorem qw694 : Cond.methodLink RL 108 yX10_method ∈ lw_all := lw_in (List.mem_of_getElem? (i := 694) (by decide +kernel)) rfl
theorem qw695 : Cond.instanceMethod yX10_method ∈ lw_all := lw_in (List.mem_of_getElem? (i := 695) (by decide +kernel)) rfl
theorem qw696 : Cond.selects RX10 yX10_method yX10_method ∈ lw_all := lw_in (List.mem_of_getElem? (i := 696) (by decide +kernel)) rfl
theorem qw697 : Cond.code yX10_method cX10_method 1 (some .int) ∈ lw_all := lw_in (List.mem_of_getElem? (i := 697) (by decide +kernel)) rfl
theorem qw698 : Cond.constant RL 8 (2147483647) ∈ lw_all := lw_in (List.mem_of_getElem? (i := 698) (by decide +kernel)) rfl
theorem qw699 : Cond.arrayClass .long ∈ lw_all := lw_in (List.mem_of_getElem? (i := 699) (by decide +kernel)) rfl
theorem qw700 : Cond.fieldLink RJ0 15 "java/lang/String" "coder" "B" ∈ lw_all := lw_in (List.mem_of_getElem? (i := 700) (by decide +kernel)) rfl
theorem qw701 : Cond.fieldLink RJ0 9 "java/lang/String" "value" "[B" ∈ lw_all := lw_in (List.mem_of_getElem? (i := 701) (by decide +kernel)) rfl
set_option maxRecDepth 100000 in
theorem inX0 : ∀ w ∈ wsX00, w ∈ lw_all := by decide +kernel
set_option maxRecDepth 100000 in
theorem inX1 : ∀ w ∈ wsX10, w ∈ lw_all := by decide +kernel
set_option maxRecDepth 100000 in
theorem inX2 : ∀ w ∈ wsX20, w ∈ lw_all := by decide +kernel
set_option maxRecDepth 100000 in
theorem inX3 : ∀ w ∈ wsX30, w ∈ lw_all := by decide +kernel
set_option maxRecDepth 100000 in
theorem inX5 : ∀ w ∈ wsX50, w ∈ lw_all := by decide +kernel
set_option maxRecDepth 100000 in
theorem inX7 : ∀ w ∈ wsX70, w ∈ lw_all := by decide +kernel
set_option maxRecDepth 100000 in
theorem inX9 : ∀ w ∈ wsX90, w ∈ lw_all := by decide +kernel
set_option maxRecDepth 100000 in
theorem inX10 : ∀ w ∈ wsX100, w ∈ lw_all := by decide +kernel
theorem hd_X10_init : yX10_init.cls ≠ "java/lang/invoke/MethodHandle" ∧ yX10_init.cls ≠ "java/lang/invoke/VarHandle" ∧ (parseMethodDescriptor yX10_init.desc).map (fun d => d.parameters.length) = some 0 := by decide +kernel
theorem hd_X10_bells : yX10_bells.cls ≠ "java/lang/invoke/MethodHandle" ∧ yX10_bells.cls ≠ "java/lang/invoke/VarHandle" ∧ (parseMethodDescriptor yX10_bells.desc).map (fun d => d.parameters.length) = some 1 := by decide +kernel
theorem hd_X10_method : yX10_method.cls ≠ "java/lang/invoke/MethodHandle" ∧ yX10_method.cls ≠ "java/lang/invoke/VarHandle" ∧ (parseMethodDescriptor yX10_method.desc).map (fun d => d.parameters.length) = some 0 := by decide +kernel
theorem hd_X10_call : yX10_call.cls ≠ "java/lang/invoke/MethodHandle" ∧ yX10_call.cls ≠ "java/lang/invoke/VarHandle" ∧ (parseMethodDescriptor yX10_call.desc).map (fun d => d.parameters.length) = some 2 := by decide +kernel
theorem hd_X10_add : yX10_add.cls ≠ "java/lang/invoke/MethodHandle" ∧ yX10_add.cls ≠ "java/lang/invoke/VarHandle" ∧ (parseMethodDescriptor yX10_add.desc).map (fun d => d.parameters.length) = some 1 := by decide +kernel
theorem hd_X10_cut : yX10_cut.cls ≠ "java/lang/invoke/MethodHandle" ∧ yX10_cut.cls ≠ "java/lang/invoke/VarHandle" ∧ (parseMethodDescriptor yX10_cut.desc).map (fun d => d.parameters.length) = some 1 := by decide +kernel
theorem hd_X10_append : yX10_append.cls ≠ "java/lang/invoke/MethodHandle" ∧ yX10_append.cls ≠ "java/lang/invoke/VarHandle" ∧ (parseMethodDescriptor yX10_append.desc).map (fun d => d.parameters.length) = some 1 := by decide +kernel
theorem hd_X10_clear : yX10_clear.cls ≠ "java/lang/invoke/MethodHandle" ∧ yX10_clear.cls ≠ "java/lang/invoke/VarHandle" ∧ (parseMethodDescriptor yX10_clear.desc).map (fun d => d.parameters.length) = some 0 := by decide +kernel
theorem hd_X10_fault : yX10_fault.cls ≠ "java/lang/invoke/MethodHandle" ∧ yX10_fault.cls ≠ "java/lang/invoke/VarHandle" ∧ (parseMethodDescriptor yX10_fault.desc).map (fun d => d.parameters.length) = some 1 := by decide +kernel
theorem hd_X10_bell : yX10_bell.cls ≠ "java/lang/invoke/MethodHandle" ∧ yX10_bell.cls ≠ "java/lang/invoke/VarHandle" ∧ (parseMethodDescriptor yX10_bell.desc).map (fun d => d.parameters.length) = some 2 := by decide +kernel
theorem hd_X10_change : yX10_change.cls ≠ "java/lang/invoke/MethodHandle" ∧ yX10_change.cls ≠ "java/lang/invoke/VarHandle" ∧ (parseMethodDescriptor yX10_change.desc).map (fun d => d.parameters.length) = some 2 := by decide +kernel
theorem hd_X10_row : yX10_row.cls ≠ "java/lang/invoke/MethodHandle" ∧ yX10_row.cls ≠ "java/lang/invoke/VarHandle" ∧ (parseMethodDescriptor yX10_row.desc).map (fun d => d.parameters.length) = some 2 := by decide +kernel
theorem hd_X10_path : yX10_path.cls ≠ "java/lang/invoke/MethodHandle" ∧ yX10_path.cls ≠ "java/lang/invoke/VarHandle" ∧ (parseMethodDescriptor yX10_path.desc).map (fun d => d.parameters.length) = some 2 := by decide +kernel
theorem hd_X10_blows : yX10_blows.cls ≠ "java/lang/invoke/MethodHandle" ∧ yX10_blows.cls ≠ "java/lang/invoke/VarHandle" ∧ (parseMethodDescriptor yX10_blows.desc).map (fun d => d.parameters.length) = some 2 := by decide +kernel
theorem hd_X10_count : yX10_count.cls ≠ "java/lang/invoke/MethodHandle" ∧ yX10_count.cls ≠ "java/lang/invoke/VarHandle" ∧ (parseMethodDescriptor yX10_count.desc).map (fun d => d.parameters.length) = some 1 := by decide +kernel
theorem hd_X10_music : yX10_music.cls ≠ "java/lang/invoke/MethodHandle" ∧ yX10_music.cls ≠ "java/lang/invoke/VarHandle" ∧ (parseMethodDescriptor yX10_music.desc).map (fun d => d.parameters.length) = some 0 := by decide +kernel
theorem hd_X10_begin : yX10_begin.cls ≠ "java/lang/invoke/MethodHandle" ∧ yX10_begin.cls ≠ "java/lang/invoke/VarHandle" ∧ (parseMethodDescriptor yX10_begin.desc).map (fun d => d.parameters.length) = some 1 := by decide +kernel
theorem hd_X10_countRows : yX10_countRows.cls ≠ "java/lang/invoke/MethodHandle" ∧ yX10_countRows.cls ≠ "java/lang/invoke/VarHandle" ∧ (parseMethodDescriptor yX10_countRows.desc).map (fun d => d.parameters.length) = some 1 := by decide +kernel
theorem hd_X10_isBell : yX10_isBell.cls ≠ "java/lang/invoke/MethodHandle" ∧ yX10_isBell.cls ≠ "java/lang/invoke/VarHandle" ∧ (parseMethodDescriptor yX10_isBell.desc).map (fun d => d.parameters.length) = some 1 := by decide +kernel
theorem hd_X10_isWithin : yX10_isWithin.cls ≠ "java/lang/invoke/MethodHandle" ∧ yX10_isWithin.cls ≠ "java/lang/invoke/VarHandle" ∧ (parseMethodDescriptor yX10_isWithin.desc).map (fun d => d.parameters.length) = some 3 := by decide +kernel
theorem hd_X0_init : yX0_init.cls ≠ "java/lang/invoke/MethodHandle" ∧ yX0_init.cls ≠ "java/lang/invoke/VarHandle" ∧ (parseMethodDescriptor yX0_init.desc).map (fun d => d.parameters.length) = some 0 := by decide +kernel
theorem hd_X0_record : yX0_record.cls ≠ "java/lang/invoke/MethodHandle" ∧ yX0_record.cls ≠ "java/lang/invoke/VarHandle" ∧ (parseMethodDescriptor yX0_record.desc).map (fun d => d.parameters.length) = some 1 := by decide +kernel
theorem hd_X0_dropOldest : yX0_dropOldest.cls ≠ "java/lang/invoke/MethodHandle" ∧ yX0_dropOldest.cls ≠ "java/lang/invoke/VarHandle" ∧ (parseMethodDescriptor yX0_dropOldest.desc).map (fun d => d.parameters.length) = some 0 := by decide +kernel
theorem hd_X1_init : yX1_init.cls ≠ "java/lang/invoke/MethodHandle" ∧ yX1_init.cls ≠ "java/lang/invoke/VarHandle" ∧ (parseMethodDescriptor yX1_init.desc).map (fun d => d.parameters.length) = some 0 := by decide +kernel
theorem hd_X1_learn : yX1_learn.cls ≠ "java/lang/invoke/MethodHandle" ∧ yX1_learn.cls ≠ "java/lang/invoke/VarHandle" ∧ (parseMethodDescriptor yX1_learn.desc).map (fun d => d.parameters.length) = some 1 := by decide +kernel
theorem hd_X1_leadsFrom : yX1_leadsFrom.cls ≠ "java/lang/invoke/MethodHandle" ∧ yX1_leadsFrom.cls ≠ "java/lang/invoke/VarHandle" ∧ (parseMethodDescriptor yX1_leadsFrom.desc).map (fun d => d.parameters.length) = some 1 := by decide +kernel
theorem hd_X2_init : yX2_init.cls ≠ "java/lang/invoke/MethodHandle" ∧ yX2_init.cls ≠ "java/lang/invoke/VarHandle" ∧ (parseMethodDescriptor yX2_init.desc).map (fun d => d.parameters.length) = some 0 := by decide +kernel
theorem hd_X2_read : yX2_read.cls ≠ "java/lang/invoke/MethodHandle" ∧ yX2_read.cls ≠ "java/lang/invoke/VarHandle" ∧ (parseMethodDescriptor yX2_read.desc).map (fun d => d.parameters.length) = some 3 := by decide +kernel
theorem hd_X2_accepts : yX2_accepts.cls ≠ "java/lang/invoke/MethodHandle" ∧ yX2_accepts.cls ≠ "java/lang/invoke/VarHandle" ∧ (parseMethodDescriptor yX2_accepts.desc).map (fun d => d.parameters.length) = some 2 := by decide +kernel
theorem hd_X2_acceptsDot : yX2_acceptsDot.cls ≠ "java/lang/invoke/MethodHandle" ∧ yX2_acceptsDot.cls ≠ "java/lang/invoke/VarHandle" ∧ (parseMethodDescriptor yX2_acceptsDot.desc).map (fun d => d.parameters.length) = some 1 := by decide +kernel
theorem hd_X2_acceptsCross : yX2_acceptsCross.cls ≠ "java/lang/invoke/MethodHandle" ∧ yX2_acceptsCross.cls ≠ "java/lang/invoke/VarHandle" ∧ (parseMethodDescriptor yX2_acceptsCross.desc).map (fun d => d.parameters.length) = some 1 := by decide +kernel
theorem hd_X2_acceptsPlace : yX2_acceptsPlace.cls ≠ "java/lang/invoke/MethodHandle" ∧ yX2_acceptsPlace.cls ≠ "java/lang/invoke/VarHandle" ∧ (parseMethodDescriptor yX2_acceptsPlace.desc).map (fun d => d.parameters.length) = some 2 := by decide +kernel
theorem hd_X2_isChangeRight : yX2_isChangeRight.cls ≠ "java/lang/invoke/MethodHandle" ∧ yX2_isChangeRight.cls ≠ "java/lang/invoke/VarHandle" ∧ (parseMethodDescriptor yX2_isChangeRight.desc).map (fun d => d.parameters.length) = some 1 := by decide +kernel
theorem hd_X2_keepChange : yX2_keepChange.cls ≠ "java/lang/invoke/MethodHandle" ∧ yX2_keepChange.cls ≠ "java/lang/invoke/VarHandle" ∧ (parseMethodDescriptor yX2_keepChange.desc).map (fun d => d.parameters.length) = some 0 := by decide +kernel
theorem hd_X2_beginChange : yX2_beginChange.cls ≠ "java/lang/invoke/MethodHandle" ∧ yX2_beginChange.cls ≠ "java/lang/invoke/VarHandle" ∧ (parseMethodDescriptor yX2_beginChange.desc).map (fun d => d.parameters.length) = some 0 := by decide +kernel
theorem hd_X3_init : yX3_init.cls ≠ "java/lang/invoke/MethodHandle" ∧ yX3_init.cls ≠ "java/lang/invoke/VarHandle" ∧ (parseMethodDescriptor yX3_init.desc).map (fun d => d.parameters.length) = some 0 := by decide +kernel
theorem hd_X3_put : yX3_put.cls ≠ "java/lang/invoke/MethodHandle" ∧ yX3_put.cls ≠ "java/lang/invoke/VarHandle" ∧ (parseMethodDescriptor yX3_put.desc).map (fun d => d.parameters.length) = some 1 := by decide +kernel
theorem hd_X3_faultAsTouch : yX3_faultAsTouch.cls ≠ "java/lang/invoke/MethodHandle" ∧ yX3_faultAsTouch.cls ≠ "java/lang/invoke/VarHandle" ∧ (parseMethodDescriptor yX3_faultAsTouch.desc).map (fun d => d.parameters.length) = some 0 := by decide +kernel
theorem hd_X3_kindOf : yX3_kindOf.cls ≠ "java/lang/invoke/MethodHandle" ∧ yX3_kindOf.cls ≠ "java/lang/invoke/VarHandle" ∧ (parseMethodDescriptor yX3_kindOf.desc).map (fun d => d.parameters.length) = some 1 := by decide +kernel
theorem hd_X4_bit : yX4_bit.cls ≠ "java/lang/invoke/MethodHandle" ∧ yX4_bit.cls ≠ "java/lang/invoke/VarHandle" ∧ (parseMethodDescriptor yX4_bit.desc).map (fun d => d.parameters.length) = some 1 := by decide +kernel
theorem hd_X4_has : yX4_has.cls ≠ "java/lang/invoke/MethodHandle" ∧ yX4_has.cls ≠ "java/lang/invoke/VarHandle" ∧ (parseMethodDescriptor yX4_has.desc).map (fun d => d.parameters.length) = some 2 := by decide +kernel
theorem hd_X4_areRight : yX4_areRight.cls ≠ "java/lang/invoke/MethodHandle" ∧ yX4_areRight.cls ≠ "java/lang/invoke/VarHandle" ∧ (parseMethodDescriptor yX4_areRight.desc).map (fun d => d.parameters.length) = some 2 := by decide +kernel
theorem hd_X5_init : yX5_init.cls ≠ "java/lang/invoke/MethodHandle" ∧ yX5_init.cls ≠ "java/lang/invoke/VarHandle" ∧ (parseMethodDescriptor yX5_init.desc).map (fun d => d.parameters.length) = some 0 := by decide +kernel
theorem hd_X5_ring : yX5_ring.cls ≠ "java/lang/invoke/MethodHandle" ∧ yX5_ring.cls ≠ "java/lang/invoke/VarHandle" ∧ (parseMethodDescriptor yX5_ring.desc).map (fun d => d.parameters.length) = some 1 := by decide +kernel
theorem hd_X5_keep : yX5_keep.cls ≠ "java/lang/invoke/MethodHandle" ∧ yX5_keep.cls ≠ "java/lang/invoke/VarHandle" ∧ (parseMethodDescriptor yX5_keep.desc).map (fun d => d.parameters.length) = some 1 := by decide +kernel
theorem hd_X5_findFirsts : yX5_findFirsts.cls ≠ "java/lang/invoke/MethodHandle" ∧ yX5_findFirsts.cls ≠ "java/lang/invoke/VarHandle" ∧ (parseMethodDescriptor yX5_findFirsts.desc).map (fun d => d.parameters.length) = some 0 := by decide +kernel
theorem hd_X5_firstWithRank : yX5_firstWithRank.cls ≠ "java/lang/invoke/MethodHandle" ∧ yX5_firstWithRank.cls ≠ "java/lang/invoke/VarHandle" ∧ (parseMethodDescriptor yX5_firstWithRank.desc).map (fun d => d.parameters.length) = some 2 := by decide +kernel
theorem hd_X5_rowAt : yX5_rowAt.cls ≠ "java/lang/invoke/MethodHandle" ∧ yX5_rowAt.cls ≠ "java/lang/invoke/VarHandle" ∧ (parseMethodDescriptor yX5_rowAt.desc).map (fun d => d.parameters.length) = some 1 := by decide +kernel
theorem hd_X5_placeIn : yX5_placeIn.cls ≠ "java/lang/invoke/MethodHandle" ∧ yX5_placeIn.cls ≠ "java/lang/invoke/VarHandle" ∧ (parseMethodDescriptor yX5_placeIn.desc).map (fun d => d.parameters.length) = some 2 := by decide +kernel
theorem hd_X5_isFirst : yX5_isFirst.cls ≠ "java/lang/invoke/MethodHandle" ∧ yX5_isFirst.cls ≠ "java/lang/invoke/VarHandle" ∧ (parseMethodDescriptor yX5_isFirst.desc).map (fun d => d.parameters.length) = some 1 := by decide +kernel
theorem hd_X5_firstLike : yX5_firstLike.cls ≠ "java/lang/invoke/MethodHandle" ∧ yX5_firstLike.cls ≠ "java/lang/invoke/VarHandle" ∧ (parseMethodDescriptor yX5_firstLike.desc).map (fun d => d.parameters.length) = some 1 := by decide +kernel
theorem hd_X5_comesRound : yX5_comesRound.cls ≠ "java/lang/invoke/MethodHandle" ∧ yX5_comesRound.cls ≠ "java/lang/invoke/VarHandle" ∧ (parseMethodDescriptor yX5_comesRound.desc).map (fun d => d.parameters.length) = some 0 := by decide +kernel
theorem hd_X5_firstRepeat : yX5_firstRepeat.cls ≠ "java/lang/invoke/MethodHandle" ∧ yX5_firstRepeat.cls ≠ "java/lang/invoke/VarHandle" ∧ (parseMethodDescriptor yX5_firstRepeat.desc).map (fun d => d.parameters.length) = some 0 := by decide +kernel
theorem hd_X5_isTrue : yX5_isTrue.cls ≠ "java/lang/invoke/MethodHandle" ∧ yX5_isTrue.cls ≠ "java/lang/invoke/VarHandle" ∧ (parseMethodDescriptor yX5_isTrue.desc).map (fun d => d.parameters.length) = some 0 := by decide +kernel
theorem hd_X5_differentRows : yX5_differentRows.cls ≠ "java/lang/invoke/MethodHandle" ∧ yX5_differentRows.cls ≠ "java/lang/invoke/VarHandle" ∧ (parseMethodDescriptor yX5_differentRows.desc).map (fun d => d.parameters.length) = some 0 := by decide +kernel
theorem hd_X5_wellSounding : yX5_wellSounding.cls ≠ "java/lang/invoke/MethodHandle" ∧ yX5_wellSounding.cls ≠ "java/lang/invoke/VarHandle" ∧ (parseMethodDescriptor yX5_wellSounding.desc).map (fun d => d.parameters.length) = some 0 := by decide +kernel
theorem hd_X5_falsePairs : yX5_falsePairs.cls ≠ "java/lang/invoke/MethodHandle" ∧ yX5_falsePairs.cls ≠ "java/lang/invoke/VarHandle" ∧ (parseMethodDescriptor yX5_falsePairs.desc).map (fun d => d.parameters.length) = some 0 := by decide +kernel
theorem hd_X5_areFalse : yX5_areFalse.cls ≠ "java/lang/invoke/MethodHandle" ∧ yX5_areFalse.cls ≠ "java/lang/invoke/VarHandle" ∧ (parseMethodDescriptor yX5_areFalse.desc).map (fun d => d.parameters.length) = some 2 := by decide +kernel
theorem hd_X5_dodgesAt : yX5_dodgesAt.cls ≠ "java/lang/invoke/MethodHandle" ∧ yX5_dodgesAt.cls ≠ "java/lang/invoke/VarHandle" ∧ (parseMethodDescriptor yX5_dodgesAt.desc).map (fun d => d.parameters.length) = some 2 := by decide +kernel
theorem hd_X5_dodges : yX5_dodges.cls ≠ "java/lang/invoke/MethodHandle" ∧ yX5_dodges.cls ≠ "java/lang/invoke/VarHandle" ∧ (parseMethodDescriptor yX5_dodges.desc).map (fun d => d.parameters.length) = some 1 := by decide +kernel
theorem hd_X5_firstDodge : yX5_firstDodge.cls ≠ "java/lang/invoke/MethodHandle" ∧ yX5_firstDodge.cls ≠ "java/lang/invoke/VarHandle" ∧ (parseMethodDescriptor yX5_firstDodge.desc).map (fun d => d.parameters.length) = some 1 := by decide +kernel
theorem hd_X5_stays : yX5_stays.cls ≠ "java/lang/invoke/MethodHandle" ∧ yX5_stays.cls ≠ "java/lang/invoke/VarHandle" ∧ (parseMethodDescriptor yX5_stays.desc).map (fun d => d.parameters.length) = some 1 := by decide +kernel
theorem hd_X5_blowsAt : yX5_blowsAt.cls ≠ "java/lang/invoke/MethodHandle" ∧ yX5_blowsAt.cls ≠ "java/lang/invoke/VarHandle" ∧ (parseMethodDescriptor yX5_blowsAt.desc).map (fun d => d.parameters.length) = some 2 := by decide +kernel
theorem hd_X6_rounds : yX6_rounds.cls ≠ "java/lang/invoke/MethodHandle" ∧ yX6_rounds.cls ≠ "java/lang/invoke/VarHandle" ∧ (parseMethodDescriptor yX6_rounds.desc).map (fun d => d.parameters.length) = some 1 := by decide +kernel
theorem hd_X6_bellAt : yX6_bellAt.cls ≠ "java/lang/invoke/MethodHandle" ∧ yX6_bellAt.cls ≠ "java/lang/invoke/VarHandle" ∧ (parseMethodDescriptor yX6_bellAt.desc).map (fun d => d.parameters.length) = some 2 := by decide +kernel
theorem hd_X6_put : yX6_put.cls ≠ "java/lang/invoke/MethodHandle" ∧ yX6_put.cls ≠ "java/lang/invoke/VarHandle" ∧ (parseMethodDescriptor yX6_put.desc).map (fun d => d.parameters.length) = some 3 := by decide +kernel
theorem hd_X6_placeOf : yX6_placeOf.cls ≠ "java/lang/invoke/MethodHandle" ∧ yX6_placeOf.cls ≠ "java/lang/invoke/VarHandle" ∧ (parseMethodDescriptor yX6_placeOf.desc).map (fun d => d.parameters.length) = some 3 := by decide +kernel
theorem hd_X6_behindChange : yX6_behindChange.cls ≠ "java/lang/invoke/MethodHandle" ∧ yX6_behindChange.cls ≠ "java/lang/invoke/VarHandle" ∧ (parseMethodDescriptor yX6_behindChange.desc).map (fun d => d.parameters.length) = some 3 := by decide +kernel
theorem hd_X6_behindLead : yX6_behindLead.cls ≠ "java/lang/invoke/MethodHandle" ∧ yX6_behindLead.cls ≠ "java/lang/invoke/VarHandle" ∧ (parseMethodDescriptor yX6_behindLead.desc).map (fun d => d.parameters.length) = some 3 := by decide +kernel
theorem hd_X6_backwards : yX6_backwards.cls ≠ "java/lang/invoke/MethodHandle" ∧ yX6_backwards.cls ≠ "java/lang/invoke/VarHandle" ∧ (parseMethodDescriptor yX6_backwards.desc).map (fun d => d.parameters.length) = some 2 := by decide +kernel
theorem hd_X6_rank : yX6_rank.cls ≠ "java/lang/invoke/MethodHandle" ∧ yX6_rank.cls ≠ "java/lang/invoke/VarHandle" ∧ (parseMethodDescriptor yX6_rank.desc).map (fun d => d.parameters.length) = some 2 := by decide +kernel
theorem hd_X6_signByPairs : yX6_signByPairs.cls ≠ "java/lang/invoke/MethodHandle" ∧ yX6_signByPairs.cls ≠ "java/lang/invoke/VarHandle" ∧ (parseMethodDescriptor yX6_signByPairs.desc).map (fun d => d.parameters.length) = some 2 := by decide +kernel
theorem hd_X6_signByCycles : yX6_signByCycles.cls ≠ "java/lang/invoke/MethodHandle" ∧ yX6_signByCycles.cls ≠ "java/lang/invoke/VarHandle" ∧ (parseMethodDescriptor yX6_signByCycles.desc).map (fun d => d.parameters.length) = some 2 := by decide +kernel
theorem hd_X6_soundsWell : yX6_soundsWell.cls ≠ "java/lang/invoke/MethodHandle" ∧ yX6_soundsWell.cls ≠ "java/lang/invoke/VarHandle" ∧ (parseMethodDescriptor yX6_soundsWell.desc).map (fun d => d.parameters.length) = some 2 := by decide +kernel
theorem hd_X6_bellsInPlace : yX6_bellsInPlace.cls ≠ "java/lang/invoke/MethodHandle" ∧ yX6_bellsInPlace.cls ≠ "java/lang/invoke/VarHandle" ∧ (parseMethodDescriptor yX6_bellsInPlace.desc).map (fun d => d.parameters.length) = some 2 := by decide +kernel
theorem hd_X7_init : yX7_init.cls ≠ "java/lang/invoke/MethodHandle" ∧ yX7_init.cls ≠ "java/lang/invoke/VarHandle" ∧ (parseMethodDescriptor yX7_init.desc).map (fun d => d.parameters.length) = some 0 := by decide +kernel
theorem hd_X7_from : yX7_from.cls ≠ "java/lang/invoke/MethodHandle" ∧ yX7_from.cls ≠ "java/lang/invoke/VarHandle" ∧ (parseMethodDescriptor yX7_from.desc).map (fun d => d.parameters.length) = some 4 := by decide +kernel
theorem hd_X7_reach : yX7_reach.cls ≠ "java/lang/invoke/MethodHandle" ∧ yX7_reach.cls ≠ "java/lang/invoke/VarHandle" ∧ (parseMethodDescriptor yX7_reach.desc).map (fun d => d.parameters.length) = some 2 := by decide +kernel
theorem hd_X7_fewestTo : yX7_fewestTo.cls ≠ "java/lang/invoke/MethodHandle" ∧ yX7_fewestTo.cls ≠ "java/lang/invoke/VarHandle" ∧ (parseMethodDescriptor yX7_fewestTo.desc).map (fun d => d.parameters.length) = some 1 := by decide +kernel
theorem hd_X8_lead : yX8_lead.cls ≠ "java/lang/invoke/MethodHandle" ∧ yX8_lead.cls ≠ "java/lang/invoke/VarHandle" ∧ (parseMethodDescriptor yX8_lead.desc).map (fun d => d.parameters.length) = some 1 := by decide +kernel
theorem hd_X8_bob : yX8_bob.cls ≠ "java/lang/invoke/MethodHandle" ∧ yX8_bob.cls ≠ "java/lang/invoke/VarHandle" ∧ (parseMethodDescriptor yX8_bob.desc).map (fun d => d.parameters.length) = some 1 := by decide +kernel
theorem hd_X8_single : yX8_single.cls ≠ "java/lang/invoke/MethodHandle" ∧ yX8_single.cls ≠ "java/lang/invoke/VarHandle" ∧ (parseMethodDescriptor yX8_single.desc).map (fun d => d.parameters.length) = some 1 := by decide +kernel
theorem hd_X9_init : yX9_init.cls ≠ "java/lang/invoke/MethodHandle" ∧ yX9_init.cls ≠ "java/lang/invoke/VarHandle" ∧ (parseMethodDescriptor yX9_init.desc).map (fun d => d.parameters.length) = some 0 := by decide +kernel
theorem hd_X9_become : yX9_become.cls ≠ "java/lang/invoke/MethodHandle" ∧ yX9_become.cls ≠ "java/lang/invoke/VarHandle" ∧ (parseMethodDescriptor yX9_become.desc).map (fun d => d.parameters.length) = some 1 := by decide +kernel
theorem hd_X9_takeMethod : yX9_takeMethod.cls ≠ "java/lang/invoke/MethodHandle" ∧ yX9_takeMethod.cls ≠ "java/lang/invoke/VarHandle" ∧ (parseMethodDescriptor yX9_takeMethod.desc).map (fun d => d.parameters.length) = some 1 := by decide +kernel
theorem hd_X9_addLead : yX9_addLead.cls ≠ "java/lang/invoke/MethodHandle" ∧ yX9_addLead.cls ≠ "java/lang/invoke/VarHandle" ∧ (parseMethodDescriptor yX9_addLead.desc).map (fun d => d.parameters.length) = some 1 := by decide +kernel
theorem hd_X9_kindOfLead : yX9_kindOfLead.cls ≠ "java/lang/invoke/MethodHandle" ∧ yX9_kindOfLead.cls ≠ "java/lang/invoke/VarHandle" ∧ (parseMethodDescriptor yX9_kindOfLead.desc).map (fun d => d.parameters.length) = some 1 := by decide +kernel
theorem hd_X9_lastRow : yX9_lastRow.cls ≠ "java/lang/invoke/MethodHandle" ∧ yX9_lastRow.cls ≠ "java/lang/invoke/VarHandle" ∧ (parseMethodDescriptor yX9_lastRow.desc).map (fun d => d.parameters.length) = some 0 := by decide +kernel
theorem hd_X9_placesMade : yX9_placesMade.cls ≠ "java/lang/invoke/MethodHandle" ∧ yX9_placesMade.cls ≠ "java/lang/invoke/VarHandle" ∧ (parseMethodDescriptor yX9_placesMade.desc).map (fun d => d.parameters.length) = some 2 := by decide +kernel
theorem hd_X9_calledLeads : yX9_calledLeads.cls ≠ "java/lang/invoke/MethodHandle" ∧ yX9_calledLeads.cls ≠ "java/lang/invoke/VarHandle" ∧ (parseMethodDescriptor yX9_calledLeads.desc).map (fun d => d.parameters.length) = some 0 := by decide +kernel
theorem hd_X9_roundsBehindLead : yX9_roundsBehindLead.cls ≠ "java/lang/invoke/MethodHandle" ∧ yX9_roundsBehindLead.cls ≠ "java/lang/invoke/VarHandle" ∧ (parseMethodDescriptor yX9_roundsBehindLead.desc).map (fun d => d.parameters.length) = some 1 := by decide +kernel
theorem hd_X9_plainCourse : yX9_plainCourse.cls ≠ "java/lang/invoke/MethodHandle" ∧ yX9_plainCourse.cls ≠ "java/lang/invoke/VarHandle" ∧ (parseMethodDescriptor yX9_plainCourse.desc).map (fun d => d.parameters.length) = some 0 := by decide +kernel
theorem hd_L_cell : yL_cell.cls ≠ "java/lang/invoke/MethodHandle" ∧ yL_cell.cls ≠ "java/lang/invoke/VarHandle" ∧ (parseMethodDescriptor yL_cell.desc).map (fun d => d.parameters.length) = some 2 := by decide +kernel
theorem hd_L_isRight : yL_isRight.cls ≠ "java/lang/invoke/MethodHandle" ∧ yL_isRight.cls ≠ "java/lang/invoke/VarHandle" ∧ (parseMethodDescriptor yL_isRight.desc).map (fun d => d.parameters.length) = some 2 := by decide +kernel
theorem hd_L_beginning : yL_beginning.cls ≠ "java/lang/invoke/MethodHandle" ∧ yL_beginning.cls ≠ "java/lang/invoke/VarHandle" ∧ (parseMethodDescriptor yL_beginning.desc).map (fun d => d.parameters.length) = some 4 := by decide +kernel
theorem hd_L_change : yL_change.cls ≠ "java/lang/invoke/MethodHandle" ∧ yL_change.cls ≠ "java/lang/invoke/VarHandle" ∧ (parseMethodDescriptor yL_change.desc).map (fun d => d.parameters.length) = some 5 := by decide +kernel
theorem hd_L_ring : yL_ring.cls ≠ "java/lang/invoke/MethodHandle" ∧ yL_ring.cls ≠ "java/lang/invoke/VarHandle" ∧ (parseMethodDescriptor yL_ring.desc).map (fun d => d.parameters.length) = some 3 := by decide +kernel
theorem hd_L_code : yL_code.cls ≠ "java/lang/invoke/MethodHandle" ∧ yL_code.cls ≠ "java/lang/invoke/VarHandle" ∧ (parseMethodDescriptor yL_code.desc).map (fun d => d.parameters.length) = some 2 := by decide +kernel
theorem hd_L_rounds : yL_rounds.cls ≠ "java/lang/invoke/MethodHandle" ∧ yL_rounds.cls ≠ "java/lang/invoke/VarHandle" ∧ (parseMethodDescriptor yL_rounds.desc).map (fun d => d.parameters.length) = some 2 := by decide +kernel
theorem hd_L_rowAt : yL_rowAt.cls ≠ "java/lang/invoke/MethodHandle" ∧ yL_rowAt.cls ≠ "java/lang/invoke/VarHandle" ∧ (parseMethodDescriptor yL_rowAt.desc).map (fun d => d.parameters.length) = some 2 := by decide +kernel
theorem hd_L_all : yL_all.cls ≠ "java/lang/invoke/MethodHandle" ∧ yL_all.cls ≠ "java/lang/invoke/VarHandle" ∧ (parseMethodDescriptor yL_all.desc).map (fun d => d.parameters.length) = some 6 := by decide +kernel
theorem hd_L_digit : yL_digit.cls ≠ "java/lang/invoke/MethodHandle" ∧ yL_digit.cls ≠ "java/lang/invoke/VarHandle" ∧ (parseMethodDescriptor yL_digit.desc).map (fun d => d.parameters.length) = some 3 := by decide +kernel
theorem hd_L_sounds : yL_sounds.cls ≠ "java/lang/invoke/MethodHandle" ∧ yL_sounds.cls ≠ "java/lang/invoke/VarHandle" ∧ (parseMethodDescriptor yL_sounds.desc).map (fun d => d.parameters.length) = some 2 := by decide +kernel
theorem hd_L_first : yL_first.cls ≠ "java/lang/invoke/MethodHandle" ∧ yL_first.cls ≠ "java/lang/invoke/VarHandle" ∧ (parseMethodDescriptor yL_first.desc).map (fun d => d.parameters.length) = some 3 := by decide +kernel
theorem hd_L_areRows : yL_areRows.cls ≠ "java/lang/invoke/MethodHandle" ∧ yL_areRows.cls ≠ "java/lang/invoke/VarHandle" ∧ (parseMethodDescriptor yL_areRows.desc).map (fun d => d.parameters.length) = some 4 := by decide +kernel
theorem hd_L_areLeads : yL_areLeads.cls ≠ "java/lang/invoke/MethodHandle" ∧ yL_areLeads.cls ≠ "java/lang/invoke/VarHandle" ∧ (parseMethodDescriptor yL_areLeads.desc).map (fun d => d.parameters.length) = some 6 := by decide +kernel
theorem hd_L_isPath : yL_isPath.cls ≠ "java/lang/invoke/MethodHandle" ∧ yL_isPath.cls ≠ "java/lang/invoke/VarHandle" ∧ (parseMethodDescriptor yL_isPath.desc).map (fun d => d.parameters.length) = some 4 := by decide +kernel
theorem hd_L_typed : yL_typed.cls ≠ "java/lang/invoke/MethodHandle" ∧ yL_typed.cls ≠ "java/lang/invoke/VarHandle" ∧ (parseMethodDescriptor yL_typed.desc).map (fun d => d.parameters.length) = some 4 := by decide +kernel
theorem hd_L_isActed : yL_isActed.cls ≠ "java/lang/invoke/MethodHandle" ∧ yL_isActed.cls ≠ "java/lang/invoke/VarHandle" ∧ (parseMethodDescriptor yL_isActed.desc).map (fun d => d.parameters.length) = some 7 := by decide +kernel
theorem hd_J6_bitCount_0f7a4 : yJ6_bitCount_0f7a4.cls ≠ "java/lang/invoke/MethodHandle" ∧ yJ6_bitCount_0f7a4.cls ≠ "java/lang/invoke/VarHandle" ∧ (parseMethodDescriptor yJ6_bitCount_0f7a4.desc).map (fun d => d.parameters.length) = some 1 := by decide +kernel
theorem hd_J0_checkBoundsOffCount_cabcc : yJ0_checkBoundsOffCount_cabcc.cls ≠ "java/lang/invoke/MethodHandle" ∧ yJ0_checkBoundsOffCount_cabcc.cls ≠ "java/lang/invoke/VarHandle" ∧ (parseMethodDescriptor yJ0_checkBoundsOffCount_cabcc.desc).map (fun d => d.parameters.length) = some 3 := by decide +kernel
theorem hd_J0_isLatin1_aae02 : yJ0_isLatin1_aae02.cls ≠ "java/lang/invoke/MethodHandle" ∧ yJ0_isLatin1_aae02.cls ≠ "java/lang/invoke/VarHandle" ∧ (parseMethodDescriptor yJ0_isLatin1_aae02.desc).map (fun d => d.parameters.length) = some 0 := by decide +kernel
theorem hd_J0_toCharArray_70df3 : yJ0_toCharArray_70df3.cls ≠ "java/lang/invoke/MethodHandle" ∧ yJ0_toCharArray_70df3.cls ≠ "java/lang/invoke/VarHandle" ∧ (parseMethodDescriptor yJ0_toCharArray_70df3.desc).map (fun d => d.parameters.length) = some 0 := by decide +kernel
theorem hd_J1_inflate_03870 : yJ1_inflate_03870.cls ≠ "java/lang/invoke/MethodHandle" ∧ yJ1_inflate_03870.cls ≠ "java/lang/invoke/VarHandle" ∧ (parseMethodDescriptor yJ1_inflate_03870.desc).map (fun d => d.parameters.length) = some 5 := by decide +kernel
theorem hd_J1_toChars_9d188 : yJ1_toChars_9d188.cls ≠ "java/lang/invoke/MethodHandle" ∧ yJ1_toChars_9d188.cls ≠ "java/lang/invoke/VarHandle" ∧ (parseMethodDescriptor yJ1_toChars_9d188.desc).map (fun d => d.parameters.length) = some 1 := by decide +kernel
theorem hd_J2_checkBoundsOffCount_d044e : yJ2_checkBoundsOffCount_d044e.cls ≠ "java/lang/invoke/MethodHandle" ∧ yJ2_checkBoundsOffCount_d044e.cls ≠ "java/lang/invoke/VarHandle" ∧ (parseMethodDescriptor yJ2_checkBoundsOffCount_d044e.desc).map (fun d => d.parameters.length) = some 3 := by decide +kernel
theorem hd_J2_getChar_3b067 : yJ2_getChar_3b067.cls ≠ "java/lang/invoke/MethodHandle" ∧ yJ2_getChar_3b067.cls ≠ "java/lang/invoke/VarHandle" ∧ (parseMethodDescriptor yJ2_getChar_3b067.desc).map (fun d => d.parameters.length) = some 2 := by decide +kernel
theorem hd_J2_getChars_a1a8b : yJ2_getChars_a1a8b.cls ≠ "java/lang/invoke/MethodHandle" ∧ yJ2_getChars_a1a8b.cls ≠ "java/lang/invoke/VarHandle" ∧ (parseMethodDescriptor yJ2_getChars_a1a8b.desc).map (fun d => d.parameters.length) = some 5 := by decide +kernel
theorem hd_J2_length_9d52b : yJ2_length_9d52b.cls ≠ "java/lang/invoke/MethodHandle" ∧ yJ2_length_9d52b.cls ≠ "java/lang/invoke/VarHandle" ∧ (parseMethodDescriptor yJ2_length_9d52b.desc).map (fun d => d.parameters.length) = some 1 := by decide +kernel
theorem hd_J2_toChars_9d188 : yJ2_toChars_9d188.cls ≠ "java/lang/invoke/MethodHandle" ∧ yJ2_toChars_9d188.cls ≠ "java/lang/invoke/VarHandle" ∧ (parseMethodDescriptor yJ2_toChars_9d188.desc).map (fun d => d.parameters.length) = some 1 := by decide +kernel
theorem hd_J7_fill_53178 : yJ7_fill_53178.cls ≠ "java/lang/invoke/MethodHandle" ∧ yJ7_fill_53178.cls ≠ "java/lang/invoke/VarHandle" ∧ (parseMethodDescriptor yJ7_fill_53178.desc).map (fun d => d.parameters.length) = some 2 := by decide +kernel
