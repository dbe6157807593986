theorem qw0 : Cond.selects RX10 yX10_begin yX10_begin ∈ lw_all := lw_in (List.mem_of_getElem? (i := 0) (by decide +kernel)) rfl
theorem qw1 : Cond.selects RX2 yX2_beginChange yX2_beginChange ∈ lw_all := lw_in (List.mem_of_getElem? (i := 1) (by decide +kernel)) rfl
theorem qw2 : Cond.selects RX2 yX2_accepts yX2_accepts ∈ lw_all := lw_in (List.mem_of_getElem? (i := 2) (by decide +kernel)) rfl
theorem qw3 : Cond.selects RX2 yX2_acceptsDot yX2_acceptsDot ∈ lw_all := lw_in (List.mem_of_getElem? (i := 3) (by decide +kernel)) rfl
theorem qw4 : Cond.selects RX2 yX2_isChangeRight yX2_isChangeRight ∈ lw_all := lw_in (List.mem_of_getElem? (i := 4) (by decide +kernel)) rfl
theorem qw5 : Cond.selects RX2 yX2_keepChange yX2_keepChange ∈ lw_all := lw_in (List.mem_of_getElem? (i := 5) (by decide +kernel)) rfl
theorem qw6 : Cond.selects RX2 yX2_acceptsCross yX2_acceptsCross ∈ lw_all := lw_in (List.mem_of_getElem? (i := 6) (by decide +kernel)) rfl
theorem qw7 : Cond.selects RX2 yX2_acceptsPlace yX2_acceptsPlace ∈ lw_all := lw_in (List.mem_of_getElem? (i := 7) (by decide +kernel)) rfl
theorem qw8 : Cond.selects RX0 yX0_dropOldest yX0_dropOldest ∈ lw_all := lw_in (List.mem_of_getElem? (i := 8) (by decide +kernel)) rfl
theorem qw9 : Cond.selects RX10 yX10_isBell yX10_isBell ∈ lw_all := lw_in (List.mem_of_getElem? (i := 9) (by decide +kernel)) rfl
theorem qw10 : Cond.selects RX5 yX5_keep yX5_keep ∈ lw_all := lw_in (List.mem_of_getElem? (i := 10) (by decide +kernel)) rfl
theorem qw11 : Cond.selects RX5 yX5_findFirsts yX5_findFirsts ∈ lw_all := lw_in (List.mem_of_getElem? (i := 11) (by decide +kernel)) rfl
theorem qw12 : Cond.selects RX5 yX5_firstWithRank yX5_firstWithRank ∈ lw_all := lw_in (List.mem_of_getElem? (i := 12) (by decide +kernel)) rfl
theorem qw13 : Cond.selects RX7 yX7_reach yX7_reach ∈ lw_all := lw_in (List.mem_of_getElem? (i := 13) (by decide +kernel)) rfl
theorem qw14 : Cond.selects RX5 yX5_dodgesAt yX5_dodgesAt ∈ lw_all := lw_in (List.mem_of_getElem? (i := 14) (by decide +kernel)) rfl
theorem qw15 : Cond.selects RX10 yX10_countRows yX10_countRows ∈ lw_all := lw_in (List.mem_of_getElem? (i := 15) (by decide +kernel)) rfl
theorem qw16 : Cond.selects RX5 yX5_isFirst yX5_isFirst ∈ lw_all := lw_in (List.mem_of_getElem? (i := 16) (by decide +kernel)) rfl
theorem qw17 : Cond.selects RX5 yX5_areFalse yX5_areFalse ∈ lw_all := lw_in (List.mem_of_getElem? (i := 17) (by decide +kernel)) rfl
theorem qw18 : Cond.selects RX10 yX10_lastOrder yX10_lastOrder ∈ lw_all := lw_in (List.mem_of_getElem? (i := 18) (by decide +kernel)) rfl
theorem qw19 : Cond.selects RX1 yX1_callFrom yX1_callFrom ∈ lw_all := lw_in (List.mem_of_getElem? (i := 19) (by decide +kernel)) rfl
theorem qw20 : Cond.selects RX1 yX1_behind yX1_behind ∈ lw_all := lw_in (List.mem_of_getElem? (i := 20) (by decide +kernel)) rfl
theorem qw21 : Cond.selects RX11 yX11_lays yX11_lays ∈ lw_all := lw_in (List.mem_of_getElem? (i := 21) (by decide +kernel)) rfl
theorem qw22 : Cond.selects RX11 yX11_changes yX11_changes ∈ lw_all := lw_in (List.mem_of_getElem? (i := 22) (by decide +kernel)) rfl
theorem qw23 : Cond.selects RX11 yX11_methodFault yX11_methodFault ∈ lw_all := lw_in (List.mem_of_getElem? (i := 23) (by decide +kernel)) rfl
theorem qw24 : Cond.selects RX11 yX11_readsChange yX11_readsChange ∈ lw_all := lw_in (List.mem_of_getElem? (i := 24) (by decide +kernel)) rfl
theorem qw25 : Cond.selects RX11 yX11_isAt yX11_isAt ∈ lw_all := lw_in (List.mem_of_getElem? (i := 25) (by decide +kernel)) rfl
theorem qw26 : Cond.selects RX11 yX11_isRight yX11_isRight ∈ lw_all := lw_in (List.mem_of_getElem? (i := 26) (by decide +kernel)) rfl
theorem qw27 : Cond.selects RX11 yX11_couldBeRight yX11_couldBeRight ∈ lw_all := lw_in (List.mem_of_getElem? (i := 27) (by decide +kernel)) rfl
theorem qw28 : Cond.selects RX11 yX11_touchFault yX11_touchFault ∈ lw_all := lw_in (List.mem_of_getElem? (i := 28) (by decide +kernel)) rfl
theorem qw29 : Cond.selects RX11 yX11_isRow yX11_isRow ∈ lw_all := lw_in (List.mem_of_getElem? (i := 29) (by decide +kernel)) rfl
theorem qw30 : Cond.selects RX11 yX11_last yX11_last ∈ lw_all := lw_in (List.mem_of_getElem? (i := 30) (by decide +kernel)) rfl
theorem qw31 : Cond.selects RX11 yX11_isPlace yX11_isPlace ∈ lw_all := lw_in (List.mem_of_getElem? (i := 31) (by decide +kernel)) rfl
theorem qw32 : Cond.selects RX11 yX11_ringsAll yX11_ringsAll ∈ lw_all := lw_in (List.mem_of_getElem? (i := 32) (by decide +kernel)) rfl
theorem qw33 : Cond.selects RX11 yX11_toRounds yX11_toRounds ∈ lw_all := lw_in (List.mem_of_getElem? (i := 33) (by decide +kernel)) rfl
theorem qw34 : Cond.selects RX11 yX11_ringsLead yX11_ringsLead ∈ lw_all := lw_in (List.mem_of_getElem? (i := 34) (by decide +kernel)) rfl
theorem qw35 : Cond.selects RX11 yX11_changeOf yX11_changeOf ∈ lw_all := lw_in (List.mem_of_getElem? (i := 35) (by decide +kernel)) rfl
theorem qw36 : Cond.selects RX11 yX11_rings yX11_rings ∈ lw_all := lw_in (List.mem_of_getElem? (i := 36) (by decide +kernel)) rfl
theorem qw37 : Cond.selects RX11 yX11_rank yX11_rank ∈ lw_all := lw_in (List.mem_of_getElem? (i := 37) (by decide +kernel)) rfl
theorem qw38 : Cond.selects RX11 yX11_unrank yX11_unrank ∈ lw_all := lw_in (List.mem_of_getElem? (i := 38) (by decide +kernel)) rfl
theorem qw39 : Cond.selects RX11 yX11_signByPairs yX11_signByPairs ∈ lw_all := lw_in (List.mem_of_getElem? (i := 39) (by decide +kernel)) rfl
theorem qw40 : Cond.selects RX11 yX11_signByRings yX11_signByRings ∈ lw_all := lw_in (List.mem_of_getElem? (i := 40) (by decide +kernel)) rfl
theorem qw41 : Cond.selects RX11 yX11_soundsWell yX11_soundsWell ∈ lw_all := lw_in (List.mem_of_getElem? (i := 41) (by decide +kernel)) rfl
theorem qw42 : Cond.selects RX11 yX11_atHome yX11_atHome ∈ lw_all := lw_in (List.mem_of_getElem? (i := 42) (by decide +kernel)) rfl
theorem qw43 : Cond.selects RX11 yX11_firstSame yX11_firstSame ∈ lw_all := lw_in (List.mem_of_getElem? (i := 43) (by decide +kernel)) rfl
theorem qw44 : Cond.selects RX11 yX11_spreads yX11_spreads ∈ lw_all := lw_in (List.mem_of_getElem? (i := 44) (by decide +kernel)) rfl
theorem qw45 : Cond.selects RX11 yX11_spreadsFrom yX11_spreadsFrom ∈ lw_all := lw_in (List.mem_of_getElem? (i := 45) (by decide +kernel)) rfl
theorem qw46 : Cond.selects RX11 yX11_takesLeads yX11_takesLeads ∈ lw_all := lw_in (List.mem_of_getElem? (i := 46) (by decide +kernel)) rfl
theorem qw47 : Cond.selects RX11 yX11_moved yX11_moved ∈ lw_all := lw_in (List.mem_of_getElem? (i := 47) (by decide +kernel)) rfl
theorem qw48 : Cond.selects RX11 yX11_follows yX11_follows ∈ lw_all := lw_in (List.mem_of_getElem? (i := 48) (by decide +kernel)) rfl
theorem qw49 : Cond.selects RX11 yX11_dodges yX11_dodges ∈ lw_all := lw_in (List.mem_of_getElem? (i := 49) (by decide +kernel)) rfl
theorem qw50 : Cond.selects RX11 yX11_rowsAt yX11_rowsAt ∈ lw_all := lw_in (List.mem_of_getElem? (i := 50) (by decide +kernel)) rfl
theorem qw51 : Cond.selects RX11 yX11_stays yX11_stays ∈ lw_all := lw_in (List.mem_of_getElem? (i := 51) (by decide +kernel)) rfl
theorem qw52 : Cond.selects RX11 yX11_roundAt yX11_roundAt ∈ lw_all := lw_in (List.mem_of_getElem? (i := 52) (by decide +kernel)) rfl
theorem qw53 : Cond.selects RX11 yX11_firstTwice yX11_firstTwice ∈ lw_all := lw_in (List.mem_of_getElem? (i := 53) (by decide +kernel)) rfl
theorem qw54 : Cond.selects RX11 yX11_unlike yX11_unlike ∈ lw_all := lw_in (List.mem_of_getElem? (i := 54) (by decide +kernel)) rfl
theorem qw55 : Cond.selects RX11 yX11_falsePairs yX11_falsePairs ∈ lw_all := lw_in (List.mem_of_getElem? (i := 55) (by decide +kernel)) rfl
theorem qw56 : Cond.selects RX11 yX11_areFalse yX11_areFalse ∈ lw_all := lw_in (List.mem_of_getElem? (i := 56) (by decide +kernel)) rfl
theorem qw57 : Cond.selects RX11 yX11_musical yX11_musical ∈ lw_all := lw_in (List.mem_of_getElem? (i := 57) (by decide +kernel)) rfl
theorem qw58 : Cond.selects RX11 yX11_called yX11_called ∈ lw_all := lw_in (List.mem_of_getElem? (i := 58) (by decide +kernel)) rfl
theorem qw59 : Cond.selects RX11 yX11_plainCourse yX11_plainCourse ∈ lw_all := lw_in (List.mem_of_getElem? (i := 59) (by decide +kernel)) rfl
theorem qw60 : Cond.initialized RL ∈ lw_all := lw_in (List.mem_of_getElem? (i := 60) (by decide +kernel)) rfl
theorem qw61 : Cond.initialized RX10 ∈ lw_all := lw_in (List.mem_of_getElem? (i := 61) (by decide +kernel)) rfl
theorem qw62 : Cond.initialized RX9 ∈ lw_all := lw_in (List.mem_of_getElem? (i := 62) (by decide +kernel)) rfl
theorem qw63 : Cond.initialized RX0 ∈ lw_all := lw_in (List.mem_of_getElem? (i := 63) (by decide +kernel)) rfl
theorem qw64 : Cond.initialized RX3 ∈ lw_all := lw_in (List.mem_of_getElem? (i := 64) (by decide +kernel)) rfl
theorem qw65 : Cond.initialized RX2 ∈ lw_all := lw_in (List.mem_of_getElem? (i := 65) (by decide +kernel)) rfl
theorem qw66 : Cond.initialized RX5 ∈ lw_all := lw_in (List.mem_of_getElem? (i := 66) (by decide +kernel)) rfl
theorem qw67 : Cond.initialized RX1 ∈ lw_all := lw_in (List.mem_of_getElem? (i := 67) (by decide +kernel)) rfl
theorem qw68 : Cond.initialized RX7 ∈ lw_all := lw_in (List.mem_of_getElem? (i := 68) (by decide +kernel)) rfl
theorem qw69 : Cond.initialized RX8 ∈ lw_all := lw_in (List.mem_of_getElem? (i := 69) (by decide +kernel)) rfl
theorem qw70 : Cond.initialized RJ0 ∈ lw_all := lw_in (List.mem_of_getElem? (i := 70) (by decide +kernel)) rfl
theorem qw71 : Cond.initialized RJ1 ∈ lw_all := lw_in (List.mem_of_getElem? (i := 71) (by decide +kernel)) rfl
theorem qw72 : Cond.initialized RJ2 ∈ lw_all := lw_in (List.mem_of_getElem? (i := 72) (by decide +kernel)) rfl
theorem qw73 : Cond.initialized RJ3 ∈ lw_all := lw_in (List.mem_of_getElem? (i := 73) (by decide +kernel)) rfl
theorem qw74 : Cond.initialized RX4 ∈ lw_all := lw_in (List.mem_of_getElem? (i := 74) (by decide +kernel)) rfl
theorem qw75 : Cond.initialized RJ10 ∈ lw_all := lw_in (List.mem_of_getElem? (i := 75) (by decide +kernel)) rfl
theorem qw76 : Cond.initialized RX11 ∈ lw_all := lw_in (List.mem_of_getElem? (i := 76) (by decide +kernel)) rfl
theorem qw77 : Cond.initialized RX6 ∈ lw_all := lw_in (List.mem_of_getElem? (i := 77) (by decide +kernel)) rfl
theorem qw78 : Cond.initialized RJ6 ∈ lw_all := lw_in (List.mem_of_getElem? (i := 78) (by decide +kernel)) rfl
theorem qw79 : Cond.initialized RJ7 ∈ lw_all := lw_in (List.mem_of_getElem? (i := 79) (by decide +kernel)) rfl
theorem qw80 : Cond.classLink RL 7 RX10 ∈ lw_all := lw_in (List.mem_of_getElem? (i := 80) (by decide +kernel)) rfl
theorem qw81 : Cond.instantiable RX10 9 ∈ lw_all := lw_in (List.mem_of_getElem? (i := 81) (by decide +kernel)) rfl
theorem qw82 : Cond.methodLink RL 9 yX10_init ∈ lw_all := lw_in (List.mem_of_getElem? (i := 82) (by decide +kernel)) rfl
theorem qw83 : Cond.instanceMethod yX10_init ∈ lw_all := lw_in (List.mem_of_getElem? (i := 83) (by decide +kernel)) rfl
theorem qw84 : Cond.code yX10_init cX10_init 1 none ∈ lw_all := lw_in (List.mem_of_getElem? (i := 84) (by decide +kernel)) rfl
theorem qw85 : Cond.methodLink RX10 3 ⟨"java/lang/Object", "<init>", "()V"⟩ ∈ lw_all := lw_in (List.mem_of_getElem? (i := 85) (by decide +kernel)) rfl
theorem qw86 : Cond.instanceMethod ⟨"java/lang/Object", "<init>", "()V"⟩ ∈ lw_all := lw_in (List.mem_of_getElem? (i := 86) (by decide +kernel)) rfl
theorem qw88 : Cond.classLink RX10 9 RX9 ∈ lw_all := lw_in (List.mem_of_getElem? (i := 88) (by decide +kernel)) rfl
theorem qw89 : Cond.instantiable RX9 7 ∈ lw_all := lw_in (List.mem_of_getElem? (i := 89) (by decide +kernel)) rfl
theorem qw90 : Cond.methodLinkNest RX10 11 yX9_init "CalledTouches" ∈ lw_nest := lw_inN (List.mem_of_getElem? (i := 90) (by decide +kernel)) rfl
theorem qw91 : Cond.instanceMethod yX9_init ∈ lw_all := lw_in (List.mem_of_getElem? (i := 91) (by decide +kernel)) rfl
theorem qw92 : Cond.code yX9_init cX9_init 1 none ∈ lw_all := lw_in (List.mem_of_getElem? (i := 92) (by decide +kernel)) rfl
theorem qw93 : Cond.methodLink RX9 3 ⟨"java/lang/Object", "<init>", "()V"⟩ ∈ lw_all := lw_in (List.mem_of_getElem? (i := 93) (by decide +kernel)) rfl
theorem qw94 : Cond.fieldLink RX9 18 "CalledTouches$Touch" "bells" "I" ∈ lw_all := lw_in (List.mem_of_getElem? (i := 94) (by decide +kernel)) rfl
theorem qw95 : Cond.fieldLinkNest RX5 21 "CalledTouches$Touch" "bells" "I" "CalledTouches" ∈ lw_nest := lw_inN (List.mem_of_getElem? (i := 95) (by decide +kernel)) rfl
theorem qw96 : Cond.fieldLinkNest RX1 32 "CalledTouches$Touch" "bells" "I" "CalledTouches" ∈ lw_nest := lw_inN (List.mem_of_getElem? (i := 96) (by decide +kernel)) rfl
theorem qw97 : Cond.fieldLinkNest RX10 65 "CalledTouches$Touch" "bells" "I" "CalledTouches" ∈ lw_nest := lw_inN (List.mem_of_getElem? (i := 97) (by decide +kernel)) rfl
theorem qw98 : Cond.fieldLink RX9 22 "CalledTouches$Touch" "changes" "I" ∈ lw_all := lw_in (List.mem_of_getElem? (i := 98) (by decide +kernel)) rfl
theorem qw99 : Cond.fieldLinkNest RX5 28 "CalledTouches$Touch" "changes" "I" "CalledTouches" ∈ lw_nest := lw_inN (List.mem_of_getElem? (i := 99) (by decide +kernel)) rfl
theorem qw100 : Cond.fieldLinkNest RX10 88 "CalledTouches$Touch" "changes" "I" "CalledTouches" ∈ lw_nest := lw_inN (List.mem_of_getElem? (i := 100) (by decide +kernel)) rfl
theorem qw101 : Cond.fieldLink RX9 25 "CalledTouches$Touch" "bob" "I" ∈ lw_all := lw_in (List.mem_of_getElem? (i := 101) (by decide +kernel)) rfl
theorem qw102 : Cond.fieldLinkNest RX10 97 "CalledTouches$Touch" "bob" "I" "CalledTouches" ∈ lw_nest := lw_inN (List.mem_of_getElem? (i := 102) (by decide +kernel)) rfl
theorem qw103 : Cond.fieldLink RX9 28 "CalledTouches$Touch" "single" "I" ∈ lw_all := lw_in (List.mem_of_getElem? (i := 103) (by decide +kernel)) rfl
theorem qw104 : Cond.fieldLinkNest RX10 100 "CalledTouches$Touch" "single" "I" "CalledTouches" ∈ lw_nest := lw_inN (List.mem_of_getElem? (i := 104) (by decide +kernel)) rfl
theorem qw105 : Cond.fieldLinkNest RX5 32 "CalledTouches$Touch" "leads" "I" "CalledTouches" ∈ lw_nest := lw_inN (List.mem_of_getElem? (i := 105) (by decide +kernel)) rfl
theorem qw106 : Cond.fieldLink RX9 31 "CalledTouches$Touch" "leads" "I" ∈ lw_all := lw_in (List.mem_of_getElem? (i := 106) (by decide +kernel)) rfl
theorem qw107 : Cond.fieldLinkNest RX10 107 "CalledTouches$Touch" "leads" "I" "CalledTouches" ∈ lw_nest := lw_inN (List.mem_of_getElem? (i := 107) (by decide +kernel)) rfl
theorem qw108 : Cond.fieldLink RX9 9 "CalledTouches$Touch" "places" "[I" ∈ lw_all := lw_in (List.mem_of_getElem? (i := 108) (by decide +kernel)) rfl
theorem qw109 : Cond.fieldLink RX9 15 "CalledTouches$Touch" "kinds" "[I" ∈ lw_all := lw_in (List.mem_of_getElem? (i := 109) (by decide +kernel)) rfl
theorem qw125 : Cond.arrayClass .int ∈ lw_all := lw_in (List.mem_of_getElem? (i := 125) (by decide +kernel)) rfl
theorem qw126 : Cond.classLink RX10 22 RX0 ∈ lw_all := lw_in (List.mem_of_getElem? (i := 126) (by decide +kernel)) rfl
theorem qw127 : Cond.instantiable RX0 2 ∈ lw_all := lw_in (List.mem_of_getElem? (i := 127) (by decide +kernel)) rfl
theorem qw128 : Cond.methodLink RX10 24 yX0_init ∈ lw_all := lw_in (List.mem_of_getElem? (i := 128) (by decide +kernel)) rfl
theorem qw129 : Cond.instanceMethod yX0_init ∈ lw_all := lw_in (List.mem_of_getElem? (i := 129) (by decide +kernel)) rfl
theorem qw130 : Cond.code yX0_init cX0_init 2 none ∈ lw_all := lw_in (List.mem_of_getElem? (i := 130) (by decide +kernel)) rfl
theorem qw131 : Cond.methodLink RX0 3 ⟨"java/lang/Object", "<init>", "()V"⟩ ∈ lw_all := lw_in (List.mem_of_getElem? (i := 131) (by decide +kernel)) rfl
theorem qw132 : Cond.classLink RX0 9 RX9 ∈ lw_all := lw_in (List.mem_of_getElem? (i := 132) (by decide +kernel)) rfl
theorem qw134 : Cond.methodLinkNest RX0 17 yX9_init "CalledTouches" ∈ lw_nest := lw_inN (List.mem_of_getElem? (i := 134) (by decide +kernel)) rfl
theorem qw135 : Cond.fieldLink RX0 11 "CalledTouches$History" "states" "[LCalledTouches$Touch;" ∈ lw_all := lw_in (List.mem_of_getElem? (i := 135) (by decide +kernel)) rfl
theorem qw136 : Cond.fieldLink RX0 18 "CalledTouches$History" "size" "I" ∈ lw_all := lw_in (List.mem_of_getElem? (i := 136) (by decide +kernel)) rfl
theorem qw137 : Cond.fieldLinkNest RX10 192 "CalledTouches$History" "size" "I" "CalledTouches" ∈ lw_nest := lw_inN (List.mem_of_getElem? (i := 137) (by decide +kernel)) rfl
theorem qw143 : Cond.classLink RX10 29 RX3 ∈ lw_all := lw_in (List.mem_of_getElem? (i := 143) (by decide +kernel)) rfl
theorem qw144 : Cond.instantiable RX3 2 ∈ lw_all := lw_in (List.mem_of_getElem? (i := 144) (by decide +kernel)) rfl
theorem qw145 : Cond.methodLinkNest RX10 31 yX3_init "CalledTouches" ∈ lw_nest := lw_inN (List.mem_of_getElem? (i := 145) (by decide +kernel)) rfl
theorem qw146 : Cond.instanceMethod yX3_init ∈ lw_all := lw_in (List.mem_of_getElem? (i := 146) (by decide +kernel)) rfl
theorem qw147 : Cond.code yX3_init cX3_init 1 none ∈ lw_all := lw_in (List.mem_of_getElem? (i := 147) (by decide +kernel)) rfl
theorem qw148 : Cond.methodLink RX3 3 ⟨"java/lang/Object", "<init>", "()V"⟩ ∈ lw_all := lw_in (List.mem_of_getElem? (i := 148) (by decide +kernel)) rfl
theorem qw149 : Cond.fieldLink RX3 9 "CalledTouches$Pad" "signs" "[C" ∈ lw_all := lw_in (List.mem_of_getElem? (i := 149) (by decide +kernel)) rfl
theorem qw150 : Cond.fieldLinkNest RX10 73 "CalledTouches$Pad" "signs" "[C" "CalledTouches" ∈ lw_nest := lw_inN (List.mem_of_getElem? (i := 150) (by decide +kernel)) rfl
theorem qw151 : Cond.fieldLink RX3 15 "CalledTouches$Pad" "length" "I" ∈ lw_all := lw_in (List.mem_of_getElem? (i := 151) (by decide +kernel)) rfl
theorem qw152 : Cond.fieldLinkNest RX10 77 "CalledTouches$Pad" "length" "I" "CalledTouches" ∈ lw_nest := lw_inN (List.mem_of_getElem? (i := 152) (by decide +kernel)) rfl
theorem qw158 : Cond.arrayClass .char ∈ lw_all := lw_in (List.mem_of_getElem? (i := 158) (by decide +kernel)) rfl
theorem qw159 : Cond.classLink RX10 36 RX2 ∈ lw_all := lw_in (List.mem_of_getElem? (i := 159) (by decide +kernel)) rfl
theorem qw160 : Cond.instantiable RX2 5 ∈ lw_all := lw_in (List.mem_of_getElem? (i := 160) (by decide +kernel)) rfl
theorem qw161 : Cond.methodLinkNest RX10 38 yX2_init "CalledTouches" ∈ lw_nest := lw_inN (List.mem_of_getElem? (i := 161) (by decide +kernel)) rfl
theorem qw162 : Cond.instanceMethod yX2_init ∈ lw_all := lw_in (List.mem_of_getElem? (i := 162) (by decide +kernel)) rfl
theorem qw163 : Cond.code yX2_init cX2_init 1 none ∈ lw_all := lw_in (List.mem_of_getElem? (i := 163) (by decide +kernel)) rfl
theorem qw164 : Cond.methodLink RX2 3 ⟨"java/lang/Object", "<init>", "()V"⟩ ∈ lw_all := lw_in (List.mem_of_getElem? (i := 164) (by decide +kernel)) rfl
theorem qw165 : Cond.fieldLink RX2 9 "CalledTouches$MethodReader" "places" "[I" ∈ lw_all := lw_in (List.mem_of_getElem? (i := 165) (by decide +kernel)) rfl
theorem qw166 : Cond.fieldLinkNest RX9 43 "CalledTouches$MethodReader" "places" "[I" "CalledTouches" ∈ lw_nest := lw_inN (List.mem_of_getElem? (i := 166) (by decide +kernel)) rfl
theorem qw167 : Cond.fieldLinkNest RX10 250 "CalledTouches$MethodReader" "places" "[I" "CalledTouches" ∈ lw_nest := lw_inN (List.mem_of_getElem? (i := 167) (by decide +kernel)) rfl
theorem qw168 : Cond.fieldLink RX2 15 "CalledTouches$MethodReader" "changes" "I" ∈ lw_all := lw_in (List.mem_of_getElem? (i := 168) (by decide +kernel)) rfl
theorem qw169 : Cond.fieldLinkNest RX9 40 "CalledTouches$MethodReader" "changes" "I" "CalledTouches" ∈ lw_nest := lw_inN (List.mem_of_getElem? (i := 169) (by decide +kernel)) rfl
theorem qw170 : Cond.fieldLink RX2 50 "CalledTouches$MethodReader" "made" "I" ∈ lw_all := lw_in (List.mem_of_getElem? (i := 170) (by decide +kernel)) rfl
theorem qw171 : Cond.fieldLink RX2 47 "CalledTouches$MethodReader" "lastPlace" "I" ∈ lw_all := lw_in (List.mem_of_getElem? (i := 171) (by decide +kernel)) rfl
theorem qw172 : Cond.fieldLink RX2 43 "CalledTouches$MethodReader" "crossed" "Z" ∈ lw_all := lw_in (List.mem_of_getElem? (i := 172) (by decide +kernel)) rfl
theorem qw184 : Cond.classLink RX10 43 RX5 ∈ lw_all := lw_in (List.mem_of_getElem? (i := 184) (by decide +kernel)) rfl
theorem qw185 : Cond.instantiable RX5 7 ∈ lw_all := lw_in (List.mem_of_getElem? (i := 185) (by decide +kernel)) rfl
theorem qw186 : Cond.methodLinkNest RX10 45 yX5_init "CalledTouches" ∈ lw_nest := lw_inN (List.mem_of_getElem? (i := 186) (by decide +kernel)) rfl
theorem qw187 : Cond.instanceMethod yX5_init ∈ lw_all := lw_in (List.mem_of_getElem? (i := 187) (by decide +kernel)) rfl
theorem qw188 : Cond.code yX5_init cX5_init 1 none ∈ lw_all := lw_in (List.mem_of_getElem? (i := 188) (by decide +kernel)) rfl
theorem qw189 : Cond.methodLink RX5 3 ⟨"java/lang/Object", "<init>", "()V"⟩ ∈ lw_all := lw_in (List.mem_of_getElem? (i := 189) (by decide +kernel)) rfl
theorem qw190 : Cond.fieldLink RX5 9 "CalledTouches$Ringing" "rows" "[I" ∈ lw_all := lw_in (List.mem_of_getElem? (i := 190) (by decide +kernel)) rfl
theorem qw191 : Cond.fieldLink RX5 15 "CalledTouches$Ringing" "firsts" "[I" ∈ lw_all := lw_in (List.mem_of_getElem? (i := 191) (by decide +kernel)) rfl
theorem qw192 : Cond.fieldLink RX5 18 "CalledTouches$Ringing" "firstOfRank" "[I" ∈ lw_all := lw_in (List.mem_of_getElem? (i := 192) (by decide +kernel)) rfl
theorem qw193 : Cond.fieldLink RX5 27 "CalledTouches$Ringing" "bells" "I" ∈ lw_all := lw_in (List.mem_of_getElem? (i := 193) (by decide +kernel)) rfl
theorem qw194 : Cond.fieldLink RX5 31 "CalledTouches$Ringing" "changes" "I" ∈ lw_all := lw_in (List.mem_of_getElem? (i := 194) (by decide +kernel)) rfl
theorem qw195 : Cond.fieldLink RX5 35 "CalledTouches$Ringing" "leads" "I" ∈ lw_all := lw_in (List.mem_of_getElem? (i := 195) (by decide +kernel)) rfl
theorem qw196 : Cond.fieldLink RX5 42 "CalledTouches$Ringing" "last" "I" ∈ lw_all := lw_in (List.mem_of_getElem? (i := 196) (by decide +kernel)) rfl
theorem qw197 : Cond.fieldLinkNest RX10 180 "CalledTouches$Ringing" "last" "I" "CalledTouches" ∈ lw_nest := lw_inN (List.mem_of_getElem? (i := 197) (by decide +kernel)) rfl
theorem qw213 : Cond.classLink RX10 50 RX1 ∈ lw_all := lw_in (List.mem_of_getElem? (i := 213) (by decide +kernel)) rfl
theorem qw214 : Cond.instantiable RX1 5 ∈ lw_all := lw_in (List.mem_of_getElem? (i := 214) (by decide +kernel)) rfl
theorem qw215 : Cond.methodLinkNest RX10 52 yX1_init "CalledTouches" ∈ lw_nest := lw_inN (List.mem_of_getElem? (i := 215) (by decide +kernel)) rfl
theorem qw216 : Cond.instanceMethod yX1_init ∈ lw_all := lw_in (List.mem_of_getElem? (i := 216) (by decide +kernel)) rfl
theorem qw217 : Cond.code yX1_init cX1_init 1 none ∈ lw_all := lw_in (List.mem_of_getElem? (i := 217) (by decide +kernel)) rfl
theorem qw218 : Cond.methodLink RX1 3 ⟨"java/lang/Object", "<init>", "()V"⟩ ∈ lw_all := lw_in (List.mem_of_getElem? (i := 218) (by decide +kernel)) rfl
theorem qw219 : Cond.classLink RX1 9 RX7 ∈ lw_all := lw_in (List.mem_of_getElem? (i := 219) (by decide +kernel)) rfl
theorem qw220 : Cond.instantiable RX7 4 ∈ lw_all := lw_in (List.mem_of_getElem? (i := 220) (by decide +kernel)) rfl
theorem qw221 : Cond.methodLinkNest RX1 11 yX7_init "CalledTouches" ∈ lw_nest := lw_inN (List.mem_of_getElem? (i := 221) (by decide +kernel)) rfl
theorem qw222 : Cond.instanceMethod yX7_init ∈ lw_all := lw_in (List.mem_of_getElem? (i := 222) (by decide +kernel)) rfl
theorem qw223 : Cond.code yX7_init cX7_init 1 none ∈ lw_all := lw_in (List.mem_of_getElem? (i := 223) (by decide +kernel)) rfl
theorem qw224 : Cond.methodLink RX7 3 ⟨"java/lang/Object", "<init>", "()V"⟩ ∈ lw_all := lw_in (List.mem_of_getElem? (i := 224) (by decide +kernel)) rfl
theorem qw225 : Cond.fieldLink RX7 9 "CalledTouches$Spread" "fewest" "[I" ∈ lw_all := lw_in (List.mem_of_getElem? (i := 225) (by decide +kernel)) rfl
theorem qw226 : Cond.fieldLink RX7 15 "CalledTouches$Spread" "reached" "[I" ∈ lw_all := lw_in (List.mem_of_getElem? (i := 226) (by decide +kernel)) rfl
theorem qw227 : Cond.fieldLink RX7 18 "CalledTouches$Spread" "bells" "I" ∈ lw_all := lw_in (List.mem_of_getElem? (i := 227) (by decide +kernel)) rfl
theorem qw228 : Cond.fieldLink RX7 22 "CalledTouches$Spread" "size" "I" ∈ lw_all := lw_in (List.mem_of_getElem? (i := 228) (by decide +kernel)) rfl
theorem qw238 : Cond.fieldLink RX1 12 "CalledTouches$Homeward" "fromRounds" "LCalledTouches$Spread;" ∈ lw_all := lw_in (List.mem_of_getElem? (i := 238) (by decide +kernel)) rfl
theorem qw239 : Cond.fieldLink RX1 18 "CalledTouches$Homeward" "fromRow" "LCalledTouches$Spread;" ∈ lw_all := lw_in (List.mem_of_getElem? (i := 239) (by decide +kernel)) rfl
theorem qw240 : Cond.fieldLink RX1 21 "CalledTouches$Homeward" "leads" "[I" ∈ lw_all := lw_in (List.mem_of_getElem? (i := 240) (by decide +kernel)) rfl
theorem qw241 : Cond.fieldLink RX1 25 "CalledTouches$Homeward" "leadsBack" "[I" ∈ lw_all := lw_in (List.mem_of_getElem? (i := 241) (by decide +kernel)) rfl
theorem qw242 : Cond.fieldLink RX1 28 "CalledTouches$Homeward" "bells" "I" ∈ lw_all := lw_in (List.mem_of_getElem? (i := 242) (by decide +kernel)) rfl
theorem qw254 : Cond.methodLink RX10 57 yX10_begin ∈ lw_all := lw_in (List.mem_of_getElem? (i := 254) (by decide +kernel)) rfl
theorem qw256 : Cond.instanceMethod yX10_begin ∈ lw_all := lw_in (List.mem_of_getElem? (i := 256) (by decide +kernel)) rfl
theorem qw257 : Cond.code yX10_begin cX10_begin 5 none ∈ lw_all := lw_in (List.mem_of_getElem? (i := 257) (by decide +kernel)) rfl
theorem qw258 : Cond.methodLink RX10 234 yX8_bob ∈ lw_all := lw_in (List.mem_of_getElem? (i := 258) (by decide +kernel)) rfl
theorem qw259 : Cond.static yX8_bob ∈ lw_all := lw_in (List.mem_of_getElem? (i := 259) (by decide +kernel)) rfl
theorem qw260 : Cond.code yX8_bob cX8_bob 1 (some (.object RJ0)) ∈ lw_all := lw_in (List.mem_of_getElem? (i := 260) (by decide +kernel)) rfl
theorem qw264 : Cond.methodLink RX10 239 yJ0_toCharArray_70df3 ∈ lw_all := lw_in (List.mem_of_getElem? (i := 264) (by decide +kernel)) rfl
theorem qw265 : Cond.instanceMethod yJ0_toCharArray_70df3 ∈ lw_all := lw_in (List.mem_of_getElem? (i := 265) (by decide +kernel)) rfl
theorem qw266 : Cond.selects RJ0 yJ0_toCharArray_70df3 yJ0_toCharArray_70df3 ∈ lw_all := lw_in (List.mem_of_getElem? (i := 266) (by decide +kernel)) rfl
theorem qw267 : Cond.code yJ0_toCharArray_70df3 cJ0_toCharArray_70df3 1 (some (.array .char)) ∈ lw_all := lw_in (List.mem_of_getElem? (i := 267) (by decide +kernel)) rfl
theorem qw268 : Cond.methodLink RJ0 492 yJ0_isLatin1_aae02 ∈ lw_all := lw_in (List.mem_of_getElem? (i := 268) (by decide +kernel)) rfl
theorem qw269 : Cond.instanceMethod yJ0_isLatin1_aae02 ∈ lw_all := lw_in (List.mem_of_getElem? (i := 269) (by decide +kernel)) rfl
theorem qw270 : Cond.selects RJ0 yJ0_isLatin1_aae02 yJ0_isLatin1_aae02 ∈ lw_all := lw_in (List.mem_of_getElem? (i := 270) (by decide +kernel)) rfl
theorem qw271 : Cond.code yJ0_isLatin1_aae02 cJ0_isLatin1_aae02 1 (some .boolean) ∈ lw_all := lw_in (List.mem_of_getElem? (i := 271) (by decide +kernel)) rfl
theorem qw272 : Cond.fieldLink RJ0 38 "java/lang/String" "COMPACT_STRINGS" "Z" ∈ lw_all := lw_in (List.mem_of_getElem? (i := 272) (by decide +kernel)) rfl
theorem qw274 : Cond.methodLink RJ0 299 yJ1_toChars_9d188 ∈ lw_all := lw_in (List.mem_of_getElem? (i := 274) (by decide +kernel)) rfl
theorem qw275 : Cond.static yJ1_toChars_9d188 ∈ lw_all := lw_in (List.mem_of_getElem? (i := 275) (by decide +kernel)) rfl
theorem qw276 : Cond.code yJ1_toChars_9d188 cJ1_toChars_9d188 2 (some (.array .char)) ∈ lw_all := lw_in (List.mem_of_getElem? (i := 276) (by decide +kernel)) rfl
theorem qw277 : Cond.methodLink RJ1 13 yJ1_inflate_03870 ∈ lw_all := lw_in (List.mem_of_getElem? (i := 277) (by decide +kernel)) rfl
theorem qw278 : Cond.static yJ1_inflate_03870 ∈ lw_all := lw_in (List.mem_of_getElem? (i := 278) (by decide +kernel)) rfl
theorem qw279 : Cond.code yJ1_inflate_03870 cJ1_inflate_03870 6 none ∈ lw_all := lw_in (List.mem_of_getElem? (i := 279) (by decide +kernel)) rfl
theorem qw280 : Cond.methodLink RJ0 303 yJ2_toChars_9d188 ∈ lw_all := lw_in (List.mem_of_getElem? (i := 280) (by decide +kernel)) rfl
theorem qw281 : Cond.static yJ2_toChars_9d188 ∈ lw_all := lw_in (List.mem_of_getElem? (i := 281) (by decide +kernel)) rfl
theorem qw282 : Cond.code yJ2_toChars_9d188 cJ2_toChars_9d188 2 (some (.array .char)) ∈ lw_all := lw_in (List.mem_of_getElem? (i := 282) (by decide +kernel)) rfl
theorem qw283 : Cond.methodLink RJ2 103 yJ2_getChars_a1a8b ∈ lw_all := lw_in (List.mem_of_getElem? (i := 283) (by decide +kernel)) rfl
theorem qw284 : Cond.static yJ2_getChars_a1a8b ∈ lw_all := lw_in (List.mem_of_getElem? (i := 284) (by decide +kernel)) rfl
theorem qw285 : Cond.code yJ2_getChars_a1a8b cJ2_getChars_a1a8b 6 none ∈ lw_all := lw_in (List.mem_of_getElem? (i := 285) (by decide +kernel)) rfl
theorem qw286 : Cond.methodLink RJ2 173 yJ2_checkBoundsOffCount_d044e ∈ lw_all := lw_in (List.mem_of_getElem? (i := 286) (by decide +kernel)) rfl
theorem qw287 : Cond.static yJ2_checkBoundsOffCount_d044e ∈ lw_all := lw_in (List.mem_of_getElem? (i := 287) (by decide +kernel)) rfl
theorem qw288 : Cond.code yJ2_checkBoundsOffCount_d044e cJ2_checkBoundsOffCount_d044e 3 none ∈ lw_all := lw_in (List.mem_of_getElem? (i := 288) (by decide +kernel)) rfl
theorem qw289 : Cond.methodLink RJ2 48 yJ2_length_9d52b ∈ lw_all := lw_in (List.mem_of_getElem? (i := 289) (by decide +kernel)) rfl
theorem qw290 : Cond.static yJ2_length_9d52b ∈ lw_all := lw_in (List.mem_of_getElem? (i := 290) (by decide +kernel)) rfl
theorem qw291 : Cond.code yJ2_length_9d52b cJ2_length_9d52b 1 (some .int) ∈ lw_all := lw_in (List.mem_of_getElem? (i := 291) (by decide +kernel)) rfl
theorem qw292 : Cond.methodLink RJ2 419 yJ0_checkBoundsOffCount_cabcc ∈ lw_all := lw_in (List.mem_of_getElem? (i := 292) (by decide +kernel)) rfl
theorem qw293 : Cond.static yJ0_checkBoundsOffCount_cabcc ∈ lw_all := lw_in (List.mem_of_getElem? (i := 293) (by decide +kernel)) rfl
theorem qw294 : Cond.code yJ0_checkBoundsOffCount_cabcc cJ0_checkBoundsOffCount_cabcc 3 (some .int) ∈ lw_all := lw_in (List.mem_of_getElem? (i := 294) (by decide +kernel)) rfl
theorem qw295 : Cond.fieldLink RJ0 1053 "jdk/internal/util/Preconditions" "SIOOBE_FORMATTER" "Ljava/util/function/BiFunction;" ∈ lw_all := lw_in (List.mem_of_getElem? (i := 295) (by decide +kernel)) rfl
theorem qw297 : Cond.methodLink RJ0 1065 yJ3_checkFromIndexSize_8c36e ∈ lw_all := lw_in (List.mem_of_getElem? (i := 297) (by decide +kernel)) rfl
theorem qw298 : Cond.static yJ3_checkFromIndexSize_8c36e ∈ lw_all := lw_in (List.mem_of_getElem? (i := 298) (by decide +kernel)) rfl
theorem qw299 : Cond.code yJ3_checkFromIndexSize_8c36e cJ3_checkFromIndexSize_8c36e 4 (some .int) ∈ lw_all := lw_in (List.mem_of_getElem? (i := 299) (by decide +kernel)) rfl
theorem qw300 : Cond.methodLink RJ2 71 yJ2_getChar_3b067 ∈ lw_all := lw_in (List.mem_of_getElem? (i := 300) (by decide +kernel)) rfl
theorem qw301 : Cond.static yJ2_getChar_3b067 ∈ lw_all := lw_in (List.mem_of_getElem? (i := 301) (by decide +kernel)) rfl
theorem qw302 : Cond.code yJ2_getChar_3b067 cJ2_getChar_3b067 2 (some .char) ∈ lw_all := lw_in (List.mem_of_getElem? (i := 302) (by decide +kernel)) rfl
theorem qw303 : Cond.fieldLink RJ2 44 "java/lang/StringUTF16" "$assertionsDisabled" "Z" ∈ lw_all := lw_in (List.mem_of_getElem? (i := 303) (by decide +kernel)) rfl
theorem qw305 : Cond.fieldLink RJ2 59 "java/lang/StringUTF16" "HI_BYTE_SHIFT" "I" ∈ lw_all := lw_in (List.mem_of_getElem? (i := 305) (by decide +kernel)) rfl
theorem qw307 : Cond.fieldLink RJ2 63 "java/lang/StringUTF16" "LO_BYTE_SHIFT" "I" ∈ lw_all := lw_in (List.mem_of_getElem? (i := 307) (by decide +kernel)) rfl
theorem qw309 : Cond.methodLink RX10 245 yX8_single ∈ lw_all := lw_in (List.mem_of_getElem? (i := 309) (by decide +kernel)) rfl
theorem qw310 : Cond.static yX8_single ∈ lw_all := lw_in (List.mem_of_getElem? (i := 310) (by decide +kernel)) rfl
theorem qw311 : Cond.code yX8_single cX8_single 1 (some (.object RJ0)) ∈ lw_all := lw_in (List.mem_of_getElem? (i := 311) (by decide +kernel)) rfl
theorem qw316 : Cond.methodLink RX10 247 yX8_lead ∈ lw_all := lw_in (List.mem_of_getElem? (i := 316) (by decide +kernel)) rfl
theorem qw317 : Cond.static yX8_lead ∈ lw_all := lw_in (List.mem_of_getElem? (i := 317) (by decide +kernel)) rfl
theorem qw318 : Cond.code yX8_lead cX8_lead 1 (some (.object RJ0)) ∈ lw_all := lw_in (List.mem_of_getElem? (i := 318) (by decide +kernel)) rfl
theorem qw323 : Cond.methodLink RX10 80 yX2_read ∈ lw_all := lw_in (List.mem_of_getElem? (i := 323) (by decide +kernel)) rfl
theorem qw324 : Cond.instanceMethod yX2_read ∈ lw_all := lw_in (List.mem_of_getElem? (i := 324) (by decide +kernel)) rfl
theorem qw325 : Cond.selects RX2 yX2_read yX2_read ∈ lw_all := lw_in (List.mem_of_getElem? (i := 325) (by decide +kernel)) rfl
theorem qw326 : Cond.code yX2_read cX2_read 5 (some .int) ∈ lw_all := lw_in (List.mem_of_getElem? (i := 326) (by decide +kernel)) rfl
theorem qw327 : Cond.methodLink RX2 19 yX2_beginChange ∈ lw_all := lw_in (List.mem_of_getElem? (i := 327) (by decide +kernel)) rfl
theorem qw329 : Cond.instanceMethod yX2_beginChange ∈ lw_all := lw_in (List.mem_of_getElem? (i := 329) (by decide +kernel)) rfl
theorem qw330 : Cond.code yX2_beginChange cX2_beginChange 1 none ∈ lw_all := lw_in (List.mem_of_getElem? (i := 330) (by decide +kernel)) rfl
theorem qw331 : Cond.methodLink RX2 22 yX2_accepts ∈ lw_all := lw_in (List.mem_of_getElem? (i := 331) (by decide +kernel)) rfl
theorem qw333 : Cond.instanceMethod yX2_accepts ∈ lw_all := lw_in (List.mem_of_getElem? (i := 333) (by decide +kernel)) rfl
theorem qw334 : Cond.code yX2_accepts cX2_accepts 3 (some .boolean) ∈ lw_all := lw_in (List.mem_of_getElem? (i := 334) (by decide +kernel)) rfl
theorem qw335 : Cond.methodLink RX2 33 yX2_acceptsDot ∈ lw_all := lw_in (List.mem_of_getElem? (i := 335) (by decide +kernel)) rfl
theorem qw337 : Cond.instanceMethod yX2_acceptsDot ∈ lw_all := lw_in (List.mem_of_getElem? (i := 337) (by decide +kernel)) rfl
theorem qw338 : Cond.code yX2_acceptsDot cX2_acceptsDot 2 (some .boolean) ∈ lw_all := lw_in (List.mem_of_getElem? (i := 338) (by decide +kernel)) rfl
theorem qw339 : Cond.methodLink RX2 26 yX2_isChangeRight ∈ lw_all := lw_in (List.mem_of_getElem? (i := 339) (by decide +kernel)) rfl
theorem qw341 : Cond.instanceMethod yX2_isChangeRight ∈ lw_all := lw_in (List.mem_of_getElem? (i := 341) (by decide +kernel)) rfl
theorem qw342 : Cond.code yX2_isChangeRight cX2_isChangeRight 2 (some .boolean) ∈ lw_all := lw_in (List.mem_of_getElem? (i := 342) (by decide +kernel)) rfl
theorem qw343 : Cond.methodLink RX2 30 yX2_keepChange ∈ lw_all := lw_in (List.mem_of_getElem? (i := 343) (by decide +kernel)) rfl
theorem qw345 : Cond.instanceMethod yX2_keepChange ∈ lw_all := lw_in (List.mem_of_getElem? (i := 345) (by decide +kernel)) rfl
theorem qw346 : Cond.code yX2_keepChange cX2_keepChange 1 none ∈ lw_all := lw_in (List.mem_of_getElem? (i := 346) (by decide +kernel)) rfl
theorem qw347 : Cond.methodLink RX2 36 yX2_acceptsCross ∈ lw_all := lw_in (List.mem_of_getElem? (i := 347) (by decide +kernel)) rfl
theorem qw349 : Cond.instanceMethod yX2_acceptsCross ∈ lw_all := lw_in (List.mem_of_getElem? (i := 349) (by decide +kernel)) rfl
theorem qw350 : Cond.code yX2_acceptsCross cX2_acceptsCross 2 (some .boolean) ∈ lw_all := lw_in (List.mem_of_getElem? (i := 350) (by decide +kernel)) rfl
theorem qw351 : Cond.methodLink RX2 39 yX2_acceptsPlace ∈ lw_all := lw_in (List.mem_of_getElem? (i := 351) (by decide +kernel)) rfl
theorem qw353 : Cond.instanceMethod yX2_acceptsPlace ∈ lw_all := lw_in (List.mem_of_getElem? (i := 353) (by decide +kernel)) rfl
theorem qw354 : Cond.code yX2_acceptsPlace cX2_acceptsPlace 5 (some .boolean) ∈ lw_all := lw_in (List.mem_of_getElem? (i := 354) (by decide +kernel)) rfl
theorem qw355 : Cond.methodLink RX2 53 yX4_bit ∈ lw_all := lw_in (List.mem_of_getElem? (i := 355) (by decide +kernel)) rfl
theorem qw356 : Cond.static yX4_bit ∈ lw_all := lw_in (List.mem_of_getElem? (i := 356) (by decide +kernel)) rfl
theorem qw357 : Cond.code yX4_bit cX4_bit 1 (some .int) ∈ lw_all := lw_in (List.mem_of_getElem? (i := 357) (by decide +kernel)) rfl
theorem qw358 : Cond.methodLink RX10 84 yX9_takeMethod ∈ lw_all := lw_in (List.mem_of_getElem? (i := 358) (by decide +kernel)) rfl
theorem qw359 : Cond.instanceMethod yX9_takeMethod ∈ lw_all := lw_in (List.mem_of_getElem? (i := 359) (by decide +kernel)) rfl
theorem qw360 : Cond.selects RX9 yX9_takeMethod yX9_takeMethod ∈ lw_all := lw_in (List.mem_of_getElem? (i := 360) (by decide +kernel)) rfl
theorem qw361 : Cond.code yX9_takeMethod cX9_takeMethod 2 none ∈ lw_all := lw_in (List.mem_of_getElem? (i := 361) (by decide +kernel)) rfl
theorem qw362 : Cond.methodLink RX9 34 ⟨RJ10, "arraycopy", "(Ljava/lang/Object;ILjava/lang/Object;II)V"⟩ ∈ lw_all := lw_in (List.mem_of_getElem? (i := 362) (by decide +kernel)) rfl
theorem qw363 : Cond.static ⟨RJ10, "arraycopy", "(Ljava/lang/Object;ILjava/lang/Object;II)V"⟩ ∈ lw_all := lw_in (List.mem_of_getElem? (i := 363) (by decide +kernel)) rfl
theorem qw364 : Cond.native ⟨RJ10, "arraycopy", "(Ljava/lang/Object;ILjava/lang/Object;II)V"⟩ ∈ lw_all := lw_in (List.mem_of_getElem? (i := 364) (by decide +kernel)) rfl
theorem qw365 : Cond.fieldLink RX10 12 "CalledTouches" "now" "LCalledTouches$Touch;" ∈ lw_all := lw_in (List.mem_of_getElem? (i := 365) (by decide +kernel)) rfl
theorem qw366 : Cond.fieldLink RX10 16 "CalledTouches" "trial" "LCalledTouches$Touch;" ∈ lw_all := lw_in (List.mem_of_getElem? (i := 366) (by decide +kernel)) rfl
theorem qw367 : Cond.fieldLink RX10 19 "CalledTouches" "snapshot" "LCalledTouches$Touch;" ∈ lw_all := lw_in (List.mem_of_getElem? (i := 367) (by decide +kernel)) rfl
theorem qw368 : Cond.fieldLink RX10 230 "CalledTouches" "hasSnapshot" "Z" ∈ lw_all := lw_in (List.mem_of_getElem? (i := 368) (by decide +kernel)) rfl
theorem qw369 : Cond.fieldLink RX10 25 "CalledTouches" "history" "LCalledTouches$History;" ∈ lw_all := lw_in (List.mem_of_getElem? (i := 369) (by decide +kernel)) rfl
theorem qw370 : Cond.fieldLink RX10 32 "CalledTouches" "pad" "LCalledTouches$Pad;" ∈ lw_all := lw_in (List.mem_of_getElem? (i := 370) (by decide +kernel)) rfl
theorem qw371 : Cond.fieldLink RX10 39 "CalledTouches" "reader" "LCalledTouches$MethodReader;" ∈ lw_all := lw_in (List.mem_of_getElem? (i := 371) (by decide +kernel)) rfl
theorem qw372 : Cond.fieldLink RX10 46 "CalledTouches" "ringing" "LCalledTouches$Ringing;" ∈ lw_all := lw_in (List.mem_of_getElem? (i := 372) (by decide +kernel)) rfl
theorem qw373 : Cond.fieldLink RX10 53 "CalledTouches" "homeward" "LCalledTouches$Homeward;" ∈ lw_all := lw_in (List.mem_of_getElem? (i := 373) (by decide +kernel)) rfl
theorem qw393 : Cond.arrayClass .byte ∈ lw_all := lw_in (List.mem_of_getElem? (i := 393) (by decide +kernel)) rfl
theorem qw394 : Cond.methodLink RL 13 yX10_bells ∈ lw_all := lw_in (List.mem_of_getElem? (i := 394) (by decide +kernel)) rfl
theorem qw395 : Cond.instanceMethod yX10_bells ∈ lw_all := lw_in (List.mem_of_getElem? (i := 395) (by decide +kernel)) rfl
theorem qw396 : Cond.selects RX10 yX10_bells yX10_bells ∈ lw_all := lw_in (List.mem_of_getElem? (i := 396) (by decide +kernel)) rfl
theorem qw397 : Cond.code yX10_bells cX10_bells 3 (some .int) ∈ lw_all := lw_in (List.mem_of_getElem? (i := 397) (by decide +kernel)) rfl
theorem qw398 : Cond.methodLink RX10 61 yX10_isWithin ∈ lw_all := lw_in (List.mem_of_getElem? (i := 398) (by decide +kernel)) rfl
theorem qw399 : Cond.static yX10_isWithin ∈ lw_all := lw_in (List.mem_of_getElem? (i := 399) (by decide +kernel)) rfl
theorem qw400 : Cond.code yX10_isWithin cX10_isWithin 3 (some .boolean) ∈ lw_all := lw_in (List.mem_of_getElem? (i := 400) (by decide +kernel)) rfl
theorem qw401 : Cond.methodLink RX10 69 yX0_record ∈ lw_all := lw_in (List.mem_of_getElem? (i := 401) (by decide +kernel)) rfl
theorem qw402 : Cond.instanceMethod yX0_record ∈ lw_all := lw_in (List.mem_of_getElem? (i := 402) (by decide +kernel)) rfl
theorem qw403 : Cond.selects RX0 yX0_record yX0_record ∈ lw_all := lw_in (List.mem_of_getElem? (i := 403) (by decide +kernel)) rfl
theorem qw404 : Cond.code yX0_record cX0_record 2 none ∈ lw_all := lw_in (List.mem_of_getElem? (i := 404) (by decide +kernel)) rfl
theorem qw405 : Cond.methodLink RX0 22 yX0_dropOldest ∈ lw_all := lw_in (List.mem_of_getElem? (i := 405) (by decide +kernel)) rfl
theorem qw407 : Cond.instanceMethod yX0_dropOldest ∈ lw_all := lw_in (List.mem_of_getElem? (i := 407) (by decide +kernel)) rfl
theorem qw408 : Cond.code yX0_dropOldest cX0_dropOldest 3 none ∈ lw_all := lw_in (List.mem_of_getElem? (i := 408) (by decide +kernel)) rfl
theorem qw409 : Cond.methodLink RX0 25 yX9_become ∈ lw_all := lw_in (List.mem_of_getElem? (i := 409) (by decide +kernel)) rfl
theorem qw410 : Cond.instanceMethod yX9_become ∈ lw_all := lw_in (List.mem_of_getElem? (i := 410) (by decide +kernel)) rfl
theorem qw411 : Cond.selects RX9 yX9_become yX9_become ∈ lw_all := lw_in (List.mem_of_getElem? (i := 411) (by decide +kernel)) rfl
theorem qw412 : Cond.code yX9_become cX9_become 2 none ∈ lw_all := lw_in (List.mem_of_getElem? (i := 412) (by decide +kernel)) rfl
theorem qw413 : Cond.methodLink RL 18 yX10_method ∈ lw_all := lw_in (List.mem_of_getElem? (i := 413) (by decide +kernel)) rfl
theorem qw414 : Cond.instanceMethod yX10_method ∈ lw_all := lw_in (List.mem_of_getElem? (i := 414) (by decide +kernel)) rfl
theorem qw415 : Cond.selects RX10 yX10_method yX10_method ∈ lw_all := lw_in (List.mem_of_getElem? (i := 415) (by decide +kernel)) rfl
theorem qw416 : Cond.code yX10_method cX10_method 1 (some .int) ∈ lw_all := lw_in (List.mem_of_getElem? (i := 416) (by decide +kernel)) rfl
theorem qw417 : Cond.methodLink RL 23 yX10_call ∈ lw_all := lw_in (List.mem_of_getElem? (i := 417) (by decide +kernel)) rfl
theorem qw418 : Cond.instanceMethod yX10_call ∈ lw_all := lw_in (List.mem_of_getElem? (i := 418) (by decide +kernel)) rfl
theorem qw419 : Cond.selects RX10 yX10_call yX10_call ∈ lw_all := lw_in (List.mem_of_getElem? (i := 419) (by decide +kernel)) rfl
theorem qw420 : Cond.code yX10_call cX10_call 4 (some .int) ∈ lw_all := lw_in (List.mem_of_getElem? (i := 420) (by decide +kernel)) rfl
theorem qw421 : Cond.methodLink RX10 91 yX4_areRight ∈ lw_all := lw_in (List.mem_of_getElem? (i := 421) (by decide +kernel)) rfl
theorem qw422 : Cond.static yX4_areRight ∈ lw_all := lw_in (List.mem_of_getElem? (i := 422) (by decide +kernel)) rfl
theorem qw423 : Cond.code yX4_areRight cX4_areRight 5 (some .boolean) ∈ lw_all := lw_in (List.mem_of_getElem? (i := 423) (by decide +kernel)) rfl
theorem qw424 : Cond.methodLink RX4 7 yX4_bit ∈ lw_all := lw_in (List.mem_of_getElem? (i := 424) (by decide +kernel)) rfl
theorem qw425 : Cond.methodLink RX4 13 yX4_has ∈ lw_all := lw_in (List.mem_of_getElem? (i := 425) (by decide +kernel)) rfl
theorem qw426 : Cond.static yX4_has ∈ lw_all := lw_in (List.mem_of_getElem? (i := 426) (by decide +kernel)) rfl
theorem qw427 : Cond.code yX4_has cX4_has 2 (some .boolean) ∈ lw_all := lw_in (List.mem_of_getElem? (i := 427) (by decide +kernel)) rfl
theorem qw428 : Cond.methodLink RL 28 yX10_touch ∈ lw_all := lw_in (List.mem_of_getElem? (i := 428) (by decide +kernel)) rfl
theorem qw429 : Cond.instanceMethod yX10_touch ∈ lw_all := lw_in (List.mem_of_getElem? (i := 429) (by decide +kernel)) rfl
theorem qw430 : Cond.selects RX10 yX10_touch yX10_touch ∈ lw_all := lw_in (List.mem_of_getElem? (i := 430) (by decide +kernel)) rfl
theorem qw431 : Cond.code yX10_touch cX10_touch 2 (some .int) ∈ lw_all := lw_in (List.mem_of_getElem? (i := 431) (by decide +kernel)) rfl
theorem qw432 : Cond.methodLink RX10 103 yX3_faultAsTouch ∈ lw_all := lw_in (List.mem_of_getElem? (i := 432) (by decide +kernel)) rfl
theorem qw433 : Cond.instanceMethod yX3_faultAsTouch ∈ lw_all := lw_in (List.mem_of_getElem? (i := 433) (by decide +kernel)) rfl
theorem qw434 : Cond.selects RX3 yX3_faultAsTouch yX3_faultAsTouch ∈ lw_all := lw_in (List.mem_of_getElem? (i := 434) (by decide +kernel)) rfl
theorem qw435 : Cond.code yX3_faultAsTouch cX3_faultAsTouch 2 (some .int) ∈ lw_all := lw_in (List.mem_of_getElem? (i := 435) (by decide +kernel)) rfl
theorem qw436 : Cond.methodLink RX3 19 yX3_kindOf ∈ lw_all := lw_in (List.mem_of_getElem? (i := 436) (by decide +kernel)) rfl
theorem qw437 : Cond.static yX3_kindOf ∈ lw_all := lw_in (List.mem_of_getElem? (i := 437) (by decide +kernel)) rfl
theorem qw438 : Cond.code yX3_kindOf cX3_kindOf 1 (some .int) ∈ lw_all := lw_in (List.mem_of_getElem? (i := 438) (by decide +kernel)) rfl
theorem qw439 : Cond.methodLink RX10 110 yX3_kindOf ∈ lw_all := lw_in (List.mem_of_getElem? (i := 439) (by decide +kernel)) rfl
theorem qw440 : Cond.methodLink RX10 114 yX9_addLead ∈ lw_all := lw_in (List.mem_of_getElem? (i := 440) (by decide +kernel)) rfl
theorem qw441 : Cond.instanceMethod yX9_addLead ∈ lw_all := lw_in (List.mem_of_getElem? (i := 441) (by decide +kernel)) rfl
theorem qw442 : Cond.selects RX9 yX9_addLead yX9_addLead ∈ lw_all := lw_in (List.mem_of_getElem? (i := 442) (by decide +kernel)) rfl
theorem qw443 : Cond.code yX9_addLead cX9_addLead 2 none ∈ lw_all := lw_in (List.mem_of_getElem? (i := 443) (by decide +kernel)) rfl
theorem qw444 : Cond.methodLink RL 32 yX10_add ∈ lw_all := lw_in (List.mem_of_getElem? (i := 444) (by decide +kernel)) rfl
theorem qw445 : Cond.instanceMethod yX10_add ∈ lw_all := lw_in (List.mem_of_getElem? (i := 445) (by decide +kernel)) rfl
theorem qw446 : Cond.selects RX10 yX10_add yX10_add ∈ lw_all := lw_in (List.mem_of_getElem? (i := 446) (by decide +kernel)) rfl
theorem qw447 : Cond.code yX10_add cX10_add 2 (some .int) ∈ lw_all := lw_in (List.mem_of_getElem? (i := 447) (by decide +kernel)) rfl
theorem qw448 : Cond.methodLink RL 36 yX10_cut ∈ lw_all := lw_in (List.mem_of_getElem? (i := 448) (by decide +kernel)) rfl
theorem qw449 : Cond.instanceMethod yX10_cut ∈ lw_all := lw_in (List.mem_of_getElem? (i := 449) (by decide +kernel)) rfl
theorem qw450 : Cond.selects RX10 yX10_cut yX10_cut ∈ lw_all := lw_in (List.mem_of_getElem? (i := 450) (by decide +kernel)) rfl
theorem qw451 : Cond.code yX10_cut cX10_cut 3 (some .int) ∈ lw_all := lw_in (List.mem_of_getElem? (i := 451) (by decide +kernel)) rfl
theorem qw452 : Cond.methodLink RL 40 yX10_append ∈ lw_all := lw_in (List.mem_of_getElem? (i := 452) (by decide +kernel)) rfl
theorem qw453 : Cond.instanceMethod yX10_append ∈ lw_all := lw_in (List.mem_of_getElem? (i := 453) (by decide +kernel)) rfl
theorem qw454 : Cond.selects RX10 yX10_append yX10_append ∈ lw_all := lw_in (List.mem_of_getElem? (i := 454) (by decide +kernel)) rfl
theorem qw455 : Cond.code yX10_append cX10_append 2 (some .int) ∈ lw_all := lw_in (List.mem_of_getElem? (i := 455) (by decide +kernel)) rfl
theorem qw456 : Cond.methodLink RX10 117 yX3_put ∈ lw_all := lw_in (List.mem_of_getElem? (i := 456) (by decide +kernel)) rfl
theorem qw457 : Cond.instanceMethod yX3_put ∈ lw_all := lw_in (List.mem_of_getElem? (i := 457) (by decide +kernel)) rfl
theorem qw458 : Cond.selects RX3 yX3_put yX3_put ∈ lw_all := lw_in (List.mem_of_getElem? (i := 458) (by decide +kernel)) rfl
theorem qw459 : Cond.code yX3_put cX3_put 2 none ∈ lw_all := lw_in (List.mem_of_getElem? (i := 459) (by decide +kernel)) rfl
theorem qw460 : Cond.methodLink RL 44 yX10_clear ∈ lw_all := lw_in (List.mem_of_getElem? (i := 460) (by decide +kernel)) rfl
theorem qw461 : Cond.instanceMethod yX10_clear ∈ lw_all := lw_in (List.mem_of_getElem? (i := 461) (by decide +kernel)) rfl
theorem qw462 : Cond.selects RX10 yX10_clear yX10_clear ∈ lw_all := lw_in (List.mem_of_getElem? (i := 462) (by decide +kernel)) rfl
theorem qw463 : Cond.code yX10_clear cX10_clear 2 (some .int) ∈ lw_all := lw_in (List.mem_of_getElem? (i := 463) (by decide +kernel)) rfl
theorem qw464 : Cond.methodLink RL 48 yX10_fault ∈ lw_all := lw_in (List.mem_of_getElem? (i := 464) (by decide +kernel)) rfl
theorem qw465 : Cond.instanceMethod yX10_fault ∈ lw_all := lw_in (List.mem_of_getElem? (i := 465) (by decide +kernel)) rfl
theorem qw466 : Cond.selects RX10 yX10_fault yX10_fault ∈ lw_all := lw_in (List.mem_of_getElem? (i := 466) (by decide +kernel)) rfl
theorem qw467 : Cond.code yX10_fault cX10_fault 2 (some .int) ∈ lw_all := lw_in (List.mem_of_getElem? (i := 467) (by decide +kernel)) rfl
theorem qw468 : Cond.methodLink RL 52 yX10_bell ∈ lw_all := lw_in (List.mem_of_getElem? (i := 468) (by decide +kernel)) rfl
theorem qw469 : Cond.instanceMethod yX10_bell ∈ lw_all := lw_in (List.mem_of_getElem? (i := 469) (by decide +kernel)) rfl
theorem qw470 : Cond.selects RX10 yX10_bell yX10_bell ∈ lw_all := lw_in (List.mem_of_getElem? (i := 470) (by decide +kernel)) rfl
theorem qw471 : Cond.code yX10_bell cX10_bell 3 (some .int) ∈ lw_all := lw_in (List.mem_of_getElem? (i := 471) (by decide +kernel)) rfl
theorem qw472 : Cond.methodLink RX10 121 yX9_lastRow ∈ lw_all := lw_in (List.mem_of_getElem? (i := 472) (by decide +kernel)) rfl
theorem qw473 : Cond.instanceMethod yX9_lastRow ∈ lw_all := lw_in (List.mem_of_getElem? (i := 473) (by decide +kernel)) rfl
theorem qw474 : Cond.selects RX9 yX9_lastRow yX9_lastRow ∈ lw_all := lw_in (List.mem_of_getElem? (i := 474) (by decide +kernel)) rfl
theorem qw475 : Cond.code yX9_lastRow cX9_lastRow 1 (some .int) ∈ lw_all := lw_in (List.mem_of_getElem? (i := 475) (by decide +kernel)) rfl
theorem qw476 : Cond.methodLink RX10 124 yX10_isBell ∈ lw_all := lw_in (List.mem_of_getElem? (i := 476) (by decide +kernel)) rfl
theorem qw478 : Cond.instanceMethod yX10_isBell ∈ lw_all := lw_in (List.mem_of_getElem? (i := 478) (by decide +kernel)) rfl
theorem qw479 : Cond.code yX10_isBell cX10_isBell 2 (some .boolean) ∈ lw_all := lw_in (List.mem_of_getElem? (i := 479) (by decide +kernel)) rfl
theorem qw480 : Cond.methodLink RX10 128 yX5_ring ∈ lw_all := lw_in (List.mem_of_getElem? (i := 480) (by decide +kernel)) rfl
theorem qw481 : Cond.instanceMethod yX5_ring ∈ lw_all := lw_in (List.mem_of_getElem? (i := 481) (by decide +kernel)) rfl
theorem qw482 : Cond.selects RX5 yX5_ring yX5_ring ∈ lw_all := lw_in (List.mem_of_getElem? (i := 482) (by decide +kernel)) rfl
theorem qw483 : Cond.code yX5_ring cX5_ring 6 none ∈ lw_all := lw_in (List.mem_of_getElem? (i := 483) (by decide +kernel)) rfl
theorem qw484 : Cond.methodLink RX5 36 yX6_rounds ∈ lw_all := lw_in (List.mem_of_getElem? (i := 484) (by decide +kernel)) rfl
theorem qw485 : Cond.static yX6_rounds ∈ lw_all := lw_in (List.mem_of_getElem? (i := 485) (by decide +kernel)) rfl
theorem qw486 : Cond.code yX6_rounds cX6_rounds 3 (some .int) ∈ lw_all := lw_in (List.mem_of_getElem? (i := 486) (by decide +kernel)) rfl
theorem qw487 : Cond.methodLink RX6 7 yX6_put ∈ lw_all := lw_in (List.mem_of_getElem? (i := 487) (by decide +kernel)) rfl
theorem qw488 : Cond.static yX6_put ∈ lw_all := lw_in (List.mem_of_getElem? (i := 488) (by decide +kernel)) rfl
theorem qw489 : Cond.code yX6_put cX6_put 3 (some .int) ∈ lw_all := lw_in (List.mem_of_getElem? (i := 489) (by decide +kernel)) rfl
theorem qw490 : Cond.methodLink RX5 45 yX9_kindOfLead ∈ lw_all := lw_in (List.mem_of_getElem? (i := 490) (by decide +kernel)) rfl
theorem qw491 : Cond.instanceMethod yX9_kindOfLead ∈ lw_all := lw_in (List.mem_of_getElem? (i := 491) (by decide +kernel)) rfl
theorem qw492 : Cond.selects RX9 yX9_kindOfLead yX9_kindOfLead ∈ lw_all := lw_in (List.mem_of_getElem? (i := 492) (by decide +kernel)) rfl
theorem qw493 : Cond.code yX9_kindOfLead cX9_kindOfLead 2 (some .int) ∈ lw_all := lw_in (List.mem_of_getElem? (i := 493) (by decide +kernel)) rfl
theorem qw494 : Cond.methodLink RX5 48 yX9_placesMade ∈ lw_all := lw_in (List.mem_of_getElem? (i := 494) (by decide +kernel)) rfl
theorem qw495 : Cond.instanceMethod yX9_placesMade ∈ lw_all := lw_in (List.mem_of_getElem? (i := 495) (by decide +kernel)) rfl
theorem qw496 : Cond.selects RX9 yX9_placesMade yX9_placesMade ∈ lw_all := lw_in (List.mem_of_getElem? (i := 496) (by decide +kernel)) rfl
theorem qw497 : Cond.code yX9_placesMade cX9_placesMade 3 (some .int) ∈ lw_all := lw_in (List.mem_of_getElem? (i := 497) (by decide +kernel)) rfl
theorem qw498 : Cond.methodLink RX5 52 yX6_behindChange ∈ lw_all := lw_in (List.mem_of_getElem? (i := 498) (by decide +kernel)) rfl
theorem qw499 : Cond.static yX6_behindChange ∈ lw_all := lw_in (List.mem_of_getElem? (i := 499) (by decide +kernel)) rfl
theorem qw500 : Cond.code yX6_behindChange cX6_behindChange 5 (some .int) ∈ lw_all := lw_in (List.mem_of_getElem? (i := 500) (by decide +kernel)) rfl
theorem qw501 : Cond.methodLink RX6 17 yX4_has ∈ lw_all := lw_in (List.mem_of_getElem? (i := 501) (by decide +kernel)) rfl
theorem qw502 : Cond.methodLink RX6 13 yX6_bellAt ∈ lw_all := lw_in (List.mem_of_getElem? (i := 502) (by decide +kernel)) rfl
theorem qw503 : Cond.static yX6_bellAt ∈ lw_all := lw_in (List.mem_of_getElem? (i := 503) (by decide +kernel)) rfl
theorem qw504 : Cond.code yX6_bellAt cX6_bellAt 2 (some .int) ∈ lw_all := lw_in (List.mem_of_getElem? (i := 504) (by decide +kernel)) rfl
theorem qw505 : Cond.methodLink RX5 56 yX5_keep ∈ lw_all := lw_in (List.mem_of_getElem? (i := 505) (by decide +kernel)) rfl
theorem qw507 : Cond.instanceMethod yX5_keep ∈ lw_all := lw_in (List.mem_of_getElem? (i := 507) (by decide +kernel)) rfl
theorem qw508 : Cond.code yX5_keep cX5_keep 2 none ∈ lw_all := lw_in (List.mem_of_getElem? (i := 508) (by decide +kernel)) rfl
theorem qw509 : Cond.methodLink RX5 60 yX5_findFirsts ∈ lw_all := lw_in (List.mem_of_getElem? (i := 509) (by decide +kernel)) rfl
theorem qw511 : Cond.instanceMethod yX5_findFirsts ∈ lw_all := lw_in (List.mem_of_getElem? (i := 511) (by decide +kernel)) rfl
theorem qw512 : Cond.code yX5_findFirsts cX5_findFirsts 3 none ∈ lw_all := lw_in (List.mem_of_getElem? (i := 512) (by decide +kernel)) rfl
theorem qw513 : Cond.methodLink RX5 63 yX5_rowAt ∈ lw_all := lw_in (List.mem_of_getElem? (i := 513) (by decide +kernel)) rfl
theorem qw514 : Cond.instanceMethod yX5_rowAt ∈ lw_all := lw_in (List.mem_of_getElem? (i := 514) (by decide +kernel)) rfl
theorem qw515 : Cond.selects RX5 yX5_rowAt yX5_rowAt ∈ lw_all := lw_in (List.mem_of_getElem? (i := 515) (by decide +kernel)) rfl
theorem qw516 : Cond.code yX5_rowAt cX5_rowAt 2 (some .int) ∈ lw_all := lw_in (List.mem_of_getElem? (i := 516) (by decide +kernel)) rfl
theorem qw517 : Cond.methodLink RX5 66 yX6_rank ∈ lw_all := lw_in (List.mem_of_getElem? (i := 517) (by decide +kernel)) rfl
theorem qw518 : Cond.static yX6_rank ∈ lw_all := lw_in (List.mem_of_getElem? (i := 518) (by decide +kernel)) rfl
theorem qw519 : Cond.code yX6_rank cX6_rank 8 (some .int) ∈ lw_all := lw_in (List.mem_of_getElem? (i := 519) (by decide +kernel)) rfl
theorem qw520 : Cond.methodLink RX6 23 yX4_bit ∈ lw_all := lw_in (List.mem_of_getElem? (i := 520) (by decide +kernel)) rfl
theorem qw521 : Cond.methodLink RX6 27 yJ6_bitCount_0f7a4 ∈ lw_all := lw_in (List.mem_of_getElem? (i := 521) (by decide +kernel)) rfl
theorem qw522 : Cond.static yJ6_bitCount_0f7a4 ∈ lw_all := lw_in (List.mem_of_getElem? (i := 522) (by decide +kernel)) rfl
theorem qw523 : Cond.code yJ6_bitCount_0f7a4 cJ6_bitCount_0f7a4 1 (some .int) ∈ lw_all := lw_in (List.mem_of_getElem? (i := 523) (by decide +kernel)) rfl
theorem qw524 : Cond.constant RJ6 265 (1431655765) ∈ lw_all := lw_in (List.mem_of_getElem? (i := 524) (by decide +kernel)) rfl
theorem qw525 : Cond.constant RJ6 266 (858993459) ∈ lw_all := lw_in (List.mem_of_getElem? (i := 525) (by decide +kernel)) rfl
theorem qw526 : Cond.constant RJ6 267 (252645135) ∈ lw_all := lw_in (List.mem_of_getElem? (i := 526) (by decide +kernel)) rfl
theorem qw527 : Cond.methodLink RX5 69 yX5_firstWithRank ∈ lw_all := lw_in (List.mem_of_getElem? (i := 527) (by decide +kernel)) rfl
theorem qw529 : Cond.instanceMethod yX5_firstWithRank ∈ lw_all := lw_in (List.mem_of_getElem? (i := 529) (by decide +kernel)) rfl
theorem qw530 : Cond.code yX5_firstWithRank cX5_firstWithRank 3 (some .int) ∈ lw_all := lw_in (List.mem_of_getElem? (i := 530) (by decide +kernel)) rfl
theorem qw531 : Cond.methodLink RX10 131 yX5_rowAt ∈ lw_all := lw_in (List.mem_of_getElem? (i := 531) (by decide +kernel)) rfl
theorem qw532 : Cond.methodLink RX10 135 yX6_bellAt ∈ lw_all := lw_in (List.mem_of_getElem? (i := 532) (by decide +kernel)) rfl
theorem qw533 : Cond.methodLink RL 56 yX10_change ∈ lw_all := lw_in (List.mem_of_getElem? (i := 533) (by decide +kernel)) rfl
theorem qw534 : Cond.instanceMethod yX10_change ∈ lw_all := lw_in (List.mem_of_getElem? (i := 534) (by decide +kernel)) rfl
theorem qw535 : Cond.selects RX10 yX10_change yX10_change ∈ lw_all := lw_in (List.mem_of_getElem? (i := 535) (by decide +kernel)) rfl
theorem qw536 : Cond.code yX10_change cX10_change 3 (some .int) ∈ lw_all := lw_in (List.mem_of_getElem? (i := 536) (by decide +kernel)) rfl
theorem qw537 : Cond.methodLink RX10 141 yX9_kindOfLead ∈ lw_all := lw_in (List.mem_of_getElem? (i := 537) (by decide +kernel)) rfl
theorem qw538 : Cond.methodLink RX10 144 yX9_placesMade ∈ lw_all := lw_in (List.mem_of_getElem? (i := 538) (by decide +kernel)) rfl
theorem qw539 : Cond.methodLink RL 60 yX10_row ∈ lw_all := lw_in (List.mem_of_getElem? (i := 539) (by decide +kernel)) rfl
theorem qw540 : Cond.instanceMethod yX10_row ∈ lw_all := lw_in (List.mem_of_getElem? (i := 540) (by decide +kernel)) rfl
theorem qw541 : Cond.selects RX10 yX10_row yX10_row ∈ lw_all := lw_in (List.mem_of_getElem? (i := 541) (by decide +kernel)) rfl
theorem qw542 : Cond.code yX10_row cX10_row 4 (some .int) ∈ lw_all := lw_in (List.mem_of_getElem? (i := 542) (by decide +kernel)) rfl
theorem qw543 : Cond.methodLink RX10 147 yX6_signByPairs ∈ lw_all := lw_in (List.mem_of_getElem? (i := 543) (by decide +kernel)) rfl
theorem qw544 : Cond.static yX6_signByPairs ∈ lw_all := lw_in (List.mem_of_getElem? (i := 544) (by decide +kernel)) rfl
theorem qw545 : Cond.code yX6_signByPairs cX6_signByPairs 5 (some .int) ∈ lw_all := lw_in (List.mem_of_getElem? (i := 545) (by decide +kernel)) rfl
theorem qw546 : Cond.methodLink RX10 150 yX6_signByCycles ∈ lw_all := lw_in (List.mem_of_getElem? (i := 546) (by decide +kernel)) rfl
theorem qw547 : Cond.static yX6_signByCycles ∈ lw_all := lw_in (List.mem_of_getElem? (i := 547) (by decide +kernel)) rfl
theorem qw548 : Cond.code yX6_signByCycles cX6_signByCycles 7 (some .int) ∈ lw_all := lw_in (List.mem_of_getElem? (i := 548) (by decide +kernel)) rfl
theorem qw549 : Cond.methodLink RX10 153 yX6_soundsWell ∈ lw_all := lw_in (List.mem_of_getElem? (i := 549) (by decide +kernel)) rfl
theorem qw550 : Cond.static yX6_soundsWell ∈ lw_all := lw_in (List.mem_of_getElem? (i := 550) (by decide +kernel)) rfl
theorem qw551 : Cond.code yX6_soundsWell cX6_soundsWell 4 (some .boolean) ∈ lw_all := lw_in (List.mem_of_getElem? (i := 551) (by decide +kernel)) rfl
theorem qw552 : Cond.methodLink RX10 156 yX6_bellsInPlace ∈ lw_all := lw_in (List.mem_of_getElem? (i := 552) (by decide +kernel)) rfl
theorem qw553 : Cond.static yX6_bellsInPlace ∈ lw_all := lw_in (List.mem_of_getElem? (i := 553) (by decide +kernel)) rfl
theorem qw554 : Cond.code yX6_bellsInPlace cX6_bellsInPlace 4 (some .int) ∈ lw_all := lw_in (List.mem_of_getElem? (i := 554) (by decide +kernel)) rfl
theorem qw555 : Cond.methodLink RX10 159 yX5_firstLike ∈ lw_all := lw_in (List.mem_of_getElem? (i := 555) (by decide +kernel)) rfl
theorem qw556 : Cond.instanceMethod yX5_firstLike ∈ lw_all := lw_in (List.mem_of_getElem? (i := 556) (by decide +kernel)) rfl
theorem qw557 : Cond.selects RX5 yX5_firstLike yX5_firstLike ∈ lw_all := lw_in (List.mem_of_getElem? (i := 557) (by decide +kernel)) rfl
theorem qw558 : Cond.code yX5_firstLike cX5_firstLike 2 (some .int) ∈ lw_all := lw_in (List.mem_of_getElem? (i := 558) (by decide +kernel)) rfl
theorem qw559 : Cond.methodLink RX10 162 yX1_learn ∈ lw_all := lw_in (List.mem_of_getElem? (i := 559) (by decide +kernel)) rfl
theorem qw560 : Cond.instanceMethod yX1_learn ∈ lw_all := lw_in (List.mem_of_getElem? (i := 560) (by decide +kernel)) rfl
theorem qw561 : Cond.selects RX1 yX1_learn yX1_learn ∈ lw_all := lw_in (List.mem_of_getElem? (i := 561) (by decide +kernel)) rfl
theorem qw562 : Cond.code yX1_learn cX1_learn 5 none ∈ lw_all := lw_in (List.mem_of_getElem? (i := 562) (by decide +kernel)) rfl
theorem qw563 : Cond.methodLink RX1 35 yX9_roundsBehindLead ∈ lw_all := lw_in (List.mem_of_getElem? (i := 563) (by decide +kernel)) rfl
theorem qw564 : Cond.instanceMethod yX9_roundsBehindLead ∈ lw_all := lw_in (List.mem_of_getElem? (i := 564) (by decide +kernel)) rfl
theorem qw565 : Cond.selects RX9 yX9_roundsBehindLead yX9_roundsBehindLead ∈ lw_all := lw_in (List.mem_of_getElem? (i := 565) (by decide +kernel)) rfl
theorem qw566 : Cond.code yX9_roundsBehindLead cX9_roundsBehindLead 4 (some .int) ∈ lw_all := lw_in (List.mem_of_getElem? (i := 566) (by decide +kernel)) rfl
theorem qw567 : Cond.methodLink RX9 48 yX6_rounds ∈ lw_all := lw_in (List.mem_of_getElem? (i := 567) (by decide +kernel)) rfl
theorem qw568 : Cond.methodLink RX9 53 yX9_placesMade ∈ lw_all := lw_in (List.mem_of_getElem? (i := 568) (by decide +kernel)) rfl
theorem qw569 : Cond.methodLink RX9 57 yX6_behindChange ∈ lw_all := lw_in (List.mem_of_getElem? (i := 569) (by decide +kernel)) rfl
theorem qw570 : Cond.methodLink RX1 39 yX6_backwards ∈ lw_all := lw_in (List.mem_of_getElem? (i := 570) (by decide +kernel)) rfl
theorem qw571 : Cond.static yX6_backwards ∈ lw_all := lw_in (List.mem_of_getElem? (i := 571) (by decide +kernel)) rfl
theorem qw572 : Cond.code yX6_backwards cX6_backwards 4 (some .int) ∈ lw_all := lw_in (List.mem_of_getElem? (i := 572) (by decide +kernel)) rfl
theorem qw573 : Cond.methodLink RX1 45 yX6_rounds ∈ lw_all := lw_in (List.mem_of_getElem? (i := 573) (by decide +kernel)) rfl
theorem qw574 : Cond.methodLink RX1 48 yX7_from ∈ lw_all := lw_in (List.mem_of_getElem? (i := 574) (by decide +kernel)) rfl
theorem qw575 : Cond.instanceMethod yX7_from ∈ lw_all := lw_in (List.mem_of_getElem? (i := 575) (by decide +kernel)) rfl
theorem qw576 : Cond.selects RX7 yX7_from yX7_from ∈ lw_all := lw_in (List.mem_of_getElem? (i := 576) (by decide +kernel)) rfl
theorem qw577 : Cond.code yX7_from cX7_from 9 none ∈ lw_all := lw_in (List.mem_of_getElem? (i := 577) (by decide +kernel)) rfl
theorem qw578 : Cond.methodLink RX7 25 yJ7_fill_53178 ∈ lw_all := lw_in (List.mem_of_getElem? (i := 578) (by decide +kernel)) rfl
theorem qw579 : Cond.static yJ7_fill_53178 ∈ lw_all := lw_in (List.mem_of_getElem? (i := 579) (by decide +kernel)) rfl
theorem qw580 : Cond.code yJ7_fill_53178 cJ7_fill_53178 4 none ∈ lw_all := lw_in (List.mem_of_getElem? (i := 580) (by decide +kernel)) rfl
theorem qw581 : Cond.methodLink RX7 31 yX7_reach ∈ lw_all := lw_in (List.mem_of_getElem? (i := 581) (by decide +kernel)) rfl
theorem qw583 : Cond.instanceMethod yX7_reach ∈ lw_all := lw_in (List.mem_of_getElem? (i := 583) (by decide +kernel)) rfl
theorem qw584 : Cond.code yX7_reach cX7_reach 4 none ∈ lw_all := lw_in (List.mem_of_getElem? (i := 584) (by decide +kernel)) rfl
theorem qw585 : Cond.methodLink RX7 45 yX6_rank ∈ lw_all := lw_in (List.mem_of_getElem? (i := 585) (by decide +kernel)) rfl
theorem qw586 : Cond.methodLink RX7 35 yX7_fewestTo ∈ lw_all := lw_in (List.mem_of_getElem? (i := 586) (by decide +kernel)) rfl
theorem qw587 : Cond.instanceMethod yX7_fewestTo ∈ lw_all := lw_in (List.mem_of_getElem? (i := 587) (by decide +kernel)) rfl
theorem qw588 : Cond.selects RX7 yX7_fewestTo yX7_fewestTo ∈ lw_all := lw_in (List.mem_of_getElem? (i := 588) (by decide +kernel)) rfl
theorem qw589 : Cond.code yX7_fewestTo cX7_fewestTo 3 (some .int) ∈ lw_all := lw_in (List.mem_of_getElem? (i := 589) (by decide +kernel)) rfl
theorem qw590 : Cond.methodLink RX7 39 yX6_behindLead ∈ lw_all := lw_in (List.mem_of_getElem? (i := 590) (by decide +kernel)) rfl
theorem qw591 : Cond.static yX6_behindLead ∈ lw_all := lw_in (List.mem_of_getElem? (i := 591) (by decide +kernel)) rfl
theorem qw592 : Cond.code yX6_behindLead cX6_behindLead 5 (some .int) ∈ lw_all := lw_in (List.mem_of_getElem? (i := 592) (by decide +kernel)) rfl
theorem qw593 : Cond.methodLink RX10 165 yX1_leadsFrom ∈ lw_all := lw_in (List.mem_of_getElem? (i := 593) (by decide +kernel)) rfl
theorem qw594 : Cond.instanceMethod yX1_leadsFrom ∈ lw_all := lw_in (List.mem_of_getElem? (i := 594) (by decide +kernel)) rfl
theorem qw595 : Cond.selects RX1 yX1_leadsFrom yX1_leadsFrom ∈ lw_all := lw_in (List.mem_of_getElem? (i := 595) (by decide +kernel)) rfl
theorem qw596 : Cond.code yX1_leadsFrom cX1_leadsFrom 2 (some .int) ∈ lw_all := lw_in (List.mem_of_getElem? (i := 596) (by decide +kernel)) rfl
theorem qw597 : Cond.methodLink RX1 52 yX7_fewestTo ∈ lw_all := lw_in (List.mem_of_getElem? (i := 597) (by decide +kernel)) rfl
theorem qw598 : Cond.methodLink RL 64 yX10_path ∈ lw_all := lw_in (List.mem_of_getElem? (i := 598) (by decide +kernel)) rfl
theorem qw599 : Cond.instanceMethod yX10_path ∈ lw_all := lw_in (List.mem_of_getElem? (i := 599) (by decide +kernel)) rfl
theorem qw600 : Cond.selects RX10 yX10_path yX10_path ∈ lw_all := lw_in (List.mem_of_getElem? (i := 600) (by decide +kernel)) rfl
theorem qw601 : Cond.code yX10_path cX10_path 3 (some .int) ∈ lw_all := lw_in (List.mem_of_getElem? (i := 601) (by decide +kernel)) rfl
theorem qw602 : Cond.methodLink RX10 168 yX5_dodges ∈ lw_all := lw_in (List.mem_of_getElem? (i := 602) (by decide +kernel)) rfl
theorem qw603 : Cond.instanceMethod yX5_dodges ∈ lw_all := lw_in (List.mem_of_getElem? (i := 603) (by decide +kernel)) rfl
theorem qw604 : Cond.selects RX5 yX5_dodges yX5_dodges ∈ lw_all := lw_in (List.mem_of_getElem? (i := 604) (by decide +kernel)) rfl
theorem qw605 : Cond.code yX5_dodges cX5_dodges 4 (some .int) ∈ lw_all := lw_in (List.mem_of_getElem? (i := 605) (by decide +kernel)) rfl
theorem qw606 : Cond.methodLink RX5 93 yX5_dodgesAt ∈ lw_all := lw_in (List.mem_of_getElem? (i := 606) (by decide +kernel)) rfl
theorem qw608 : Cond.instanceMethod yX5_dodgesAt ∈ lw_all := lw_in (List.mem_of_getElem? (i := 608) (by decide +kernel)) rfl
theorem qw609 : Cond.code yX5_dodgesAt cX5_dodgesAt 5 (some .boolean) ∈ lw_all := lw_in (List.mem_of_getElem? (i := 609) (by decide +kernel)) rfl
theorem qw610 : Cond.methodLink RX5 90 yX5_placeIn ∈ lw_all := lw_in (List.mem_of_getElem? (i := 610) (by decide +kernel)) rfl
theorem qw611 : Cond.instanceMethod yX5_placeIn ∈ lw_all := lw_in (List.mem_of_getElem? (i := 611) (by decide +kernel)) rfl
theorem qw612 : Cond.selects RX5 yX5_placeIn yX5_placeIn ∈ lw_all := lw_in (List.mem_of_getElem? (i := 612) (by decide +kernel)) rfl
theorem qw613 : Cond.code yX5_placeIn cX5_placeIn 3 (some .int) ∈ lw_all := lw_in (List.mem_of_getElem? (i := 613) (by decide +kernel)) rfl
theorem qw614 : Cond.methodLink RX5 72 yX6_placeOf ∈ lw_all := lw_in (List.mem_of_getElem? (i := 614) (by decide +kernel)) rfl
theorem qw615 : Cond.static yX6_placeOf ∈ lw_all := lw_in (List.mem_of_getElem? (i := 615) (by decide +kernel)) rfl
theorem qw616 : Cond.code yX6_placeOf cX6_placeOf 4 (some .int) ∈ lw_all := lw_in (List.mem_of_getElem? (i := 616) (by decide +kernel)) rfl
theorem qw617 : Cond.methodLink RX10 171 yX5_firstDodge ∈ lw_all := lw_in (List.mem_of_getElem? (i := 617) (by decide +kernel)) rfl
theorem qw618 : Cond.instanceMethod yX5_firstDodge ∈ lw_all := lw_in (List.mem_of_getElem? (i := 618) (by decide +kernel)) rfl
theorem qw619 : Cond.selects RX5 yX5_firstDodge yX5_firstDodge ∈ lw_all := lw_in (List.mem_of_getElem? (i := 619) (by decide +kernel)) rfl
theorem qw620 : Cond.code yX5_firstDodge cX5_firstDodge 3 (some .int) ∈ lw_all := lw_in (List.mem_of_getElem? (i := 620) (by decide +kernel)) rfl
theorem qw621 : Cond.methodLink RX10 174 yX5_blowsAt ∈ lw_all := lw_in (List.mem_of_getElem? (i := 621) (by decide +kernel)) rfl
theorem qw622 : Cond.instanceMethod yX5_blowsAt ∈ lw_all := lw_in (List.mem_of_getElem? (i := 622) (by decide +kernel)) rfl
theorem qw623 : Cond.selects RX5 yX5_blowsAt yX5_blowsAt ∈ lw_all := lw_in (List.mem_of_getElem? (i := 623) (by decide +kernel)) rfl
theorem qw624 : Cond.code yX5_blowsAt cX5_blowsAt 5 (some .int) ∈ lw_all := lw_in (List.mem_of_getElem? (i := 624) (by decide +kernel)) rfl
theorem qw625 : Cond.methodLink RX5 96 yX6_bellAt ∈ lw_all := lw_in (List.mem_of_getElem? (i := 625) (by decide +kernel)) rfl
theorem qw626 : Cond.methodLink RX10 177 yX5_stays ∈ lw_all := lw_in (List.mem_of_getElem? (i := 626) (by decide +kernel)) rfl
theorem qw627 : Cond.instanceMethod yX5_stays ∈ lw_all := lw_in (List.mem_of_getElem? (i := 627) (by decide +kernel)) rfl
theorem qw628 : Cond.selects RX5 yX5_stays yX5_stays ∈ lw_all := lw_in (List.mem_of_getElem? (i := 628) (by decide +kernel)) rfl
theorem qw629 : Cond.code yX5_stays cX5_stays 4 (some .int) ∈ lw_all := lw_in (List.mem_of_getElem? (i := 629) (by decide +kernel)) rfl
theorem qw630 : Cond.methodLink RX10 183 yX5_placeIn ∈ lw_all := lw_in (List.mem_of_getElem? (i := 630) (by decide +kernel)) rfl
theorem qw631 : Cond.methodLink RL 68 yX10_blows ∈ lw_all := lw_in (List.mem_of_getElem? (i := 631) (by decide +kernel)) rfl
theorem qw632 : Cond.instanceMethod yX10_blows ∈ lw_all := lw_in (List.mem_of_getElem? (i := 632) (by decide +kernel)) rfl
theorem qw633 : Cond.selects RX10 yX10_blows yX10_blows ∈ lw_all := lw_in (List.mem_of_getElem? (i := 633) (by decide +kernel)) rfl
theorem qw634 : Cond.code yX10_blows cX10_blows 3 (some .int) ∈ lw_all := lw_in (List.mem_of_getElem? (i := 634) (by decide +kernel)) rfl
theorem qw635 : Cond.methodLink RL 72 yX10_count ∈ lw_all := lw_in (List.mem_of_getElem? (i := 635) (by decide +kernel)) rfl
theorem qw636 : Cond.instanceMethod yX10_count ∈ lw_all := lw_in (List.mem_of_getElem? (i := 636) (by decide +kernel)) rfl
theorem qw637 : Cond.selects RX10 yX10_count yX10_count ∈ lw_all := lw_in (List.mem_of_getElem? (i := 637) (by decide +kernel)) rfl
theorem qw638 : Cond.code yX10_count cX10_count 2 (some .int) ∈ lw_all := lw_in (List.mem_of_getElem? (i := 638) (by decide +kernel)) rfl
theorem qw639 : Cond.methodLink RX10 186 yX9_calledLeads ∈ lw_all := lw_in (List.mem_of_getElem? (i := 639) (by decide +kernel)) rfl
theorem qw640 : Cond.instanceMethod yX9_calledLeads ∈ lw_all := lw_in (List.mem_of_getElem? (i := 640) (by decide +kernel)) rfl
theorem qw641 : Cond.selects RX9 yX9_calledLeads yX9_calledLeads ∈ lw_all := lw_in (List.mem_of_getElem? (i := 641) (by decide +kernel)) rfl
theorem qw642 : Cond.code yX9_calledLeads cX9_calledLeads 3 (some .int) ∈ lw_all := lw_in (List.mem_of_getElem? (i := 642) (by decide +kernel)) rfl
theorem qw643 : Cond.methodLink RX9 44 yX9_kindOfLead ∈ lw_all := lw_in (List.mem_of_getElem? (i := 643) (by decide +kernel)) rfl
theorem qw644 : Cond.methodLink RX10 189 yX9_plainCourse ∈ lw_all := lw_in (List.mem_of_getElem? (i := 644) (by decide +kernel)) rfl
theorem qw645 : Cond.instanceMethod yX9_plainCourse ∈ lw_all := lw_in (List.mem_of_getElem? (i := 645) (by decide +kernel)) rfl
theorem qw646 : Cond.selects RX9 yX9_plainCourse yX9_plainCourse ∈ lw_all := lw_in (List.mem_of_getElem? (i := 646) (by decide +kernel)) rfl
theorem qw647 : Cond.code yX9_plainCourse cX9_plainCourse 5 (some .int) ∈ lw_all := lw_in (List.mem_of_getElem? (i := 647) (by decide +kernel)) rfl
theorem qw648 : Cond.methodLink RX9 61 yX9_roundsBehindLead ∈ lw_all := lw_in (List.mem_of_getElem? (i := 648) (by decide +kernel)) rfl
theorem qw649 : Cond.methodLink RX9 64 yX6_behindLead ∈ lw_all := lw_in (List.mem_of_getElem? (i := 649) (by decide +kernel)) rfl
theorem qw650 : Cond.methodLink RX10 195 yX10_countRows ∈ lw_all := lw_in (List.mem_of_getElem? (i := 650) (by decide +kernel)) rfl
theorem qw652 : Cond.instanceMethod yX10_countRows ∈ lw_all := lw_in (List.mem_of_getElem? (i := 652) (by decide +kernel)) rfl
theorem qw653 : Cond.code yX10_countRows cX10_countRows 2 (some .int) ∈ lw_all := lw_in (List.mem_of_getElem? (i := 653) (by decide +kernel)) rfl
theorem qw654 : Cond.methodLink RX10 221 yX5_comesRound ∈ lw_all := lw_in (List.mem_of_getElem? (i := 654) (by decide +kernel)) rfl
theorem qw655 : Cond.instanceMethod yX5_comesRound ∈ lw_all := lw_in (List.mem_of_getElem? (i := 655) (by decide +kernel)) rfl
theorem qw656 : Cond.selects RX5 yX5_comesRound yX5_comesRound ∈ lw_all := lw_in (List.mem_of_getElem? (i := 656) (by decide +kernel)) rfl
theorem qw657 : Cond.code yX5_comesRound cX5_comesRound 2 (some .int) ∈ lw_all := lw_in (List.mem_of_getElem? (i := 657) (by decide +kernel)) rfl
theorem qw658 : Cond.methodLink RX10 217 yX5_isTrue ∈ lw_all := lw_in (List.mem_of_getElem? (i := 658) (by decide +kernel)) rfl
theorem qw659 : Cond.instanceMethod yX5_isTrue ∈ lw_all := lw_in (List.mem_of_getElem? (i := 659) (by decide +kernel)) rfl
theorem qw660 : Cond.selects RX5 yX5_isTrue yX5_isTrue ∈ lw_all := lw_in (List.mem_of_getElem? (i := 660) (by decide +kernel)) rfl
theorem qw661 : Cond.code yX5_isTrue cX5_isTrue 1 (some .boolean) ∈ lw_all := lw_in (List.mem_of_getElem? (i := 661) (by decide +kernel)) rfl
theorem qw662 : Cond.methodLink RX5 79 yX5_firstRepeat ∈ lw_all := lw_in (List.mem_of_getElem? (i := 662) (by decide +kernel)) rfl
theorem qw663 : Cond.instanceMethod yX5_firstRepeat ∈ lw_all := lw_in (List.mem_of_getElem? (i := 663) (by decide +kernel)) rfl
theorem qw664 : Cond.selects RX5 yX5_firstRepeat yX5_firstRepeat ∈ lw_all := lw_in (List.mem_of_getElem? (i := 664) (by decide +kernel)) rfl
theorem qw665 : Cond.code yX5_firstRepeat cX5_firstRepeat 2 (some .int) ∈ lw_all := lw_in (List.mem_of_getElem? (i := 665) (by decide +kernel)) rfl
theorem qw666 : Cond.methodLink RX5 75 yX5_isFirst ∈ lw_all := lw_in (List.mem_of_getElem? (i := 666) (by decide +kernel)) rfl
theorem qw668 : Cond.instanceMethod yX5_isFirst ∈ lw_all := lw_in (List.mem_of_getElem? (i := 668) (by decide +kernel)) rfl
theorem qw669 : Cond.code yX5_isFirst cX5_isFirst 2 (some .boolean) ∈ lw_all := lw_in (List.mem_of_getElem? (i := 669) (by decide +kernel)) rfl
theorem qw670 : Cond.methodLink RX10 254 yX5_firstRepeat ∈ lw_all := lw_in (List.mem_of_getElem? (i := 670) (by decide +kernel)) rfl
theorem qw671 : Cond.methodLink RX10 224 yX5_differentRows ∈ lw_all := lw_in (List.mem_of_getElem? (i := 671) (by decide +kernel)) rfl
theorem qw672 : Cond.instanceMethod yX5_differentRows ∈ lw_all := lw_in (List.mem_of_getElem? (i := 672) (by decide +kernel)) rfl
theorem qw673 : Cond.selects RX5 yX5_differentRows yX5_differentRows ∈ lw_all := lw_in (List.mem_of_getElem? (i := 673) (by decide +kernel)) rfl
theorem qw674 : Cond.code yX5_differentRows cX5_differentRows 3 (some .int) ∈ lw_all := lw_in (List.mem_of_getElem? (i := 674) (by decide +kernel)) rfl
theorem qw675 : Cond.methodLink RX10 257 yX5_falsePairs ∈ lw_all := lw_in (List.mem_of_getElem? (i := 675) (by decide +kernel)) rfl
theorem qw676 : Cond.instanceMethod yX5_falsePairs ∈ lw_all := lw_in (List.mem_of_getElem? (i := 676) (by decide +kernel)) rfl
theorem qw677 : Cond.selects RX5 yX5_falsePairs yX5_falsePairs ∈ lw_all := lw_in (List.mem_of_getElem? (i := 677) (by decide +kernel)) rfl
theorem qw678 : Cond.code yX5_falsePairs cX5_falsePairs 4 (some .int) ∈ lw_all := lw_in (List.mem_of_getElem? (i := 678) (by decide +kernel)) rfl
theorem qw679 : Cond.methodLink RX5 87 yX5_areFalse ∈ lw_all := lw_in (List.mem_of_getElem? (i := 679) (by decide +kernel)) rfl
theorem qw681 : Cond.instanceMethod yX5_areFalse ∈ lw_all := lw_in (List.mem_of_getElem? (i := 681) (by decide +kernel)) rfl
theorem qw682 : Cond.code yX5_areFalse cX5_areFalse 5 (some .boolean) ∈ lw_all := lw_in (List.mem_of_getElem? (i := 682) (by decide +kernel)) rfl
theorem qw683 : Cond.methodLink RX10 198 yX5_wellSounding ∈ lw_all := lw_in (List.mem_of_getElem? (i := 683) (by decide +kernel)) rfl
theorem qw684 : Cond.instanceMethod yX5_wellSounding ∈ lw_all := lw_in (List.mem_of_getElem? (i := 684) (by decide +kernel)) rfl
theorem qw685 : Cond.selects RX5 yX5_wellSounding yX5_wellSounding ∈ lw_all := lw_in (List.mem_of_getElem? (i := 685) (by decide +kernel)) rfl
theorem qw686 : Cond.code yX5_wellSounding cX5_wellSounding 3 (some .int) ∈ lw_all := lw_in (List.mem_of_getElem? (i := 686) (by decide +kernel)) rfl
theorem qw687 : Cond.methodLink RX5 83 yX6_soundsWell ∈ lw_all := lw_in (List.mem_of_getElem? (i := 687) (by decide +kernel)) rfl
theorem qw688 : Cond.methodLink RL 76 yX10_music ∈ lw_all := lw_in (List.mem_of_getElem? (i := 688) (by decide +kernel)) rfl
theorem qw689 : Cond.instanceMethod yX10_music ∈ lw_all := lw_in (List.mem_of_getElem? (i := 689) (by decide +kernel)) rfl
theorem qw690 : Cond.selects RX10 yX10_music yX10_music ∈ lw_all := lw_in (List.mem_of_getElem? (i := 690) (by decide +kernel)) rfl
theorem qw691 : Cond.code yX10_music cX10_music 1 (some .double) ∈ lw_all := lw_in (List.mem_of_getElem? (i := 691) (by decide +kernel)) rfl
theorem qw692 : Cond.methodLink RL 81 yX10_home ∈ lw_all := lw_in (List.mem_of_getElem? (i := 692) (by decide +kernel)) rfl
theorem qw693 : Cond.instanceMethod yX10_home ∈ lw_all := lw_in (List.mem_of_getElem? (i := 693) (by decide +kernel)) rfl
theorem qw694 : Cond.selects RX10 yX10_home yX10_home ∈ lw_all := lw_in (List.mem_of_getElem? (i := 694) (by decide +kernel)) rfl
theorem qw695 : Cond.code yX10_home cX10_home 3 (some .int) ∈ lw_all := lw_in (List.mem_of_getElem? (i := 695) (by decide +kernel)) rfl
theorem qw696 : Cond.methodLink RX10 201 yX10_lastOrder ∈ lw_all := lw_in (List.mem_of_getElem? (i := 696) (by decide +kernel)) rfl
theorem qw698 : Cond.instanceMethod yX10_lastOrder ∈ lw_all := lw_in (List.mem_of_getElem? (i := 698) (by decide +kernel)) rfl
theorem qw699 : Cond.code yX10_lastOrder cX10_lastOrder 1 (some .int) ∈ lw_all := lw_in (List.mem_of_getElem? (i := 699) (by decide +kernel)) rfl
theorem qw700 : Cond.methodLink RX10 204 yX1_leadsBySearch ∈ lw_all := lw_in (List.mem_of_getElem? (i := 700) (by decide +kernel)) rfl
theorem qw701 : Cond.instanceMethod yX1_leadsBySearch ∈ lw_all := lw_in (List.mem_of_getElem? (i := 701) (by decide +kernel)) rfl
theorem qw702 : Cond.selects RX1 yX1_leadsBySearch yX1_leadsBySearch ∈ lw_all := lw_in (List.mem_of_getElem? (i := 702) (by decide +kernel)) rfl
theorem qw703 : Cond.code yX1_leadsBySearch cX1_leadsBySearch 3 (some .int) ∈ lw_all := lw_in (List.mem_of_getElem? (i := 703) (by decide +kernel)) rfl
theorem qw704 : Cond.methodLink RL 85 yX10_homeCall ∈ lw_all := lw_in (List.mem_of_getElem? (i := 704) (by decide +kernel)) rfl
theorem qw705 : Cond.instanceMethod yX10_homeCall ∈ lw_all := lw_in (List.mem_of_getElem? (i := 705) (by decide +kernel)) rfl
theorem qw706 : Cond.selects RX10 yX10_homeCall yX10_homeCall ∈ lw_all := lw_in (List.mem_of_getElem? (i := 706) (by decide +kernel)) rfl
theorem qw707 : Cond.code yX10_homeCall cX10_homeCall 3 (some .int) ∈ lw_all := lw_in (List.mem_of_getElem? (i := 707) (by decide +kernel)) rfl
theorem qw708 : Cond.methodLink RX10 207 yX1_callAt ∈ lw_all := lw_in (List.mem_of_getElem? (i := 708) (by decide +kernel)) rfl
theorem qw709 : Cond.instanceMethod yX1_callAt ∈ lw_all := lw_in (List.mem_of_getElem? (i := 709) (by decide +kernel)) rfl
theorem qw710 : Cond.selects RX1 yX1_callAt yX1_callAt ∈ lw_all := lw_in (List.mem_of_getElem? (i := 710) (by decide +kernel)) rfl
theorem qw711 : Cond.code yX1_callAt cX1_callAt 6 (some .int) ∈ lw_all := lw_in (List.mem_of_getElem? (i := 711) (by decide +kernel)) rfl
theorem qw712 : Cond.methodLink RX1 55 yX1_leadsFrom ∈ lw_all := lw_in (List.mem_of_getElem? (i := 712) (by decide +kernel)) rfl
theorem qw713 : Cond.methodLink RX1 58 yX1_callFrom ∈ lw_all := lw_in (List.mem_of_getElem? (i := 713) (by decide +kernel)) rfl
theorem qw715 : Cond.instanceMethod yX1_callFrom ∈ lw_all := lw_in (List.mem_of_getElem? (i := 715) (by decide +kernel)) rfl
theorem qw716 : Cond.code yX1_callFrom cX1_callFrom 4 (some .int) ∈ lw_all := lw_in (List.mem_of_getElem? (i := 716) (by decide +kernel)) rfl
theorem qw717 : Cond.methodLink RX1 61 yX1_behind ∈ lw_all := lw_in (List.mem_of_getElem? (i := 717) (by decide +kernel)) rfl
theorem qw719 : Cond.instanceMethod yX1_behind ∈ lw_all := lw_in (List.mem_of_getElem? (i := 719) (by decide +kernel)) rfl
theorem qw720 : Cond.code yX1_behind cX1_behind 3 (some .int) ∈ lw_all := lw_in (List.mem_of_getElem? (i := 720) (by decide +kernel)) rfl
theorem qw721 : Cond.methodLink RX1 64 yX6_behindLead ∈ lw_all := lw_in (List.mem_of_getElem? (i := 721) (by decide +kernel)) rfl
theorem qw722 : Cond.methodLink RL 89 yX10_ifCalled ∈ lw_all := lw_in (List.mem_of_getElem? (i := 722) (by decide +kernel)) rfl
theorem qw723 : Cond.instanceMethod yX10_ifCalled ∈ lw_all := lw_in (List.mem_of_getElem? (i := 723) (by decide +kernel)) rfl
theorem qw724 : Cond.selects RX10 yX10_ifCalled yX10_ifCalled ∈ lw_all := lw_in (List.mem_of_getElem? (i := 724) (by decide +kernel)) rfl
theorem qw725 : Cond.code yX10_ifCalled cX10_ifCalled 4 (some .int) ∈ lw_all := lw_in (List.mem_of_getElem? (i := 725) (by decide +kernel)) rfl
theorem qw726 : Cond.methodLink RX10 210 yX9_become ∈ lw_all := lw_in (List.mem_of_getElem? (i := 726) (by decide +kernel)) rfl
theorem qw727 : Cond.methodLink RX10 213 yX9_callLead ∈ lw_all := lw_in (List.mem_of_getElem? (i := 727) (by decide +kernel)) rfl
theorem qw728 : Cond.instanceMethod yX9_callLead ∈ lw_all := lw_in (List.mem_of_getElem? (i := 728) (by decide +kernel)) rfl
theorem qw729 : Cond.selects RX9 yX9_callLead yX9_callLead ∈ lw_all := lw_in (List.mem_of_getElem? (i := 729) (by decide +kernel)) rfl
theorem qw730 : Cond.code yX9_callLead cX9_callLead 3 none ∈ lw_all := lw_in (List.mem_of_getElem? (i := 730) (by decide +kernel)) rfl
theorem qw731 : Cond.methodLink RL 94 yX10_best ∈ lw_all := lw_in (List.mem_of_getElem? (i := 731) (by decide +kernel)) rfl
theorem qw732 : Cond.instanceMethod yX10_best ∈ lw_all := lw_in (List.mem_of_getElem? (i := 732) (by decide +kernel)) rfl
theorem qw733 : Cond.selects RX10 yX10_best yX10_best ∈ lw_all := lw_in (List.mem_of_getElem? (i := 733) (by decide +kernel)) rfl
theorem qw734 : Cond.code yX10_best cX10_best 5 (some .int) ∈ lw_all := lw_in (List.mem_of_getElem? (i := 734) (by decide +kernel)) rfl
theorem qw735 : Cond.methodLink RL 98 yX10_undo ∈ lw_all := lw_in (List.mem_of_getElem? (i := 735) (by decide +kernel)) rfl
theorem qw736 : Cond.instanceMethod yX10_undo ∈ lw_all := lw_in (List.mem_of_getElem? (i := 736) (by decide +kernel)) rfl
theorem qw737 : Cond.selects RX10 yX10_undo yX10_undo ∈ lw_all := lw_in (List.mem_of_getElem? (i := 737) (by decide +kernel)) rfl
theorem qw738 : Cond.code yX10_undo cX10_undo 1 (some .int) ∈ lw_all := lw_in (List.mem_of_getElem? (i := 738) (by decide +kernel)) rfl
theorem qw739 : Cond.methodLink RX10 227 yX0_takeBack ∈ lw_all := lw_in (List.mem_of_getElem? (i := 739) (by decide +kernel)) rfl
theorem qw740 : Cond.instanceMethod yX0_takeBack ∈ lw_all := lw_in (List.mem_of_getElem? (i := 740) (by decide +kernel)) rfl
theorem qw741 : Cond.selects RX0 yX0_takeBack yX0_takeBack ∈ lw_all := lw_in (List.mem_of_getElem? (i := 741) (by decide +kernel)) rfl
theorem qw742 : Cond.code yX0_takeBack cX0_takeBack 2 none ∈ lw_all := lw_in (List.mem_of_getElem? (i := 742) (by decide +kernel)) rfl
theorem qw743 : Cond.methodLink RL 102 yX10_save ∈ lw_all := lw_in (List.mem_of_getElem? (i := 743) (by decide +kernel)) rfl
theorem qw744 : Cond.instanceMethod yX10_save ∈ lw_all := lw_in (List.mem_of_getElem? (i := 744) (by decide +kernel)) rfl
theorem qw745 : Cond.selects RX10 yX10_save yX10_save ∈ lw_all := lw_in (List.mem_of_getElem? (i := 745) (by decide +kernel)) rfl
theorem qw746 : Cond.code yX10_save cX10_save 1 (some .int) ∈ lw_all := lw_in (List.mem_of_getElem? (i := 746) (by decide +kernel)) rfl
theorem qw747 : Cond.methodLink RL 106 yX10_restore ∈ lw_all := lw_in (List.mem_of_getElem? (i := 747) (by decide +kernel)) rfl
theorem qw748 : Cond.instanceMethod yX10_restore ∈ lw_all := lw_in (List.mem_of_getElem? (i := 748) (by decide +kernel)) rfl
theorem qw749 : Cond.selects RX10 yX10_restore yX10_restore ∈ lw_all := lw_in (List.mem_of_getElem? (i := 749) (by decide +kernel)) rfl
theorem qw750 : Cond.code yX10_restore cX10_restore 1 (some .int) ∈ lw_all := lw_in (List.mem_of_getElem? (i := 750) (by decide +kernel)) rfl
theorem qw751 : Cond.classLink RL 10 RX11 ∈ lw_all := lw_in (List.mem_of_getElem? (i := 751) (by decide +kernel)) rfl
theorem qw752 : Cond.instantiable RX11 18 ∈ lw_all := lw_in (List.mem_of_getElem? (i := 752) (by decide +kernel)) rfl
theorem qw753 : Cond.methodLink RL 12 yX11_init ∈ lw_all := lw_in (List.mem_of_getElem? (i := 753) (by decide +kernel)) rfl
theorem qw754 : Cond.instanceMethod yX11_init ∈ lw_all := lw_in (List.mem_of_getElem? (i := 754) (by decide +kernel)) rfl
theorem qw755 : Cond.code yX11_init cX11_init 1 none ∈ lw_all := lw_in (List.mem_of_getElem? (i := 755) (by decide +kernel)) rfl
theorem qw756 : Cond.methodLink RX11 1 ⟨"java/lang/Object", "<init>", "()V"⟩ ∈ lw_all := lw_in (List.mem_of_getElem? (i := 756) (by decide +kernel)) rfl
theorem qw757 : Cond.methodLink RX11 46 yX11_lays ∈ lw_all := lw_in (List.mem_of_getElem? (i := 757) (by decide +kernel)) rfl
theorem qw759 : Cond.instanceMethod yX11_lays ∈ lw_all := lw_in (List.mem_of_getElem? (i := 759) (by decide +kernel)) rfl
theorem qw760 : Cond.code yX11_lays cX11_lays 6 none ∈ lw_all := lw_in (List.mem_of_getElem? (i := 760) (by decide +kernel)) rfl
theorem qw761 : Cond.fieldLink RX11 7 "CalledTouchesModel" "s" "[I" ∈ lw_all := lw_in (List.mem_of_getElem? (i := 761) (by decide +kernel)) rfl
theorem qw762 : Cond.fieldLink RX11 13 "CalledTouchesModel" "past" "[I" ∈ lw_all := lw_in (List.mem_of_getElem? (i := 762) (by decide +kernel)) rfl
theorem qw763 : Cond.fieldLink RX11 16 "CalledTouchesModel" "kept" "[I" ∈ lw_all := lw_in (List.mem_of_getElem? (i := 763) (by decide +kernel)) rfl
theorem qw764 : Cond.fieldLink RX11 196 "CalledTouchesModel" "isKept" "Z" ∈ lw_all := lw_in (List.mem_of_getElem? (i := 764) (by decide +kernel)) rfl
theorem qw765 : Cond.fieldLink RX11 50 "CalledTouchesModel" "pasts" "I" ∈ lw_all := lw_in (List.mem_of_getElem? (i := 765) (by decide +kernel)) rfl
theorem qw766 : Cond.fieldLink RX11 19 "CalledTouchesModel" "pad" "[I" ∈ lw_all := lw_in (List.mem_of_getElem? (i := 766) (by decide +kernel)) rfl
theorem qw767 : Cond.fieldLink RX11 84 "CalledTouchesModel" "typed" "I" ∈ lw_all := lw_in (List.mem_of_getElem? (i := 767) (by decide +kernel)) rfl
theorem qw768 : Cond.fieldLink RX11 22 "CalledTouchesModel" "cell" "[I" ∈ lw_all := lw_in (List.mem_of_getElem? (i := 768) (by decide +kernel)) rfl
theorem qw769 : Cond.fieldLink RX11 25 "CalledTouchesModel" "other" "[I" ∈ lw_all := lw_in (List.mem_of_getElem? (i := 769) (by decide +kernel)) rfl
theorem qw770 : Cond.fieldLink RX11 28 "CalledTouchesModel" "rows" "[I" ∈ lw_all := lw_in (List.mem_of_getElem? (i := 770) (by decide +kernel)) rfl
theorem qw771 : Cond.fieldLink RX11 65 "CalledTouchesModel" "ends" "I" ∈ lw_all := lw_in (List.mem_of_getElem? (i := 771) (by decide +kernel)) rfl
theorem qw772 : Cond.fieldLink RX11 31 "CalledTouchesModel" "read" "[I" ∈ lw_all := lw_in (List.mem_of_getElem? (i := 772) (by decide +kernel)) rfl
theorem qw773 : Cond.fieldLink RX11 91 "CalledTouchesModel" "many" "I" ∈ lw_all := lw_in (List.mem_of_getElem? (i := 773) (by decide +kernel)) rfl
theorem qw774 : Cond.fieldLink RX11 81 "CalledTouchesModel" "spot" "I" ∈ lw_all := lw_in (List.mem_of_getElem? (i := 774) (by decide +kernel)) rfl
theorem qw775 : Cond.fieldLink RX11 34 "CalledTouchesModel" "track" "[I" ∈ lw_all := lw_in (List.mem_of_getElem? (i := 775) (by decide +kernel)) rfl
theorem qw776 : Cond.fieldLink RX11 37 "CalledTouchesModel" "lead" "[I" ∈ lw_all := lw_in (List.mem_of_getElem? (i := 776) (by decide +kernel)) rfl
theorem qw777 : Cond.fieldLink RX11 40 "CalledTouchesModel" "distance" "[I" ∈ lw_all := lw_in (List.mem_of_getElem? (i := 777) (by decide +kernel)) rfl
theorem qw778 : Cond.fieldLink RX11 43 "CalledTouchesModel" "line" "[I" ∈ lw_all := lw_in (List.mem_of_getElem? (i := 778) (by decide +kernel)) rfl
theorem qw816 : Cond.methodLink RL 17 yX11_bells ∈ lw_all := lw_in (List.mem_of_getElem? (i := 816) (by decide +kernel)) rfl
theorem qw817 : Cond.instanceMethod yX11_bells ∈ lw_all := lw_in (List.mem_of_getElem? (i := 817) (by decide +kernel)) rfl
theorem qw818 : Cond.selects RX11 yX11_bells yX11_bells ∈ lw_all := lw_in (List.mem_of_getElem? (i := 818) (by decide +kernel)) rfl
theorem qw819 : Cond.code yX11_bells cX11_bells 3 (some .int) ∈ lw_all := lw_in (List.mem_of_getElem? (i := 819) (by decide +kernel)) rfl
theorem qw820 : Cond.methodLink RX11 54 yX11_in ∈ lw_all := lw_in (List.mem_of_getElem? (i := 820) (by decide +kernel)) rfl
theorem qw821 : Cond.static yX11_in ∈ lw_all := lw_in (List.mem_of_getElem? (i := 821) (by decide +kernel)) rfl
theorem qw822 : Cond.code yX11_in cX11_in 3 (some .boolean) ∈ lw_all := lw_in (List.mem_of_getElem? (i := 822) (by decide +kernel)) rfl
theorem qw823 : Cond.methodLink RX11 78 yX11_changes ∈ lw_all := lw_in (List.mem_of_getElem? (i := 823) (by decide +kernel)) rfl
theorem qw825 : Cond.instanceMethod yX11_changes ∈ lw_all := lw_in (List.mem_of_getElem? (i := 825) (by decide +kernel)) rfl
theorem qw826 : Cond.code yX11_changes cX11_changes 2 none ∈ lw_all := lw_in (List.mem_of_getElem? (i := 826) (by decide +kernel)) rfl
theorem qw827 : Cond.methodLink RL 22 yX11_method ∈ lw_all := lw_in (List.mem_of_getElem? (i := 827) (by decide +kernel)) rfl
theorem qw828 : Cond.instanceMethod yX11_method ∈ lw_all := lw_in (List.mem_of_getElem? (i := 828) (by decide +kernel)) rfl
theorem qw829 : Cond.selects RX11 yX11_method yX11_method ∈ lw_all := lw_in (List.mem_of_getElem? (i := 829) (by decide +kernel)) rfl
theorem qw830 : Cond.code yX11_method cX11_method 2 (some .int) ∈ lw_all := lw_in (List.mem_of_getElem? (i := 830) (by decide +kernel)) rfl
theorem qw831 : Cond.methodLink RX11 109 yX11_methodFault ∈ lw_all := lw_in (List.mem_of_getElem? (i := 831) (by decide +kernel)) rfl
theorem qw833 : Cond.instanceMethod yX11_methodFault ∈ lw_all := lw_in (List.mem_of_getElem? (i := 833) (by decide +kernel)) rfl
theorem qw834 : Cond.code yX11_methodFault cX11_methodFault 2 (some .int) ∈ lw_all := lw_in (List.mem_of_getElem? (i := 834) (by decide +kernel)) rfl
theorem qw835 : Cond.methodLink RX11 101 yX11_readsChange ∈ lw_all := lw_in (List.mem_of_getElem? (i := 835) (by decide +kernel)) rfl
theorem qw837 : Cond.instanceMethod yX11_readsChange ∈ lw_all := lw_in (List.mem_of_getElem? (i := 837) (by decide +kernel)) rfl
theorem qw838 : Cond.code yX11_readsChange cX11_readsChange 4 (some .boolean) ∈ lw_all := lw_in (List.mem_of_getElem? (i := 838) (by decide +kernel)) rfl
theorem qw839 : Cond.methodLink RX11 94 yX11_isAt ∈ lw_all := lw_in (List.mem_of_getElem? (i := 839) (by decide +kernel)) rfl
theorem qw841 : Cond.instanceMethod yX11_isAt ∈ lw_all := lw_in (List.mem_of_getElem? (i := 841) (by decide +kernel)) rfl
theorem qw842 : Cond.code yX11_isAt cX11_isAt 3 (some .boolean) ∈ lw_all := lw_in (List.mem_of_getElem? (i := 842) (by decide +kernel)) rfl
theorem qw843 : Cond.methodLink RX11 87 yX11_isRight ∈ lw_all := lw_in (List.mem_of_getElem? (i := 843) (by decide +kernel)) rfl
theorem qw845 : Cond.instanceMethod yX11_isRight ∈ lw_all := lw_in (List.mem_of_getElem? (i := 845) (by decide +kernel)) rfl
theorem qw846 : Cond.code yX11_isRight cX11_isRight 4 (some .boolean) ∈ lw_all := lw_in (List.mem_of_getElem? (i := 846) (by decide +kernel)) rfl
theorem qw847 : Cond.methodLink RX11 98 yX11_couldBeRight ∈ lw_all := lw_in (List.mem_of_getElem? (i := 847) (by decide +kernel)) rfl
theorem qw849 : Cond.instanceMethod yX11_couldBeRight ∈ lw_all := lw_in (List.mem_of_getElem? (i := 849) (by decide +kernel)) rfl
theorem qw850 : Cond.code yX11_couldBeRight cX11_couldBeRight 5 (some .boolean) ∈ lw_all := lw_in (List.mem_of_getElem? (i := 850) (by decide +kernel)) rfl
theorem qw851 : Cond.methodLink RL 27 yX11_call ∈ lw_all := lw_in (List.mem_of_getElem? (i := 851) (by decide +kernel)) rfl
theorem qw852 : Cond.instanceMethod yX11_call ∈ lw_all := lw_in (List.mem_of_getElem? (i := 852) (by decide +kernel)) rfl
theorem qw853 : Cond.selects RX11 yX11_call yX11_call ∈ lw_all := lw_in (List.mem_of_getElem? (i := 853) (by decide +kernel)) rfl
theorem qw854 : Cond.code yX11_call cX11_call 4 (some .int) ∈ lw_all := lw_in (List.mem_of_getElem? (i := 854) (by decide +kernel)) rfl
theorem qw855 : Cond.methodLink RL 31 yX11_touch ∈ lw_all := lw_in (List.mem_of_getElem? (i := 855) (by decide +kernel)) rfl
theorem qw856 : Cond.instanceMethod yX11_touch ∈ lw_all := lw_in (List.mem_of_getElem? (i := 856) (by decide +kernel)) rfl
theorem qw857 : Cond.selects RX11 yX11_touch yX11_touch ∈ lw_all := lw_in (List.mem_of_getElem? (i := 857) (by decide +kernel)) rfl
theorem qw858 : Cond.code yX11_touch cX11_touch 2 (some .int) ∈ lw_all := lw_in (List.mem_of_getElem? (i := 858) (by decide +kernel)) rfl
theorem qw859 : Cond.methodLink RX11 112 yX11_touchFault ∈ lw_all := lw_in (List.mem_of_getElem? (i := 859) (by decide +kernel)) rfl
theorem qw861 : Cond.instanceMethod yX11_touchFault ∈ lw_all := lw_in (List.mem_of_getElem? (i := 861) (by decide +kernel)) rfl
theorem qw862 : Cond.code yX11_touchFault cX11_touchFault 2 (some .int) ∈ lw_all := lw_in (List.mem_of_getElem? (i := 862) (by decide +kernel)) rfl
theorem qw863 : Cond.methodLink RX11 105 yX11_kindOf ∈ lw_all := lw_in (List.mem_of_getElem? (i := 863) (by decide +kernel)) rfl
theorem qw864 : Cond.static yX11_kindOf ∈ lw_all := lw_in (List.mem_of_getElem? (i := 864) (by decide +kernel)) rfl
theorem qw865 : Cond.code yX11_kindOf cX11_kindOf 1 (some .int) ∈ lw_all := lw_in (List.mem_of_getElem? (i := 865) (by decide +kernel)) rfl
theorem qw866 : Cond.methodLink RL 35 yX11_add ∈ lw_all := lw_in (List.mem_of_getElem? (i := 866) (by decide +kernel)) rfl
theorem qw867 : Cond.instanceMethod yX11_add ∈ lw_all := lw_in (List.mem_of_getElem? (i := 867) (by decide +kernel)) rfl
theorem qw868 : Cond.selects RX11 yX11_add yX11_add ∈ lw_all := lw_in (List.mem_of_getElem? (i := 868) (by decide +kernel)) rfl
theorem qw869 : Cond.code yX11_add cX11_add 2 (some .int) ∈ lw_all := lw_in (List.mem_of_getElem? (i := 869) (by decide +kernel)) rfl
theorem qw870 : Cond.methodLink RL 39 yX11_cut ∈ lw_all := lw_in (List.mem_of_getElem? (i := 870) (by decide +kernel)) rfl
theorem qw871 : Cond.instanceMethod yX11_cut ∈ lw_all := lw_in (List.mem_of_getElem? (i := 871) (by decide +kernel)) rfl
theorem qw872 : Cond.selects RX11 yX11_cut yX11_cut ∈ lw_all := lw_in (List.mem_of_getElem? (i := 872) (by decide +kernel)) rfl
theorem qw873 : Cond.code yX11_cut cX11_cut 4 (some .int) ∈ lw_all := lw_in (List.mem_of_getElem? (i := 873) (by decide +kernel)) rfl
theorem qw874 : Cond.methodLink RL 43 yX11_append ∈ lw_all := lw_in (List.mem_of_getElem? (i := 874) (by decide +kernel)) rfl
theorem qw875 : Cond.instanceMethod yX11_append ∈ lw_all := lw_in (List.mem_of_getElem? (i := 875) (by decide +kernel)) rfl
theorem qw876 : Cond.selects RX11 yX11_append yX11_append ∈ lw_all := lw_in (List.mem_of_getElem? (i := 876) (by decide +kernel)) rfl
theorem qw877 : Cond.code yX11_append cX11_append 2 (some .int) ∈ lw_all := lw_in (List.mem_of_getElem? (i := 877) (by decide +kernel)) rfl
theorem qw878 : Cond.methodLink RL 47 yX11_clear ∈ lw_all := lw_in (List.mem_of_getElem? (i := 878) (by decide +kernel)) rfl
theorem qw879 : Cond.instanceMethod yX11_clear ∈ lw_all := lw_in (List.mem_of_getElem? (i := 879) (by decide +kernel)) rfl
theorem qw880 : Cond.selects RX11 yX11_clear yX11_clear ∈ lw_all := lw_in (List.mem_of_getElem? (i := 880) (by decide +kernel)) rfl
theorem qw881 : Cond.code yX11_clear cX11_clear 2 (some .int) ∈ lw_all := lw_in (List.mem_of_getElem? (i := 881) (by decide +kernel)) rfl
theorem qw882 : Cond.methodLink RL 51 yX11_fault ∈ lw_all := lw_in (List.mem_of_getElem? (i := 882) (by decide +kernel)) rfl
theorem qw883 : Cond.instanceMethod yX11_fault ∈ lw_all := lw_in (List.mem_of_getElem? (i := 883) (by decide +kernel)) rfl
theorem qw884 : Cond.selects RX11 yX11_fault yX11_fault ∈ lw_all := lw_in (List.mem_of_getElem? (i := 884) (by decide +kernel)) rfl
theorem qw885 : Cond.code yX11_fault cX11_fault 2 (some .int) ∈ lw_all := lw_in (List.mem_of_getElem? (i := 885) (by decide +kernel)) rfl
theorem qw886 : Cond.methodLink RL 55 yX11_bell ∈ lw_all := lw_in (List.mem_of_getElem? (i := 886) (by decide +kernel)) rfl
theorem qw887 : Cond.instanceMethod yX11_bell ∈ lw_all := lw_in (List.mem_of_getElem? (i := 887) (by decide +kernel)) rfl
theorem qw888 : Cond.selects RX11 yX11_bell yX11_bell ∈ lw_all := lw_in (List.mem_of_getElem? (i := 888) (by decide +kernel)) rfl
theorem qw889 : Cond.code yX11_bell cX11_bell 3 (some .int) ∈ lw_all := lw_in (List.mem_of_getElem? (i := 889) (by decide +kernel)) rfl
theorem qw890 : Cond.methodLink RX11 118 yX11_isRow ∈ lw_all := lw_in (List.mem_of_getElem? (i := 890) (by decide +kernel)) rfl
theorem qw892 : Cond.instanceMethod yX11_isRow ∈ lw_all := lw_in (List.mem_of_getElem? (i := 892) (by decide +kernel)) rfl
theorem qw893 : Cond.code yX11_isRow cX11_isRow 2 (some .boolean) ∈ lw_all := lw_in (List.mem_of_getElem? (i := 893) (by decide +kernel)) rfl
theorem qw894 : Cond.methodLink RX11 115 yX11_last ∈ lw_all := lw_in (List.mem_of_getElem? (i := 894) (by decide +kernel)) rfl
theorem qw896 : Cond.instanceMethod yX11_last ∈ lw_all := lw_in (List.mem_of_getElem? (i := 896) (by decide +kernel)) rfl
theorem qw897 : Cond.code yX11_last cX11_last 1 (some .int) ∈ lw_all := lw_in (List.mem_of_getElem? (i := 897) (by decide +kernel)) rfl
theorem qw898 : Cond.methodLink RX11 121 yX11_isPlace ∈ lw_all := lw_in (List.mem_of_getElem? (i := 898) (by decide +kernel)) rfl
theorem qw900 : Cond.instanceMethod yX11_isPlace ∈ lw_all := lw_in (List.mem_of_getElem? (i := 900) (by decide +kernel)) rfl
theorem qw901 : Cond.code yX11_isPlace cX11_isPlace 2 (some .boolean) ∈ lw_all := lw_in (List.mem_of_getElem? (i := 901) (by decide +kernel)) rfl
theorem qw902 : Cond.methodLink RX11 124 yX11_ringsAll ∈ lw_all := lw_in (List.mem_of_getElem? (i := 902) (by decide +kernel)) rfl
theorem qw904 : Cond.instanceMethod yX11_ringsAll ∈ lw_all := lw_in (List.mem_of_getElem? (i := 904) (by decide +kernel)) rfl
theorem qw905 : Cond.code yX11_ringsAll cX11_ringsAll 3 none ∈ lw_all := lw_in (List.mem_of_getElem? (i := 905) (by decide +kernel)) rfl
theorem qw906 : Cond.methodLink RX11 72 yX11_toRounds ∈ lw_all := lw_in (List.mem_of_getElem? (i := 906) (by decide +kernel)) rfl
theorem qw908 : Cond.instanceMethod yX11_toRounds ∈ lw_all := lw_in (List.mem_of_getElem? (i := 908) (by decide +kernel)) rfl
theorem qw909 : Cond.code yX11_toRounds cX11_toRounds 2 none ∈ lw_all := lw_in (List.mem_of_getElem? (i := 909) (by decide +kernel)) rfl
theorem qw910 : Cond.methodLink RX11 75 yX11_ringsLead ∈ lw_all := lw_in (List.mem_of_getElem? (i := 910) (by decide +kernel)) rfl
theorem qw912 : Cond.instanceMethod yX11_ringsLead ∈ lw_all := lw_in (List.mem_of_getElem? (i := 912) (by decide +kernel)) rfl
theorem qw913 : Cond.code yX11_ringsLead cX11_ringsLead 3 none ∈ lw_all := lw_in (List.mem_of_getElem? (i := 913) (by decide +kernel)) rfl
theorem qw914 : Cond.methodLink RX11 58 yX11_changeOf ∈ lw_all := lw_in (List.mem_of_getElem? (i := 914) (by decide +kernel)) rfl
theorem qw916 : Cond.instanceMethod yX11_changeOf ∈ lw_all := lw_in (List.mem_of_getElem? (i := 916) (by decide +kernel)) rfl
theorem qw917 : Cond.code yX11_changeOf cX11_changeOf 3 (some .int) ∈ lw_all := lw_in (List.mem_of_getElem? (i := 917) (by decide +kernel)) rfl
theorem qw918 : Cond.methodLink RX11 62 yX11_rings ∈ lw_all := lw_in (List.mem_of_getElem? (i := 918) (by decide +kernel)) rfl
theorem qw920 : Cond.instanceMethod yX11_rings ∈ lw_all := lw_in (List.mem_of_getElem? (i := 920) (by decide +kernel)) rfl
theorem qw921 : Cond.code yX11_rings cX11_rings 4 none ∈ lw_all := lw_in (List.mem_of_getElem? (i := 921) (by decide +kernel)) rfl
theorem qw922 : Cond.methodLink RX11 68 yX11_rank ∈ lw_all := lw_in (List.mem_of_getElem? (i := 922) (by decide +kernel)) rfl
theorem qw924 : Cond.instanceMethod yX11_rank ∈ lw_all := lw_in (List.mem_of_getElem? (i := 924) (by decide +kernel)) rfl
theorem qw925 : Cond.code yX11_rank cX11_rank 6 (some .int) ∈ lw_all := lw_in (List.mem_of_getElem? (i := 925) (by decide +kernel)) rfl
theorem qw926 : Cond.methodLink RX11 127 yX11_unrank ∈ lw_all := lw_in (List.mem_of_getElem? (i := 926) (by decide +kernel)) rfl
theorem qw928 : Cond.instanceMethod yX11_unrank ∈ lw_all := lw_in (List.mem_of_getElem? (i := 928) (by decide +kernel)) rfl
theorem qw929 : Cond.code yX11_unrank cX11_unrank 6 none ∈ lw_all := lw_in (List.mem_of_getElem? (i := 929) (by decide +kernel)) rfl
theorem qw930 : Cond.methodLink RL 59 yX11_change ∈ lw_all := lw_in (List.mem_of_getElem? (i := 930) (by decide +kernel)) rfl
theorem qw931 : Cond.instanceMethod yX11_change ∈ lw_all := lw_in (List.mem_of_getElem? (i := 931) (by decide +kernel)) rfl
theorem qw932 : Cond.selects RX11 yX11_change yX11_change ∈ lw_all := lw_in (List.mem_of_getElem? (i := 932) (by decide +kernel)) rfl
theorem qw933 : Cond.code yX11_change cX11_change 3 (some .int) ∈ lw_all := lw_in (List.mem_of_getElem? (i := 933) (by decide +kernel)) rfl
theorem qw934 : Cond.methodLink RL 63 yX11_row ∈ lw_all := lw_in (List.mem_of_getElem? (i := 934) (by decide +kernel)) rfl
theorem qw935 : Cond.instanceMethod yX11_row ∈ lw_all := lw_in (List.mem_of_getElem? (i := 935) (by decide +kernel)) rfl
theorem qw936 : Cond.selects RX11 yX11_row yX11_row ∈ lw_all := lw_in (List.mem_of_getElem? (i := 936) (by decide +kernel)) rfl
theorem qw937 : Cond.code yX11_row cX11_row 4 (some .int) ∈ lw_all := lw_in (List.mem_of_getElem? (i := 937) (by decide +kernel)) rfl
theorem qw938 : Cond.methodLink RX11 130 yX11_signByPairs ∈ lw_all := lw_in (List.mem_of_getElem? (i := 938) (by decide +kernel)) rfl
theorem qw940 : Cond.instanceMethod yX11_signByPairs ∈ lw_all := lw_in (List.mem_of_getElem? (i := 940) (by decide +kernel)) rfl
theorem qw941 : Cond.code yX11_signByPairs cX11_signByPairs 4 (some .int) ∈ lw_all := lw_in (List.mem_of_getElem? (i := 941) (by decide +kernel)) rfl
theorem qw942 : Cond.methodLink RX11 133 yX11_signByRings ∈ lw_all := lw_in (List.mem_of_getElem? (i := 942) (by decide +kernel)) rfl
theorem qw944 : Cond.instanceMethod yX11_signByRings ∈ lw_all := lw_in (List.mem_of_getElem? (i := 944) (by decide +kernel)) rfl
theorem qw945 : Cond.code yX11_signByRings cX11_signByRings 5 (some .int) ∈ lw_all := lw_in (List.mem_of_getElem? (i := 945) (by decide +kernel)) rfl
theorem qw946 : Cond.methodLink RX11 136 yX11_soundsWell ∈ lw_all := lw_in (List.mem_of_getElem? (i := 946) (by decide +kernel)) rfl
theorem qw948 : Cond.instanceMethod yX11_soundsWell ∈ lw_all := lw_in (List.mem_of_getElem? (i := 948) (by decide +kernel)) rfl
theorem qw949 : Cond.code yX11_soundsWell cX11_soundsWell 2 (some .boolean) ∈ lw_all := lw_in (List.mem_of_getElem? (i := 949) (by decide +kernel)) rfl
theorem qw950 : Cond.methodLink RX11 139 yX11_atHome ∈ lw_all := lw_in (List.mem_of_getElem? (i := 950) (by decide +kernel)) rfl
theorem qw952 : Cond.instanceMethod yX11_atHome ∈ lw_all := lw_in (List.mem_of_getElem? (i := 952) (by decide +kernel)) rfl
theorem qw953 : Cond.code yX11_atHome cX11_atHome 3 (some .int) ∈ lw_all := lw_in (List.mem_of_getElem? (i := 953) (by decide +kernel)) rfl
theorem qw954 : Cond.methodLink RX11 142 yX11_firstSame ∈ lw_all := lw_in (List.mem_of_getElem? (i := 954) (by decide +kernel)) rfl
theorem qw956 : Cond.instanceMethod yX11_firstSame ∈ lw_all := lw_in (List.mem_of_getElem? (i := 956) (by decide +kernel)) rfl
theorem qw957 : Cond.code yX11_firstSame cX11_firstSame 4 (some .int) ∈ lw_all := lw_in (List.mem_of_getElem? (i := 957) (by decide +kernel)) rfl
theorem qw958 : Cond.methodLink RX11 145 yX11_spreads ∈ lw_all := lw_in (List.mem_of_getElem? (i := 958) (by decide +kernel)) rfl
theorem qw960 : Cond.instanceMethod yX11_spreads ∈ lw_all := lw_in (List.mem_of_getElem? (i := 960) (by decide +kernel)) rfl
theorem qw961 : Cond.code yX11_spreads cX11_spreads 1 none ∈ lw_all := lw_in (List.mem_of_getElem? (i := 961) (by decide +kernel)) rfl
theorem qw962 : Cond.methodLink RX11 192 yX11_spreadsFrom ∈ lw_all := lw_in (List.mem_of_getElem? (i := 962) (by decide +kernel)) rfl
theorem qw964 : Cond.instanceMethod yX11_spreadsFrom ∈ lw_all := lw_in (List.mem_of_getElem? (i := 964) (by decide +kernel)) rfl
theorem qw965 : Cond.code yX11_spreadsFrom cX11_spreadsFrom 7 none ∈ lw_all := lw_in (List.mem_of_getElem? (i := 965) (by decide +kernel)) rfl
theorem qw966 : Cond.methodLink RX11 185 yX11_takesLeads ∈ lw_all := lw_in (List.mem_of_getElem? (i := 966) (by decide +kernel)) rfl
theorem qw968 : Cond.instanceMethod yX11_takesLeads ∈ lw_all := lw_in (List.mem_of_getElem? (i := 968) (by decide +kernel)) rfl
theorem qw969 : Cond.code yX11_takesLeads cX11_takesLeads 3 none ∈ lw_all := lw_in (List.mem_of_getElem? (i := 969) (by decide +kernel)) rfl
theorem qw970 : Cond.methodLink RX11 188 yX11_moved ∈ lw_all := lw_in (List.mem_of_getElem? (i := 970) (by decide +kernel)) rfl
theorem qw972 : Cond.instanceMethod yX11_moved ∈ lw_all := lw_in (List.mem_of_getElem? (i := 972) (by decide +kernel)) rfl
theorem qw973 : Cond.code yX11_moved cX11_moved 6 (some .int) ∈ lw_all := lw_in (List.mem_of_getElem? (i := 973) (by decide +kernel)) rfl
theorem qw974 : Cond.methodLink RL 67 yX11_path ∈ lw_all := lw_in (List.mem_of_getElem? (i := 974) (by decide +kernel)) rfl
theorem qw975 : Cond.instanceMethod yX11_path ∈ lw_all := lw_in (List.mem_of_getElem? (i := 975) (by decide +kernel)) rfl
theorem qw976 : Cond.selects RX11 yX11_path yX11_path ∈ lw_all := lw_in (List.mem_of_getElem? (i := 976) (by decide +kernel)) rfl
theorem qw977 : Cond.code yX11_path cX11_path 3 (some .int) ∈ lw_all := lw_in (List.mem_of_getElem? (i := 977) (by decide +kernel)) rfl
theorem qw978 : Cond.methodLink RX11 148 yX11_follows ∈ lw_all := lw_in (List.mem_of_getElem? (i := 978) (by decide +kernel)) rfl
theorem qw980 : Cond.instanceMethod yX11_follows ∈ lw_all := lw_in (List.mem_of_getElem? (i := 980) (by decide +kernel)) rfl
theorem qw981 : Cond.code yX11_follows cX11_follows 4 none ∈ lw_all := lw_in (List.mem_of_getElem? (i := 981) (by decide +kernel)) rfl
theorem qw982 : Cond.methodLink RX11 151 yX11_dodges ∈ lw_all := lw_in (List.mem_of_getElem? (i := 982) (by decide +kernel)) rfl
theorem qw984 : Cond.instanceMethod yX11_dodges ∈ lw_all := lw_in (List.mem_of_getElem? (i := 984) (by decide +kernel)) rfl
theorem qw985 : Cond.code yX11_dodges cX11_dodges 4 (some .int) ∈ lw_all := lw_in (List.mem_of_getElem? (i := 985) (by decide +kernel)) rfl
theorem qw986 : Cond.methodLink RX11 155 yX11_rowsAt ∈ lw_all := lw_in (List.mem_of_getElem? (i := 986) (by decide +kernel)) rfl
theorem qw988 : Cond.instanceMethod yX11_rowsAt ∈ lw_all := lw_in (List.mem_of_getElem? (i := 988) (by decide +kernel)) rfl
theorem qw989 : Cond.code yX11_rowsAt cX11_rowsAt 4 (some .int) ∈ lw_all := lw_in (List.mem_of_getElem? (i := 989) (by decide +kernel)) rfl
theorem qw990 : Cond.methodLink RX11 158 yX11_stays ∈ lw_all := lw_in (List.mem_of_getElem? (i := 990) (by decide +kernel)) rfl
theorem qw992 : Cond.instanceMethod yX11_stays ∈ lw_all := lw_in (List.mem_of_getElem? (i := 992) (by decide +kernel)) rfl
theorem qw993 : Cond.code yX11_stays cX11_stays 3 (some .int) ∈ lw_all := lw_in (List.mem_of_getElem? (i := 993) (by decide +kernel)) rfl
theorem qw994 : Cond.methodLink RL 71 yX11_blows ∈ lw_all := lw_in (List.mem_of_getElem? (i := 994) (by decide +kernel)) rfl
theorem qw995 : Cond.instanceMethod yX11_blows ∈ lw_all := lw_in (List.mem_of_getElem? (i := 995) (by decide +kernel)) rfl
theorem qw996 : Cond.selects RX11 yX11_blows yX11_blows ∈ lw_all := lw_in (List.mem_of_getElem? (i := 996) (by decide +kernel)) rfl
theorem qw997 : Cond.code yX11_blows cX11_blows 3 (some .int) ∈ lw_all := lw_in (List.mem_of_getElem? (i := 997) (by decide +kernel)) rfl
theorem qw998 : Cond.methodLink RL 75 yX11_count ∈ lw_all := lw_in (List.mem_of_getElem? (i := 998) (by decide +kernel)) rfl
theorem qw999 : Cond.instanceMethod yX11_count ∈ lw_all := lw_in (List.mem_of_getElem? (i := 999) (by decide +kernel)) rfl
theorem qw1000 : Cond.selects RX11 yX11_count yX11_count ∈ lw_all := lw_in (List.mem_of_getElem? (i := 1000) (by decide +kernel)) rfl
theorem qw1001 : Cond.code yX11_count cX11_count 2 (some .int) ∈ lw_all := lw_in (List.mem_of_getElem? (i := 1001) (by decide +kernel)) rfl
theorem qw1002 : Cond.methodLink RX11 164 yX11_roundAt ∈ lw_all := lw_in (List.mem_of_getElem? (i := 1002) (by decide +kernel)) rfl
theorem qw1004 : Cond.instanceMethod yX11_roundAt ∈ lw_all := lw_in (List.mem_of_getElem? (i := 1004) (by decide +kernel)) rfl
theorem qw1005 : Cond.code yX11_roundAt cX11_roundAt 2 (some .int) ∈ lw_all := lw_in (List.mem_of_getElem? (i := 1005) (by decide +kernel)) rfl
theorem qw1006 : Cond.methodLink RX11 167 yX11_firstTwice ∈ lw_all := lw_in (List.mem_of_getElem? (i := 1006) (by decide +kernel)) rfl
theorem qw1008 : Cond.instanceMethod yX11_firstTwice ∈ lw_all := lw_in (List.mem_of_getElem? (i := 1008) (by decide +kernel)) rfl
theorem qw1009 : Cond.code yX11_firstTwice cX11_firstTwice 2 (some .int) ∈ lw_all := lw_in (List.mem_of_getElem? (i := 1009) (by decide +kernel)) rfl
theorem qw1010 : Cond.methodLink RX11 170 yX11_unlike ∈ lw_all := lw_in (List.mem_of_getElem? (i := 1010) (by decide +kernel)) rfl
theorem qw1012 : Cond.instanceMethod yX11_unlike ∈ lw_all := lw_in (List.mem_of_getElem? (i := 1012) (by decide +kernel)) rfl
theorem qw1013 : Cond.code yX11_unlike cX11_unlike 3 (some .int) ∈ lw_all := lw_in (List.mem_of_getElem? (i := 1013) (by decide +kernel)) rfl
theorem qw1014 : Cond.methodLink RX11 173 yX11_falsePairs ∈ lw_all := lw_in (List.mem_of_getElem? (i := 1014) (by decide +kernel)) rfl
theorem qw1016 : Cond.instanceMethod yX11_falsePairs ∈ lw_all := lw_in (List.mem_of_getElem? (i := 1016) (by decide +kernel)) rfl
theorem qw1017 : Cond.code yX11_falsePairs cX11_falsePairs 4 (some .int) ∈ lw_all := lw_in (List.mem_of_getElem? (i := 1017) (by decide +kernel)) rfl
theorem qw1018 : Cond.methodLink RX11 161 yX11_areFalse ∈ lw_all := lw_in (List.mem_of_getElem? (i := 1018) (by decide +kernel)) rfl
theorem qw1020 : Cond.instanceMethod yX11_areFalse ∈ lw_all := lw_in (List.mem_of_getElem? (i := 1020) (by decide +kernel)) rfl
theorem qw1021 : Cond.code yX11_areFalse cX11_areFalse 7 (some .boolean) ∈ lw_all := lw_in (List.mem_of_getElem? (i := 1021) (by decide +kernel)) rfl
theorem qw1022 : Cond.methodLink RX11 176 yX11_musical ∈ lw_all := lw_in (List.mem_of_getElem? (i := 1022) (by decide +kernel)) rfl
theorem qw1024 : Cond.instanceMethod yX11_musical ∈ lw_all := lw_in (List.mem_of_getElem? (i := 1024) (by decide +kernel)) rfl
theorem qw1025 : Cond.code yX11_musical cX11_musical 3 (some .int) ∈ lw_all := lw_in (List.mem_of_getElem? (i := 1025) (by decide +kernel)) rfl
theorem qw1026 : Cond.methodLink RX11 179 yX11_called ∈ lw_all := lw_in (List.mem_of_getElem? (i := 1026) (by decide +kernel)) rfl
theorem qw1028 : Cond.instanceMethod yX11_called ∈ lw_all := lw_in (List.mem_of_getElem? (i := 1028) (by decide +kernel)) rfl
theorem qw1029 : Cond.code yX11_called cX11_called 3 (some .int) ∈ lw_all := lw_in (List.mem_of_getElem? (i := 1029) (by decide +kernel)) rfl
theorem qw1030 : Cond.methodLink RX11 182 yX11_plainCourse ∈ lw_all := lw_in (List.mem_of_getElem? (i := 1030) (by decide +kernel)) rfl
theorem qw1032 : Cond.instanceMethod yX11_plainCourse ∈ lw_all := lw_in (List.mem_of_getElem? (i := 1032) (by decide +kernel)) rfl
theorem qw1033 : Cond.code yX11_plainCourse cX11_plainCourse 4 (some .int) ∈ lw_all := lw_in (List.mem_of_getElem? (i := 1033) (by decide +kernel)) rfl
theorem qw1034 : Cond.methodLink RL 80 yX11_music ∈ lw_all := lw_in (List.mem_of_getElem? (i := 1034) (by decide +kernel)) rfl
theorem qw1035 : Cond.instanceMethod yX11_music ∈ lw_all := lw_in (List.mem_of_getElem? (i := 1035) (by decide +kernel)) rfl
theorem qw1036 : Cond.selects RX11 yX11_music yX11_music ∈ lw_all := lw_in (List.mem_of_getElem? (i := 1036) (by decide +kernel)) rfl
theorem qw1037 : Cond.code yX11_music cX11_music 3 (some .double) ∈ lw_all := lw_in (List.mem_of_getElem? (i := 1037) (by decide +kernel)) rfl
theorem qw1038 : Cond.methodLink RL 84 yX11_home ∈ lw_all := lw_in (List.mem_of_getElem? (i := 1038) (by decide +kernel)) rfl
theorem qw1039 : Cond.instanceMethod yX11_home ∈ lw_all := lw_in (List.mem_of_getElem? (i := 1039) (by decide +kernel)) rfl
theorem qw1040 : Cond.selects RX11 yX11_home yX11_home ∈ lw_all := lw_in (List.mem_of_getElem? (i := 1040) (by decide +kernel)) rfl
theorem qw1041 : Cond.code yX11_home cX11_home 3 (some .int) ∈ lw_all := lw_in (List.mem_of_getElem? (i := 1041) (by decide +kernel)) rfl
theorem qw1042 : Cond.methodLink RL 88 yX11_homeCall ∈ lw_all := lw_in (List.mem_of_getElem? (i := 1042) (by decide +kernel)) rfl
theorem qw1043 : Cond.instanceMethod yX11_homeCall ∈ lw_all := lw_in (List.mem_of_getElem? (i := 1043) (by decide +kernel)) rfl
theorem qw1044 : Cond.selects RX11 yX11_homeCall yX11_homeCall ∈ lw_all := lw_in (List.mem_of_getElem? (i := 1044) (by decide +kernel)) rfl
theorem qw1045 : Cond.code yX11_homeCall cX11_homeCall 6 (some .int) ∈ lw_all := lw_in (List.mem_of_getElem? (i := 1045) (by decide +kernel)) rfl
theorem qw1046 : Cond.methodLink RL 93 yX11_ifCalled ∈ lw_all := lw_in (List.mem_of_getElem? (i := 1046) (by decide +kernel)) rfl
theorem qw1047 : Cond.instanceMethod yX11_ifCalled ∈ lw_all := lw_in (List.mem_of_getElem? (i := 1047) (by decide +kernel)) rfl
theorem qw1048 : Cond.selects RX11 yX11_ifCalled yX11_ifCalled ∈ lw_all := lw_in (List.mem_of_getElem? (i := 1048) (by decide +kernel)) rfl
theorem qw1049 : Cond.code yX11_ifCalled cX11_ifCalled 6 (some .int) ∈ lw_all := lw_in (List.mem_of_getElem? (i := 1049) (by decide +kernel)) rfl
theorem qw1050 : Cond.methodLink RL 97 yX11_best ∈ lw_all := lw_in (List.mem_of_getElem? (i := 1050) (by decide +kernel)) rfl
theorem qw1051 : Cond.instanceMethod yX11_best ∈ lw_all := lw_in (List.mem_of_getElem? (i := 1051) (by decide +kernel)) rfl
theorem qw1052 : Cond.selects RX11 yX11_best yX11_best ∈ lw_all := lw_in (List.mem_of_getElem? (i := 1052) (by decide +kernel)) rfl
theorem qw1053 : Cond.code yX11_best cX11_best 5 (some .int) ∈ lw_all := lw_in (List.mem_of_getElem? (i := 1053) (by decide +kernel)) rfl
theorem qw1054 : Cond.methodLink RL 101 yX11_undo ∈ lw_all := lw_in (List.mem_of_getElem? (i := 1054) (by decide +kernel)) rfl
theorem qw1055 : Cond.instanceMethod yX11_undo ∈ lw_all := lw_in (List.mem_of_getElem? (i := 1055) (by decide +kernel)) rfl
theorem qw1056 : Cond.selects RX11 yX11_undo yX11_undo ∈ lw_all := lw_in (List.mem_of_getElem? (i := 1056) (by decide +kernel)) rfl
theorem qw1057 : Cond.code yX11_undo cX11_undo 2 (some .int) ∈ lw_all := lw_in (List.mem_of_getElem? (i := 1057) (by decide +kernel)) rfl
theorem qw1058 : Cond.methodLink RL 105 yX11_save ∈ lw_all := lw_in (List.mem_of_getElem? (i := 1058) (by decide +kernel)) rfl
theorem qw1059 : Cond.instanceMethod yX11_save ∈ lw_all := lw_in (List.mem_of_getElem? (i := 1059) (by decide +kernel)) rfl
theorem qw1060 : Cond.selects RX11 yX11_save yX11_save ∈ lw_all := lw_in (List.mem_of_getElem? (i := 1060) (by decide +kernel)) rfl
theorem qw1061 : Cond.code yX11_save cX11_save 2 (some .int) ∈ lw_all := lw_in (List.mem_of_getElem? (i := 1061) (by decide +kernel)) rfl
theorem qw1062 : Cond.methodLink RL 109 yX11_restore ∈ lw_all := lw_in (List.mem_of_getElem? (i := 1062) (by decide +kernel)) rfl
theorem qw1063 : Cond.instanceMethod yX11_restore ∈ lw_all := lw_in (List.mem_of_getElem? (i := 1063) (by decide +kernel)) rfl
theorem qw1064 : Cond.selects RX11 yX11_restore yX11_restore ∈ lw_all := lw_in (List.mem_of_getElem? (i := 1064) (by decide +kernel)) rfl
theorem qw1065 : Cond.code yX11_restore cX11_restore 2 (some .int) ∈ lw_all := lw_in (List.mem_of_getElem? (i := 1065) (by decide +kernel)) rfl
theorem qw1066 : Cond.fieldLink RJ0 15 "java/lang/String" "coder" "B" ∈ lw_all := lw_in (List.mem_of_getElem? (i := 1066) (by decide +kernel)) rfl
theorem qw1067 : Cond.fieldLink RJ0 9 "java/lang/String" "value" "[B" ∈ lw_all := lw_in (List.mem_of_getElem? (i := 1067) (by decide +kernel)) rfl
set_option maxRecDepth 100000 in
theorem inX0 : ∀ w ∈ wsX00, w ∈ lw_all := by decide +kernel
set_option maxRecDepth 100000 in
theorem inX1 : ∀ w ∈ wsX10, w ∈ lw_all := by decide +kernel
set_option maxRecDepth 100000 in
theorem inX2 : ∀ w ∈ wsX20, w ∈ lw_all := by decide +kernel
set_option maxRecDepth 100000 in
theorem inX3 : ∀ w ∈ wsX30, w ∈ lw_all := by decide +kernel
set_option maxRecDepth 100000 in
theorem inX5 : ∀ w ∈ wsX50, w ∈ lw_all := by decide +kernel
set_option maxRecDepth 100000 in
theorem inX7 : ∀ w ∈ wsX70, w ∈ lw_all := by decide +kernel
set_option maxRecDepth 100000 in
theorem inX9 : ∀ w ∈ wsX90, w ∈ lw_all := by decide +kernel
set_option maxRecDepth 100000 in
theorem inX10 : ∀ w ∈ wsX100, w ∈ lw_all := by decide +kernel
set_option maxRecDepth 100000 in
theorem inX11 : ∀ w ∈ wsX110, w ∈ lw_all := by decide +kernel
theorem hd_X10_init : yX10_init.cls ≠ "java/lang/invoke/MethodHandle" ∧ yX10_init.cls ≠ "java/lang/invoke/VarHandle" ∧ (parseMethodDescriptor yX10_init.desc).map (fun d => d.parameters.length) = some 0 := by decide +kernel
theorem hd_X10_bells : yX10_bells.cls ≠ "java/lang/invoke/MethodHandle" ∧ yX10_bells.cls ≠ "java/lang/invoke/VarHandle" ∧ (parseMethodDescriptor yX10_bells.desc).map (fun d => d.parameters.length) = some 1 := by decide +kernel
theorem hd_X10_method : yX10_method.cls ≠ "java/lang/invoke/MethodHandle" ∧ yX10_method.cls ≠ "java/lang/invoke/VarHandle" ∧ (parseMethodDescriptor yX10_method.desc).map (fun d => d.parameters.length) = some 0 := by decide +kernel
theorem hd_X10_call : yX10_call.cls ≠ "java/lang/invoke/MethodHandle" ∧ yX10_call.cls ≠ "java/lang/invoke/VarHandle" ∧ (parseMethodDescriptor yX10_call.desc).map (fun d => d.parameters.length) = some 2 := by decide +kernel
theorem hd_X10_touch : yX10_touch.cls ≠ "java/lang/invoke/MethodHandle" ∧ yX10_touch.cls ≠ "java/lang/invoke/VarHandle" ∧ (parseMethodDescriptor yX10_touch.desc).map (fun d => d.parameters.length) = some 0 := by decide +kernel
theorem hd_X10_add : yX10_add.cls ≠ "java/lang/invoke/MethodHandle" ∧ yX10_add.cls ≠ "java/lang/invoke/VarHandle" ∧ (parseMethodDescriptor yX10_add.desc).map (fun d => d.parameters.length) = some 1 := by decide +kernel
theorem hd_X10_cut : yX10_cut.cls ≠ "java/lang/invoke/MethodHandle" ∧ yX10_cut.cls ≠ "java/lang/invoke/VarHandle" ∧ (parseMethodDescriptor yX10_cut.desc).map (fun d => d.parameters.length) = some 1 := by decide +kernel
theorem hd_X10_append : yX10_append.cls ≠ "java/lang/invoke/MethodHandle" ∧ yX10_append.cls ≠ "java/lang/invoke/VarHandle" ∧ (parseMethodDescriptor yX10_append.desc).map (fun d => d.parameters.length) = some 1 := by decide +kernel
theorem hd_X10_clear : yX10_clear.cls ≠ "java/lang/invoke/MethodHandle" ∧ yX10_clear.cls ≠ "java/lang/invoke/VarHandle" ∧ (parseMethodDescriptor yX10_clear.desc).map (fun d => d.parameters.length) = some 0 := by decide +kernel
theorem hd_X10_fault : yX10_fault.cls ≠ "java/lang/invoke/MethodHandle" ∧ yX10_fault.cls ≠ "java/lang/invoke/VarHandle" ∧ (parseMethodDescriptor yX10_fault.desc).map (fun d => d.parameters.length) = some 1 := by decide +kernel
theorem hd_X10_bell : yX10_bell.cls ≠ "java/lang/invoke/MethodHandle" ∧ yX10_bell.cls ≠ "java/lang/invoke/VarHandle" ∧ (parseMethodDescriptor yX10_bell.desc).map (fun d => d.parameters.length) = some 2 := by decide +kernel
theorem hd_X10_change : yX10_change.cls ≠ "java/lang/invoke/MethodHandle" ∧ yX10_change.cls ≠ "java/lang/invoke/VarHandle" ∧ (parseMethodDescriptor yX10_change.desc).map (fun d => d.parameters.length) = some 2 := by decide +kernel
theorem hd_X10_row : yX10_row.cls ≠ "java/lang/invoke/MethodHandle" ∧ yX10_row.cls ≠ "java/lang/invoke/VarHandle" ∧ (parseMethodDescriptor yX10_row.desc).map (fun d => d.parameters.length) = some 2 := by decide +kernel
theorem hd_X10_path : yX10_path.cls ≠ "java/lang/invoke/MethodHandle" ∧ yX10_path.cls ≠ "java/lang/invoke/VarHandle" ∧ (parseMethodDescriptor yX10_path.desc).map (fun d => d.parameters.length) = some 2 := by decide +kernel
theorem hd_X10_blows : yX10_blows.cls ≠ "java/lang/invoke/MethodHandle" ∧ yX10_blows.cls ≠ "java/lang/invoke/VarHandle" ∧ (parseMethodDescriptor yX10_blows.desc).map (fun d => d.parameters.length) = some 2 := by decide +kernel
theorem hd_X10_count : yX10_count.cls ≠ "java/lang/invoke/MethodHandle" ∧ yX10_count.cls ≠ "java/lang/invoke/VarHandle" ∧ (parseMethodDescriptor yX10_count.desc).map (fun d => d.parameters.length) = some 1 := by decide +kernel
theorem hd_X10_music : yX10_music.cls ≠ "java/lang/invoke/MethodHandle" ∧ yX10_music.cls ≠ "java/lang/invoke/VarHandle" ∧ (parseMethodDescriptor yX10_music.desc).map (fun d => d.parameters.length) = some 0 := by decide +kernel
theorem hd_X10_home : yX10_home.cls ≠ "java/lang/invoke/MethodHandle" ∧ yX10_home.cls ≠ "java/lang/invoke/VarHandle" ∧ (parseMethodDescriptor yX10_home.desc).map (fun d => d.parameters.length) = some 1 := by decide +kernel
theorem hd_X10_homeCall : yX10_homeCall.cls ≠ "java/lang/invoke/MethodHandle" ∧ yX10_homeCall.cls ≠ "java/lang/invoke/VarHandle" ∧ (parseMethodDescriptor yX10_homeCall.desc).map (fun d => d.parameters.length) = some 1 := by decide +kernel
theorem hd_X10_ifCalled : yX10_ifCalled.cls ≠ "java/lang/invoke/MethodHandle" ∧ yX10_ifCalled.cls ≠ "java/lang/invoke/VarHandle" ∧ (parseMethodDescriptor yX10_ifCalled.desc).map (fun d => d.parameters.length) = some 3 := by decide +kernel
theorem hd_X10_best : yX10_best.cls ≠ "java/lang/invoke/MethodHandle" ∧ yX10_best.cls ≠ "java/lang/invoke/VarHandle" ∧ (parseMethodDescriptor yX10_best.desc).map (fun d => d.parameters.length) = some 0 := by decide +kernel
theorem hd_X10_undo : yX10_undo.cls ≠ "java/lang/invoke/MethodHandle" ∧ yX10_undo.cls ≠ "java/lang/invoke/VarHandle" ∧ (parseMethodDescriptor yX10_undo.desc).map (fun d => d.parameters.length) = some 0 := by decide +kernel
theorem hd_X10_save : yX10_save.cls ≠ "java/lang/invoke/MethodHandle" ∧ yX10_save.cls ≠ "java/lang/invoke/VarHandle" ∧ (parseMethodDescriptor yX10_save.desc).map (fun d => d.parameters.length) = some 0 := by decide +kernel
theorem hd_X10_restore : yX10_restore.cls ≠ "java/lang/invoke/MethodHandle" ∧ yX10_restore.cls ≠ "java/lang/invoke/VarHandle" ∧ (parseMethodDescriptor yX10_restore.desc).map (fun d => d.parameters.length) = some 0 := by decide +kernel
theorem hd_X10_begin : yX10_begin.cls ≠ "java/lang/invoke/MethodHandle" ∧ yX10_begin.cls ≠ "java/lang/invoke/VarHandle" ∧ (parseMethodDescriptor yX10_begin.desc).map (fun d => d.parameters.length) = some 1 := by decide +kernel
theorem hd_X10_countRows : yX10_countRows.cls ≠ "java/lang/invoke/MethodHandle" ∧ yX10_countRows.cls ≠ "java/lang/invoke/VarHandle" ∧ (parseMethodDescriptor yX10_countRows.desc).map (fun d => d.parameters.length) = some 1 := by decide +kernel
theorem hd_X10_lastOrder : yX10_lastOrder.cls ≠ "java/lang/invoke/MethodHandle" ∧ yX10_lastOrder.cls ≠ "java/lang/invoke/VarHandle" ∧ (parseMethodDescriptor yX10_lastOrder.desc).map (fun d => d.parameters.length) = some 0 := by decide +kernel
theorem hd_X10_isBell : yX10_isBell.cls ≠ "java/lang/invoke/MethodHandle" ∧ yX10_isBell.cls ≠ "java/lang/invoke/VarHandle" ∧ (parseMethodDescriptor yX10_isBell.desc).map (fun d => d.parameters.length) = some 1 := by decide +kernel
theorem hd_X10_isWithin : yX10_isWithin.cls ≠ "java/lang/invoke/MethodHandle" ∧ yX10_isWithin.cls ≠ "java/lang/invoke/VarHandle" ∧ (parseMethodDescriptor yX10_isWithin.desc).map (fun d => d.parameters.length) = some 3 := by decide +kernel
theorem hd_X11_init : yX11_init.cls ≠ "java/lang/invoke/MethodHandle" ∧ yX11_init.cls ≠ "java/lang/invoke/VarHandle" ∧ (parseMethodDescriptor yX11_init.desc).map (fun d => d.parameters.length) = some 0 := by decide +kernel
theorem hd_X11_in : yX11_in.cls ≠ "java/lang/invoke/MethodHandle" ∧ yX11_in.cls ≠ "java/lang/invoke/VarHandle" ∧ (parseMethodDescriptor yX11_in.desc).map (fun d => d.parameters.length) = some 3 := by decide +kernel
theorem hd_X11_changes : yX11_changes.cls ≠ "java/lang/invoke/MethodHandle" ∧ yX11_changes.cls ≠ "java/lang/invoke/VarHandle" ∧ (parseMethodDescriptor yX11_changes.desc).map (fun d => d.parameters.length) = some 0 := by decide +kernel
theorem hd_X11_lays : yX11_lays.cls ≠ "java/lang/invoke/MethodHandle" ∧ yX11_lays.cls ≠ "java/lang/invoke/VarHandle" ∧ (parseMethodDescriptor yX11_lays.desc).map (fun d => d.parameters.length) = some 1 := by decide +kernel
theorem hd_X11_last : yX11_last.cls ≠ "java/lang/invoke/MethodHandle" ∧ yX11_last.cls ≠ "java/lang/invoke/VarHandle" ∧ (parseMethodDescriptor yX11_last.desc).map (fun d => d.parameters.length) = some 0 := by decide +kernel
theorem hd_X11_isRight : yX11_isRight.cls ≠ "java/lang/invoke/MethodHandle" ∧ yX11_isRight.cls ≠ "java/lang/invoke/VarHandle" ∧ (parseMethodDescriptor yX11_isRight.desc).map (fun d => d.parameters.length) = some 1 := by decide +kernel
theorem hd_X11_toRounds : yX11_toRounds.cls ≠ "java/lang/invoke/MethodHandle" ∧ yX11_toRounds.cls ≠ "java/lang/invoke/VarHandle" ∧ (parseMethodDescriptor yX11_toRounds.desc).map (fun d => d.parameters.length) = some 0 := by decide +kernel
theorem hd_X11_rings : yX11_rings.cls ≠ "java/lang/invoke/MethodHandle" ∧ yX11_rings.cls ≠ "java/lang/invoke/VarHandle" ∧ (parseMethodDescriptor yX11_rings.desc).map (fun d => d.parameters.length) = some 1 := by decide +kernel
theorem hd_X11_rank : yX11_rank.cls ≠ "java/lang/invoke/MethodHandle" ∧ yX11_rank.cls ≠ "java/lang/invoke/VarHandle" ∧ (parseMethodDescriptor yX11_rank.desc).map (fun d => d.parameters.length) = some 0 := by decide +kernel
theorem hd_X11_unrank : yX11_unrank.cls ≠ "java/lang/invoke/MethodHandle" ∧ yX11_unrank.cls ≠ "java/lang/invoke/VarHandle" ∧ (parseMethodDescriptor yX11_unrank.desc).map (fun d => d.parameters.length) = some 1 := by decide +kernel
theorem hd_X11_changeOf : yX11_changeOf.cls ≠ "java/lang/invoke/MethodHandle" ∧ yX11_changeOf.cls ≠ "java/lang/invoke/VarHandle" ∧ (parseMethodDescriptor yX11_changeOf.desc).map (fun d => d.parameters.length) = some 2 := by decide +kernel
theorem hd_X11_ringsLead : yX11_ringsLead.cls ≠ "java/lang/invoke/MethodHandle" ∧ yX11_ringsLead.cls ≠ "java/lang/invoke/VarHandle" ∧ (parseMethodDescriptor yX11_ringsLead.desc).map (fun d => d.parameters.length) = some 1 := by decide +kernel
theorem hd_X11_ringsAll : yX11_ringsAll.cls ≠ "java/lang/invoke/MethodHandle" ∧ yX11_ringsAll.cls ≠ "java/lang/invoke/VarHandle" ∧ (parseMethodDescriptor yX11_ringsAll.desc).map (fun d => d.parameters.length) = some 1 := by decide +kernel
theorem hd_X11_bells : yX11_bells.cls ≠ "java/lang/invoke/MethodHandle" ∧ yX11_bells.cls ≠ "java/lang/invoke/VarHandle" ∧ (parseMethodDescriptor yX11_bells.desc).map (fun d => d.parameters.length) = some 1 := by decide +kernel
theorem hd_X11_isAt : yX11_isAt.cls ≠ "java/lang/invoke/MethodHandle" ∧ yX11_isAt.cls ≠ "java/lang/invoke/VarHandle" ∧ (parseMethodDescriptor yX11_isAt.desc).map (fun d => d.parameters.length) = some 2 := by decide +kernel
theorem hd_X11_couldBeRight : yX11_couldBeRight.cls ≠ "java/lang/invoke/MethodHandle" ∧ yX11_couldBeRight.cls ≠ "java/lang/invoke/VarHandle" ∧ (parseMethodDescriptor yX11_couldBeRight.desc).map (fun d => d.parameters.length) = some 2 := by decide +kernel
theorem hd_X11_readsChange : yX11_readsChange.cls ≠ "java/lang/invoke/MethodHandle" ∧ yX11_readsChange.cls ≠ "java/lang/invoke/VarHandle" ∧ (parseMethodDescriptor yX11_readsChange.desc).map (fun d => d.parameters.length) = some 0 := by decide +kernel
theorem hd_X11_methodFault : yX11_methodFault.cls ≠ "java/lang/invoke/MethodHandle" ∧ yX11_methodFault.cls ≠ "java/lang/invoke/VarHandle" ∧ (parseMethodDescriptor yX11_methodFault.desc).map (fun d => d.parameters.length) = some 0 := by decide +kernel
theorem hd_X11_kindOf : yX11_kindOf.cls ≠ "java/lang/invoke/MethodHandle" ∧ yX11_kindOf.cls ≠ "java/lang/invoke/VarHandle" ∧ (parseMethodDescriptor yX11_kindOf.desc).map (fun d => d.parameters.length) = some 1 := by decide +kernel
theorem hd_X11_touchFault : yX11_touchFault.cls ≠ "java/lang/invoke/MethodHandle" ∧ yX11_touchFault.cls ≠ "java/lang/invoke/VarHandle" ∧ (parseMethodDescriptor yX11_touchFault.desc).map (fun d => d.parameters.length) = some 0 := by decide +kernel
theorem hd_X11_method : yX11_method.cls ≠ "java/lang/invoke/MethodHandle" ∧ yX11_method.cls ≠ "java/lang/invoke/VarHandle" ∧ (parseMethodDescriptor yX11_method.desc).map (fun d => d.parameters.length) = some 0 := by decide +kernel
theorem hd_X11_call : yX11_call.cls ≠ "java/lang/invoke/MethodHandle" ∧ yX11_call.cls ≠ "java/lang/invoke/VarHandle" ∧ (parseMethodDescriptor yX11_call.desc).map (fun d => d.parameters.length) = some 2 := by decide +kernel
theorem hd_X11_touch : yX11_touch.cls ≠ "java/lang/invoke/MethodHandle" ∧ yX11_touch.cls ≠ "java/lang/invoke/VarHandle" ∧ (parseMethodDescriptor yX11_touch.desc).map (fun d => d.parameters.length) = some 0 := by decide +kernel
theorem hd_X11_add : yX11_add.cls ≠ "java/lang/invoke/MethodHandle" ∧ yX11_add.cls ≠ "java/lang/invoke/VarHandle" ∧ (parseMethodDescriptor yX11_add.desc).map (fun d => d.parameters.length) = some 1 := by decide +kernel
theorem hd_X11_cut : yX11_cut.cls ≠ "java/lang/invoke/MethodHandle" ∧ yX11_cut.cls ≠ "java/lang/invoke/VarHandle" ∧ (parseMethodDescriptor yX11_cut.desc).map (fun d => d.parameters.length) = some 1 := by decide +kernel
theorem hd_X11_append : yX11_append.cls ≠ "java/lang/invoke/MethodHandle" ∧ yX11_append.cls ≠ "java/lang/invoke/VarHandle" ∧ (parseMethodDescriptor yX11_append.desc).map (fun d => d.parameters.length) = some 1 := by decide +kernel
theorem hd_X11_clear : yX11_clear.cls ≠ "java/lang/invoke/MethodHandle" ∧ yX11_clear.cls ≠ "java/lang/invoke/VarHandle" ∧ (parseMethodDescriptor yX11_clear.desc).map (fun d => d.parameters.length) = some 0 := by decide +kernel
theorem hd_X11_fault : yX11_fault.cls ≠ "java/lang/invoke/MethodHandle" ∧ yX11_fault.cls ≠ "java/lang/invoke/VarHandle" ∧ (parseMethodDescriptor yX11_fault.desc).map (fun d => d.parameters.length) = some 1 := by decide +kernel
theorem hd_X11_isPlace : yX11_isPlace.cls ≠ "java/lang/invoke/MethodHandle" ∧ yX11_isPlace.cls ≠ "java/lang/invoke/VarHandle" ∧ (parseMethodDescriptor yX11_isPlace.desc).map (fun d => d.parameters.length) = some 1 := by decide +kernel
theorem hd_X11_isRow : yX11_isRow.cls ≠ "java/lang/invoke/MethodHandle" ∧ yX11_isRow.cls ≠ "java/lang/invoke/VarHandle" ∧ (parseMethodDescriptor yX11_isRow.desc).map (fun d => d.parameters.length) = some 1 := by decide +kernel
theorem hd_X11_bell : yX11_bell.cls ≠ "java/lang/invoke/MethodHandle" ∧ yX11_bell.cls ≠ "java/lang/invoke/VarHandle" ∧ (parseMethodDescriptor yX11_bell.desc).map (fun d => d.parameters.length) = some 2 := by decide +kernel
theorem hd_X11_change : yX11_change.cls ≠ "java/lang/invoke/MethodHandle" ∧ yX11_change.cls ≠ "java/lang/invoke/VarHandle" ∧ (parseMethodDescriptor yX11_change.desc).map (fun d => d.parameters.length) = some 2 := by decide +kernel
theorem hd_X11_signByPairs : yX11_signByPairs.cls ≠ "java/lang/invoke/MethodHandle" ∧ yX11_signByPairs.cls ≠ "java/lang/invoke/VarHandle" ∧ (parseMethodDescriptor yX11_signByPairs.desc).map (fun d => d.parameters.length) = some 0 := by decide +kernel
theorem hd_X11_signByRings : yX11_signByRings.cls ≠ "java/lang/invoke/MethodHandle" ∧ yX11_signByRings.cls ≠ "java/lang/invoke/VarHandle" ∧ (parseMethodDescriptor yX11_signByRings.desc).map (fun d => d.parameters.length) = some 0 := by decide +kernel
theorem hd_X11_soundsWell : yX11_soundsWell.cls ≠ "java/lang/invoke/MethodHandle" ∧ yX11_soundsWell.cls ≠ "java/lang/invoke/VarHandle" ∧ (parseMethodDescriptor yX11_soundsWell.desc).map (fun d => d.parameters.length) = some 0 := by decide +kernel
theorem hd_X11_atHome : yX11_atHome.cls ≠ "java/lang/invoke/MethodHandle" ∧ yX11_atHome.cls ≠ "java/lang/invoke/VarHandle" ∧ (parseMethodDescriptor yX11_atHome.desc).map (fun d => d.parameters.length) = some 0 := by decide +kernel
theorem hd_X11_firstSame : yX11_firstSame.cls ≠ "java/lang/invoke/MethodHandle" ∧ yX11_firstSame.cls ≠ "java/lang/invoke/VarHandle" ∧ (parseMethodDescriptor yX11_firstSame.desc).map (fun d => d.parameters.length) = some 2 := by decide +kernel
theorem hd_X11_row : yX11_row.cls ≠ "java/lang/invoke/MethodHandle" ∧ yX11_row.cls ≠ "java/lang/invoke/VarHandle" ∧ (parseMethodDescriptor yX11_row.desc).map (fun d => d.parameters.length) = some 2 := by decide +kernel
theorem hd_X11_follows : yX11_follows.cls ≠ "java/lang/invoke/MethodHandle" ∧ yX11_follows.cls ≠ "java/lang/invoke/VarHandle" ∧ (parseMethodDescriptor yX11_follows.desc).map (fun d => d.parameters.length) = some 1 := by decide +kernel
theorem hd_X11_dodges : yX11_dodges.cls ≠ "java/lang/invoke/MethodHandle" ∧ yX11_dodges.cls ≠ "java/lang/invoke/VarHandle" ∧ (parseMethodDescriptor yX11_dodges.desc).map (fun d => d.parameters.length) = some 1 := by decide +kernel
theorem hd_X11_stays : yX11_stays.cls ≠ "java/lang/invoke/MethodHandle" ∧ yX11_stays.cls ≠ "java/lang/invoke/VarHandle" ∧ (parseMethodDescriptor yX11_stays.desc).map (fun d => d.parameters.length) = some 0 := by decide +kernel
theorem hd_X11_rowsAt : yX11_rowsAt.cls ≠ "java/lang/invoke/MethodHandle" ∧ yX11_rowsAt.cls ≠ "java/lang/invoke/VarHandle" ∧ (parseMethodDescriptor yX11_rowsAt.desc).map (fun d => d.parameters.length) = some 1 := by decide +kernel
theorem hd_X11_path : yX11_path.cls ≠ "java/lang/invoke/MethodHandle" ∧ yX11_path.cls ≠ "java/lang/invoke/VarHandle" ∧ (parseMethodDescriptor yX11_path.desc).map (fun d => d.parameters.length) = some 2 := by decide +kernel
theorem hd_X11_blows : yX11_blows.cls ≠ "java/lang/invoke/MethodHandle" ∧ yX11_blows.cls ≠ "java/lang/invoke/VarHandle" ∧ (parseMethodDescriptor yX11_blows.desc).map (fun d => d.parameters.length) = some 2 := by decide +kernel
theorem hd_X11_roundAt : yX11_roundAt.cls ≠ "java/lang/invoke/MethodHandle" ∧ yX11_roundAt.cls ≠ "java/lang/invoke/VarHandle" ∧ (parseMethodDescriptor yX11_roundAt.desc).map (fun d => d.parameters.length) = some 0 := by decide +kernel
theorem hd_X11_firstTwice : yX11_firstTwice.cls ≠ "java/lang/invoke/MethodHandle" ∧ yX11_firstTwice.cls ≠ "java/lang/invoke/VarHandle" ∧ (parseMethodDescriptor yX11_firstTwice.desc).map (fun d => d.parameters.length) = some 0 := by decide +kernel
theorem hd_X11_unlike : yX11_unlike.cls ≠ "java/lang/invoke/MethodHandle" ∧ yX11_unlike.cls ≠ "java/lang/invoke/VarHandle" ∧ (parseMethodDescriptor yX11_unlike.desc).map (fun d => d.parameters.length) = some 0 := by decide +kernel
theorem hd_X11_areFalse : yX11_areFalse.cls ≠ "java/lang/invoke/MethodHandle" ∧ yX11_areFalse.cls ≠ "java/lang/invoke/VarHandle" ∧ (parseMethodDescriptor yX11_areFalse.desc).map (fun d => d.parameters.length) = some 2 := by decide +kernel
theorem hd_X11_falsePairs : yX11_falsePairs.cls ≠ "java/lang/invoke/MethodHandle" ∧ yX11_falsePairs.cls ≠ "java/lang/invoke/VarHandle" ∧ (parseMethodDescriptor yX11_falsePairs.desc).map (fun d => d.parameters.length) = some 0 := by decide +kernel
theorem hd_X11_musical : yX11_musical.cls ≠ "java/lang/invoke/MethodHandle" ∧ yX11_musical.cls ≠ "java/lang/invoke/VarHandle" ∧ (parseMethodDescriptor yX11_musical.desc).map (fun d => d.parameters.length) = some 0 := by decide +kernel
theorem hd_X11_called : yX11_called.cls ≠ "java/lang/invoke/MethodHandle" ∧ yX11_called.cls ≠ "java/lang/invoke/VarHandle" ∧ (parseMethodDescriptor yX11_called.desc).map (fun d => d.parameters.length) = some 0 := by decide +kernel
theorem hd_X11_plainCourse : yX11_plainCourse.cls ≠ "java/lang/invoke/MethodHandle" ∧ yX11_plainCourse.cls ≠ "java/lang/invoke/VarHandle" ∧ (parseMethodDescriptor yX11_plainCourse.desc).map (fun d => d.parameters.length) = some 0 := by decide +kernel
theorem hd_X11_count : yX11_count.cls ≠ "java/lang/invoke/MethodHandle" ∧ yX11_count.cls ≠ "java/lang/invoke/VarHandle" ∧ (parseMethodDescriptor yX11_count.desc).map (fun d => d.parameters.length) = some 1 := by decide +kernel
theorem hd_X11_music : yX11_music.cls ≠ "java/lang/invoke/MethodHandle" ∧ yX11_music.cls ≠ "java/lang/invoke/VarHandle" ∧ (parseMethodDescriptor yX11_music.desc).map (fun d => d.parameters.length) = some 0 := by decide +kernel
theorem hd_X11_takesLeads : yX11_takesLeads.cls ≠ "java/lang/invoke/MethodHandle" ∧ yX11_takesLeads.cls ≠ "java/lang/invoke/VarHandle" ∧ (parseMethodDescriptor yX11_takesLeads.desc).map (fun d => d.parameters.length) = some 0 := by decide +kernel
theorem hd_X11_moved : yX11_moved.cls ≠ "java/lang/invoke/MethodHandle" ∧ yX11_moved.cls ≠ "java/lang/invoke/VarHandle" ∧ (parseMethodDescriptor yX11_moved.desc).map (fun d => d.parameters.length) = some 3 := by decide +kernel
theorem hd_X11_spreadsFrom : yX11_spreadsFrom.cls ≠ "java/lang/invoke/MethodHandle" ∧ yX11_spreadsFrom.cls ≠ "java/lang/invoke/VarHandle" ∧ (parseMethodDescriptor yX11_spreadsFrom.desc).map (fun d => d.parameters.length) = some 2 := by decide +kernel
theorem hd_X11_spreads : yX11_spreads.cls ≠ "java/lang/invoke/MethodHandle" ∧ yX11_spreads.cls ≠ "java/lang/invoke/VarHandle" ∧ (parseMethodDescriptor yX11_spreads.desc).map (fun d => d.parameters.length) = some 0 := by decide +kernel
theorem hd_X11_home : yX11_home.cls ≠ "java/lang/invoke/MethodHandle" ∧ yX11_home.cls ≠ "java/lang/invoke/VarHandle" ∧ (parseMethodDescriptor yX11_home.desc).map (fun d => d.parameters.length) = some 1 := by decide +kernel
theorem hd_X11_homeCall : yX11_homeCall.cls ≠ "java/lang/invoke/MethodHandle" ∧ yX11_homeCall.cls ≠ "java/lang/invoke/VarHandle" ∧ (parseMethodDescriptor yX11_homeCall.desc).map (fun d => d.parameters.length) = some 1 := by decide +kernel
theorem hd_X11_ifCalled : yX11_ifCalled.cls ≠ "java/lang/invoke/MethodHandle" ∧ yX11_ifCalled.cls ≠ "java/lang/invoke/VarHandle" ∧ (parseMethodDescriptor yX11_ifCalled.desc).map (fun d => d.parameters.length) = some 3 := by decide +kernel
theorem hd_X11_best : yX11_best.cls ≠ "java/lang/invoke/MethodHandle" ∧ yX11_best.cls ≠ "java/lang/invoke/VarHandle" ∧ (parseMethodDescriptor yX11_best.desc).map (fun d => d.parameters.length) = some 0 := by decide +kernel
theorem hd_X11_undo : yX11_undo.cls ≠ "java/lang/invoke/MethodHandle" ∧ yX11_undo.cls ≠ "java/lang/invoke/VarHandle" ∧ (parseMethodDescriptor yX11_undo.desc).map (fun d => d.parameters.length) = some 0 := by decide +kernel
theorem hd_X11_save : yX11_save.cls ≠ "java/lang/invoke/MethodHandle" ∧ yX11_save.cls ≠ "java/lang/invoke/VarHandle" ∧ (parseMethodDescriptor yX11_save.desc).map (fun d => d.parameters.length) = some 0 := by decide +kernel
theorem hd_X11_restore : yX11_restore.cls ≠ "java/lang/invoke/MethodHandle" ∧ yX11_restore.cls ≠ "java/lang/invoke/VarHandle" ∧ (parseMethodDescriptor yX11_restore.desc).map (fun d => d.parameters.length) = some 0 := by decide +kernel
theorem hd_X0_init : yX0_init.cls ≠ "java/lang/invoke/MethodHandle" ∧ yX0_init.cls ≠ "java/lang/invoke/VarHandle" ∧ (parseMethodDescriptor yX0_init.desc).map (fun d => d.parameters.length) = some 0 := by decide +kernel
theorem hd_X0_record : yX0_record.cls ≠ "java/lang/invoke/MethodHandle" ∧ yX0_record.cls ≠ "java/lang/invoke/VarHandle" ∧ (parseMethodDescriptor yX0_record.desc).map (fun d => d.parameters.length) = some 1 := by decide +kernel
theorem hd_X0_takeBack : yX0_takeBack.cls ≠ "java/lang/invoke/MethodHandle" ∧ yX0_takeBack.cls ≠ "java/lang/invoke/VarHandle" ∧ (parseMethodDescriptor yX0_takeBack.desc).map (fun d => d.parameters.length) = some 1 := by decide +kernel
theorem hd_X0_dropOldest : yX0_dropOldest.cls ≠ "java/lang/invoke/MethodHandle" ∧ yX0_dropOldest.cls ≠ "java/lang/invoke/VarHandle" ∧ (parseMethodDescriptor yX0_dropOldest.desc).map (fun d => d.parameters.length) = some 0 := by decide +kernel
theorem hd_X1_init : yX1_init.cls ≠ "java/lang/invoke/MethodHandle" ∧ yX1_init.cls ≠ "java/lang/invoke/VarHandle" ∧ (parseMethodDescriptor yX1_init.desc).map (fun d => d.parameters.length) = some 0 := by decide +kernel
theorem hd_X1_learn : yX1_learn.cls ≠ "java/lang/invoke/MethodHandle" ∧ yX1_learn.cls ≠ "java/lang/invoke/VarHandle" ∧ (parseMethodDescriptor yX1_learn.desc).map (fun d => d.parameters.length) = some 1 := by decide +kernel
theorem hd_X1_leadsFrom : yX1_leadsFrom.cls ≠ "java/lang/invoke/MethodHandle" ∧ yX1_leadsFrom.cls ≠ "java/lang/invoke/VarHandle" ∧ (parseMethodDescriptor yX1_leadsFrom.desc).map (fun d => d.parameters.length) = some 1 := by decide +kernel
theorem hd_X1_leadsBySearch : yX1_leadsBySearch.cls ≠ "java/lang/invoke/MethodHandle" ∧ yX1_leadsBySearch.cls ≠ "java/lang/invoke/VarHandle" ∧ (parseMethodDescriptor yX1_leadsBySearch.desc).map (fun d => d.parameters.length) = some 1 := by decide +kernel
theorem hd_X1_callAt : yX1_callAt.cls ≠ "java/lang/invoke/MethodHandle" ∧ yX1_callAt.cls ≠ "java/lang/invoke/VarHandle" ∧ (parseMethodDescriptor yX1_callAt.desc).map (fun d => d.parameters.length) = some 2 := by decide +kernel
theorem hd_X1_callFrom : yX1_callFrom.cls ≠ "java/lang/invoke/MethodHandle" ∧ yX1_callFrom.cls ≠ "java/lang/invoke/VarHandle" ∧ (parseMethodDescriptor yX1_callFrom.desc).map (fun d => d.parameters.length) = some 1 := by decide +kernel
theorem hd_X1_behind : yX1_behind.cls ≠ "java/lang/invoke/MethodHandle" ∧ yX1_behind.cls ≠ "java/lang/invoke/VarHandle" ∧ (parseMethodDescriptor yX1_behind.desc).map (fun d => d.parameters.length) = some 2 := by decide +kernel
theorem hd_X2_init : yX2_init.cls ≠ "java/lang/invoke/MethodHandle" ∧ yX2_init.cls ≠ "java/lang/invoke/VarHandle" ∧ (parseMethodDescriptor yX2_init.desc).map (fun d => d.parameters.length) = some 0 := by decide +kernel
theorem hd_X2_read : yX2_read.cls ≠ "java/lang/invoke/MethodHandle" ∧ yX2_read.cls ≠ "java/lang/invoke/VarHandle" ∧ (parseMethodDescriptor yX2_read.desc).map (fun d => d.parameters.length) = some 3 := by decide +kernel
theorem hd_X2_accepts : yX2_accepts.cls ≠ "java/lang/invoke/MethodHandle" ∧ yX2_accepts.cls ≠ "java/lang/invoke/VarHandle" ∧ (parseMethodDescriptor yX2_accepts.desc).map (fun d => d.parameters.length) = some 2 := by decide +kernel
theorem hd_X2_acceptsDot : yX2_acceptsDot.cls ≠ "java/lang/invoke/MethodHandle" ∧ yX2_acceptsDot.cls ≠ "java/lang/invoke/VarHandle" ∧ (parseMethodDescriptor yX2_acceptsDot.desc).map (fun d => d.parameters.length) = some 1 := by decide +kernel
theorem hd_X2_acceptsCross : yX2_acceptsCross.cls ≠ "java/lang/invoke/MethodHandle" ∧ yX2_acceptsCross.cls ≠ "java/lang/invoke/VarHandle" ∧ (parseMethodDescriptor yX2_acceptsCross.desc).map (fun d => d.parameters.length) = some 1 := by decide +kernel
theorem hd_X2_acceptsPlace : yX2_acceptsPlace.cls ≠ "java/lang/invoke/MethodHandle" ∧ yX2_acceptsPlace.cls ≠ "java/lang/invoke/VarHandle" ∧ (parseMethodDescriptor yX2_acceptsPlace.desc).map (fun d => d.parameters.length) = some 2 := by decide +kernel
theorem hd_X2_isChangeRight : yX2_isChangeRight.cls ≠ "java/lang/invoke/MethodHandle" ∧ yX2_isChangeRight.cls ≠ "java/lang/invoke/VarHandle" ∧ (parseMethodDescriptor yX2_isChangeRight.desc).map (fun d => d.parameters.length) = some 1 := by decide +kernel
theorem hd_X2_keepChange : yX2_keepChange.cls ≠ "java/lang/invoke/MethodHandle" ∧ yX2_keepChange.cls ≠ "java/lang/invoke/VarHandle" ∧ (parseMethodDescriptor yX2_keepChange.desc).map (fun d => d.parameters.length) = some 0 := by decide +kernel
theorem hd_X2_beginChange : yX2_beginChange.cls ≠ "java/lang/invoke/MethodHandle" ∧ yX2_beginChange.cls ≠ "java/lang/invoke/VarHandle" ∧ (parseMethodDescriptor yX2_beginChange.desc).map (fun d => d.parameters.length) = some 0 := by decide +kernel
theorem hd_X3_init : yX3_init.cls ≠ "java/lang/invoke/MethodHandle" ∧ yX3_init.cls ≠ "java/lang/invoke/VarHandle" ∧ (parseMethodDescriptor yX3_init.desc).map (fun d => d.parameters.length) = some 0 := by decide +kernel
theorem hd_X3_put : yX3_put.cls ≠ "java/lang/invoke/MethodHandle" ∧ yX3_put.cls ≠ "java/lang/invoke/VarHandle" ∧ (parseMethodDescriptor yX3_put.desc).map (fun d => d.parameters.length) = some 1 := by decide +kernel
theorem hd_X3_faultAsTouch : yX3_faultAsTouch.cls ≠ "java/lang/invoke/MethodHandle" ∧ yX3_faultAsTouch.cls ≠ "java/lang/invoke/VarHandle" ∧ (parseMethodDescriptor yX3_faultAsTouch.desc).map (fun d => d.parameters.length) = some 0 := by decide +kernel
theorem hd_X3_kindOf : yX3_kindOf.cls ≠ "java/lang/invoke/MethodHandle" ∧ yX3_kindOf.cls ≠ "java/lang/invoke/VarHandle" ∧ (parseMethodDescriptor yX3_kindOf.desc).map (fun d => d.parameters.length) = some 1 := by decide +kernel
theorem hd_X4_bit : yX4_bit.cls ≠ "java/lang/invoke/MethodHandle" ∧ yX4_bit.cls ≠ "java/lang/invoke/VarHandle" ∧ (parseMethodDescriptor yX4_bit.desc).map (fun d => d.parameters.length) = some 1 := by decide +kernel
theorem hd_X4_has : yX4_has.cls ≠ "java/lang/invoke/MethodHandle" ∧ yX4_has.cls ≠ "java/lang/invoke/VarHandle" ∧ (parseMethodDescriptor yX4_has.desc).map (fun d => d.parameters.length) = some 2 := by decide +kernel
theorem hd_X4_areRight : yX4_areRight.cls ≠ "java/lang/invoke/MethodHandle" ∧ yX4_areRight.cls ≠ "java/lang/invoke/VarHandle" ∧ (parseMethodDescriptor yX4_areRight.desc).map (fun d => d.parameters.length) = some 2 := by decide +kernel
theorem hd_X5_init : yX5_init.cls ≠ "java/lang/invoke/MethodHandle" ∧ yX5_init.cls ≠ "java/lang/invoke/VarHandle" ∧ (parseMethodDescriptor yX5_init.desc).map (fun d => d.parameters.length) = some 0 := by decide +kernel
theorem hd_X5_ring : yX5_ring.cls ≠ "java/lang/invoke/MethodHandle" ∧ yX5_ring.cls ≠ "java/lang/invoke/VarHandle" ∧ (parseMethodDescriptor yX5_ring.desc).map (fun d => d.parameters.length) = some 1 := by decide +kernel
theorem hd_X5_keep : yX5_keep.cls ≠ "java/lang/invoke/MethodHandle" ∧ yX5_keep.cls ≠ "java/lang/invoke/VarHandle" ∧ (parseMethodDescriptor yX5_keep.desc).map (fun d => d.parameters.length) = some 1 := by decide +kernel
theorem hd_X5_findFirsts : yX5_findFirsts.cls ≠ "java/lang/invoke/MethodHandle" ∧ yX5_findFirsts.cls ≠ "java/lang/invoke/VarHandle" ∧ (parseMethodDescriptor yX5_findFirsts.desc).map (fun d => d.parameters.length) = some 0 := by decide +kernel
theorem hd_X5_firstWithRank : yX5_firstWithRank.cls ≠ "java/lang/invoke/MethodHandle" ∧ yX5_firstWithRank.cls ≠ "java/lang/invoke/VarHandle" ∧ (parseMethodDescriptor yX5_firstWithRank.desc).map (fun d => d.parameters.length) = some 2 := by decide +kernel
theorem hd_X5_rowAt : yX5_rowAt.cls ≠ "java/lang/invoke/MethodHandle" ∧ yX5_rowAt.cls ≠ "java/lang/invoke/VarHandle" ∧ (parseMethodDescriptor yX5_rowAt.desc).map (fun d => d.parameters.length) = some 1 := by decide +kernel
theorem hd_X5_placeIn : yX5_placeIn.cls ≠ "java/lang/invoke/MethodHandle" ∧ yX5_placeIn.cls ≠ "java/lang/invoke/VarHandle" ∧ (parseMethodDescriptor yX5_placeIn.desc).map (fun d => d.parameters.length) = some 2 := by decide +kernel
theorem hd_X5_isFirst : yX5_isFirst.cls ≠ "java/lang/invoke/MethodHandle" ∧ yX5_isFirst.cls ≠ "java/lang/invoke/VarHandle" ∧ (parseMethodDescriptor yX5_isFirst.desc).map (fun d => d.parameters.length) = some 1 := by decide +kernel
theorem hd_X5_firstLike : yX5_firstLike.cls ≠ "java/lang/invoke/MethodHandle" ∧ yX5_firstLike.cls ≠ "java/lang/invoke/VarHandle" ∧ (parseMethodDescriptor yX5_firstLike.desc).map (fun d => d.parameters.length) = some 1 := by decide +kernel
theorem hd_X5_comesRound : yX5_comesRound.cls ≠ "java/lang/invoke/MethodHandle" ∧ yX5_comesRound.cls ≠ "java/lang/invoke/VarHandle" ∧ (parseMethodDescriptor yX5_comesRound.desc).map (fun d => d.parameters.length) = some 0 := by decide +kernel
theorem hd_X5_firstRepeat : yX5_firstRepeat.cls ≠ "java/lang/invoke/MethodHandle" ∧ yX5_firstRepeat.cls ≠ "java/lang/invoke/VarHandle" ∧ (parseMethodDescriptor yX5_firstRepeat.desc).map (fun d => d.parameters.length) = some 0 := by decide +kernel
theorem hd_X5_isTrue : yX5_isTrue.cls ≠ "java/lang/invoke/MethodHandle" ∧ yX5_isTrue.cls ≠ "java/lang/invoke/VarHandle" ∧ (parseMethodDescriptor yX5_isTrue.desc).map (fun d => d.parameters.length) = some 0 := by decide +kernel
theorem hd_X5_differentRows : yX5_differentRows.cls ≠ "java/lang/invoke/MethodHandle" ∧ yX5_differentRows.cls ≠ "java/lang/invoke/VarHandle" ∧ (parseMethodDescriptor yX5_differentRows.desc).map (fun d => d.parameters.length) = some 0 := by decide +kernel
theorem hd_X5_wellSounding : yX5_wellSounding.cls ≠ "java/lang/invoke/MethodHandle" ∧ yX5_wellSounding.cls ≠ "java/lang/invoke/VarHandle" ∧ (parseMethodDescriptor yX5_wellSounding.desc).map (fun d => d.parameters.length) = some 0 := by decide +kernel
theorem hd_X5_falsePairs : yX5_falsePairs.cls ≠ "java/lang/invoke/MethodHandle" ∧ yX5_falsePairs.cls ≠ "java/lang/invoke/VarHandle" ∧ (parseMethodDescriptor yX5_falsePairs.desc).map (fun d => d.parameters.length) = some 0 := by decide +kernel
theorem hd_X5_areFalse : yX5_areFalse.cls ≠ "java/lang/invoke/MethodHandle" ∧ yX5_areFalse.cls ≠ "java/lang/invoke/VarHandle" ∧ (parseMethodDescriptor yX5_areFalse.desc).map (fun d => d.parameters.length) = some 2 := by decide +kernel
theorem hd_X5_dodgesAt : yX5_dodgesAt.cls ≠ "java/lang/invoke/MethodHandle" ∧ yX5_dodgesAt.cls ≠ "java/lang/invoke/VarHandle" ∧ (parseMethodDescriptor yX5_dodgesAt.desc).map (fun d => d.parameters.length) = some 2 := by decide +kernel
theorem hd_X5_dodges : yX5_dodges.cls ≠ "java/lang/invoke/MethodHandle" ∧ yX5_dodges.cls ≠ "java/lang/invoke/VarHandle" ∧ (parseMethodDescriptor yX5_dodges.desc).map (fun d => d.parameters.length) = some 1 := by decide +kernel
theorem hd_X5_firstDodge : yX5_firstDodge.cls ≠ "java/lang/invoke/MethodHandle" ∧ yX5_firstDodge.cls ≠ "java/lang/invoke/VarHandle" ∧ (parseMethodDescriptor yX5_firstDodge.desc).map (fun d => d.parameters.length) = some 1 := by decide +kernel
theorem hd_X5_stays : yX5_stays.cls ≠ "java/lang/invoke/MethodHandle" ∧ yX5_stays.cls ≠ "java/lang/invoke/VarHandle" ∧ (parseMethodDescriptor yX5_stays.desc).map (fun d => d.parameters.length) = some 1 := by decide +kernel
theorem hd_X5_blowsAt : yX5_blowsAt.cls ≠ "java/lang/invoke/MethodHandle" ∧ yX5_blowsAt.cls ≠ "java/lang/invoke/VarHandle" ∧ (parseMethodDescriptor yX5_blowsAt.desc).map (fun d => d.parameters.length) = some 2 := by decide +kernel
theorem hd_X6_rounds : yX6_rounds.cls ≠ "java/lang/invoke/MethodHandle" ∧ yX6_rounds.cls ≠ "java/lang/invoke/VarHandle" ∧ (parseMethodDescriptor yX6_rounds.desc).map (fun d => d.parameters.length) = some 1 := by decide +kernel
theorem hd_X6_bellAt : yX6_bellAt.cls ≠ "java/lang/invoke/MethodHandle" ∧ yX6_bellAt.cls ≠ "java/lang/invoke/VarHandle" ∧ (parseMethodDescriptor yX6_bellAt.desc).map (fun d => d.parameters.length) = some 2 := by decide +kernel
theorem hd_X6_put : yX6_put.cls ≠ "java/lang/invoke/MethodHandle" ∧ yX6_put.cls ≠ "java/lang/invoke/VarHandle" ∧ (parseMethodDescriptor yX6_put.desc).map (fun d => d.parameters.length) = some 3 := by decide +kernel
theorem hd_X6_placeOf : yX6_placeOf.cls ≠ "java/lang/invoke/MethodHandle" ∧ yX6_placeOf.cls ≠ "java/lang/invoke/VarHandle" ∧ (parseMethodDescriptor yX6_placeOf.desc).map (fun d => d.parameters.length) = some 3 := by decide +kernel
theorem hd_X6_behindChange : yX6_behindChange.cls ≠ "java/lang/invoke/MethodHandle" ∧ yX6_behindChange.cls ≠ "java/lang/invoke/VarHandle" ∧ (parseMethodDescriptor yX6_behindChange.desc).map (fun d => d.parameters.length) = some 3 := by decide +kernel
theorem hd_X6_behindLead : yX6_behindLead.cls ≠ "java/lang/invoke/MethodHandle" ∧ yX6_behindLead.cls ≠ "java/lang/invoke/VarHandle" ∧ (parseMethodDescriptor yX6_behindLead.desc).map (fun d => d.parameters.length) = some 3 := by decide +kernel
theorem hd_X6_backwards : yX6_backwards.cls ≠ "java/lang/invoke/MethodHandle" ∧ yX6_backwards.cls ≠ "java/lang/invoke/VarHandle" ∧ (parseMethodDescriptor yX6_backwards.desc).map (fun d => d.parameters.length) = some 2 := by decide +kernel
theorem hd_X6_rank : yX6_rank.cls ≠ "java/lang/invoke/MethodHandle" ∧ yX6_rank.cls ≠ "java/lang/invoke/VarHandle" ∧ (parseMethodDescriptor yX6_rank.desc).map (fun d => d.parameters.length) = some 2 := by decide +kernel
theorem hd_X6_signByPairs : yX6_signByPairs.cls ≠ "java/lang/invoke/MethodHandle" ∧ yX6_signByPairs.cls ≠ "java/lang/invoke/VarHandle" ∧ (parseMethodDescriptor yX6_signByPairs.desc).map (fun d => d.parameters.length) = some 2 := by decide +kernel
theorem hd_X6_signByCycles : yX6_signByCycles.cls ≠ "java/lang/invoke/MethodHandle" ∧ yX6_signByCycles.cls ≠ "java/lang/invoke/VarHandle" ∧ (parseMethodDescriptor yX6_signByCycles.desc).map (fun d => d.parameters.length) = some 2 := by decide +kernel
theorem hd_X6_soundsWell : yX6_soundsWell.cls ≠ "java/lang/invoke/MethodHandle" ∧ yX6_soundsWell.cls ≠ "java/lang/invoke/VarHandle" ∧ (parseMethodDescriptor yX6_soundsWell.desc).map (fun d => d.parameters.length) = some 2 := by decide +kernel
theorem hd_X6_bellsInPlace : yX6_bellsInPlace.cls ≠ "java/lang/invoke/MethodHandle" ∧ yX6_bellsInPlace.cls ≠ "java/lang/invoke/VarHandle" ∧ (parseMethodDescriptor yX6_bellsInPlace.desc).map (fun d => d.parameters.length) = some 2 := by decide +kernel
theorem hd_X7_init : yX7_init.cls ≠ "java/lang/invoke/MethodHandle" ∧ yX7_init.cls ≠ "java/lang/invoke/VarHandle" ∧ (parseMethodDescriptor yX7_init.desc).map (fun d => d.parameters.length) = some 0 := by decide +kernel
theorem hd_X7_from : yX7_from.cls ≠ "java/lang/invoke/MethodHandle" ∧ yX7_from.cls ≠ "java/lang/invoke/VarHandle" ∧ (parseMethodDescriptor yX7_from.desc).map (fun d => d.parameters.length) = some 4 := by decide +kernel
theorem hd_X7_reach : yX7_reach.cls ≠ "java/lang/invoke/MethodHandle" ∧ yX7_reach.cls ≠ "java/lang/invoke/VarHandle" ∧ (parseMethodDescriptor yX7_reach.desc).map (fun d => d.parameters.length) = some 2 := by decide +kernel
theorem hd_X7_fewestTo : yX7_fewestTo.cls ≠ "java/lang/invoke/MethodHandle" ∧ yX7_fewestTo.cls ≠ "java/lang/invoke/VarHandle" ∧ (parseMethodDescriptor yX7_fewestTo.desc).map (fun d => d.parameters.length) = some 1 := by decide +kernel
theorem hd_X8_lead : yX8_lead.cls ≠ "java/lang/invoke/MethodHandle" ∧ yX8_lead.cls ≠ "java/lang/invoke/VarHandle" ∧ (parseMethodDescriptor yX8_lead.desc).map (fun d => d.parameters.length) = some 1 := by decide +kernel
theorem hd_X8_bob : yX8_bob.cls ≠ "java/lang/invoke/MethodHandle" ∧ yX8_bob.cls ≠ "java/lang/invoke/VarHandle" ∧ (parseMethodDescriptor yX8_bob.desc).map (fun d => d.parameters.length) = some 1 := by decide +kernel
theorem hd_X8_single : yX8_single.cls ≠ "java/lang/invoke/MethodHandle" ∧ yX8_single.cls ≠ "java/lang/invoke/VarHandle" ∧ (parseMethodDescriptor yX8_single.desc).map (fun d => d.parameters.length) = some 1 := by decide +kernel
theorem hd_X9_init : yX9_init.cls ≠ "java/lang/invoke/MethodHandle" ∧ yX9_init.cls ≠ "java/lang/invoke/VarHandle" ∧ (parseMethodDescriptor yX9_init.desc).map (fun d => d.parameters.length) = some 0 := by decide +kernel
theorem hd_X9_become : yX9_become.cls ≠ "java/lang/invoke/MethodHandle" ∧ yX9_become.cls ≠ "java/lang/invoke/VarHandle" ∧ (parseMethodDescriptor yX9_become.desc).map (fun d => d.parameters.length) = some 1 := by decide +kernel
theorem hd_X9_takeMethod : yX9_takeMethod.cls ≠ "java/lang/invoke/MethodHandle" ∧ yX9_takeMethod.cls ≠ "java/lang/invoke/VarHandle" ∧ (parseMethodDescriptor yX9_takeMethod.desc).map (fun d => d.parameters.length) = some 1 := by decide +kernel
theorem hd_X9_addLead : yX9_addLead.cls ≠ "java/lang/invoke/MethodHandle" ∧ yX9_addLead.cls ≠ "java/lang/invoke/VarHandle" ∧ (parseMethodDescriptor yX9_addLead.desc).map (fun d => d.parameters.length) = some 1 := by decide +kernel
theorem hd_X9_callLead : yX9_callLead.cls ≠ "java/lang/invoke/MethodHandle" ∧ yX9_callLead.cls ≠ "java/lang/invoke/VarHandle" ∧ (parseMethodDescriptor yX9_callLead.desc).map (fun d => d.parameters.length) = some 2 := by decide +kernel
theorem hd_X9_kindOfLead : yX9_kindOfLead.cls ≠ "java/lang/invoke/MethodHandle" ∧ yX9_kindOfLead.cls ≠ "java/lang/invoke/VarHandle" ∧ (parseMethodDescriptor yX9_kindOfLead.desc).map (fun d => d.parameters.length) = some 1 := by decide +kernel
theorem hd_X9_lastRow : yX9_lastRow.cls ≠ "java/lang/invoke/MethodHandle" ∧ yX9_lastRow.cls ≠ "java/lang/invoke/VarHandle" ∧ (parseMethodDescriptor yX9_lastRow.desc).map (fun d => d.parameters.length) = some 0 := by decide +kernel
theorem hd_X9_placesMade : yX9_placesMade.cls ≠ "java/lang/invoke/MethodHandle" ∧ yX9_placesMade.cls ≠ "java/lang/invoke/VarHandle" ∧ (parseMethodDescriptor yX9_placesMade.desc).map (fun d => d.parameters.length) = some 2 := by decide +kernel
theorem hd_X9_calledLeads : yX9_calledLeads.cls ≠ "java/lang/invoke/MethodHandle" ∧ yX9_calledLeads.cls ≠ "java/lang/invoke/VarHandle" ∧ (parseMethodDescriptor yX9_calledLeads.desc).map (fun d => d.parameters.length) = some 0 := by decide +kernel
theorem hd_X9_roundsBehindLead : yX9_roundsBehindLead.cls ≠ "java/lang/invoke/MethodHandle" ∧ yX9_roundsBehindLead.cls ≠ "java/lang/invoke/VarHandle" ∧ (parseMethodDescriptor yX9_roundsBehindLead.desc).map (fun d => d.parameters.length) = some 1 := by decide +kernel
theorem hd_X9_plainCourse : yX9_plainCourse.cls ≠ "java/lang/invoke/MethodHandle" ∧ yX9_plainCourse.cls ≠ "java/lang/invoke/VarHandle" ∧ (parseMethodDescriptor yX9_plainCourse.desc).map (fun d => d.parameters.length) = some 0 := by decide +kernel
theorem hd_J6_bitCount_0f7a4 : yJ6_bitCount_0f7a4.cls ≠ "java/lang/invoke/MethodHandle" ∧ yJ6_bitCount_0f7a4.cls ≠ "java/lang/invoke/VarHandle" ∧ (parseMethodDescriptor yJ6_bitCount_0f7a4.desc).map (fun d => d.parameters.length) = some 1 := by decide +kernel
theorem hd_J0_checkBoundsOffCount_cabcc : yJ0_checkBoundsOffCount_cabcc.cls ≠ "java/lang/invoke/MethodHandle" ∧ yJ0_checkBoundsOffCount_cabcc.cls ≠ "java/lang/invoke/VarHandle" ∧ (parseMethodDescriptor yJ0_checkBoundsOffCount_cabcc.desc).map (fun d => d.parameters.length) = some 3 := by decide +kernel
theorem hd_J0_isLatin1_aae02 : yJ0_isLatin1_aae02.cls ≠ "java/lang/invoke/MethodHandle" ∧ yJ0_isLatin1_aae02.cls ≠ "java/lang/invoke/VarHandle" ∧ (parseMethodDescriptor yJ0_isLatin1_aae02.desc).map (fun d => d.parameters.length) = some 0 := by decide +kernel
theorem hd_J0_toCharArray_70df3 : yJ0_toCharArray_70df3.cls ≠ "java/lang/invoke/MethodHandle" ∧ yJ0_toCharArray_70df3.cls ≠ "java/lang/invoke/VarHandle" ∧ (parseMethodDescriptor yJ0_toCharArray_70df3.desc).map (fun d => d.parameters.length) = some 0 := by decide +kernel
theorem hd_J1_inflate_03870 : yJ1_inflate_03870.cls ≠ "java/lang/invoke/MethodHandle" ∧ yJ1_inflate_03870.cls ≠ "java/lang/invoke/VarHandle" ∧ (parseMethodDescriptor yJ1_inflate_03870.desc).map (fun d => d.parameters.length) = some 5 := by decide +kernel
theorem hd_J1_toChars_9d188 : yJ1_toChars_9d188.cls ≠ "java/lang/invoke/MethodHandle" ∧ yJ1_toChars_9d188.cls ≠ "java/lang/invoke/VarHandle" ∧ (parseMethodDescriptor yJ1_toChars_9d188.desc).map (fun d => d.parameters.length) = some 1 := by decide +kernel
theorem hd_J2_checkBoundsOffCount_d044e : yJ2_checkBoundsOffCount_d044e.cls ≠ "java/lang/invoke/MethodHandle" ∧ yJ2_checkBoundsOffCount_d044e.cls ≠ "java/lang/invoke/VarHandle" ∧ (parseMethodDescriptor yJ2_checkBoundsOffCount_d044e.desc).map (fun d => d.parameters.length) = some 3 := by decide +kernel
theorem hd_J2_getChar_3b067 : yJ2_getChar_3b067.cls ≠ "java/lang/invoke/MethodHandle" ∧ yJ2_getChar_3b067.cls ≠ "java/lang/invoke/VarHandle" ∧ (parseMethodDescriptor yJ2_getChar_3b067.desc).map (fun d => d.parameters.length) = some 2 := by decide +kernel
theorem hd_J2_getChars_a1a8b : yJ2_getChars_a1a8b.cls ≠ "java/lang/invoke/MethodHandle" ∧ yJ2_getChars_a1a8b.cls ≠ "java/lang/invoke/VarHandle" ∧ (parseMethodDescriptor yJ2_getChars_a1a8b.desc).map (fun d => d.parameters.length) = some 5 := by decide +kernel
theorem hd_J2_length_9d52b : yJ2_length_9d52b.cls ≠ "java/lang/invoke/MethodHandle" ∧ yJ2_length_9d52b.cls ≠ "java/lang/invoke/VarHandle" ∧ (parseMethodDescriptor yJ2_length_9d52b.desc).map (fun d => d.parameters.length) = some 1 := by decide +kernel
theorem hd_J2_toChars_9d188 : yJ2_toChars_9d188.cls ≠ "java/lang/invoke/MethodHandle" ∧ yJ2_toChars_9d188.cls ≠ "java/lang/invoke/VarHandle" ∧ (parseMethodDescriptor yJ2_toChars_9d188.desc).map (fun d => d.parameters.length) = some 1 := by decide +kernel
theorem hd_J7_fill_53178 : yJ7_fill_53178.cls ≠ "java/lang/invoke/MethodHandle" ∧ yJ7_fill_53178.cls ≠ "java/lang/invoke/VarHandle" ∧ (parseMethodDescriptor yJ7_fill_53178.desc).map (fun d => d.parameters.length) = some 2 := by decide +kernel
