theorem dX11_signByPairs_54 : decode cX11_signByPairs 54 = .ok (.goto (-36), 3) := by decide +kernel
theorem dX11_signByPairs_57 : decode cX11_signByPairs 57 = .ok (.iinc 2 1, 3) := by decide +kernel
theorem dX11_signByPairs_60 : decode cX11_signByPairs 60 = .ok (.goto (-56), 3) := by decide +kernel
theorem dX11_signByPairs_63 : decode cX11_signByPairs 63 = .ok (.iload_n 1, 1) := by decide +kernel
theorem dX11_signByPairs_64 : decode cX11_signByPairs 64 = .ok (.iconst 2, 1) := by decide +kernel
theorem dX11_signByPairs_65 : decode cX11_signByPairs 65 = .ok (.irem, 1) := by decide +kernel
theorem dX11_signByPairs_66 : decode cX11_signByPairs 66 = .ok (.ireturn, 1) := by decide +kernel
theorem dX11_signByRings_0 : decode cX11_signByRings 0 = .ok (.iconst 0, 1) := by decide +kernel
theorem dX11_signByRings_1 : decode cX11_signByRings 1 = .ok (.istore_n 1, 1) := by decide +kernel
theorem dX11_signByRings_2 : decode cX11_signByRings 2 = .ok (.iconst 0, 1) := by decide +kernel
theorem dX11_signByRings_3 : decode cX11_signByRings 3 = .ok (.istore_n 2, 1) := by decide +kernel
theorem dX11_signByRings_4 : decode cX11_signByRings 4 = .ok (.iload_n 2, 1) := by decide +kernel
theorem dX11_signByRings_5 : decode cX11_signByRings 5 = .ok (.aload_n 0, 1) := by decide +kernel
theorem dX11_signByRings_6 : decode cX11_signByRings 6 = .ok (.getfield 7, 3) := by decide +kernel
theorem dX11_signByRings_9 : decode cX11_signByRings 9 = .ok (.iconst 0, 1) := by decide +kernel
theorem dX11_signByRings_10 : decode cX11_signByRings 10 = .ok (.iaload, 1) := by decide +kernel
theorem dX11_signByRings_11 : decode cX11_signByRings 11 = .ok (.if_icmp .ge 63, 3) := by decide +kernel
theorem dX11_signByRings_14 : decode cX11_signByRings 14 = .ok (.iload_n 2, 1) := by decide +kernel
theorem dX11_signByRings_15 : decode cX11_signByRings 15 = .ok (.istore_n 3, 1) := by decide +kernel
theorem dX11_signByRings_16 : decode cX11_signByRings 16 = .ok (.aload_n 0, 1) := by decide +kernel
theorem dX11_signByRings_17 : decode cX11_signByRings 17 = .ok (.getfield 22, 3) := by decide +kernel
theorem dX11_signByRings_20 : decode cX11_signByRings 20 = .ok (.iload_n 2, 1) := by decide +kernel
theorem dX11_signByRings_21 : decode cX11_signByRings 21 = .ok (.iaload, 1) := by decide +kernel
theorem dX11_signByRings_22 : decode cX11_signByRings 22 = .ok (.istore 4, 2) := by decide +kernel
theorem dX11_signByRings_24 : decode cX11_signByRings 24 = .ok (.iload 4, 2) := by decide +kernel
theorem dX11_signByRings_26 : decode cX11_signByRings 26 = .ok (.iload_n 2, 1) := by decide +kernel
theorem dX11_signByRings_27 : decode cX11_signByRings 27 = .ok (.if_icmp .eq 28, 3) := by decide +kernel
theorem dX11_signByRings_30 : decode cX11_signByRings 30 = .ok (.iload 4, 2) := by decide +kernel
theorem dX11_signByRings_32 : decode cX11_signByRings 32 = .ok (.iload_n 3, 1) := by decide +kernel
theorem dX11_signByRings_33 : decode cX11_signByRings 33 = .ok (.if_icmp .ge 8, 3) := by decide +kernel
theorem dX11_signByRings_36 : decode cX11_signByRings 36 = .ok (.iload 4, 2) := by decide +kernel
theorem dX11_signByRings_38 : decode cX11_signByRings 38 = .ok (.goto 4, 3) := by decide +kernel
theorem dX11_signByRings_41 : decode cX11_signByRings 41 = .ok (.iload_n 3, 1) := by decide +kernel
theorem dX11_signByRings_42 : decode cX11_signByRings 42 = .ok (.istore_n 3, 1) := by decide +kernel
theorem dX11_signByRings_43 : decode cX11_signByRings 43 = .ok (.aload_n 0, 1) := by decide +kernel
theorem dX11_signByRings_44 : decode cX11_signByRings 44 = .ok (.getfield 22, 3) := by decide +kernel
theorem dX11_signByRings_47 : decode cX11_signByRings 47 = .ok (.iload 4, 2) := by decide +kernel
theorem dX11_signByRings_49 : decode cX11_signByRings 49 = .ok (.iaload, 1) := by decide +kernel
theorem dX11_signByRings_50 : decode cX11_signByRings 50 = .ok (.istore 4, 2) := by decide +kernel
theorem dX11_signByRings_52 : decode cX11_signByRings 52 = .ok (.goto (-28), 3) := by decide +kernel
theorem dX11_signByRings_55 : decode cX11_signByRings 55 = .ok (.iload_n 1, 1) := by decide +kernel
theorem dX11_signByRings_56 : decode cX11_signByRings 56 = .ok (.iload_n 3, 1) := by decide +kernel
theorem dX11_signByRings_57 : decode cX11_signByRings 57 = .ok (.iload_n 2, 1) := by decide +kernel
theorem dX11_signByRings_58 : decode cX11_signByRings 58 = .ok (.if_icmp .ne 7, 3) := by decide +kernel
theorem dX11_signByRings_61 : decode cX11_signByRings 61 = .ok (.iconst 1, 1) := by decide +kernel
theorem dX11_signByRings_62 : decode cX11_signByRings 62 = .ok (.goto 4, 3) := by decide +kernel
theorem dX11_signByRings_65 : decode cX11_signByRings 65 = .ok (.iconst 0, 1) := by decide +kernel
theorem dX11_signByRings_66 : decode cX11_signByRings 66 = .ok (.iadd, 1) := by decide +kernel
theorem dX11_signByRings_67 : decode cX11_signByRings 67 = .ok (.istore_n 1, 1) := by decide +kernel
theorem dX11_signByRings_68 : decode cX11_signByRings 68 = .ok (.iinc 2 1, 3) := by decide +kernel
theorem dX11_signByRings_71 : decode cX11_signByRings 71 = .ok (.goto (-67), 3) := by decide +kernel
theorem dX11_signByRings_74 : decode cX11_signByRings 74 = .ok (.aload_n 0, 1) := by decide +kernel
theorem dX11_signByRings_75 : decode cX11_signByRings 75 = .ok (.getfield 7, 3) := by decide +kernel
theorem dX11_signByRings_78 : decode cX11_signByRings 78 = .ok (.iconst 0, 1) := by decide +kernel
theorem dX11_signByRings_79 : decode cX11_signByRings 79 = .ok (.iaload, 1) := by decide +kernel
theorem dX11_signByRings_80 : decode cX11_signByRings 80 = .ok (.iload_n 1, 1) := by decide +kernel
theorem dX11_signByRings_81 : decode cX11_signByRings 81 = .ok (.isub, 1) := by decide +kernel
theorem dX11_signByRings_82 : decode cX11_signByRings 82 = .ok (.iconst 2, 1) := by decide +kernel
theorem dX11_signByRings_83 : decode cX11_signByRings 83 = .ok (.irem, 1) := by decide +kernel
theorem dX11_signByRings_84 : decode cX11_signByRings 84 = .ok (.ireturn, 1) := by decide +kernel
theorem dX11_soundsWell_0 : decode cX11_soundsWell 0 = .ok (.aload_n 0, 1) := by decide +kernel
theorem dX11_soundsWell_1 : decode cX11_soundsWell 1 = .ok (.getfield 7, 3) := by decide +kernel
theorem dX11_soundsWell_4 : decode cX11_soundsWell 4 = .ok (.iconst 0, 1) := by decide +kernel
theorem dX11_soundsWell_5 : decode cX11_soundsWell 5 = .ok (.iaload, 1) := by decide +kernel
theorem dX11_soundsWell_6 : decode cX11_soundsWell 6 = .ok (.istore_n 1, 1) := by decide +kernel
theorem dX11_soundsWell_7 : decode cX11_soundsWell 7 = .ok (.aload_n 0, 1) := by decide +kernel
theorem dX11_soundsWell_8 : decode cX11_soundsWell 8 = .ok (.getfield 22, 3) := by decide +kernel
theorem dX11_soundsWell_11 : decode cX11_soundsWell 11 = .ok (.iload_n 1, 1) := by decide +kernel
theorem dX11_soundsWell_12 : decode cX11_soundsWell 12 = .ok (.iconst 3, 1) := by decide +kernel
theorem dX11_soundsWell_13 : decode cX11_soundsWell 13 = .ok (.isub, 1) := by decide +kernel
theorem dX11_soundsWell_14 : decode cX11_soundsWell 14 = .ok (.iaload, 1) := by decide +kernel
theorem dX11_soundsWell_15 : decode cX11_soundsWell 15 = .ok (.aload_n 0, 1) := by decide +kernel
theorem dX11_soundsWell_16 : decode cX11_soundsWell 16 = .ok (.getfield 22, 3) := by decide +kernel
theorem dX11_soundsWell_19 : decode cX11_soundsWell 19 = .ok (.iload_n 1, 1) := by decide +kernel
theorem dX11_soundsWell_20 : decode cX11_soundsWell 20 = .ok (.iconst 2, 1) := by decide +kernel
theorem dX11_soundsWell_21 : decode cX11_soundsWell 21 = .ok (.isub, 1) := by decide +kernel
theorem dX11_soundsWell_22 : decode cX11_soundsWell 22 = .ok (.iaload, 1) := by decide +kernel
theorem dX11_soundsWell_23 : decode cX11_soundsWell 23 = .ok (.if_icmp .ge 26, 3) := by decide +kernel
theorem dX11_soundsWell_26 : decode cX11_soundsWell 26 = .ok (.aload_n 0, 1) := by decide +kernel
theorem dX11_soundsWell_27 : decode cX11_soundsWell 27 = .ok (.getfield 22, 3) := by decide +kernel
theorem dX11_soundsWell_30 : decode cX11_soundsWell 30 = .ok (.iload_n 1, 1) := by decide +kernel
theorem dX11_soundsWell_31 : decode cX11_soundsWell 31 = .ok (.iconst 2, 1) := by decide +kernel
theorem dX11_soundsWell_32 : decode cX11_soundsWell 32 = .ok (.isub, 1) := by decide +kernel
theorem dX11_soundsWell_33 : decode cX11_soundsWell 33 = .ok (.iaload, 1) := by decide +kernel
theorem dX11_soundsWell_34 : decode cX11_soundsWell 34 = .ok (.aload_n 0, 1) := by decide +kernel
theorem dX11_soundsWell_35 : decode cX11_soundsWell 35 = .ok (.getfield 22, 3) := by decide +kernel
theorem dX11_soundsWell_38 : decode cX11_soundsWell 38 = .ok (.iload_n 1, 1) := by decide +kernel
theorem dX11_soundsWell_39 : decode cX11_soundsWell 39 = .ok (.iconst 1, 1) := by decide +kernel
theorem dX11_soundsWell_40 : decode cX11_soundsWell 40 = .ok (.isub, 1) := by decide +kernel
theorem dX11_soundsWell_41 : decode cX11_soundsWell 41 = .ok (.iaload, 1) := by decide +kernel
theorem dX11_soundsWell_42 : decode cX11_soundsWell 42 = .ok (.if_icmp .ge 7, 3) := by decide +kernel
theorem dX11_soundsWell_45 : decode cX11_soundsWell 45 = .ok (.iconst 1, 1) := by decide +kernel
theorem dX11_soundsWell_46 : decode cX11_soundsWell 46 = .ok (.goto 4, 3) := by decide +kernel
theorem dX11_soundsWell_49 : decode cX11_soundsWell 49 = .ok (.iconst 0, 1) := by decide +kernel
theorem dX11_soundsWell_50 : decode cX11_soundsWell 50 = .ok (.ireturn, 1) := by decide +kernel
theorem dX11_atHome_0 : decode cX11_atHome 0 = .ok (.iconst 0, 1) := by decide +kernel
theorem dX11_atHome_1 : decode cX11_atHome 1 = .ok (.istore_n 1, 1) := by decide +kernel
theorem dX11_atHome_2 : decode cX11_atHome 2 = .ok (.iconst 0, 1) := by decide +kernel
theorem dX11_atHome_3 : decode cX11_atHome 3 = .ok (.istore_n 2, 1) := by decide +kernel
theorem dX11_atHome_4 : decode cX11_atHome 4 = .ok (.iload_n 2, 1) := by decide +kernel
theorem dX11_atHome_5 : decode cX11_atHome 5 = .ok (.aload_n 0, 1) := by decide +kernel
theorem dX11_atHome_6 : decode cX11_atHome 6 = .ok (.getfield 7, 3) := by decide +kernel
theorem dX11_atHome_9 : decode cX11_atHome 9 = .ok (.iconst 0, 1) := by decide +kernel
theorem dX11_atHome_10 : decode cX11_atHome 10 = .ok (.iaload, 1) := by decide +kernel
theorem dX11_atHome_11 : decode cX11_atHome 11 = .ok (.if_icmp .ge 27, 3) := by decide +kernel
theorem dX11_atHome_14 : decode cX11_atHome 14 = .ok (.iload_n 1, 1) := by decide +kernel
theorem dX11_atHome_15 : decode cX11_atHome 15 = .ok (.aload_n 0, 1) := by decide +kernel
theorem dX11_atHome_16 : decode cX11_atHome 16 = .ok (.getfield 22, 3) := by decide +kernel
theorem dX11_atHome_19 : decode cX11_atHome 19 = .ok (.iload_n 2, 1) := by decide +kernel
theorem dX11_atHome_20 : decode cX11_atHome 20 = .ok (.iaload, 1) := by decide +kernel
theorem dX11_atHome_21 : decode cX11_atHome 21 = .ok (.iload_n 2, 1) := by decide +kernel
theorem dX11_atHome_22 : decode cX11_atHome 22 = .ok (.if_icmp .ne 7, 3) := by decide +kernel
theorem dX11_atHome_25 : decode cX11_atHome 25 = .ok (.iconst 1, 1) := by decide +kernel
theorem dX11_atHome_26 : decode cX11_atHome 26 = .ok (.goto 4, 3) := by decide +kernel
theorem dX11_atHome_29 : decode cX11_atHome 29 = .ok (.iconst 0, 1) := by decide +kernel
theorem dX11_atHome_30 : decode cX11_atHome 30 = .ok (.iadd, 1) := by decide +kernel
theorem dX11_atHome_31 : decode cX11_atHome 31 = .ok (.istore_n 1, 1) := by decide +kernel
theorem dX11_atHome_32 : decode cX11_atHome 32 = .ok (.iinc 2 1, 3) := by decide +kernel
theorem dX11_atHome_35 : decode cX11_atHome 35 = .ok (.goto (-31), 3) := by decide +kernel
theorem dX11_atHome_38 : decode cX11_atHome 38 = .ok (.iload_n 1, 1) := by decide +kernel
theorem dX11_atHome_39 : decode cX11_atHome 39 = .ok (.ireturn, 1) := by decide +kernel
theorem dX11_firstSame_0 : decode cX11_firstSame 0 = .ok (.iload_n 2, 1) := by decide +kernel
theorem dX11_firstSame_1 : decode cX11_firstSame 1 = .ok (.istore_n 3, 1) := by decide +kernel
theorem dX11_firstSame_2 : decode cX11_firstSame 2 = .ok (.aload_n 0, 1) := by decide +kernel
theorem dX11_firstSame_3 : decode cX11_firstSame 3 = .ok (.getfield 28, 3) := by decide +kernel
theorem dX11_firstSame_6 : decode cX11_firstSame 6 = .ok (.iload_n 3, 1) := by decide +kernel
theorem dX11_firstSame_7 : decode cX11_firstSame 7 = .ok (.iaload, 1) := by decide +kernel
theorem dX11_firstSame_8 : decode cX11_firstSame 8 = .ok (.aload_n 0, 1) := by decide +kernel
theorem dX11_firstSame_9 : decode cX11_firstSame 9 = .ok (.getfield 28, 3) := by decide +kernel
theorem dX11_firstSame_12 : decode cX11_firstSame 12 = .ok (.iload_n 1, 1) := by decide +kernel
theorem dX11_firstSame_13 : decode cX11_firstSame 13 = .ok (.iaload, 1) := by decide +kernel
theorem dX11_firstSame_14 : decode cX11_firstSame 14 = .ok (.if_icmp .eq 9, 3) := by decide +kernel
theorem dX11_firstSame_17 : decode cX11_firstSame 17 = .ok (.iinc 3 1, 3) := by decide +kernel
theorem dX11_firstSame_20 : decode cX11_firstSame 20 = .ok (.goto (-18), 3) := by decide +kernel
theorem dX11_firstSame_23 : decode cX11_firstSame 23 = .ok (.iload_n 3, 1) := by decide +kernel
theorem dX11_firstSame_24 : decode cX11_firstSame 24 = .ok (.ireturn, 1) := by decide +kernel
theorem dX11_row_0 : decode cX11_row 0 = .ok (.aload_n 0, 1) := by decide +kernel
theorem dX11_row_1 : decode cX11_row 1 = .ok (.iload_n 1, 1) := by decide +kernel
theorem dX11_row_2 : decode cX11_row 2 = .ok (.invokevirtual 118, 3) := by decide +kernel
theorem dX11_row_5 : decode cX11_row 5 = .ok (.ifCond .eq 12, 3) := by decide +kernel
theorem dX11_row_8 : decode cX11_row 8 = .ok (.iload_n 2, 1) := by decide +kernel
theorem dX11_row_9 : decode cX11_row 9 = .ok (.iconst 0, 1) := by decide +kernel
theorem dX11_row_10 : decode cX11_row 10 = .ok (.iconst 5, 1) := by decide +kernel
theorem dX11_row_11 : decode cX11_row 11 = .ok (.invokestatic 54, 3) := by decide +kernel
theorem dX11_row_14 : decode cX11_row 14 = .ok (.ifCond .ne 5, 3) := by decide +kernel
theorem dX11_row_17 : decode cX11_row 17 = .ok (.iconst (-1), 1) := by decide +kernel
theorem dX11_row_18 : decode cX11_row 18 = .ok (.ireturn, 1) := by decide +kernel
theorem dX11_row_19 : decode cX11_row 19 = .ok (.aload_n 0, 1) := by decide +kernel
theorem dX11_row_20 : decode cX11_row 20 = .ok (.bipush (-4), 2) := by decide +kernel
theorem dX11_row_22 : decode cX11_row 22 = .ok (.invokevirtual 124, 3) := by decide +kernel
theorem dX11_row_25 : decode cX11_row 25 = .ok (.aload_n 0, 1) := by decide +kernel
theorem dX11_row_26 : decode cX11_row 26 = .ok (.getfield 28, 3) := by decide +kernel
theorem dX11_row_29 : decode cX11_row 29 = .ok (.iload_n 1, 1) := by decide +kernel
theorem dX11_row_30 : decode cX11_row 30 = .ok (.iaload, 1) := by decide +kernel
theorem dX11_row_31 : decode cX11_row 31 = .ok (.istore_n 3, 1) := by decide +kernel
theorem dX11_row_32 : decode cX11_row 32 = .ok (.aload_n 0, 1) := by decide +kernel
theorem dX11_row_33 : decode cX11_row 33 = .ok (.iload_n 3, 1) := by decide +kernel
theorem dX11_row_34 : decode cX11_row 34 = .ok (.invokevirtual 127, 3) := by decide +kernel
theorem dX11_row_37 : decode cX11_row 37 = .ok (.iload_n 2, 1) := by decide +kernel
theorem dX11_row_38 : decode cX11_row 38 = .ok (.tableswitch 69 0 4 #[34, 39, 44, 57, 62], 34) := by decide +kernel
theorem dX11_row_72 : decode cX11_row 72 = .ok (.aload_n 0, 1) := by decide +kernel
theorem dX11_row_73 : decode cX11_row 73 = .ok (.invokevirtual 130, 3) := by decide +kernel
theorem dX11_row_76 : decode cX11_row 76 = .ok (.ireturn, 1) := by decide +kernel
theorem dX11_row_77 : decode cX11_row 77 = .ok (.aload_n 0, 1) := by decide +kernel
theorem dX11_row_78 : decode cX11_row 78 = .ok (.invokevirtual 133, 3) := by decide +kernel
theorem dX11_row_81 : decode cX11_row 81 = .ok (.ireturn, 1) := by decide +kernel
theorem dX11_row_82 : decode cX11_row 82 = .ok (.aload_n 0, 1) := by decide +kernel
theorem dX11_row_83 : decode cX11_row 83 = .ok (.invokevirtual 136, 3) := by decide +kernel
theorem dX11_row_86 : decode cX11_row 86 = .ok (.ifCond .eq 7, 3) := by decide +kernel
theorem dX11_row_89 : decode cX11_row 89 = .ok (.iconst 1, 1) := by decide +kernel
theorem dX11_row_90 : decode cX11_row 90 = .ok (.goto 4, 3) := by decide +kernel
theorem dX11_row_93 : decode cX11_row 93 = .ok (.iconst 0, 1) := by decide +kernel
theorem dX11_row_94 : decode cX11_row 94 = .ok (.ireturn, 1) := by decide +kernel
theorem dX11_row_95 : decode cX11_row 95 = .ok (.aload_n 0, 1) := by decide +kernel
theorem dX11_row_96 : decode cX11_row 96 = .ok (.invokevirtual 139, 3) := by decide +kernel
theorem dX11_row_99 : decode cX11_row 99 = .ok (.ireturn, 1) := by decide +kernel
theorem dX11_row_100 : decode cX11_row 100 = .ok (.aload_n 0, 1) := by decide +kernel
theorem dX11_row_101 : decode cX11_row 101 = .ok (.iload_n 1, 1) := by decide +kernel
theorem dX11_row_102 : decode cX11_row 102 = .ok (.iconst 0, 1) := by decide +kernel
theorem dX11_row_103 : decode cX11_row 103 = .ok (.invokevirtual 142, 3) := by decide +kernel
theorem dX11_row_106 : decode cX11_row 106 = .ok (.ireturn, 1) := by decide +kernel
theorem dX11_row_107 : decode cX11_row 107 = .ok (.aload_n 0, 1) := by decide +kernel
theorem dX11_row_108 : decode cX11_row 108 = .ok (.invokevirtual 145, 3) := by decide +kernel
theorem dX11_row_111 : decode cX11_row 111 = .ok (.aload_n 0, 1) := by decide +kernel
theorem dX11_row_112 : decode cX11_row 112 = .ok (.getfield 40, 3) := by decide +kernel
theorem dX11_row_115 : decode cX11_row 115 = .ok (.iload_n 3, 1) := by decide +kernel
theorem dX11_row_116 : decode cX11_row 116 = .ok (.iaload, 1) := by decide +kernel
theorem dX11_row_117 : decode cX11_row 117 = .ok (.ireturn, 1) := by decide +kernel
theorem dX11_follows_0 : decode cX11_follows 0 = .ok (.aload_n 0, 1) := by decide +kernel
theorem dX11_follows_1 : decode cX11_follows 1 = .ok (.bipush (-4), 2) := by decide +kernel
theorem dX11_follows_3 : decode cX11_follows 3 = .ok (.invokevirtual 124, 3) := by decide +kernel
theorem dX11_follows_6 : decode cX11_follows 6 = .ok (.iconst 0, 1) := by decide +kernel
theorem dX11_follows_7 : decode cX11_follows 7 = .ok (.istore_n 2, 1) := by decide +kernel
theorem dX11_follows_8 : decode cX11_follows 8 = .ok (.iload_n 2, 1) := by decide +kernel
theorem dX11_follows_9 : decode cX11_follows 9 = .ok (.aload_n 0, 1) := by decide +kernel
theorem dX11_follows_10 : decode cX11_follows 10 = .ok (.getfield 65, 3) := by decide +kernel
theorem dX11_follows_13 : decode cX11_follows 13 = .ok (.if_icmp .gt 67, 3) := by decide +kernel
theorem dX11_follows_16 : decode cX11_follows 16 = .ok (.aload_n 0, 1) := by decide +kernel
theorem dX11_follows_17 : decode cX11_follows 17 = .ok (.aload_n 0, 1) := by decide +kernel
theorem dX11_follows_18 : decode cX11_follows 18 = .ok (.getfield 28, 3) := by decide +kernel
theorem dX11_follows_21 : decode cX11_follows 21 = .ok (.iload_n 2, 1) := by decide +kernel
theorem dX11_follows_22 : decode cX11_follows 22 = .ok (.iaload, 1) := by decide +kernel
theorem dX11_follows_23 : decode cX11_follows 23 = .ok (.invokevirtual 127, 3) := by decide +kernel
theorem dX11_follows_26 : decode cX11_follows 26 = .ok (.iconst 0, 1) := by decide +kernel
theorem dX11_follows_27 : decode cX11_follows 27 = .ok (.istore_n 3, 1) := by decide +kernel
theorem dX11_follows_28 : decode cX11_follows 28 = .ok (.iload_n 3, 1) := by decide +kernel
theorem dX11_follows_29 : decode cX11_follows 29 = .ok (.aload_n 0, 1) := by decide +kernel
theorem dX11_follows_30 : decode cX11_follows 30 = .ok (.getfield 7, 3) := by decide +kernel
theorem dX11_follows_33 : decode cX11_follows 33 = .ok (.iconst 0, 1) := by decide +kernel
theorem dX11_follows_34 : decode cX11_follows 34 = .ok (.iaload, 1) := by decide +kernel
theorem dX11_follows_35 : decode cX11_follows 35 = .ok (.if_icmp .ge 39, 3) := by decide +kernel
theorem dX11_follows_38 : decode cX11_follows 38 = .ok (.aload_n 0, 1) := by decide +kernel
theorem dX11_follows_39 : decode cX11_follows 39 = .ok (.getfield 34, 3) := by decide +kernel
theorem dX11_follows_42 : decode cX11_follows 42 = .ok (.iload_n 2, 1) := by decide +kernel
theorem dX11_follows_43 : decode cX11_follows 43 = .ok (.aload_n 0, 1) := by decide +kernel
theorem dX11_follows_44 : decode cX11_follows 44 = .ok (.getfield 22, 3) := by decide +kernel
theorem dX11_follows_47 : decode cX11_follows 47 = .ok (.iload_n 3, 1) := by decide +kernel
theorem dX11_follows_48 : decode cX11_follows 48 = .ok (.iaload, 1) := by decide +kernel
theorem dX11_follows_49 : decode cX11_follows 49 = .ok (.iload_n 1, 1) := by decide +kernel
theorem dX11_follows_50 : decode cX11_follows 50 = .ok (.iconst 1, 1) := by decide +kernel
theorem dX11_follows_51 : decode cX11_follows 51 = .ok (.isub, 1) := by decide +kernel
theorem dX11_follows_52 : decode cX11_follows 52 = .ok (.if_icmp .ne 9, 3) := by decide +kernel
theorem dX11_follows_55 : decode cX11_follows 55 = .ok (.iload_n 3, 1) := by decide +kernel
theorem dX11_follows_56 : decode cX11_follows 56 = .ok (.iconst 1, 1) := by decide +kernel
theorem dX11_follows_57 : decode cX11_follows 57 = .ok (.iadd, 1) := by decide +kernel
theorem dX11_follows_58 : decode cX11_follows 58 = .ok (.goto 9, 3) := by decide +kernel
theorem dX11_follows_61 : decode cX11_follows 61 = .ok (.aload_n 0, 1) := by decide +kernel
theorem dX11_follows_62 : decode cX11_follows 62 = .ok (.getfield 34, 3) := by decide +kernel
theorem dX11_follows_65 : decode cX11_follows 65 = .ok (.iload_n 2, 1) := by decide +kernel
theorem dX11_follows_66 : decode cX11_follows 66 = .ok (.iaload, 1) := by decide +kernel
theorem dX11_follows_67 : decode cX11_follows 67 = .ok (.iastore, 1) := by decide +kernel
theorem dX11_follows_68 : decode cX11_follows 68 = .ok (.iinc 3 1, 3) := by decide +kernel
theorem dX11_follows_71 : decode cX11_follows 71 = .ok (.goto (-43), 3) := by decide +kernel
theorem dX11_follows_74 : decode cX11_follows 74 = .ok (.iinc 2 1, 3) := by decide +kernel
theorem dX11_follows_77 : decode cX11_follows 77 = .ok (.goto (-69), 3) := by decide +kernel
theorem dX11_follows_80 : decode cX11_follows 80 = .ok (.return_, 1) := by decide +kernel
theorem dX11_dodges_0 : decode cX11_dodges 0 = .ok (.iconst 0, 1) := by decide +kernel
theorem dX11_dodges_1 : decode cX11_dodges 1 = .ok (.istore_n 2, 1) := by decide +kernel
theorem dX11_dodges_2 : decode cX11_dodges 2 = .ok (.iconst 0, 1) := by decide +kernel
theorem dX11_dodges_3 : decode cX11_dodges 3 = .ok (.istore_n 3, 1) := by decide +kernel
theorem dX11_dodges_4 : decode cX11_dodges 4 = .ok (.iload_n 3, 1) := by decide +kernel
theorem dX11_dodges_5 : decode cX11_dodges 5 = .ok (.iconst 3, 1) := by decide +kernel
theorem dX11_dodges_6 : decode cX11_dodges 6 = .ok (.iadd, 1) := by decide +kernel
theorem dX11_dodges_7 : decode cX11_dodges 7 = .ok (.aload_n 0, 1) := by decide +kernel
theorem dX11_dodges_8 : decode cX11_dodges 8 = .ok (.getfield 65, 3) := by decide +kernel
theorem dX11_dodges_11 : decode cX11_dodges 11 = .ok (.if_icmp .gt 71, 3) := by decide +kernel
theorem dX11_dodges_14 : decode cX11_dodges 14 = .ok (.aload_n 0, 1) := by decide +kernel
theorem dX11_dodges_15 : decode cX11_dodges 15 = .ok (.getfield 34, 3) := by decide +kernel
theorem dX11_dodges_18 : decode cX11_dodges 18 = .ok (.iload_n 3, 1) := by decide +kernel
theorem dX11_dodges_19 : decode cX11_dodges 19 = .ok (.iaload, 1) := by decide +kernel
theorem dX11_dodges_20 : decode cX11_dodges 20 = .ok (.aload_n 0, 1) := by decide +kernel
theorem dX11_dodges_21 : decode cX11_dodges 21 = .ok (.getfield 34, 3) := by decide +kernel
theorem dX11_dodges_24 : decode cX11_dodges 24 = .ok (.iload_n 3, 1) := by decide +kernel
theorem dX11_dodges_25 : decode cX11_dodges 25 = .ok (.iconst 2, 1) := by decide +kernel
theorem dX11_dodges_26 : decode cX11_dodges 26 = .ok (.iadd, 1) := by decide +kernel
theorem dX11_dodges_27 : decode cX11_dodges 27 = .ok (.iaload, 1) := by decide +kernel
theorem dX11_dodges_28 : decode cX11_dodges 28 = .ok (.if_icmp .ne 48, 3) := by decide +kernel
theorem dX11_dodges_31 : decode cX11_dodges 31 = .ok (.aload_n 0, 1) := by decide +kernel
theorem dX11_dodges_32 : decode cX11_dodges 32 = .ok (.getfield 34, 3) := by decide +kernel
theorem dX11_dodges_35 : decode cX11_dodges 35 = .ok (.iload_n 3, 1) := by decide +kernel
theorem dX11_dodges_36 : decode cX11_dodges 36 = .ok (.iconst 1, 1) := by decide +kernel
theorem dX11_dodges_37 : decode cX11_dodges 37 = .ok (.iadd, 1) := by decide +kernel
theorem dX11_dodges_38 : decode cX11_dodges 38 = .ok (.iaload, 1) := by decide +kernel
theorem dX11_dodges_39 : decode cX11_dodges 39 = .ok (.aload_n 0, 1) := by decide +kernel
theorem dX11_dodges_40 : decode cX11_dodges 40 = .ok (.getfield 34, 3) := by decide +kernel
theorem dX11_dodges_43 : decode cX11_dodges 43 = .ok (.iload_n 3, 1) := by decide +kernel
theorem dX11_dodges_44 : decode cX11_dodges 44 = .ok (.iconst 3, 1) := by decide +kernel
theorem dX11_dodges_45 : decode cX11_dodges 45 = .ok (.iadd, 1) := by decide +kernel
theorem dX11_dodges_46 : decode cX11_dodges 46 = .ok (.iaload, 1) := by decide +kernel
theorem dX11_dodges_47 : decode cX11_dodges 47 = .ok (.if_icmp .ne 29, 3) := by decide +kernel
theorem dX11_dodges_50 : decode cX11_dodges 50 = .ok (.aload_n 0, 1) := by decide +kernel
theorem dX11_dodges_51 : decode cX11_dodges 51 = .ok (.getfield 34, 3) := by decide +kernel
theorem dX11_dodges_54 : decode cX11_dodges 54 = .ok (.iload_n 3, 1) := by decide +kernel
theorem dX11_dodges_55 : decode cX11_dodges 55 = .ok (.iaload, 1) := by decide +kernel
theorem dX11_dodges_56 : decode cX11_dodges 56 = .ok (.aload_n 0, 1) := by decide +kernel
theorem dX11_dodges_57 : decode cX11_dodges 57 = .ok (.getfield 34, 3) := by decide +kernel
theorem dX11_dodges_60 : decode cX11_dodges 60 = .ok (.iload_n 3, 1) := by decide +kernel
theorem dX11_dodges_61 : decode cX11_dodges 61 = .ok (.iconst 1, 1) := by decide +kernel
theorem dX11_dodges_62 : decode cX11_dodges 62 = .ok (.iadd, 1) := by decide +kernel
theorem dX11_dodges_63 : decode cX11_dodges 63 = .ok (.iaload, 1) := by decide +kernel
theorem dX11_dodges_64 : decode cX11_dodges 64 = .ok (.if_icmp .eq 12, 3) := by decide +kernel
theorem dX11_dodges_67 : decode cX11_dodges 67 = .ok (.iload_n 1, 1) := by decide +kernel
theorem dX11_dodges_68 : decode cX11_dodges 68 = .ok (.ifCond .eq 5, 3) := by decide +kernel
theorem dX11_dodges_71 : decode cX11_dodges 71 = .ok (.iload_n 3, 1) := by decide +kernel
theorem dX11_dodges_72 : decode cX11_dodges 72 = .ok (.ireturn, 1) := by decide +kernel
theorem dX11_dodges_73 : decode cX11_dodges 73 = .ok (.iinc 2 1, 3) := by decide +kernel
theorem dX11_dodges_76 : decode cX11_dodges 76 = .ok (.iinc 3 1, 3) := by decide +kernel
theorem dX11_dodges_79 : decode cX11_dodges 79 = .ok (.goto (-75), 3) := by decide +kernel
theorem dX11_dodges_82 : decode cX11_dodges 82 = .ok (.iload_n 1, 1) := by decide +kernel
theorem dX11_dodges_83 : decode cX11_dodges 83 = .ok (.ifCond .eq 8, 3) := by decide +kernel
theorem dX11_dodges_86 : decode cX11_dodges 86 = .ok (.bipush (-4), 2) := by decide +kernel
theorem dX11_dodges_88 : decode cX11_dodges 88 = .ok (.goto 4, 3) := by decide +kernel
theorem dX11_dodges_91 : decode cX11_dodges 91 = .ok (.iload_n 2, 1) := by decide +kernel
theorem dX11_dodges_92 : decode cX11_dodges 92 = .ok (.ireturn, 1) := by decide +kernel
theorem dX11_stays_0 : decode cX11_stays 0 = .ok (.iconst 0, 1) := by decide +kernel
theorem dX11_stays_1 : decode cX11_stays 1 = .ok (.istore_n 1, 1) := by decide +kernel
theorem dX11_stays_2 : decode cX11_stays 2 = .ok (.iconst 0, 1) := by decide +kernel
theorem dX11_stays_3 : decode cX11_stays 3 = .ok (.istore_n 2, 1) := by decide +kernel
theorem dX11_stays_4 : decode cX11_stays 4 = .ok (.iload_n 2, 1) := by decide +kernel
theorem dX11_stays_5 : decode cX11_stays 5 = .ok (.aload_n 0, 1) := by decide +kernel
theorem dX11_stays_6 : decode cX11_stays 6 = .ok (.getfield 65, 3) := by decide +kernel
theorem dX11_stays_9 : decode cX11_stays 9 = .ok (.if_icmp .ge 34, 3) := by decide +kernel
theorem dX11_stays_12 : decode cX11_stays 12 = .ok (.iload_n 1, 1) := by decide +kernel
theorem dX11_stays_13 : decode cX11_stays 13 = .ok (.aload_n 0, 1) := by decide +kernel
theorem dX11_stays_14 : decode cX11_stays 14 = .ok (.getfield 34, 3) := by decide +kernel
theorem dX11_stays_17 : decode cX11_stays 17 = .ok (.iload_n 2, 1) := by decide +kernel
theorem dX11_stays_18 : decode cX11_stays 18 = .ok (.iaload, 1) := by decide +kernel
theorem dX11_stays_19 : decode cX11_stays 19 = .ok (.aload_n 0, 1) := by decide +kernel
theorem dX11_stays_20 : decode cX11_stays 20 = .ok (.getfield 34, 3) := by decide +kernel
theorem dX11_stays_23 : decode cX11_stays 23 = .ok (.iload_n 2, 1) := by decide +kernel
theorem dX11_stays_24 : decode cX11_stays 24 = .ok (.iconst 1, 1) := by decide +kernel
theorem dX11_stays_25 : decode cX11_stays 25 = .ok (.iadd, 1) := by decide +kernel
theorem dX11_stays_26 : decode cX11_stays 26 = .ok (.iaload, 1) := by decide +kernel
theorem dX11_stays_27 : decode cX11_stays 27 = .ok (.if_icmp .ne 7, 3) := by decide +kernel
theorem dX11_stays_30 : decode cX11_stays 30 = .ok (.iconst 1, 1) := by decide +kernel
theorem dX11_stays_31 : decode cX11_stays 31 = .ok (.goto 4, 3) := by decide +kernel
theorem dX11_stays_34 : decode cX11_stays 34 = .ok (.iconst 0, 1) := by decide +kernel
theorem dX11_stays_35 : decode cX11_stays 35 = .ok (.iadd, 1) := by decide +kernel
theorem dX11_stays_36 : decode cX11_stays 36 = .ok (.istore_n 1, 1) := by decide +kernel
theorem dX11_stays_37 : decode cX11_stays 37 = .ok (.iinc 2 1, 3) := by decide +kernel
theorem dX11_stays_40 : decode cX11_stays 40 = .ok (.goto (-36), 3) := by decide +kernel
theorem dX11_stays_43 : decode cX11_stays 43 = .ok (.iload_n 1, 1) := by decide +kernel
theorem dX11_stays_44 : decode cX11_stays 44 = .ok (.ireturn, 1) := by decide +kernel
theorem dX11_rowsAt_0 : decode cX11_rowsAt 0 = .ok (.iconst 0, 1) := by decide +kernel
theorem dX11_rowsAt_1 : decode cX11_rowsAt 1 = .ok (.istore_n 2, 1) := by decide +kernel
theorem dX11_rowsAt_2 : decode cX11_rowsAt 2 = .ok (.iconst 1, 1) := by decide +kernel
theorem dX11_rowsAt_3 : decode cX11_rowsAt 3 = .ok (.istore_n 3, 1) := by decide +kernel
theorem dX11_rowsAt_4 : decode cX11_rowsAt 4 = .ok (.iload_n 3, 1) := by decide +kernel
theorem dX11_rowsAt_5 : decode cX11_rowsAt 5 = .ok (.aload_n 0, 1) := by decide +kernel
theorem dX11_rowsAt_6 : decode cX11_rowsAt 6 = .ok (.getfield 65, 3) := by decide +kernel
theorem dX11_rowsAt_9 : decode cX11_rowsAt 9 = .ok (.if_icmp .gt 27, 3) := by decide +kernel
theorem dX11_rowsAt_12 : decode cX11_rowsAt 12 = .ok (.iload_n 2, 1) := by decide +kernel
theorem dX11_rowsAt_13 : decode cX11_rowsAt 13 = .ok (.aload_n 0, 1) := by decide +kernel
theorem dX11_rowsAt_14 : decode cX11_rowsAt 14 = .ok (.getfield 34, 3) := by decide +kernel
theorem dX11_rowsAt_17 : decode cX11_rowsAt 17 = .ok (.iload_n 3, 1) := by decide +kernel
theorem dX11_rowsAt_18 : decode cX11_rowsAt 18 = .ok (.iaload, 1) := by decide +kernel
theorem dX11_rowsAt_19 : decode cX11_rowsAt 19 = .ok (.iload_n 1, 1) := by decide +kernel
theorem dX11_rowsAt_20 : decode cX11_rowsAt 20 = .ok (.if_icmp .ne 7, 3) := by decide +kernel
theorem dX11_rowsAt_23 : decode cX11_rowsAt 23 = .ok (.iconst 1, 1) := by decide +kernel
theorem dX11_rowsAt_24 : decode cX11_rowsAt 24 = .ok (.goto 4, 3) := by decide +kernel
theorem dX11_rowsAt_27 : decode cX11_rowsAt 27 = .ok (.iconst 0, 1) := by decide +kernel
theorem dX11_rowsAt_28 : decode cX11_rowsAt 28 = .ok (.iadd, 1) := by decide +kernel
theorem dX11_rowsAt_29 : decode cX11_rowsAt 29 = .ok (.istore_n 2, 1) := by decide +kernel
theorem dX11_rowsAt_30 : decode cX11_rowsAt 30 = .ok (.iinc 3 1, 3) := by decide +kernel
theorem dX11_rowsAt_33 : decode cX11_rowsAt 33 = .ok (.goto (-29), 3) := by decide +kernel
theorem dX11_rowsAt_36 : decode cX11_rowsAt 36 = .ok (.iload_n 2, 1) := by decide +kernel
theorem dX11_rowsAt_37 : decode cX11_rowsAt 37 = .ok (.ireturn, 1) := by decide +kernel
theorem dX11_path_0 : decode cX11_path 0 = .ok (.aload_n 0, 1) := by decide +kernel
theorem dX11_path_1 : decode cX11_path 1 = .ok (.iload_n 1, 1) := by decide +kernel
theorem dX11_path_2 : decode cX11_path 2 = .ok (.invokevirtual 121, 3) := by decide +kernel
theorem dX11_path_5 : decode cX11_path 5 = .ok (.ifCond .eq 12, 3) := by decide +kernel
theorem dX11_path_8 : decode cX11_path 8 = .ok (.iload_n 2, 1) := by decide +kernel
theorem dX11_path_9 : decode cX11_path 9 = .ok (.iconst 0, 1) := by decide +kernel
theorem dX11_path_10 : decode cX11_path 10 = .ok (.iconst 4, 1) := by decide +kernel
theorem dX11_path_11 : decode cX11_path 11 = .ok (.invokestatic 54, 3) := by decide +kernel
theorem dX11_path_14 : decode cX11_path 14 = .ok (.ifCond .ne 5, 3) := by decide +kernel
theorem dX11_path_17 : decode cX11_path 17 = .ok (.iconst (-1), 1) := by decide +kernel
theorem dX11_path_18 : decode cX11_path 18 = .ok (.ireturn, 1) := by decide +kernel
theorem dX11_path_19 : decode cX11_path 19 = .ok (.aload_n 0, 1) := by decide +kernel
theorem dX11_path_20 : decode cX11_path 20 = .ok (.iload_n 1, 1) := by decide +kernel
theorem dX11_path_21 : decode cX11_path 21 = .ok (.invokevirtual 148, 3) := by decide +kernel
theorem dX11_path_24 : decode cX11_path 24 = .ok (.iload_n 2, 1) := by decide +kernel
theorem dX11_path_25 : decode cX11_path 25 = .ok (.tableswitch 57 0 3 #[31, 31, 46, 52], 31) := by decide +kernel
theorem dX11_path_56 : decode cX11_path 56 = .ok (.aload_n 0, 1) := by decide +kernel
theorem dX11_path_57 : decode cX11_path 57 = .ok (.iload_n 2, 1) := by decide +kernel
theorem dX11_path_58 : decode cX11_path 58 = .ok (.iconst 1, 1) := by decide +kernel
theorem dX11_path_59 : decode cX11_path 59 = .ok (.if_icmp .ne 7, 3) := by decide +kernel
theorem dX11_path_62 : decode cX11_path 62 = .ok (.iconst 1, 1) := by decide +kernel
theorem dX11_path_63 : decode cX11_path 63 = .ok (.goto 4, 3) := by decide +kernel
theorem dX11_path_66 : decode cX11_path 66 = .ok (.iconst 0, 1) := by decide +kernel
theorem dX11_path_67 : decode cX11_path 67 = .ok (.invokevirtual 151, 3) := by decide +kernel
theorem dX11_path_70 : decode cX11_path 70 = .ok (.ireturn, 1) := by decide +kernel
theorem dX11_path_71 : decode cX11_path 71 = .ok (.aload_n 0, 1) := by decide +kernel
theorem dX11_path_72 : decode cX11_path 72 = .ok (.iconst 1, 1) := by decide +kernel
theorem dX11_path_73 : decode cX11_path 73 = .ok (.invokevirtual 155, 3) := by decide +kernel
theorem dX11_path_76 : decode cX11_path 76 = .ok (.ireturn, 1) := by decide +kernel
theorem dX11_path_77 : decode cX11_path 77 = .ok (.aload_n 0, 1) := by decide +kernel
theorem dX11_path_78 : decode cX11_path 78 = .ok (.invokevirtual 158, 3) := by decide +kernel
theorem dX11_path_81 : decode cX11_path 81 = .ok (.ireturn, 1) := by decide +kernel
theorem dX11_path_82 : decode cX11_path 82 = .ok (.aload_n 0, 1) := by decide +kernel
theorem dX11_path_83 : decode cX11_path 83 = .ok (.getfield 34, 3) := by decide +kernel
theorem dX11_path_86 : decode cX11_path 86 = .ok (.aload_n 0, 1) := by decide +kernel
theorem dX11_path_87 : decode cX11_path 87 = .ok (.getfield 65, 3) := by decide +kernel
theorem dX11_path_90 : decode cX11_path 90 = .ok (.iaload, 1) := by decide +kernel
theorem dX11_path_91 : decode cX11_path 91 = .ok (.ireturn, 1) := by decide +kernel
theorem dX11_blows_0 : decode cX11_blows 0 = .ok (.aload_n 0, 1) := by decide +kernel
theorem dX11_blows_1 : decode cX11_blows 1 = .ok (.iload_n 1, 1) := by decide +kernel
theorem dX11_blows_2 : decode cX11_blows 2 = .ok (.invokevirtual 121, 3) := by decide +kernel
theorem dX11_blows_5 : decode cX11_blows 5 = .ok (.ifCond .eq 11, 3) := by decide +kernel
theorem dX11_blows_8 : decode cX11_blows 8 = .ok (.aload_n 0, 1) := by decide +kernel
theorem dX11_blows_9 : decode cX11_blows 9 = .ok (.iload_n 2, 1) := by decide +kernel
theorem dX11_blows_10 : decode cX11_blows 10 = .ok (.invokevirtual 121, 3) := by decide +kernel
theorem dX11_blows_13 : decode cX11_blows 13 = .ok (.ifCond .ne 5, 3) := by decide +kernel
theorem dX11_blows_16 : decode cX11_blows 16 = .ok (.iconst (-1), 1) := by decide +kernel
theorem dX11_blows_17 : decode cX11_blows 17 = .ok (.ireturn, 1) := by decide +kernel
theorem dX11_blows_18 : decode cX11_blows 18 = .ok (.aload_n 0, 1) := by decide +kernel
theorem dX11_blows_19 : decode cX11_blows 19 = .ok (.iload_n 1, 1) := by decide +kernel
theorem dX11_blows_20 : decode cX11_blows 20 = .ok (.invokevirtual 148, 3) := by decide +kernel
theorem dX11_blows_23 : decode cX11_blows 23 = .ok (.aload_n 0, 1) := by decide +kernel
theorem dX11_blows_24 : decode cX11_blows 24 = .ok (.iload_n 2, 1) := by decide +kernel
theorem dX11_blows_25 : decode cX11_blows 25 = .ok (.invokevirtual 155, 3) := by decide +kernel
theorem dX11_blows_28 : decode cX11_blows 28 = .ok (.ireturn, 1) := by decide +kernel
theorem dX11_roundAt_0 : decode cX11_roundAt 0 = .ok (.iconst 1, 1) := by decide +kernel
theorem dX11_roundAt_1 : decode cX11_roundAt 1 = .ok (.istore_n 1, 1) := by decide +kernel
theorem dX11_roundAt_2 : decode cX11_roundAt 2 = .ok (.iload_n 1, 1) := by decide +kernel
theorem dX11_roundAt_3 : decode cX11_roundAt 3 = .ok (.aload_n 0, 1) := by decide +kernel
theorem dX11_roundAt_4 : decode cX11_roundAt 4 = .ok (.getfield 65, 3) := by decide +kernel
theorem dX11_roundAt_7 : decode cX11_roundAt 7 = .ok (.if_icmp .gt 20, 3) := by decide +kernel
theorem dX11_roundAt_10 : decode cX11_roundAt 10 = .ok (.aload_n 0, 1) := by decide +kernel
theorem dX11_roundAt_11 : decode cX11_roundAt 11 = .ok (.getfield 28, 3) := by decide +kernel
theorem dX11_roundAt_14 : decode cX11_roundAt 14 = .ok (.iload_n 1, 1) := by decide +kernel
theorem dX11_roundAt_15 : decode cX11_roundAt 15 = .ok (.iaload, 1) := by decide +kernel
theorem dX11_roundAt_16 : decode cX11_roundAt 16 = .ok (.ifCond .ne 5, 3) := by decide +kernel
theorem dX11_roundAt_19 : decode cX11_roundAt 19 = .ok (.iload_n 1, 1) := by decide +kernel
theorem dX11_roundAt_20 : decode cX11_roundAt 20 = .ok (.ireturn, 1) := by decide +kernel
theorem dX11_roundAt_21 : decode cX11_roundAt 21 = .ok (.iinc 1 1, 3) := by decide +kernel
theorem dX11_roundAt_24 : decode cX11_roundAt 24 = .ok (.goto (-22), 3) := by decide +kernel
theorem dX11_roundAt_27 : decode cX11_roundAt 27 = .ok (.bipush (-4), 2) := by decide +kernel
theorem dX11_roundAt_29 : decode cX11_roundAt 29 = .ok (.ireturn, 1) := by decide +kernel
theorem dX11_firstTwice_0 : decode cX11_firstTwice 0 = .ok (.iconst 1, 1) := by decide +kernel
theorem dX11_firstTwice_1 : decode cX11_firstTwice 1 = .ok (.istore_n 1, 1) := by decide +kernel
theorem dX11_firstTwice_2 : decode cX11_firstTwice 2 = .ok (.iload_n 1, 1) := by decide +kernel
theorem dX11_firstTwice_3 : decode cX11_firstTwice 3 = .ok (.aload_n 0, 1) := by decide +kernel
theorem dX11_firstTwice_4 : decode cX11_firstTwice 4 = .ok (.getfield 65, 3) := by decide +kernel
theorem dX11_firstTwice_7 : decode cX11_firstTwice 7 = .ok (.if_icmp .gt 21, 3) := by decide +kernel
theorem dX11_firstTwice_10 : decode cX11_firstTwice 10 = .ok (.aload_n 0, 1) := by decide +kernel
theorem dX11_firstTwice_11 : decode cX11_firstTwice 11 = .ok (.iload_n 1, 1) := by decide +kernel
theorem dX11_firstTwice_12 : decode cX11_firstTwice 12 = .ok (.iconst 1, 1) := by decide +kernel
theorem dX11_firstTwice_13 : decode cX11_firstTwice 13 = .ok (.invokevirtual 142, 3) := by decide +kernel
theorem dX11_firstTwice_16 : decode cX11_firstTwice 16 = .ok (.iload_n 1, 1) := by decide +kernel
theorem dX11_firstTwice_17 : decode cX11_firstTwice 17 = .ok (.if_icmp .ge 5, 3) := by decide +kernel
theorem dX11_firstTwice_20 : decode cX11_firstTwice 20 = .ok (.iload_n 1, 1) := by decide +kernel
theorem dX11_firstTwice_21 : decode cX11_firstTwice 21 = .ok (.ireturn, 1) := by decide +kernel
theorem dX11_firstTwice_22 : decode cX11_firstTwice 22 = .ok (.iinc 1 1, 3) := by decide +kernel
theorem dX11_firstTwice_25 : decode cX11_firstTwice 25 = .ok (.goto (-23), 3) := by decide +kernel
theorem dX11_firstTwice_28 : decode cX11_firstTwice 28 = .ok (.bipush (-4), 2) := by decide +kernel
theorem dX11_firstTwice_30 : decode cX11_firstTwice 30 = .ok (.ireturn, 1) := by decide +kernel
theorem dX11_unlike_0 : decode cX11_unlike 0 = .ok (.iconst 0, 1) := by decide +kernel
theorem dX11_unlike_1 : decode cX11_unlike 1 = .ok (.istore_n 1, 1) := by decide +kernel
theorem dX11_unlike_2 : decode cX11_unlike 2 = .ok (.iconst 1, 1) := by decide +kernel
theorem dX11_unlike_3 : decode cX11_unlike 3 = .ok (.istore_n 2, 1) := by decide +kernel
theorem dX11_unlike_4 : decode cX11_unlike 4 = .ok (.iload_n 2, 1) := by decide +kernel
theorem dX11_unlike_5 : decode cX11_unlike 5 = .ok (.aload_n 0, 1) := by decide +kernel
theorem dX11_unlike_6 : decode cX11_unlike 6 = .ok (.getfield 65, 3) := by decide +kernel
theorem dX11_unlike_9 : decode cX11_unlike 9 = .ok (.if_icmp .gt 27, 3) := by decide +kernel
theorem dX11_unlike_12 : decode cX11_unlike 12 = .ok (.iload_n 1, 1) := by decide +kernel
theorem dX11_unlike_13 : decode cX11_unlike 13 = .ok (.aload_n 0, 1) := by decide +kernel
theorem dX11_unlike_14 : decode cX11_unlike 14 = .ok (.iload_n 2, 1) := by decide +kernel
theorem dX11_unlike_15 : decode cX11_unlike 15 = .ok (.iconst 1, 1) := by decide +kernel
theorem dX11_unlike_16 : decode cX11_unlike 16 = .ok (.invokevirtual 142, 3) := by decide +kernel
theorem dX11_unlike_19 : decode cX11_unlike 19 = .ok (.iload_n 2, 1) := by decide +kernel
theorem dX11_unlike_20 : decode cX11_unlike 20 = .ok (.if_icmp .ne 7, 3) := by decide +kernel
theorem dX11_unlike_23 : decode cX11_unlike 23 = .ok (.iconst 1, 1) := by decide +kernel
theorem dX11_unlike_24 : decode cX11_unlike 24 = .ok (.goto 4, 3) := by decide +kernel
theorem dX11_unlike_27 : decode cX11_unlike 27 = .ok (.iconst 0, 1) := by decide +kernel
theorem dX11_unlike_28 : decode cX11_unlike 28 = .ok (.iadd, 1) := by decide +kernel
theorem dX11_unlike_29 : decode cX11_unlike 29 = .ok (.istore_n 1, 1) := by decide +kernel
theorem dX11_unlike_30 : decode cX11_unlike 30 = .ok (.iinc 2 1, 3) := by decide +kernel
theorem dX11_unlike_33 : decode cX11_unlike 33 = .ok (.goto (-29), 3) := by decide +kernel
theorem dX11_unlike_36 : decode cX11_unlike 36 = .ok (.iload_n 1, 1) := by decide +kernel
theorem dX11_unlike_37 : decode cX11_unlike 37 = .ok (.ireturn, 1) := by decide +kernel
theorem dX11_areFalse_0 : decode cX11_areFalse 0 = .ok (.aload_n 0, 1) := by decide +kernel
theorem dX11_areFalse_1 : decode cX11_areFalse 1 = .ok (.getfield 7, 3) := by decide +kernel
theorem dX11_areFalse_4 : decode cX11_areFalse 4 = .ok (.iconst 1, 1) := by decide +kernel
theorem dX11_areFalse_5 : decode cX11_areFalse 5 = .ok (.iaload, 1) := by decide +kernel
theorem dX11_areFalse_6 : decode cX11_areFalse 6 = .ok (.istore_n 3, 1) := by decide +kernel
theorem dX11_areFalse_7 : decode cX11_areFalse 7 = .ok (.iconst 0, 1) := by decide +kernel
theorem dX11_areFalse_8 : decode cX11_areFalse 8 = .ok (.istore 4, 2) := by decide +kernel
theorem dX11_areFalse_10 : decode cX11_areFalse 10 = .ok (.iconst 1, 1) := by decide +kernel
theorem dX11_areFalse_11 : decode cX11_areFalse 11 = .ok (.istore 5, 2) := by decide +kernel
theorem dX11_areFalse_13 : decode cX11_areFalse 13 = .ok (.iload 5, 2) := by decide +kernel
theorem dX11_areFalse_15 : decode cX11_areFalse 15 = .ok (.iload_n 3, 1) := by decide +kernel
theorem dX11_areFalse_16 : decode cX11_areFalse 16 = .ok (.if_icmp .gt 61, 3) := by decide +kernel
theorem dX11_areFalse_19 : decode cX11_areFalse 19 = .ok (.iconst 1, 1) := by decide +kernel
theorem dX11_areFalse_20 : decode cX11_areFalse 20 = .ok (.istore 6, 2) := by decide +kernel
theorem dX11_areFalse_22 : decode cX11_areFalse 22 = .ok (.iload 6, 2) := by decide +kernel
theorem dX11_areFalse_24 : decode cX11_areFalse 24 = .ok (.iload_n 3, 1) := by decide +kernel
theorem dX11_areFalse_25 : decode cX11_areFalse 25 = .ok (.if_icmp .gt 46, 3) := by decide +kernel
theorem dX11_areFalse_28 : decode cX11_areFalse 28 = .ok (.iload 4, 2) := by decide +kernel
theorem dX11_areFalse_30 : decode cX11_areFalse 30 = .ok (.ifCond .ne 28, 3) := by decide +kernel
theorem dX11_areFalse_33 : decode cX11_areFalse 33 = .ok (.aload_n 0, 1) := by decide +kernel
theorem dX11_areFalse_34 : decode cX11_areFalse 34 = .ok (.getfield 28, 3) := by decide +kernel
theorem dX11_areFalse_37 : decode cX11_areFalse 37 = .ok (.iload_n 1, 1) := by decide +kernel
theorem dX11_areFalse_38 : decode cX11_areFalse 38 = .ok (.iload_n 3, 1) := by decide +kernel
theorem dX11_areFalse_39 : decode cX11_areFalse 39 = .ok (.imul, 1) := by decide +kernel
theorem dX11_areFalse_40 : decode cX11_areFalse 40 = .ok (.iload 5, 2) := by decide +kernel
theorem dX11_areFalse_42 : decode cX11_areFalse 42 = .ok (.iadd, 1) := by decide +kernel
theorem dX11_areFalse_43 : decode cX11_areFalse 43 = .ok (.iaload, 1) := by decide +kernel
theorem dX11_areFalse_44 : decode cX11_areFalse 44 = .ok (.aload_n 0, 1) := by decide +kernel
theorem dX11_areFalse_45 : decode cX11_areFalse 45 = .ok (.getfield 28, 3) := by decide +kernel
theorem dX11_areFalse_48 : decode cX11_areFalse 48 = .ok (.iload_n 2, 1) := by decide +kernel
theorem dX11_areFalse_49 : decode cX11_areFalse 49 = .ok (.iload_n 3, 1) := by decide +kernel
theorem dX11_areFalse_50 : decode cX11_areFalse 50 = .ok (.imul, 1) := by decide +kernel
theorem dX11_areFalse_51 : decode cX11_areFalse 51 = .ok (.iload 6, 2) := by decide +kernel
theorem dX11_areFalse_53 : decode cX11_areFalse 53 = .ok (.iadd, 1) := by decide +kernel
theorem dX11_areFalse_54 : decode cX11_areFalse 54 = .ok (.iaload, 1) := by decide +kernel
theorem dX11_areFalse_55 : decode cX11_areFalse 55 = .ok (.if_icmp .ne 7, 3) := by decide +kernel
theorem dX11_areFalse_58 : decode cX11_areFalse 58 = .ok (.iconst 1, 1) := by decide +kernel
theorem dX11_areFalse_59 : decode cX11_areFalse 59 = .ok (.goto 4, 3) := by decide +kernel
theorem dX11_areFalse_62 : decode cX11_areFalse 62 = .ok (.iconst 0, 1) := by decide +kernel
theorem dX11_areFalse_63 : decode cX11_areFalse 63 = .ok (.istore 4, 2) := by decide +kernel
theorem dX11_areFalse_65 : decode cX11_areFalse 65 = .ok (.iinc 6 1, 3) := by decide +kernel
theorem dX11_areFalse_68 : decode cX11_areFalse 68 = .ok (.goto (-46), 3) := by decide +kernel
theorem dX11_areFalse_71 : decode cX11_areFalse 71 = .ok (.iinc 5 1, 3) := by decide +kernel
theorem dX11_areFalse_74 : decode cX11_areFalse 74 = .ok (.goto (-61), 3) := by decide +kernel
theorem dX11_areFalse_77 : decode cX11_areFalse 77 = .ok (.iload 4, 2) := by decide +kernel
theorem dX11_areFalse_79 : decode cX11_areFalse 79 = .ok (.ireturn, 1) := by decide +kernel
theorem dX11_falsePairs_0 : decode cX11_falsePairs 0 = .ok (.iconst 0, 1) := by decide +kernel
theorem dX11_falsePairs_1 : decode cX11_falsePairs 1 = .ok (.istore_n 1, 1) := by decide +kernel
theorem dX11_falsePairs_2 : decode cX11_falsePairs 2 = .ok (.iconst 0, 1) := by decide +kernel
theorem dX11_falsePairs_3 : decode cX11_falsePairs 3 = .ok (.istore_n 2, 1) := by decide +kernel
theorem dX11_falsePairs_4 : decode cX11_falsePairs 4 = .ok (.iload_n 2, 1) := by decide +kernel
theorem dX11_falsePairs_5 : decode cX11_falsePairs 5 = .ok (.aload_n 0, 1) := by decide +kernel
theorem dX11_falsePairs_6 : decode cX11_falsePairs 6 = .ok (.getfield 7, 3) := by decide +kernel
theorem dX11_falsePairs_9 : decode cX11_falsePairs 9 = .ok (.iconst 2, 1) := by decide +kernel
theorem dX11_falsePairs_10 : decode cX11_falsePairs 10 = .ok (.iaload, 1) := by decide +kernel
theorem dX11_falsePairs_11 : decode cX11_falsePairs 11 = .ok (.if_icmp .ge 46, 3) := by decide +kernel
theorem dX11_falsePairs_14 : decode cX11_falsePairs 14 = .ok (.iload_n 2, 1) := by decide +kernel
theorem dX11_falsePairs_15 : decode cX11_falsePairs 15 = .ok (.iconst 1, 1) := by decide +kernel
theorem dX11_falsePairs_16 : decode cX11_falsePairs 16 = .ok (.iadd, 1) := by decide +kernel
theorem dX11_falsePairs_17 : decode cX11_falsePairs 17 = .ok (.istore_n 3, 1) := by decide +kernel
theorem dX11_falsePairs_18 : decode cX11_falsePairs 18 = .ok (.iload_n 3, 1) := by decide +kernel
theorem dX11_falsePairs_19 : decode cX11_falsePairs 19 = .ok (.aload_n 0, 1) := by decide +kernel
theorem dX11_falsePairs_20 : decode cX11_falsePairs 20 = .ok (.getfield 7, 3) := by decide +kernel
theorem dX11_falsePairs_23 : decode cX11_falsePairs 23 = .ok (.iconst 2, 1) := by decide +kernel
theorem dX11_falsePairs_24 : decode cX11_falsePairs 24 = .ok (.iaload, 1) := by decide +kernel
theorem dX11_falsePairs_25 : decode cX11_falsePairs 25 = .ok (.if_icmp .ge 26, 3) := by decide +kernel
theorem dX11_falsePairs_28 : decode cX11_falsePairs 28 = .ok (.iload_n 1, 1) := by decide +kernel
theorem dX11_falsePairs_29 : decode cX11_falsePairs 29 = .ok (.aload_n 0, 1) := by decide +kernel
theorem dX11_falsePairs_30 : decode cX11_falsePairs 30 = .ok (.iload_n 2, 1) := by decide +kernel
theorem dX11_falsePairs_31 : decode cX11_falsePairs 31 = .ok (.iload_n 3, 1) := by decide +kernel
theorem dX11_falsePairs_32 : decode cX11_falsePairs 32 = .ok (.invokevirtual 161, 3) := by decide +kernel
theorem dX11_falsePairs_35 : decode cX11_falsePairs 35 = .ok (.ifCond .eq 7, 3) := by decide +kernel
theorem dX11_falsePairs_38 : decode cX11_falsePairs 38 = .ok (.iconst 1, 1) := by decide +kernel
theorem dX11_falsePairs_39 : decode cX11_falsePairs 39 = .ok (.goto 4, 3) := by decide +kernel
theorem dX11_falsePairs_42 : decode cX11_falsePairs 42 = .ok (.iconst 0, 1) := by decide +kernel
theorem dX11_falsePairs_43 : decode cX11_falsePairs 43 = .ok (.iadd, 1) := by decide +kernel
theorem dX11_falsePairs_44 : decode cX11_falsePairs 44 = .ok (.istore_n 1, 1) := by decide +kernel
theorem dX11_falsePairs_45 : decode cX11_falsePairs 45 = .ok (.iinc 3 1, 3) := by decide +kernel
theorem dX11_falsePairs_48 : decode cX11_falsePairs 48 = .ok (.goto (-30), 3) := by decide +kernel
theorem dX11_falsePairs_51 : decode cX11_falsePairs 51 = .ok (.iinc 2 1, 3) := by decide +kernel
theorem dX11_falsePairs_54 : decode cX11_falsePairs 54 = .ok (.goto (-50), 3) := by decide +kernel
theorem dX11_falsePairs_57 : decode cX11_falsePairs 57 = .ok (.iload_n 1, 1) := by decide +kernel
theorem dX11_falsePairs_58 : decode cX11_falsePairs 58 = .ok (.ireturn, 1) := by decide +kernel
theorem dX11_musical_0 : decode cX11_musical 0 = .ok (.iconst 0, 1) := by decide +kernel
theorem dX11_musical_1 : decode cX11_musical 1 = .ok (.istore_n 1, 1) := by decide +kernel
theorem dX11_musical_2 : decode cX11_musical 2 = .ok (.iconst 1, 1) := by decide +kernel
theorem dX11_musical_3 : decode cX11_musical 3 = .ok (.istore_n 2, 1) := by decide +kernel
theorem dX11_musical_4 : decode cX11_musical 4 = .ok (.iload_n 2, 1) := by decide +kernel
theorem dX11_musical_5 : decode cX11_musical 5 = .ok (.aload_n 0, 1) := by decide +kernel
theorem dX11_musical_6 : decode cX11_musical 6 = .ok (.getfield 65, 3) := by decide +kernel
theorem dX11_musical_9 : decode cX11_musical 9 = .ok (.if_icmp .gt 34, 3) := by decide +kernel
theorem dX11_musical_12 : decode cX11_musical 12 = .ok (.aload_n 0, 1) := by decide +kernel
theorem dX11_musical_13 : decode cX11_musical 13 = .ok (.aload_n 0, 1) := by decide +kernel
theorem dX11_musical_14 : decode cX11_musical 14 = .ok (.getfield 28, 3) := by decide +kernel
theorem dX11_musical_17 : decode cX11_musical 17 = .ok (.iload_n 2, 1) := by decide +kernel
theorem dX11_musical_18 : decode cX11_musical 18 = .ok (.iaload, 1) := by decide +kernel
theorem dX11_musical_19 : decode cX11_musical 19 = .ok (.invokevirtual 127, 3) := by decide +kernel
theorem dX11_musical_22 : decode cX11_musical 22 = .ok (.iload_n 1, 1) := by decide +kernel
theorem dX11_musical_23 : decode cX11_musical 23 = .ok (.aload_n 0, 1) := by decide +kernel
theorem dX11_musical_24 : decode cX11_musical 24 = .ok (.invokevirtual 136, 3) := by decide +kernel
theorem dX11_musical_27 : decode cX11_musical 27 = .ok (.ifCond .eq 7, 3) := by decide +kernel
theorem dX11_musical_30 : decode cX11_musical 30 = .ok (.iconst 1, 1) := by decide +kernel
theorem dX11_musical_31 : decode cX11_musical 31 = .ok (.goto 4, 3) := by decide +kernel
theorem dX11_musical_34 : decode cX11_musical 34 = .ok (.iconst 0, 1) := by decide +kernel
theorem dX11_musical_35 : decode cX11_musical 35 = .ok (.iadd, 1) := by decide +kernel
theorem dX11_musical_36 : decode cX11_musical 36 = .ok (.istore_n 1, 1) := by decide +kernel
theorem dX11_musical_37 : decode cX11_musical 37 = .ok (.iinc 2 1, 3) := by decide +kernel
theorem dX11_musical_40 : decode cX11_musical 40 = .ok (.goto (-36), 3) := by decide +kernel
theorem dX11_musical_43 : decode cX11_musical 43 = .ok (.iload_n 1, 1) := by decide +kernel
theorem dX11_musical_44 : decode cX11_musical 44 = .ok (.ireturn, 1) := by decide +kernel
theorem dX11_called_0 : decode cX11_called 0 = .ok (.iconst 0, 1) := by decide +kernel
theorem dX11_called_1 : decode cX11_called 1 = .ok (.istore_n 1, 1) := by decide +kernel
theorem dX11_called_2 : decode cX11_called 2 = .ok (.iconst 0, 1) := by decide +kernel
theorem dX11_called_3 : decode cX11_called 3 = .ok (.istore_n 2, 1) := by decide +kernel
theorem dX11_called_4 : decode cX11_called 4 = .ok (.iload_n 2, 1) := by decide +kernel
theorem dX11_called_5 : decode cX11_called 5 = .ok (.aload_n 0, 1) := by decide +kernel
theorem dX11_called_6 : decode cX11_called 6 = .ok (.getfield 7, 3) := by decide +kernel
theorem dX11_called_9 : decode cX11_called 9 = .ok (.iconst 2, 1) := by decide +kernel
theorem dX11_called_10 : decode cX11_called 10 = .ok (.iaload, 1) := by decide +kernel
theorem dX11_called_11 : decode cX11_called 11 = .ok (.if_icmp .ge 29, 3) := by decide +kernel
theorem dX11_called_14 : decode cX11_called 14 = .ok (.iload_n 1, 1) := by decide +kernel
theorem dX11_called_15 : decode cX11_called 15 = .ok (.aload_n 0, 1) := by decide +kernel
theorem dX11_called_16 : decode cX11_called 16 = .ok (.getfield 7, 3) := by decide +kernel
theorem dX11_called_19 : decode cX11_called 19 = .ok (.bipush 25, 2) := by decide +kernel
theorem dX11_called_21 : decode cX11_called 21 = .ok (.iload_n 2, 1) := by decide +kernel
theorem dX11_called_22 : decode cX11_called 22 = .ok (.iadd, 1) := by decide +kernel
theorem dX11_called_23 : decode cX11_called 23 = .ok (.iaload, 1) := by decide +kernel
theorem dX11_called_24 : decode cX11_called 24 = .ok (.ifCond .le 7, 3) := by decide +kernel
theorem dX11_called_27 : decode cX11_called 27 = .ok (.iconst 1, 1) := by decide +kernel
theorem dX11_called_28 : decode cX11_called 28 = .ok (.goto 4, 3) := by decide +kernel
theorem dX11_called_31 : decode cX11_called 31 = .ok (.iconst 0, 1) := by decide +kernel
theorem dX11_called_32 : decode cX11_called 32 = .ok (.iadd, 1) := by decide +kernel
theorem dX11_called_33 : decode cX11_called 33 = .ok (.istore_n 1, 1) := by decide +kernel
theorem dX11_called_34 : decode cX11_called 34 = .ok (.iinc 2 1, 3) := by decide +kernel
theorem dX11_called_37 : decode cX11_called 37 = .ok (.goto (-33), 3) := by decide +kernel
theorem dX11_called_40 : decode cX11_called 40 = .ok (.iload_n 1, 1) := by decide +kernel
theorem dX11_called_41 : decode cX11_called 41 = .ok (.ireturn, 1) := by decide +kernel
theorem dX11_plainCourse_0 : decode cX11_plainCourse 0 = .ok (.aload_n 0, 1) := by decide +kernel
theorem dX11_plainCourse_1 : decode cX11_plainCourse 1 = .ok (.invokevirtual 72, 3) := by decide +kernel
theorem dX11_plainCourse_4 : decode cX11_plainCourse 4 = .ok (.iconst 0, 1) := by decide +kernel
theorem dX11_plainCourse_5 : decode cX11_plainCourse 5 = .ok (.istore_n 1, 1) := by decide +kernel
theorem dX11_plainCourse_6 : decode cX11_plainCourse 6 = .ok (.iconst 1, 1) := by decide +kernel
theorem dX11_plainCourse_7 : decode cX11_plainCourse 7 = .ok (.istore_n 2, 1) := by decide +kernel
theorem dX11_plainCourse_8 : decode cX11_plainCourse 8 = .ok (.iload_n 2, 1) := by decide +kernel
theorem dX11_plainCourse_9 : decode cX11_plainCourse 9 = .ok (.ifCond .eq 44, 3) := by decide +kernel
theorem dX11_plainCourse_12 : decode cX11_plainCourse 12 = .ok (.iconst 0, 1) := by decide +kernel
theorem dX11_plainCourse_13 : decode cX11_plainCourse 13 = .ok (.istore_n 3, 1) := by decide +kernel
theorem dX11_plainCourse_14 : decode cX11_plainCourse 14 = .ok (.iload_n 3, 1) := by decide +kernel
theorem dX11_plainCourse_15 : decode cX11_plainCourse 15 = .ok (.aload_n 0, 1) := by decide +kernel
theorem dX11_plainCourse_16 : decode cX11_plainCourse 16 = .ok (.getfield 7, 3) := by decide +kernel
theorem dX11_plainCourse_19 : decode cX11_plainCourse 19 = .ok (.iconst 1, 1) := by decide +kernel
theorem dX11_plainCourse_20 : decode cX11_plainCourse 20 = .ok (.iaload, 1) := by decide +kernel
theorem dX11_plainCourse_21 : decode cX11_plainCourse 21 = .ok (.if_icmp .ge 21, 3) := by decide +kernel
theorem dX11_plainCourse_24 : decode cX11_plainCourse 24 = .ok (.aload_n 0, 1) := by decide +kernel
theorem dX11_plainCourse_25 : decode cX11_plainCourse 25 = .ok (.aload_n 0, 1) := by decide +kernel
theorem dX11_plainCourse_26 : decode cX11_plainCourse 26 = .ok (.getfield 7, 3) := by decide +kernel
theorem dX11_plainCourse_29 : decode cX11_plainCourse 29 = .ok (.iconst 5, 1) := by decide +kernel
theorem dX11_plainCourse_30 : decode cX11_plainCourse 30 = .ok (.iload_n 3, 1) := by decide +kernel
theorem dX11_plainCourse_31 : decode cX11_plainCourse 31 = .ok (.iadd, 1) := by decide +kernel
theorem dX11_plainCourse_32 : decode cX11_plainCourse 32 = .ok (.iaload, 1) := by decide +kernel
theorem dX11_plainCourse_33 : decode cX11_plainCourse 33 = .ok (.invokevirtual 62, 3) := by decide +kernel
theorem dX11_plainCourse_36 : decode cX11_plainCourse 36 = .ok (.iinc 3 1, 3) := by decide +kernel
theorem dX11_plainCourse_39 : decode cX11_plainCourse 39 = .ok (.goto (-25), 3) := by decide +kernel
theorem dX11_plainCourse_42 : decode cX11_plainCourse 42 = .ok (.aload_n 0, 1) := by decide +kernel
theorem dX11_plainCourse_43 : decode cX11_plainCourse 43 = .ok (.invokevirtual 68, 3) := by decide +kernel
theorem dX11_plainCourse_46 : decode cX11_plainCourse 46 = .ok (.istore_n 2, 1) := by decide +kernel
theorem dX11_plainCourse_47 : decode cX11_plainCourse 47 = .ok (.iinc 1 1, 3) := by decide +kernel
theorem dX11_plainCourse_50 : decode cX11_plainCourse 50 = .ok (.goto (-42), 3) := by decide +kernel
theorem dX11_plainCourse_53 : decode cX11_plainCourse 53 = .ok (.iload_n 1, 1) := by decide +kernel
theorem dX11_plainCourse_54 : decode cX11_plainCourse 54 = .ok (.ireturn, 1) := by decide +kernel
theorem dX11_count_0 : decode cX11_count 0 = .ok (.aload_n 0, 1) := by decide +kernel
theorem dX11_count_1 : decode cX11_count 1 = .ok (.bipush (-4), 2) := by decide +kernel
theorem dX11_count_3 : decode cX11_count 3 = .ok (.invokevirtual 124, 3) := by decide +kernel
theorem dX11_count_6 : decode cX11_count 6 = .ok (.iload_n 1, 1) := by decide +kernel
theorem dX11_count_7 : decode cX11_count 7 = .ok (.tableswitch 159 0 15 #[77, 77, 77, 84, 89, 94, 107, 112, 117, 122, 127, 132, 137, 137, 149, 154], 77) := by decide +kernel
theorem dX11_count_84 : decode cX11_count 84 = .ok (.aload_n 0, 1) := by decide +kernel
theorem dX11_count_85 : decode cX11_count 85 = .ok (.getfield 7, 3) := by decide +kernel
theorem dX11_count_88 : decode cX11_count 88 = .ok (.iload_n 1, 1) := by decide +kernel
theorem dX11_count_89 : decode cX11_count 89 = .ok (.iaload, 1) := by decide +kernel
theorem dX11_count_90 : decode cX11_count 90 = .ok (.ireturn, 1) := by decide +kernel
theorem dX11_count_91 : decode cX11_count 91 = .ok (.aload_n 0, 1) := by decide +kernel
theorem dX11_count_92 : decode cX11_count 92 = .ok (.invokevirtual 115, 3) := by decide +kernel
theorem dX11_count_95 : decode cX11_count 95 = .ok (.ireturn, 1) := by decide +kernel
theorem dX11_count_96 : decode cX11_count 96 = .ok (.aload_n 0, 1) := by decide +kernel
theorem dX11_count_97 : decode cX11_count 97 = .ok (.invokevirtual 164, 3) := by decide +kernel
theorem dX11_count_100 : decode cX11_count 100 = .ok (.ireturn, 1) := by decide +kernel
theorem dX11_count_101 : decode cX11_count 101 = .ok (.aload_n 0, 1) := by decide +kernel
theorem dX11_count_102 : decode cX11_count 102 = .ok (.invokevirtual 167, 3) := by decide +kernel
theorem dX11_count_105 : decode cX11_count 105 = .ok (.ifCond .ge 7, 3) := by decide +kernel
theorem dX11_count_108 : decode cX11_count 108 = .ok (.iconst 1, 1) := by decide +kernel
theorem dX11_count_109 : decode cX11_count 109 = .ok (.goto 4, 3) := by decide +kernel
theorem dX11_count_112 : decode cX11_count 112 = .ok (.iconst 0, 1) := by decide +kernel
theorem dX11_count_113 : decode cX11_count 113 = .ok (.ireturn, 1) := by decide +kernel
theorem dX11_count_114 : decode cX11_count 114 = .ok (.aload_n 0, 1) := by decide +kernel
theorem dX11_count_115 : decode cX11_count 115 = .ok (.invokevirtual 167, 3) := by decide +kernel
theorem dX11_count_118 : decode cX11_count 118 = .ok (.ireturn, 1) := by decide +kernel
theorem dX11_count_119 : decode cX11_count 119 = .ok (.aload_n 0, 1) := by decide +kernel
theorem dX11_count_120 : decode cX11_count 120 = .ok (.invokevirtual 170, 3) := by decide +kernel
theorem dX11_count_123 : decode cX11_count 123 = .ok (.ireturn, 1) := by decide +kernel
theorem dX11_count_124 : decode cX11_count 124 = .ok (.aload_n 0, 1) := by decide +kernel
theorem dX11_count_125 : decode cX11_count 125 = .ok (.invokevirtual 173, 3) := by decide +kernel
theorem dX11_count_128 : decode cX11_count 128 = .ok (.ireturn, 1) := by decide +kernel
theorem dX11_count_129 : decode cX11_count 129 = .ok (.aload_n 0, 1) := by decide +kernel
theorem dX11_count_130 : decode cX11_count 130 = .ok (.invokevirtual 176, 3) := by decide +kernel
theorem dX11_count_133 : decode cX11_count 133 = .ok (.ireturn, 1) := by decide +kernel
theorem dX11_count_134 : decode cX11_count 134 = .ok (.aload_n 0, 1) := by decide +kernel
theorem dX11_count_135 : decode cX11_count 135 = .ok (.invokevirtual 179, 3) := by decide +kernel
theorem dX11_count_138 : decode cX11_count 138 = .ok (.ireturn, 1) := by decide +kernel
theorem dX11_count_139 : decode cX11_count 139 = .ok (.aload_n 0, 1) := by decide +kernel
theorem dX11_count_140 : decode cX11_count 140 = .ok (.invokevirtual 182, 3) := by decide +kernel
theorem dX11_count_143 : decode cX11_count 143 = .ok (.ireturn, 1) := by decide +kernel
theorem dX11_count_144 : decode cX11_count 144 = .ok (.aload_n 0, 1) := by decide +kernel
theorem dX11_count_145 : decode cX11_count 145 = .ok (.getfield 7, 3) := by decide +kernel
theorem dX11_count_148 : decode cX11_count 148 = .ok (.iconst 2, 1) := by decide +kernel
theorem dX11_count_149 : decode cX11_count 149 = .ok (.iload_n 1, 1) := by decide +kernel
theorem dX11_count_150 : decode cX11_count 150 = .ok (.iadd, 1) := by decide +kernel
theorem dX11_count_151 : decode cX11_count 151 = .ok (.bipush 11, 2) := by decide +kernel
theorem dX11_count_153 : decode cX11_count 153 = .ok (.isub, 1) := by decide +kernel
theorem dX11_count_154 : decode cX11_count 154 = .ok (.iaload, 1) := by decide +kernel
theorem dX11_count_155 : decode cX11_count 155 = .ok (.ireturn, 1) := by decide +kernel
theorem dX11_count_156 : decode cX11_count 156 = .ok (.aload_n 0, 1) := by decide +kernel
theorem dX11_count_157 : decode cX11_count 157 = .ok (.getfield 84, 3) := by decide +kernel
theorem dX11_count_160 : decode cX11_count 160 = .ok (.ireturn, 1) := by decide +kernel
theorem dX11_count_161 : decode cX11_count 161 = .ok (.aload_n 0, 1) := by decide +kernel
theorem dX11_count_162 : decode cX11_count 162 = .ok (.getfield 50, 3) := by decide +kernel
theorem dX11_count_165 : decode cX11_count 165 = .ok (.ireturn, 1) := by decide +kernel
theorem dX11_count_166 : decode cX11_count 166 = .ok (.iconst (-1), 1) := by decide +kernel
theorem dX11_count_167 : decode cX11_count 167 = .ok (.ireturn, 1) := by decide +kernel
theorem dX11_music_0 : decode cX11_music 0 = .ok (.aload_n 0, 1) := by decide +kernel
theorem dX11_music_1 : decode cX11_music 1 = .ok (.bipush (-4), 2) := by decide +kernel
theorem dX11_music_3 : decode cX11_music 3 = .ok (.invokevirtual 124, 3) := by decide +kernel
theorem dX11_music_6 : decode cX11_music 6 = .ok (.aload_n 0, 1) := by decide +kernel
theorem dX11_music_7 : decode cX11_music 7 = .ok (.invokevirtual 176, 3) := by decide +kernel
theorem dX11_music_10 : decode cX11_music 10 = .ok (.i2d, 1) := by decide +kernel
theorem dX11_music_11 : decode cX11_music 11 = .ok (.dstore_n 1, 1) := by decide +kernel
theorem dX11_music_12 : decode cX11_music 12 = .ok (.aload_n 0, 1) := by decide +kernel
theorem dX11_music_13 : decode cX11_music 13 = .ok (.getfield 65, 3) := by decide +kernel
theorem dX11_music_16 : decode cX11_music 16 = .ok (.ifCond .ne 7, 3) := by decide +kernel
theorem dX11_music_19 : decode cX11_music 19 = .ok (.dconst 0, 1) := by decide +kernel
theorem dX11_music_20 : decode cX11_music 20 = .ok (.goto 10, 3) := by decide +kernel
theorem dX11_music_23 : decode cX11_music 23 = .ok (.dload_n 1, 1) := by decide +kernel
theorem dX11_music_24 : decode cX11_music 24 = .ok (.aload_n 0, 1) := by decide +kernel
theorem dX11_music_25 : decode cX11_music 25 = .ok (.getfield 65, 3) := by decide +kernel
theorem dX11_music_28 : decode cX11_music 28 = .ok (.i2d, 1) := by decide +kernel
theorem dX11_music_29 : decode cX11_music 29 = .ok (.ddiv, 1) := by decide +kernel
theorem dX11_music_30 : decode cX11_music 30 = .ok (.dreturn, 1) := by decide +kernel
theorem dX11_takesLeads_0 : decode cX11_takesLeads 0 = .ok (.iconst 0, 1) := by decide +kernel
theorem dX11_takesLeads_1 : decode cX11_takesLeads 1 = .ok (.istore_n 1, 1) := by decide +kernel
theorem dX11_takesLeads_2 : decode cX11_takesLeads 2 = .ok (.iload_n 1, 1) := by decide +kernel
theorem dX11_takesLeads_3 : decode cX11_takesLeads 3 = .ok (.iconst 3, 1) := by decide +kernel
theorem dX11_takesLeads_4 : decode cX11_takesLeads 4 = .ok (.if_icmp .ge 76, 3) := by decide +kernel
theorem dX11_takesLeads_7 : decode cX11_takesLeads 7 = .ok (.aload_n 0, 1) := by decide +kernel
theorem dX11_takesLeads_8 : decode cX11_takesLeads 8 = .ok (.invokevirtual 72, 3) := by decide +kernel
theorem dX11_takesLeads_11 : decode cX11_takesLeads 11 = .ok (.iconst 0, 1) := by decide +kernel
theorem dX11_takesLeads_12 : decode cX11_takesLeads 12 = .ok (.istore_n 2, 1) := by decide +kernel
theorem dX11_takesLeads_13 : decode cX11_takesLeads 13 = .ok (.iload_n 2, 1) := by decide +kernel
theorem dX11_takesLeads_14 : decode cX11_takesLeads 14 = .ok (.aload_n 0, 1) := by decide +kernel
theorem dX11_takesLeads_15 : decode cX11_takesLeads 15 = .ok (.getfield 7, 3) := by decide +kernel
theorem dX11_takesLeads_18 : decode cX11_takesLeads 18 = .ok (.iconst 1, 1) := by decide +kernel
theorem dX11_takesLeads_19 : decode cX11_takesLeads 19 = .ok (.iaload, 1) := by decide +kernel
theorem dX11_takesLeads_20 : decode cX11_takesLeads 20 = .ok (.if_icmp .ge 19, 3) := by decide +kernel
theorem dX11_takesLeads_23 : decode cX11_takesLeads 23 = .ok (.aload_n 0, 1) := by decide +kernel
theorem dX11_takesLeads_24 : decode cX11_takesLeads 24 = .ok (.aload_n 0, 1) := by decide +kernel
theorem dX11_takesLeads_25 : decode cX11_takesLeads 25 = .ok (.iload_n 1, 1) := by decide +kernel
theorem dX11_takesLeads_26 : decode cX11_takesLeads 26 = .ok (.iload_n 2, 1) := by decide +kernel
theorem dX11_takesLeads_27 : decode cX11_takesLeads 27 = .ok (.invokevirtual 58, 3) := by decide +kernel
theorem dX11_takesLeads_30 : decode cX11_takesLeads 30 = .ok (.invokevirtual 62, 3) := by decide +kernel
theorem dX11_takesLeads_33 : decode cX11_takesLeads 33 = .ok (.iinc 2 1, 3) := by decide +kernel
theorem dX11_takesLeads_36 : decode cX11_takesLeads 36 = .ok (.goto (-23), 3) := by decide +kernel
theorem dX11_takesLeads_39 : decode cX11_takesLeads 39 = .ok (.iconst 0, 1) := by decide +kernel
theorem dX11_takesLeads_40 : decode cX11_takesLeads 40 = .ok (.istore_n 2, 1) := by decide +kernel
theorem dX11_takesLeads_41 : decode cX11_takesLeads 41 = .ok (.iload_n 2, 1) := by decide +kernel
theorem dX11_takesLeads_42 : decode cX11_takesLeads 42 = .ok (.aload_n 0, 1) := by decide +kernel
theorem dX11_takesLeads_43 : decode cX11_takesLeads 43 = .ok (.getfield 7, 3) := by decide +kernel
theorem dX11_takesLeads_46 : decode cX11_takesLeads 46 = .ok (.iconst 0, 1) := by decide +kernel
theorem dX11_takesLeads_47 : decode cX11_takesLeads 47 = .ok (.iaload, 1) := by decide +kernel
theorem dX11_takesLeads_48 : decode cX11_takesLeads 48 = .ok (.if_icmp .ge 26, 3) := by decide +kernel
theorem dX11_takesLeads_51 : decode cX11_takesLeads 51 = .ok (.aload_n 0, 1) := by decide +kernel
theorem dX11_takesLeads_52 : decode cX11_takesLeads 52 = .ok (.getfield 37, 3) := by decide +kernel
theorem dX11_takesLeads_55 : decode cX11_takesLeads 55 = .ok (.bipush 7, 2) := by decide +kernel
theorem dX11_takesLeads_57 : decode cX11_takesLeads 57 = .ok (.iload_n 1, 1) := by decide +kernel
theorem dX11_takesLeads_58 : decode cX11_takesLeads 58 = .ok (.imul, 1) := by decide +kernel
theorem dX11_takesLeads_59 : decode cX11_takesLeads 59 = .ok (.iload_n 2, 1) := by decide +kernel
theorem dX11_takesLeads_60 : decode cX11_takesLeads 60 = .ok (.iadd, 1) := by decide +kernel
theorem dX11_takesLeads_61 : decode cX11_takesLeads 61 = .ok (.aload_n 0, 1) := by decide +kernel
theorem dX11_takesLeads_62 : decode cX11_takesLeads 62 = .ok (.getfield 22, 3) := by decide +kernel
theorem dX11_takesLeads_65 : decode cX11_takesLeads 65 = .ok (.iload_n 2, 1) := by decide +kernel
theorem dX11_takesLeads_66 : decode cX11_takesLeads 66 = .ok (.iaload, 1) := by decide +kernel
theorem dX11_takesLeads_67 : decode cX11_takesLeads 67 = .ok (.iastore, 1) := by decide +kernel
theorem dX11_takesLeads_68 : decode cX11_takesLeads 68 = .ok (.iinc 2 1, 3) := by decide +kernel
theorem dX11_takesLeads_71 : decode cX11_takesLeads 71 = .ok (.goto (-30), 3) := by decide +kernel
theorem dX11_takesLeads_74 : decode cX11_takesLeads 74 = .ok (.iinc 1 1, 3) := by decide +kernel
theorem dX11_takesLeads_77 : decode cX11_takesLeads 77 = .ok (.goto (-75), 3) := by decide +kernel
theorem dX11_takesLeads_80 : decode cX11_takesLeads 80 = .ok (.return_, 1) := by decide +kernel
theorem dX11_moved_0 : decode cX11_moved 0 = .ok (.aload_n 0, 1) := by decide +kernel
theorem dX11_moved_1 : decode cX11_moved 1 = .ok (.iload_n 1, 1) := by decide +kernel
theorem dX11_moved_2 : decode cX11_moved 2 = .ok (.invokevirtual 127, 3) := by decide +kernel
theorem dX11_moved_5 : decode cX11_moved 5 = .ok (.iconst 0, 1) := by decide +kernel
theorem dX11_moved_6 : decode cX11_moved 6 = .ok (.istore 4, 2) := by decide +kernel
theorem dX11_moved_8 : decode cX11_moved 8 = .ok (.iload 4, 2) := by decide +kernel
theorem dX11_moved_10 : decode cX11_moved 10 = .ok (.aload_n 0, 1) := by decide +kernel
theorem dX11_moved_11 : decode cX11_moved 11 = .ok (.getfield 7, 3) := by decide +kernel
theorem dX11_moved_14 : decode cX11_moved 14 = .ok (.iconst 0, 1) := by decide +kernel
theorem dX11_moved_15 : decode cX11_moved 15 = .ok (.iaload, 1) := by decide +kernel
theorem dX11_moved_16 : decode cX11_moved 16 = .ok (.if_icmp .ge 23, 3) := by decide +kernel
theorem dX11_moved_19 : decode cX11_moved 19 = .ok (.aload_n 0, 1) := by decide +kernel
theorem dX11_moved_20 : decode cX11_moved 20 = .ok (.getfield 25, 3) := by decide +kernel
theorem dX11_moved_23 : decode cX11_moved 23 = .ok (.iload 4, 2) := by decide +kernel
theorem dX11_moved_25 : decode cX11_moved 25 = .ok (.aload_n 0, 1) := by decide +kernel
theorem dX11_moved_26 : decode cX11_moved 26 = .ok (.getfield 22, 3) := by decide +kernel
theorem dX11_moved_29 : decode cX11_moved 29 = .ok (.iload 4, 2) := by decide +kernel
theorem dX11_moved_31 : decode cX11_moved 31 = .ok (.iaload, 1) := by decide +kernel
theorem dX11_moved_32 : decode cX11_moved 32 = .ok (.iastore, 1) := by decide +kernel
theorem dX11_moved_33 : decode cX11_moved 33 = .ok (.iinc 4 1, 3) := by decide +kernel
theorem dX11_moved_36 : decode cX11_moved 36 = .ok (.goto (-28), 3) := by decide +kernel
theorem dX11_moved_39 : decode cX11_moved 39 = .ok (.iconst 0, 1) := by decide +kernel
theorem dX11_moved_40 : decode cX11_moved 40 = .ok (.istore 4, 2) := by decide +kernel
theorem dX11_moved_42 : decode cX11_moved 42 = .ok (.iload 4, 2) := by decide +kernel
theorem dX11_moved_44 : decode cX11_moved 44 = .ok (.aload_n 0, 1) := by decide +kernel
theorem dX11_moved_45 : decode cX11_moved 45 = .ok (.getfield 7, 3) := by decide +kernel
theorem dX11_moved_48 : decode cX11_moved 48 = .ok (.iconst 0, 1) := by decide +kernel
theorem dX11_moved_49 : decode cX11_moved 49 = .ok (.iaload, 1) := by decide +kernel
theorem dX11_moved_50 : decode cX11_moved 50 = .ok (.if_icmp .ge 58, 3) := by decide +kernel
theorem dX11_moved_53 : decode cX11_moved 53 = .ok (.aload_n 0, 1) := by decide +kernel
theorem dX11_moved_54 : decode cX11_moved 54 = .ok (.getfield 37, 3) := by decide +kernel
theorem dX11_moved_57 : decode cX11_moved 57 = .ok (.bipush 7, 2) := by decide +kernel
theorem dX11_moved_59 : decode cX11_moved 59 = .ok (.iload_n 2, 1) := by decide +kernel
theorem dX11_moved_60 : decode cX11_moved 60 = .ok (.imul, 1) := by decide +kernel
theorem dX11_moved_61 : decode cX11_moved 61 = .ok (.iload 4, 2) := by decide +kernel
theorem dX11_moved_63 : decode cX11_moved 63 = .ok (.iadd, 1) := by decide +kernel
theorem dX11_moved_64 : decode cX11_moved 64 = .ok (.iaload, 1) := by decide +kernel
theorem dX11_moved_65 : decode cX11_moved 65 = .ok (.istore 5, 2) := by decide +kernel
theorem dX11_moved_67 : decode cX11_moved 67 = .ok (.iload_n 3, 1) := by decide +kernel
theorem dX11_moved_68 : decode cX11_moved 68 = .ok (.ifCond .eq 20, 3) := by decide +kernel
theorem dX11_moved_71 : decode cX11_moved 71 = .ok (.aload_n 0, 1) := by decide +kernel
theorem dX11_moved_72 : decode cX11_moved 72 = .ok (.getfield 22, 3) := by decide +kernel
theorem dX11_moved_75 : decode cX11_moved 75 = .ok (.iload 5, 2) := by decide +kernel
theorem dX11_moved_77 : decode cX11_moved 77 = .ok (.aload_n 0, 1) := by decide +kernel
theorem dX11_moved_78 : decode cX11_moved 78 = .ok (.getfield 25, 3) := by decide +kernel
theorem dX11_moved_81 : decode cX11_moved 81 = .ok (.iload 4, 2) := by decide +kernel
theorem dX11_moved_83 : decode cX11_moved 83 = .ok (.iaload, 1) := by decide +kernel
theorem dX11_moved_84 : decode cX11_moved 84 = .ok (.iastore, 1) := by decide +kernel
theorem dX11_moved_85 : decode cX11_moved 85 = .ok (.goto 17, 3) := by decide +kernel
theorem dX11_moved_88 : decode cX11_moved 88 = .ok (.aload_n 0, 1) := by decide +kernel
theorem dX11_moved_89 : decode cX11_moved 89 = .ok (.getfield 22, 3) := by decide +kernel
theorem dX11_moved_92 : decode cX11_moved 92 = .ok (.iload 4, 2) := by decide +kernel
theorem dX11_moved_94 : decode cX11_moved 94 = .ok (.aload_n 0, 1) := by decide +kernel
theorem dX11_moved_95 : decode cX11_moved 95 = .ok (.getfield 25, 3) := by decide +kernel
theorem dX11_moved_98 : decode cX11_moved 98 = .ok (.iload 5, 2) := by decide +kernel
theorem dX11_moved_100 : decode cX11_moved 100 = .ok (.iaload, 1) := by decide +kernel
theorem dX11_moved_101 : decode cX11_moved 101 = .ok (.iastore, 1) := by decide +kernel
theorem dX11_moved_102 : decode cX11_moved 102 = .ok (.iinc 4 1, 3) := by decide +kernel
theorem dX11_moved_105 : decode cX11_moved 105 = .ok (.goto (-63), 3) := by decide +kernel
theorem dX11_moved_108 : decode cX11_moved 108 = .ok (.aload_n 0, 1) := by decide +kernel
theorem dX11_moved_109 : decode cX11_moved 109 = .ok (.invokevirtual 68, 3) := by decide +kernel
theorem dX11_moved_112 : decode cX11_moved 112 = .ok (.ireturn, 1) := by decide +kernel
theorem dX11_spreadsFrom_0 : decode cX11_spreadsFrom 0 = .ok (.aload_n 0, 1) := by decide +kernel
theorem dX11_spreadsFrom_1 : decode cX11_spreadsFrom 1 = .ok (.invokevirtual 185, 3) := by decide +kernel
theorem dX11_spreadsFrom_4 : decode cX11_spreadsFrom 4 = .ok (.iconst 0, 1) := by decide +kernel
theorem dX11_spreadsFrom_5 : decode cX11_spreadsFrom 5 = .ok (.istore_n 3, 1) := by decide +kernel
theorem dX11_spreadsFrom_6 : decode cX11_spreadsFrom 6 = .ok (.iload_n 3, 1) := by decide +kernel
theorem dX11_spreadsFrom_7 : decode cX11_spreadsFrom 7 = .ok (.sipush 5040, 3) := by decide +kernel
theorem dX11_spreadsFrom_10 : decode cX11_spreadsFrom 10 = .ok (.if_icmp .ge 17, 3) := by decide +kernel
theorem dX11_spreadsFrom_13 : decode cX11_spreadsFrom 13 = .ok (.aload_n 0, 1) := by decide +kernel
theorem dX11_spreadsFrom_14 : decode cX11_spreadsFrom 14 = .ok (.getfield 40, 3) := by decide +kernel
theorem dX11_spreadsFrom_17 : decode cX11_spreadsFrom 17 = .ok (.iload_n 3, 1) := by decide +kernel
theorem dX11_spreadsFrom_18 : decode cX11_spreadsFrom 18 = .ok (.bipush (-4), 2) := by decide +kernel
theorem dX11_spreadsFrom_20 : decode cX11_spreadsFrom 20 = .ok (.iastore, 1) := by decide +kernel
theorem dX11_spreadsFrom_21 : decode cX11_spreadsFrom 21 = .ok (.iinc 3 1, 3) := by decide +kernel
theorem dX11_spreadsFrom_24 : decode cX11_spreadsFrom 24 = .ok (.goto (-18), 3) := by decide +kernel
theorem dX11_spreadsFrom_27 : decode cX11_spreadsFrom 27 = .ok (.aload_n 0, 1) := by decide +kernel
theorem dX11_spreadsFrom_28 : decode cX11_spreadsFrom 28 = .ok (.getfield 40, 3) := by decide +kernel
theorem dX11_spreadsFrom_31 : decode cX11_spreadsFrom 31 = .ok (.iload_n 1, 1) := by decide +kernel
theorem dX11_spreadsFrom_32 : decode cX11_spreadsFrom 32 = .ok (.iconst 0, 1) := by decide +kernel
theorem dX11_spreadsFrom_33 : decode cX11_spreadsFrom 33 = .ok (.iastore, 1) := by decide +kernel
theorem dX11_spreadsFrom_34 : decode cX11_spreadsFrom 34 = .ok (.aload_n 0, 1) := by decide +kernel
theorem dX11_spreadsFrom_35 : decode cX11_spreadsFrom 35 = .ok (.getfield 43, 3) := by decide +kernel
theorem dX11_spreadsFrom_38 : decode cX11_spreadsFrom 38 = .ok (.iconst 0, 1) := by decide +kernel
theorem dX11_spreadsFrom_39 : decode cX11_spreadsFrom 39 = .ok (.iload_n 1, 1) := by decide +kernel
theorem dX11_spreadsFrom_40 : decode cX11_spreadsFrom 40 = .ok (.iastore, 1) := by decide +kernel
theorem dX11_spreadsFrom_41 : decode cX11_spreadsFrom 41 = .ok (.iconst 1, 1) := by decide +kernel
theorem dX11_spreadsFrom_42 : decode cX11_spreadsFrom 42 = .ok (.istore_n 3, 1) := by decide +kernel
theorem dX11_spreadsFrom_43 : decode cX11_spreadsFrom 43 = .ok (.iconst 0, 1) := by decide +kernel
theorem dX11_spreadsFrom_44 : decode cX11_spreadsFrom 44 = .ok (.istore 4, 2) := by decide +kernel
theorem dX11_spreadsFrom_46 : decode cX11_spreadsFrom 46 = .ok (.iload 4, 2) := by decide +kernel
theorem dX11_spreadsFrom_48 : decode cX11_spreadsFrom 48 = .ok (.iload_n 3, 1) := by decide +kernel
theorem dX11_spreadsFrom_49 : decode cX11_spreadsFrom 49 = .ok (.if_icmp .ge 82, 3) := by decide +kernel
theorem dX11_spreadsFrom_52 : decode cX11_spreadsFrom 52 = .ok (.iconst 0, 1) := by decide +kernel
theorem dX11_spreadsFrom_53 : decode cX11_spreadsFrom 53 = .ok (.istore 5, 2) := by decide +kernel
theorem dX11_spreadsFrom_55 : decode cX11_spreadsFrom 55 = .ok (.iload 5, 2) := by decide +kernel
theorem dX11_spreadsFrom_57 : decode cX11_spreadsFrom 57 = .ok (.iconst 3, 1) := by decide +kernel
theorem dX11_spreadsFrom_58 : decode cX11_spreadsFrom 58 = .ok (.if_icmp .ge 67, 3) := by decide +kernel
theorem dX11_spreadsFrom_61 : decode cX11_spreadsFrom 61 = .ok (.aload_n 0, 1) := by decide +kernel
theorem dX11_spreadsFrom_62 : decode cX11_spreadsFrom 62 = .ok (.aload_n 0, 1) := by decide +kernel
theorem dX11_spreadsFrom_63 : decode cX11_spreadsFrom 63 = .ok (.getfield 43, 3) := by decide +kernel
theorem dX11_spreadsFrom_66 : decode cX11_spreadsFrom 66 = .ok (.iload 4, 2) := by decide +kernel
theorem dX11_spreadsFrom_68 : decode cX11_spreadsFrom 68 = .ok (.iaload, 1) := by decide +kernel
theorem dX11_spreadsFrom_69 : decode cX11_spreadsFrom 69 = .ok (.iload 5, 2) := by decide +kernel
theorem dX11_spreadsFrom_71 : decode cX11_spreadsFrom 71 = .ok (.iload_n 2, 1) := by decide +kernel
theorem dX11_spreadsFrom_72 : decode cX11_spreadsFrom 72 = .ok (.invokevirtual 188, 3) := by decide +kernel
theorem dX11_spreadsFrom_75 : decode cX11_spreadsFrom 75 = .ok (.istore 6, 2) := by decide +kernel
theorem dX11_spreadsFrom_77 : decode cX11_spreadsFrom 77 = .ok (.aload_n 0, 1) := by decide +kernel
theorem dX11_spreadsFrom_78 : decode cX11_spreadsFrom 78 = .ok (.getfield 40, 3) := by decide +kernel
theorem dX11_spreadsFrom_81 : decode cX11_spreadsFrom 81 = .ok (.iload 6, 2) := by decide +kernel
theorem dX11_spreadsFrom_83 : decode cX11_spreadsFrom 83 = .ok (.iaload, 1) := by decide +kernel
theorem dX11_spreadsFrom_84 : decode cX11_spreadsFrom 84 = .ok (.ifCond .ge 35, 3) := by decide +kernel
theorem dX11_spreadsFrom_87 : decode cX11_spreadsFrom 87 = .ok (.aload_n 0, 1) := by decide +kernel
theorem dX11_spreadsFrom_88 : decode cX11_spreadsFrom 88 = .ok (.getfield 40, 3) := by decide +kernel
theorem dX11_spreadsFrom_91 : decode cX11_spreadsFrom 91 = .ok (.iload 6, 2) := by decide +kernel
theorem dX11_spreadsFrom_93 : decode cX11_spreadsFrom 93 = .ok (.aload_n 0, 1) := by decide +kernel
theorem dX11_spreadsFrom_94 : decode cX11_spreadsFrom 94 = .ok (.getfield 40, 3) := by decide +kernel
theorem dX11_spreadsFrom_97 : decode cX11_spreadsFrom 97 = .ok (.aload_n 0, 1) := by decide +kernel
theorem dX11_spreadsFrom_98 : decode cX11_spreadsFrom 98 = .ok (.getfield 43, 3) := by decide +kernel
theorem dX11_spreadsFrom_101 : decode cX11_spreadsFrom 101 = .ok (.iload 4, 2) := by decide +kernel
theorem dX11_spreadsFrom_103 : decode cX11_spreadsFrom 103 = .ok (.iaload, 1) := by decide +kernel
theorem dX11_spreadsFrom_104 : decode cX11_spreadsFrom 104 = .ok (.iaload, 1) := by decide +kernel
theorem dX11_spreadsFrom_105 : decode cX11_spreadsFrom 105 = .ok (.iconst 1, 1) := by decide +kernel
theorem dX11_spreadsFrom_106 : decode cX11_spreadsFrom 106 = .ok (.iadd, 1) := by decide +kernel
theorem dX11_spreadsFrom_107 : decode cX11_spreadsFrom 107 = .ok (.iastore, 1) := by decide +kernel
theorem dX11_spreadsFrom_108 : decode cX11_spreadsFrom 108 = .ok (.aload_n 0, 1) := by decide +kernel
theorem dX11_spreadsFrom_109 : decode cX11_spreadsFrom 109 = .ok (.getfield 43, 3) := by decide +kernel
theorem dX11_spreadsFrom_112 : decode cX11_spreadsFrom 112 = .ok (.iload_n 3, 1) := by decide +kernel
theorem dX11_spreadsFrom_113 : decode cX11_spreadsFrom 113 = .ok (.iload 6, 2) := by decide +kernel
theorem dX11_spreadsFrom_115 : decode cX11_spreadsFrom 115 = .ok (.iastore, 1) := by decide +kernel
theorem dX11_spreadsFrom_116 : decode cX11_spreadsFrom 116 = .ok (.iinc 3 1, 3) := by decide +kernel
theorem dX11_spreadsFrom_119 : decode cX11_spreadsFrom 119 = .ok (.iinc 5 1, 3) := by decide +kernel
theorem dX11_spreadsFrom_122 : decode cX11_spreadsFrom 122 = .ok (.goto (-67), 3) := by decide +kernel
theorem dX11_spreadsFrom_125 : decode cX11_spreadsFrom 125 = .ok (.iinc 4 1, 3) := by decide +kernel
theorem dX11_spreadsFrom_128 : decode cX11_spreadsFrom 128 = .ok (.goto (-82), 3) := by decide +kernel
theorem dX11_spreadsFrom_131 : decode cX11_spreadsFrom 131 = .ok (.return_, 1) := by decide +kernel
theorem dX11_spreads_0 : decode cX11_spreads 0 = .ok (.aload_n 0, 1) := by decide +kernel
theorem dX11_spreads_1 : decode cX11_spreads 1 = .ok (.iconst 0, 1) := by decide +kernel
theorem dX11_spreads_2 : decode cX11_spreads 2 = .ok (.iconst 1, 1) := by decide +kernel
theorem dX11_spreads_3 : decode cX11_spreads 3 = .ok (.invokevirtual 192, 3) := by decide +kernel
theorem dX11_spreads_6 : decode cX11_spreads 6 = .ok (.return_, 1) := by decide +kernel
theorem dX11_home_0 : decode cX11_home 0 = .ok (.iload_n 1, 1) := by decide +kernel
theorem dX11_home_1 : decode cX11_home 1 = .ok (.iconst 0, 1) := by decide +kernel
theorem dX11_home_2 : decode cX11_home 2 = .ok (.iconst 1, 1) := by decide +kernel
theorem dX11_home_3 : decode cX11_home 3 = .ok (.invokestatic 54, 3) := by decide +kernel
theorem dX11_home_6 : decode cX11_home 6 = .ok (.ifCond .ne 5, 3) := by decide +kernel
theorem dX11_home_9 : decode cX11_home 9 = .ok (.iconst (-1), 1) := by decide +kernel
theorem dX11_home_10 : decode cX11_home 10 = .ok (.ireturn, 1) := by decide +kernel
theorem dX11_home_11 : decode cX11_home 11 = .ok (.aload_n 0, 1) := by decide +kernel
theorem dX11_home_12 : decode cX11_home 12 = .ok (.bipush (-4), 2) := by decide +kernel
theorem dX11_home_14 : decode cX11_home 14 = .ok (.invokevirtual 124, 3) := by decide +kernel
theorem dX11_home_17 : decode cX11_home 17 = .ok (.aload_n 0, 1) := by decide +kernel
theorem dX11_home_18 : decode cX11_home 18 = .ok (.getfield 28, 3) := by decide +kernel
theorem dX11_home_21 : decode cX11_home 21 = .ok (.aload_n 0, 1) := by decide +kernel
theorem dX11_home_22 : decode cX11_home 22 = .ok (.getfield 65, 3) := by decide +kernel
theorem dX11_home_25 : decode cX11_home 25 = .ok (.iaload, 1) := by decide +kernel
theorem dX11_home_26 : decode cX11_home 26 = .ok (.istore_n 2, 1) := by decide +kernel
theorem dX11_home_27 : decode cX11_home 27 = .ok (.aload_n 0, 1) := by decide +kernel
theorem dX11_home_28 : decode cX11_home 28 = .ok (.iload_n 1, 1) := by decide +kernel
theorem dX11_home_29 : decode cX11_home 29 = .ok (.ifCond .ne 7, 3) := by decide +kernel
theorem dX11_home_32 : decode cX11_home 32 = .ok (.iconst 0, 1) := by decide +kernel
theorem dX11_home_33 : decode cX11_home 33 = .ok (.goto 4, 3) := by decide +kernel
theorem dX11_home_36 : decode cX11_home 36 = .ok (.iload_n 2, 1) := by decide +kernel
theorem dX11_home_37 : decode cX11_home 37 = .ok (.iload_n 1, 1) := by decide +kernel
theorem dX11_home_38 : decode cX11_home 38 = .ok (.ifCond .ne 7, 3) := by decide +kernel
theorem dX11_home_41 : decode cX11_home 41 = .ok (.iconst 1, 1) := by decide +kernel
theorem dX11_home_42 : decode cX11_home 42 = .ok (.goto 4, 3) := by decide +kernel
theorem dX11_home_45 : decode cX11_home 45 = .ok (.iconst 0, 1) := by decide +kernel
theorem dX11_home_46 : decode cX11_home 46 = .ok (.invokevirtual 192, 3) := by decide +kernel
theorem dX11_home_49 : decode cX11_home 49 = .ok (.aload_n 0, 1) := by decide +kernel
theorem dX11_home_50 : decode cX11_home 50 = .ok (.getfield 40, 3) := by decide +kernel
theorem dX11_home_53 : decode cX11_home 53 = .ok (.iload_n 1, 1) := by decide +kernel
theorem dX11_home_54 : decode cX11_home 54 = .ok (.ifCond .ne 7, 3) := by decide +kernel
theorem dX11_home_57 : decode cX11_home 57 = .ok (.iload_n 2, 1) := by decide +kernel
theorem dX11_home_58 : decode cX11_home 58 = .ok (.goto 4, 3) := by decide +kernel
theorem dX11_home_61 : decode cX11_home 61 = .ok (.iconst 0, 1) := by decide +kernel
theorem dX11_home_62 : decode cX11_home 62 = .ok (.iaload, 1) := by decide +kernel
theorem dX11_home_63 : decode cX11_home 63 = .ok (.ireturn, 1) := by decide +kernel
theorem dX11_homeCall_0 : decode cX11_homeCall 0 = .ok (.iload_n 1, 1) := by decide +kernel
theorem dX11_homeCall_1 : decode cX11_homeCall 1 = .ok (.ifCond .ge 5, 3) := by decide +kernel
theorem dX11_homeCall_4 : decode cX11_homeCall 4 = .ok (.iconst (-1), 1) := by decide +kernel
theorem dX11_homeCall_5 : decode cX11_homeCall 5 = .ok (.ireturn, 1) := by decide +kernel
theorem dX11_homeCall_6 : decode cX11_homeCall 6 = .ok (.aload_n 0, 1) := by decide +kernel
theorem dX11_homeCall_7 : decode cX11_homeCall 7 = .ok (.bipush (-4), 2) := by decide +kernel
theorem dX11_homeCall_9 : decode cX11_homeCall 9 = .ok (.invokevirtual 124, 3) := by decide +kernel
theorem dX11_homeCall_12 : decode cX11_homeCall 12 = .ok (.aload_n 0, 1) := by decide +kernel
theorem dX11_homeCall_13 : decode cX11_homeCall 13 = .ok (.invokevirtual 145, 3) := by decide +kernel
theorem dX11_homeCall_16 : decode cX11_homeCall 16 = .ok (.aload_n 0, 1) := by decide +kernel
theorem dX11_homeCall_17 : decode cX11_homeCall 17 = .ok (.getfield 28, 3) := by decide +kernel
theorem dX11_homeCall_20 : decode cX11_homeCall 20 = .ok (.aload_n 0, 1) := by decide +kernel
theorem dX11_homeCall_21 : decode cX11_homeCall 21 = .ok (.getfield 65, 3) := by decide +kernel
theorem dX11_homeCall_24 : decode cX11_homeCall 24 = .ok (.iaload, 1) := by decide +kernel
theorem dX11_homeCall_25 : decode cX11_homeCall 25 = .ok (.istore_n 2, 1) := by decide +kernel
theorem dX11_homeCall_26 : decode cX11_homeCall 26 = .ok (.iload_n 1, 1) := by decide +kernel
theorem dX11_homeCall_27 : decode cX11_homeCall 27 = .ok (.aload_n 0, 1) := by decide +kernel
theorem dX11_homeCall_28 : decode cX11_homeCall 28 = .ok (.getfield 40, 3) := by decide +kernel
theorem dX11_homeCall_31 : decode cX11_homeCall 31 = .ok (.iload_n 2, 1) := by decide +kernel
theorem dX11_homeCall_32 : decode cX11_homeCall 32 = .ok (.iaload, 1) := by decide +kernel
theorem dX11_homeCall_33 : decode cX11_homeCall 33 = .ok (.if_icmp .lt 6, 3) := by decide +kernel
theorem dX11_homeCall_36 : decode cX11_homeCall 36 = .ok (.bipush (-4), 2) := by decide +kernel
theorem dX11_homeCall_38 : decode cX11_homeCall 38 = .ok (.ireturn, 1) := by decide +kernel
theorem dX11_homeCall_39 : decode cX11_homeCall 39 = .ok (.iconst 0, 1) := by decide +kernel
theorem dX11_homeCall_40 : decode cX11_homeCall 40 = .ok (.istore_n 3, 1) := by decide +kernel
theorem dX11_homeCall_41 : decode cX11_homeCall 41 = .ok (.iconst 0, 1) := by decide +kernel
theorem dX11_homeCall_42 : decode cX11_homeCall 42 = .ok (.istore 4, 2) := by decide +kernel
theorem dX11_homeCall_44 : decode cX11_homeCall 44 = .ok (.iload 4, 2) := by decide +kernel
theorem dX11_homeCall_46 : decode cX11_homeCall 46 = .ok (.iload_n 1, 1) := by decide +kernel
theorem dX11_homeCall_47 : decode cX11_homeCall 47 = .ok (.if_icmp .gt 56, 3) := by decide +kernel
theorem dX11_homeCall_50 : decode cX11_homeCall 50 = .ok (.iconst 0, 1) := by decide +kernel
theorem dX11_homeCall_51 : decode cX11_homeCall 51 = .ok (.istore_n 3, 1) := by decide +kernel
theorem dX11_homeCall_52 : decode cX11_homeCall 52 = .ok (.aload_n 0, 1) := by decide +kernel
theorem dX11_homeCall_53 : decode cX11_homeCall 53 = .ok (.iload_n 2, 1) := by decide +kernel
theorem dX11_homeCall_54 : decode cX11_homeCall 54 = .ok (.iload_n 3, 1) := by decide +kernel
theorem dX11_homeCall_55 : decode cX11_homeCall 55 = .ok (.iconst 0, 1) := by decide +kernel
theorem dX11_homeCall_56 : decode cX11_homeCall 56 = .ok (.invokevirtual 188, 3) := by decide +kernel
theorem dX11_homeCall_59 : decode cX11_homeCall 59 = .ok (.istore 5, 2) := by decide +kernel
theorem dX11_homeCall_61 : decode cX11_homeCall 61 = .ok (.aload_n 0, 1) := by decide +kernel
theorem dX11_homeCall_62 : decode cX11_homeCall 62 = .ok (.getfield 40, 3) := by decide +kernel
theorem dX11_homeCall_65 : decode cX11_homeCall 65 = .ok (.iload 5, 2) := by decide +kernel
theorem dX11_homeCall_67 : decode cX11_homeCall 67 = .ok (.iaload, 1) := by decide +kernel
theorem dX11_homeCall_68 : decode cX11_homeCall 68 = .ok (.aload_n 0, 1) := by decide +kernel
theorem dX11_homeCall_69 : decode cX11_homeCall 69 = .ok (.getfield 40, 3) := by decide +kernel
theorem dX11_homeCall_72 : decode cX11_homeCall 72 = .ok (.iload_n 2, 1) := by decide +kernel
theorem dX11_homeCall_73 : decode cX11_homeCall 73 = .ok (.iaload, 1) := by decide +kernel
theorem dX11_homeCall_74 : decode cX11_homeCall 74 = .ok (.iconst 1, 1) := by decide +kernel
theorem dX11_homeCall_75 : decode cX11_homeCall 75 = .ok (.isub, 1) := by decide +kernel
theorem dX11_homeCall_76 : decode cX11_homeCall 76 = .ok (.if_icmp .eq 18, 3) := by decide +kernel
theorem dX11_homeCall_79 : decode cX11_homeCall 79 = .ok (.iinc 3 1, 3) := by decide +kernel
theorem dX11_homeCall_82 : decode cX11_homeCall 82 = .ok (.aload_n 0, 1) := by decide +kernel
theorem dX11_homeCall_83 : decode cX11_homeCall 83 = .ok (.iload_n 2, 1) := by decide +kernel
theorem dX11_homeCall_84 : decode cX11_homeCall 84 = .ok (.iload_n 3, 1) := by decide +kernel
theorem dX11_homeCall_85 : decode cX11_homeCall 85 = .ok (.iconst 0, 1) := by decide +kernel
theorem dX11_homeCall_86 : decode cX11_homeCall 86 = .ok (.invokevirtual 188, 3) := by decide +kernel
theorem dX11_homeCall_89 : decode cX11_homeCall 89 = .ok (.istore 5, 2) := by decide +kernel
theorem dX11_homeCall_91 : decode cX11_homeCall 91 = .ok (.goto (-30), 3) := by decide +kernel
theorem dX11_homeCall_94 : decode cX11_homeCall 94 = .ok (.iload 5, 2) := by decide +kernel
theorem dX11_homeCall_96 : decode cX11_homeCall 96 = .ok (.istore_n 2, 1) := by decide +kernel
theorem dX11_homeCall_97 : decode cX11_homeCall 97 = .ok (.iinc 4 1, 3) := by decide +kernel
theorem dX11_homeCall_100 : decode cX11_homeCall 100 = .ok (.goto (-56), 3) := by decide +kernel
theorem dX11_homeCall_103 : decode cX11_homeCall 103 = .ok (.iload_n 3, 1) := by decide +kernel
theorem dX11_homeCall_104 : decode cX11_homeCall 104 = .ok (.ireturn, 1) := by decide +kernel
theorem dX11_ifCalled_0 : decode cX11_ifCalled 0 = .ok (.iload_n 1, 1) := by decide +kernel
theorem dX11_ifCalled_1 : decode cX11_ifCalled 1 = .ok (.iconst 0, 1) := by decide +kernel
theorem dX11_ifCalled_2 : decode cX11_ifCalled 2 = .ok (.aload_n 0, 1) := by decide +kernel
theorem dX11_ifCalled_3 : decode cX11_ifCalled 3 = .ok (.getfield 7, 3) := by decide +kernel
theorem dX11_ifCalled_6 : decode cX11_ifCalled 6 = .ok (.iconst 2, 1) := by decide +kernel
theorem dX11_ifCalled_7 : decode cX11_ifCalled 7 = .ok (.iaload, 1) := by decide +kernel
theorem dX11_ifCalled_8 : decode cX11_ifCalled 8 = .ok (.iconst 1, 1) := by decide +kernel
theorem dX11_ifCalled_9 : decode cX11_ifCalled 9 = .ok (.isub, 1) := by decide +kernel
theorem dX11_ifCalled_10 : decode cX11_ifCalled 10 = .ok (.invokestatic 54, 3) := by decide +kernel
theorem dX11_ifCalled_13 : decode cX11_ifCalled 13 = .ok (.ifCond .eq 21, 3) := by decide +kernel
theorem dX11_ifCalled_16 : decode cX11_ifCalled 16 = .ok (.iload_n 2, 1) := by decide +kernel
theorem dX11_ifCalled_17 : decode cX11_ifCalled 17 = .ok (.iconst 0, 1) := by decide +kernel
theorem dX11_ifCalled_18 : decode cX11_ifCalled 18 = .ok (.iconst 2, 1) := by decide +kernel
theorem dX11_ifCalled_19 : decode cX11_ifCalled 19 = .ok (.invokestatic 54, 3) := by decide +kernel
theorem dX11_ifCalled_22 : decode cX11_ifCalled 22 = .ok (.ifCond .eq 12, 3) := by decide +kernel
theorem dX11_ifCalled_25 : decode cX11_ifCalled 25 = .ok (.iload_n 3, 1) := by decide +kernel
theorem dX11_ifCalled_26 : decode cX11_ifCalled 26 = .ok (.iconst 0, 1) := by decide +kernel
theorem dX11_ifCalled_27 : decode cX11_ifCalled 27 = .ok (.iconst 2, 1) := by decide +kernel
theorem dX11_ifCalled_28 : decode cX11_ifCalled 28 = .ok (.invokestatic 54, 3) := by decide +kernel
theorem dX11_ifCalled_31 : decode cX11_ifCalled 31 = .ok (.ifCond .ne 5, 3) := by decide +kernel
theorem dX11_ifCalled_34 : decode cX11_ifCalled 34 = .ok (.iconst (-1), 1) := by decide +kernel
theorem dX11_ifCalled_35 : decode cX11_ifCalled 35 = .ok (.ireturn, 1) := by decide +kernel
theorem dX11_ifCalled_36 : decode cX11_ifCalled 36 = .ok (.aload_n 0, 1) := by decide +kernel
theorem dX11_ifCalled_37 : decode cX11_ifCalled 37 = .ok (.getfield 7, 3) := by decide +kernel
theorem dX11_ifCalled_40 : decode cX11_ifCalled 40 = .ok (.bipush 25, 2) := by decide +kernel
theorem dX11_ifCalled_42 : decode cX11_ifCalled 42 = .ok (.iload_n 1, 1) := by decide +kernel
theorem dX11_ifCalled_43 : decode cX11_ifCalled 43 = .ok (.iadd, 1) := by decide +kernel
theorem dX11_ifCalled_44 : decode cX11_ifCalled 44 = .ok (.iaload, 1) := by decide +kernel
theorem dX11_ifCalled_45 : decode cX11_ifCalled 45 = .ok (.istore 4, 2) := by decide +kernel
theorem dX11_ifCalled_47 : decode cX11_ifCalled 47 = .ok (.aload_n 0, 1) := by decide +kernel
theorem dX11_ifCalled_48 : decode cX11_ifCalled 48 = .ok (.getfield 7, 3) := by decide +kernel
theorem dX11_ifCalled_51 : decode cX11_ifCalled 51 = .ok (.bipush 25, 2) := by decide +kernel
theorem dX11_ifCalled_53 : decode cX11_ifCalled 53 = .ok (.iload_n 1, 1) := by decide +kernel
theorem dX11_ifCalled_54 : decode cX11_ifCalled 54 = .ok (.iadd, 1) := by decide +kernel
theorem dX11_ifCalled_55 : decode cX11_ifCalled 55 = .ok (.iload_n 2, 1) := by decide +kernel
theorem dX11_ifCalled_56 : decode cX11_ifCalled 56 = .ok (.iastore, 1) := by decide +kernel
theorem dX11_ifCalled_57 : decode cX11_ifCalled 57 = .ok (.aload_n 0, 1) := by decide +kernel
theorem dX11_ifCalled_58 : decode cX11_ifCalled 58 = .ok (.bipush (-4), 2) := by decide +kernel
theorem dX11_ifCalled_60 : decode cX11_ifCalled 60 = .ok (.invokevirtual 124, 3) := by decide +kernel
theorem dX11_ifCalled_63 : decode cX11_ifCalled 63 = .ok (.iload_n 3, 1) := by decide +kernel
theorem dX11_ifCalled_64 : decode cX11_ifCalled 64 = .ok (.ifCond .ne 18, 3) := by decide +kernel
theorem dX11_ifCalled_67 : decode cX11_ifCalled 67 = .ok (.aload_n 0, 1) := by decide +kernel
theorem dX11_ifCalled_68 : decode cX11_ifCalled 68 = .ok (.invokevirtual 167, 3) := by decide +kernel
theorem dX11_ifCalled_71 : decode cX11_ifCalled 71 = .ok (.ifCond .ge 7, 3) := by decide +kernel
theorem dX11_ifCalled_74 : decode cX11_ifCalled 74 = .ok (.iconst 1, 1) := by decide +kernel
theorem dX11_ifCalled_75 : decode cX11_ifCalled 75 = .ok (.goto 23, 3) := by decide +kernel
theorem dX11_ifCalled_78 : decode cX11_ifCalled 78 = .ok (.iconst 0, 1) := by decide +kernel
theorem dX11_ifCalled_79 : decode cX11_ifCalled 79 = .ok (.goto 19, 3) := by decide +kernel
theorem dX11_ifCalled_82 : decode cX11_ifCalled 82 = .ok (.iload_n 3, 1) := by decide +kernel
theorem dX11_ifCalled_83 : decode cX11_ifCalled 83 = .ok (.iconst 1, 1) := by decide +kernel
theorem dX11_ifCalled_84 : decode cX11_ifCalled 84 = .ok (.if_icmp .ne 10, 3) := by decide +kernel
theorem dX11_ifCalled_87 : decode cX11_ifCalled 87 = .ok (.aload_n 0, 1) := by decide +kernel
theorem dX11_ifCalled_88 : decode cX11_ifCalled 88 = .ok (.invokevirtual 164, 3) := by decide +kernel
theorem dX11_ifCalled_91 : decode cX11_ifCalled 91 = .ok (.goto 7, 3) := by decide +kernel
theorem dX11_ifCalled_94 : decode cX11_ifCalled 94 = .ok (.aload_n 0, 1) := by decide +kernel
theorem dX11_ifCalled_95 : decode cX11_ifCalled 95 = .ok (.invokevirtual 176, 3) := by decide +kernel
theorem dX11_ifCalled_98 : decode cX11_ifCalled 98 = .ok (.istore 5, 2) := by decide +kernel
theorem dX11_ifCalled_100 : decode cX11_ifCalled 100 = .ok (.aload_n 0, 1) := by decide +kernel
theorem dX11_ifCalled_101 : decode cX11_ifCalled 101 = .ok (.getfield 7, 3) := by decide +kernel
theorem dX11_ifCalled_104 : decode cX11_ifCalled 104 = .ok (.bipush 25, 2) := by decide +kernel
theorem dX11_ifCalled_106 : decode cX11_ifCalled 106 = .ok (.iload_n 1, 1) := by decide +kernel
theorem dX11_ifCalled_107 : decode cX11_ifCalled 107 = .ok (.iadd, 1) := by decide +kernel
theorem dX11_ifCalled_108 : decode cX11_ifCalled 108 = .ok (.iload 4, 2) := by decide +kernel
theorem dX11_ifCalled_110 : decode cX11_ifCalled 110 = .ok (.iastore, 1) := by decide +kernel
theorem dX11_ifCalled_111 : decode cX11_ifCalled 111 = .ok (.iload 5, 2) := by decide +kernel
theorem dX11_ifCalled_113 : decode cX11_ifCalled 113 = .ok (.ireturn, 1) := by decide +kernel
theorem dX11_best_0 : decode cX11_best 0 = .ok (.iconst 0, 1) := by decide +kernel
theorem dX11_best_1 : decode cX11_best 1 = .ok (.istore_n 1, 1) := by decide +kernel
theorem dX11_best_2 : decode cX11_best 2 = .ok (.iconst 0, 1) := by decide +kernel
theorem dX11_best_3 : decode cX11_best 3 = .ok (.istore_n 2, 1) := by decide +kernel
theorem dX11_best_4 : decode cX11_best 4 = .ok (.iconst 0, 1) := by decide +kernel
theorem dX11_best_5 : decode cX11_best 5 = .ok (.istore_n 3, 1) := by decide +kernel
theorem dX11_best_6 : decode cX11_best 6 = .ok (.iload_n 3, 1) := by decide +kernel
theorem dX11_best_7 : decode cX11_best 7 = .ok (.iconst 3, 1) := by decide +kernel
theorem dX11_best_8 : decode cX11_best 8 = .ok (.if_icmp .ge 45, 3) := by decide +kernel
theorem dX11_best_11 : decode cX11_best 11 = .ok (.aload_n 0, 1) := by decide +kernel
theorem dX11_best_12 : decode cX11_best 12 = .ok (.iload_n 3, 1) := by decide +kernel
theorem dX11_best_13 : decode cX11_best 13 = .ok (.invokevirtual 124, 3) := by decide +kernel
theorem dX11_best_16 : decode cX11_best 16 = .ok (.aload_n 0, 1) := by decide +kernel
theorem dX11_best_17 : decode cX11_best 17 = .ok (.invokevirtual 170, 3) := by decide +kernel
theorem dX11_best_20 : decode cX11_best 20 = .ok (.istore 4, 2) := by decide +kernel
theorem dX11_best_22 : decode cX11_best 22 = .ok (.iload 4, 2) := by decide +kernel
theorem dX11_best_24 : decode cX11_best 24 = .ok (.iload_n 2, 1) := by decide +kernel
theorem dX11_best_25 : decode cX11_best 25 = .ok (.if_icmp .le 7, 3) := by decide +kernel
theorem dX11_best_28 : decode cX11_best 28 = .ok (.iload_n 3, 1) := by decide +kernel
theorem dX11_best_29 : decode cX11_best 29 = .ok (.goto 4, 3) := by decide +kernel
theorem dX11_best_32 : decode cX11_best 32 = .ok (.iload_n 1, 1) := by decide +kernel
theorem dX11_best_33 : decode cX11_best 33 = .ok (.istore_n 1, 1) := by decide +kernel
theorem dX11_best_34 : decode cX11_best 34 = .ok (.iload 4, 2) := by decide +kernel
theorem dX11_best_36 : decode cX11_best 36 = .ok (.iload_n 2, 1) := by decide +kernel
theorem dX11_best_37 : decode cX11_best 37 = .ok (.if_icmp .le 8, 3) := by decide +kernel
theorem dX11_best_40 : decode cX11_best 40 = .ok (.iload 4, 2) := by decide +kernel
theorem dX11_best_42 : decode cX11_best 42 = .ok (.goto 4, 3) := by decide +kernel
theorem dX11_best_45 : decode cX11_best 45 = .ok (.iload_n 2, 1) := by decide +kernel
theorem dX11_best_46 : decode cX11_best 46 = .ok (.istore_n 2, 1) := by decide +kernel
theorem dX11_best_47 : decode cX11_best 47 = .ok (.iinc 3 1, 3) := by decide +kernel
theorem dX11_best_50 : decode cX11_best 50 = .ok (.goto (-44), 3) := by decide +kernel
theorem dX11_best_53 : decode cX11_best 53 = .ok (.iload_n 1, 1) := by decide +kernel
theorem dX11_best_54 : decode cX11_best 54 = .ok (.ireturn, 1) := by decide +kernel
theorem dX11_undo_0 : decode cX11_undo 0 = .ok (.aload_n 0, 1) := by decide +kernel
theorem dX11_undo_1 : decode cX11_undo 1 = .ok (.getfield 50, 3) := by decide +kernel
theorem dX11_undo_4 : decode cX11_undo 4 = .ok (.ifCond .ne 6, 3) := by decide +kernel
theorem dX11_undo_7 : decode cX11_undo 7 = .ok (.bipush (-2), 2) := by decide +kernel
theorem dX11_undo_9 : decode cX11_undo 9 = .ok (.ireturn, 1) := by decide +kernel
theorem dX11_undo_10 : decode cX11_undo 10 = .ok (.aload_n 0, 1) := by decide +kernel
theorem dX11_undo_11 : decode cX11_undo 11 = .ok (.dup, 1) := by decide +kernel
theorem dX11_undo_12 : decode cX11_undo 12 = .ok (.getfield 50, 3) := by decide +kernel
theorem dX11_undo_15 : decode cX11_undo 15 = .ok (.iconst 1, 1) := by decide +kernel
theorem dX11_undo_16 : decode cX11_undo 16 = .ok (.isub, 1) := by decide +kernel
theorem dX11_undo_17 : decode cX11_undo 17 = .ok (.putfield 50, 3) := by decide +kernel
theorem dX11_undo_20 : decode cX11_undo 20 = .ok (.iconst 0, 1) := by decide +kernel
theorem dX11_undo_21 : decode cX11_undo 21 = .ok (.istore_n 1, 1) := by decide +kernel
theorem dX11_undo_22 : decode cX11_undo 22 = .ok (.iload_n 1, 1) := by decide +kernel
theorem dX11_undo_23 : decode cX11_undo 23 = .ok (.bipush 41, 2) := by decide +kernel
theorem dX11_undo_25 : decode cX11_undo 25 = .ok (.if_icmp .ge 29, 3) := by decide +kernel
theorem dX11_undo_28 : decode cX11_undo 28 = .ok (.aload_n 0, 1) := by decide +kernel
theorem dX11_undo_29 : decode cX11_undo 29 = .ok (.getfield 7, 3) := by decide +kernel
theorem dX11_undo_32 : decode cX11_undo 32 = .ok (.iload_n 1, 1) := by decide +kernel
theorem dX11_undo_33 : decode cX11_undo 33 = .ok (.aload_n 0, 1) := by decide +kernel
theorem dX11_undo_34 : decode cX11_undo 34 = .ok (.getfield 13, 3) := by decide +kernel
theorem dX11_undo_37 : decode cX11_undo 37 = .ok (.bipush 41, 2) := by decide +kernel
theorem dX11_undo_39 : decode cX11_undo 39 = .ok (.aload_n 0, 1) := by decide +kernel
theorem dX11_undo_40 : decode cX11_undo 40 = .ok (.getfield 50, 3) := by decide +kernel
theorem dX11_undo_43 : decode cX11_undo 43 = .ok (.imul, 1) := by decide +kernel
theorem dX11_undo_44 : decode cX11_undo 44 = .ok (.iload_n 1, 1) := by decide +kernel
theorem dX11_undo_45 : decode cX11_undo 45 = .ok (.iadd, 1) := by decide +kernel
theorem dX11_undo_46 : decode cX11_undo 46 = .ok (.iaload, 1) := by decide +kernel
theorem dX11_undo_47 : decode cX11_undo 47 = .ok (.iastore, 1) := by decide +kernel
theorem dX11_undo_48 : decode cX11_undo 48 = .ok (.iinc 1 1, 3) := by decide +kernel
theorem dX11_undo_51 : decode cX11_undo 51 = .ok (.goto (-29), 3) := by decide +kernel
theorem dX11_undo_54 : decode cX11_undo 54 = .ok (.aload_n 0, 1) := by decide +kernel
theorem dX11_undo_55 : decode cX11_undo 55 = .ok (.getfield 50, 3) := by decide +kernel
theorem dX11_undo_58 : decode cX11_undo 58 = .ok (.ireturn, 1) := by decide +kernel
theorem dX11_save_0 : decode cX11_save 0 = .ok (.aload_n 0, 1) := by decide +kernel
theorem dX11_save_1 : decode cX11_save 1 = .ok (.iconst 1, 1) := by decide +kernel
theorem dX11_save_2 : decode cX11_save 2 = .ok (.putfield 196, 3) := by decide +kernel
theorem dX11_save_5 : decode cX11_save 5 = .ok (.iconst 0, 1) := by decide +kernel
theorem dX11_save_6 : decode cX11_save 6 = .ok (.istore_n 1, 1) := by decide +kernel
theorem dX11_save_7 : decode cX11_save 7 = .ok (.iload_n 1, 1) := by decide +kernel
theorem dX11_save_8 : decode cX11_save 8 = .ok (.bipush 41, 2) := by decide +kernel
theorem dX11_save_10 : decode cX11_save 10 = .ok (.if_icmp .ge 21, 3) := by decide +kernel
theorem dX11_save_13 : decode cX11_save 13 = .ok (.aload_n 0, 1) := by decide +kernel
theorem dX11_save_14 : decode cX11_save 14 = .ok (.getfield 16, 3) := by decide +kernel
theorem dX11_save_17 : decode cX11_save 17 = .ok (.iload_n 1, 1) := by decide +kernel
theorem dX11_save_18 : decode cX11_save 18 = .ok (.aload_n 0, 1) := by decide +kernel
theorem dX11_save_19 : decode cX11_save 19 = .ok (.getfield 7, 3) := by decide +kernel
theorem dX11_save_22 : decode cX11_save 22 = .ok (.iload_n 1, 1) := by decide +kernel
theorem dX11_save_23 : decode cX11_save 23 = .ok (.iaload, 1) := by decide +kernel
theorem dX11_save_24 : decode cX11_save 24 = .ok (.iastore, 1) := by decide +kernel
theorem dX11_save_25 : decode cX11_save 25 = .ok (.iinc 1 1, 3) := by decide +kernel
theorem dX11_save_28 : decode cX11_save 28 = .ok (.goto (-21), 3) := by decide +kernel
theorem dX11_save_31 : decode cX11_save 31 = .ok (.aload_n 0, 1) := by decide +kernel
theorem dX11_save_32 : decode cX11_save 32 = .ok (.getfield 7, 3) := by decide +kernel
theorem dX11_save_35 : decode cX11_save 35 = .ok (.iconst 2, 1) := by decide +kernel
theorem dX11_save_36 : decode cX11_save 36 = .ok (.iaload, 1) := by decide +kernel
theorem dX11_save_37 : decode cX11_save 37 = .ok (.ireturn, 1) := by decide +kernel
theorem dX11_restore_0 : decode cX11_restore 0 = .ok (.aload_n 0, 1) := by decide +kernel
theorem dX11_restore_1 : decode cX11_restore 1 = .ok (.getfield 196, 3) := by decide +kernel
theorem dX11_restore_4 : decode cX11_restore 4 = .ok (.ifCond .ne 6, 3) := by decide +kernel
theorem dX11_restore_7 : decode cX11_restore 7 = .ok (.bipush (-2), 2) := by decide +kernel
theorem dX11_restore_9 : decode cX11_restore 9 = .ok (.ireturn, 1) := by decide +kernel
theorem dX11_restore_10 : decode cX11_restore 10 = .ok (.aload_n 0, 1) := by decide +kernel
theorem dX11_restore_11 : decode cX11_restore 11 = .ok (.invokevirtual 78, 3) := by decide +kernel
theorem dX11_restore_14 : decode cX11_restore 14 = .ok (.iconst 0, 1) := by decide +kernel
theorem dX11_restore_15 : decode cX11_restore 15 = .ok (.istore_n 1, 1) := by decide +kernel
theorem dX11_restore_16 : decode cX11_restore 16 = .ok (.iload_n 1, 1) := by decide +kernel
theorem dX11_restore_17 : decode cX11_restore 17 = .ok (.bipush 41, 2) := by decide +kernel
theorem dX11_restore_19 : decode cX11_restore 19 = .ok (.if_icmp .ge 21, 3) := by decide +kernel
theorem dX11_restore_22 : decode cX11_restore 22 = .ok (.aload_n 0, 1) := by decide +kernel
theorem dX11_restore_23 : decode cX11_restore 23 = .ok (.getfield 7, 3) := by decide +kernel
theorem dX11_restore_26 : decode cX11_restore 26 = .ok (.iload_n 1, 1) := by decide +kernel
theorem dX11_restore_27 : decode cX11_restore 27 = .ok (.aload_n 0, 1) := by decide +kernel
theorem dX11_restore_28 : decode cX11_restore 28 = .ok (.getfield 16, 3) := by decide +kernel
theorem dX11_restore_31 : decode cX11_restore 31 = .ok (.iload_n 1, 1) := by decide +kernel
theorem dX11_restore_32 : decode cX11_restore 32 = .ok (.iaload, 1) := by decide +kernel
theorem dX11_restore_33 : decode cX11_restore 33 = .ok (.iastore, 1) := by decide +kernel
theorem dX11_restore_34 : decode cX11_restore 34 = .ok (.iinc 1 1, 3) := by decide +kernel
theorem dX11_restore_37 : decode cX11_restore 37 = .ok (.goto (-21), 3) := by decide +kernel
theorem dX11_restore_40 : decode cX11_restore 40 = .ok (.aload_n 0, 1) := by decide +kernel
theorem dX11_restore_41 : decode cX11_restore 41 = .ok (.getfield 7, 3) := by decide +kernel
theorem dX11_restore_44 : decode cX11_restore 44 = .ok (.iconst 2, 1) := by decide +kernel
theorem dX11_restore_45 : decode cX11_restore 45 = .ok (.iaload, 1) := by decide +kernel
theorem dX11_restore_46 : decode cX11_restore 46 = .ok (.ireturn, 1) := by decide +kernel
