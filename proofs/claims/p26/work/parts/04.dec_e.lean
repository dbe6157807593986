theorem dL_cell_0 : decode cL_cell 0 = .ok (.iload_n 1, 1) := by decide +kernel
theorem dL_cell_1 : decode cL_cell 1 = .ok (.aload_n 0, 1) := by decide +kernel
theorem dL_cell_2 : decode cL_cell 2 = .ok (.arraylength, 1) := by decide +kernel
theorem dL_cell_3 : decode cL_cell 3 = .ok (.if_icmp .ge 9, 3) := by decide +kernel
theorem dL_cell_6 : decode cL_cell 6 = .ok (.aload_n 0, 1) := by decide +kernel
theorem dL_cell_7 : decode cL_cell 7 = .ok (.iload_n 1, 1) := by decide +kernel
theorem dL_cell_8 : decode cL_cell 8 = .ok (.iaload, 1) := by decide +kernel
theorem dL_cell_9 : decode cL_cell 9 = .ok (.goto 9, 3) := by decide +kernel
theorem dL_cell_12 : decode cL_cell 12 = .ok (.ldc 7, 2) := by decide +kernel
theorem dL_cell_14 : decode cL_cell 14 = .ok (.iload_n 1, 1) := by decide +kernel
theorem dL_cell_15 : decode cL_cell 15 = .ok (.iconst 3, 1) := by decide +kernel
theorem dL_cell_16 : decode cL_cell 16 = .ok (.iadd, 1) := by decide +kernel
theorem dL_cell_17 : decode cL_cell 17 = .ok (.imul, 1) := by decide +kernel
theorem dL_cell_18 : decode cL_cell 18 = .ok (.ireturn, 1) := by decide +kernel
theorem dL_isRight_0 : decode cL_isRight 0 = .ok (.iload_n 1, 1) := by decide +kernel
theorem dL_isRight_1 : decode cL_isRight 1 = .ok (.ifCond .lt 12, 3) := by decide +kernel
theorem dL_isRight_4 : decode cL_isRight 4 = .ok (.iload_n 1, 1) := by decide +kernel
theorem dL_isRight_5 : decode cL_isRight 5 = .ok (.iconst 1, 1) := by decide +kernel
theorem dL_isRight_6 : decode cL_isRight 6 = .ok (.iload_n 0, 1) := by decide +kernel
theorem dL_isRight_7 : decode cL_isRight 7 = .ok (.ishl, 1) := by decide +kernel
theorem dL_isRight_8 : decode cL_isRight 8 = .ok (.iconst 1, 1) := by decide +kernel
theorem dL_isRight_9 : decode cL_isRight 9 = .ok (.isub, 1) := by decide +kernel
theorem dL_isRight_10 : decode cL_isRight 10 = .ok (.if_icmp .lt 5, 3) := by decide +kernel
theorem dL_isRight_13 : decode cL_isRight 13 = .ok (.iconst 0, 1) := by decide +kernel
theorem dL_isRight_14 : decode cL_isRight 14 = .ok (.ireturn, 1) := by decide +kernel
theorem dL_isRight_15 : decode cL_isRight 15 = .ok (.iconst 0, 1) := by decide +kernel
theorem dL_isRight_16 : decode cL_isRight 16 = .ok (.istore_n 2, 1) := by decide +kernel
theorem dL_isRight_17 : decode cL_isRight 17 = .ok (.iconst 0, 1) := by decide +kernel
theorem dL_isRight_18 : decode cL_isRight 18 = .ok (.istore_n 3, 1) := by decide +kernel
theorem dL_isRight_19 : decode cL_isRight 19 = .ok (.iload_n 3, 1) := by decide +kernel
theorem dL_isRight_20 : decode cL_isRight 20 = .ok (.iload_n 0, 1) := by decide +kernel
theorem dL_isRight_21 : decode cL_isRight 21 = .ok (.if_icmp .ge 52, 3) := by decide +kernel
theorem dL_isRight_24 : decode cL_isRight 24 = .ok (.iload_n 1, 1) := by decide +kernel
theorem dL_isRight_25 : decode cL_isRight 25 = .ok (.iload_n 3, 1) := by decide +kernel
theorem dL_isRight_26 : decode cL_isRight 26 = .ok (.ishr, 1) := by decide +kernel
theorem dL_isRight_27 : decode cL_isRight 27 = .ok (.iconst 1, 1) := by decide +kernel
theorem dL_isRight_28 : decode cL_isRight 28 = .ok (.iand, 1) := by decide +kernel
theorem dL_isRight_29 : decode cL_isRight 29 = .ok (.iconst 1, 1) := by decide +kernel
theorem dL_isRight_30 : decode cL_isRight 30 = .ok (.if_icmp .ne 7, 3) := by decide +kernel
theorem dL_isRight_33 : decode cL_isRight 33 = .ok (.iconst 1, 1) := by decide +kernel
theorem dL_isRight_34 : decode cL_isRight 34 = .ok (.goto 4, 3) := by decide +kernel
theorem dL_isRight_37 : decode cL_isRight 37 = .ok (.iconst 0, 1) := by decide +kernel
theorem dL_isRight_38 : decode cL_isRight 38 = .ok (.istore 4, 2) := by decide +kernel
theorem dL_isRight_40 : decode cL_isRight 40 = .ok (.iload 4, 2) := by decide +kernel
theorem dL_isRight_42 : decode cL_isRight 42 = .ok (.ifCond .eq 12, 3) := by decide +kernel
theorem dL_isRight_45 : decode cL_isRight 45 = .ok (.iload_n 2, 1) := by decide +kernel
theorem dL_isRight_46 : decode cL_isRight 46 = .ok (.iconst 2, 1) := by decide +kernel
theorem dL_isRight_47 : decode cL_isRight 47 = .ok (.irem, 1) := by decide +kernel
theorem dL_isRight_48 : decode cL_isRight 48 = .ok (.iconst 1, 1) := by decide +kernel
theorem dL_isRight_49 : decode cL_isRight 49 = .ok (.if_icmp .ne 5, 3) := by decide +kernel
theorem dL_isRight_52 : decode cL_isRight 52 = .ok (.iconst 0, 1) := by decide +kernel
theorem dL_isRight_53 : decode cL_isRight 53 = .ok (.ireturn, 1) := by decide +kernel
theorem dL_isRight_54 : decode cL_isRight 54 = .ok (.iload 4, 2) := by decide +kernel
theorem dL_isRight_56 : decode cL_isRight 56 = .ok (.ifCond .eq 7, 3) := by decide +kernel
theorem dL_isRight_59 : decode cL_isRight 59 = .ok (.iconst 0, 1) := by decide +kernel
theorem dL_isRight_60 : decode cL_isRight 60 = .ok (.goto 6, 3) := by decide +kernel
theorem dL_isRight_63 : decode cL_isRight 63 = .ok (.iload_n 2, 1) := by decide +kernel
theorem dL_isRight_64 : decode cL_isRight 64 = .ok (.iconst 1, 1) := by decide +kernel
theorem dL_isRight_65 : decode cL_isRight 65 = .ok (.iadd, 1) := by decide +kernel
theorem dL_isRight_66 : decode cL_isRight 66 = .ok (.istore_n 2, 1) := by decide +kernel
theorem dL_isRight_67 : decode cL_isRight 67 = .ok (.iinc 3 1, 3) := by decide +kernel
theorem dL_isRight_70 : decode cL_isRight 70 = .ok (.goto (-51), 3) := by decide +kernel
theorem dL_isRight_73 : decode cL_isRight 73 = .ok (.iload_n 2, 1) := by decide +kernel
theorem dL_isRight_74 : decode cL_isRight 74 = .ok (.iconst 2, 1) := by decide +kernel
theorem dL_isRight_75 : decode cL_isRight 75 = .ok (.irem, 1) := by decide +kernel
theorem dL_isRight_76 : decode cL_isRight 76 = .ok (.ifCond .ne 7, 3) := by decide +kernel
theorem dL_isRight_79 : decode cL_isRight 79 = .ok (.iconst 1, 1) := by decide +kernel
theorem dL_isRight_80 : decode cL_isRight 80 = .ok (.goto 4, 3) := by decide +kernel
theorem dL_isRight_83 : decode cL_isRight 83 = .ok (.iconst 0, 1) := by decide +kernel
theorem dL_isRight_84 : decode cL_isRight 84 = .ok (.ireturn, 1) := by decide +kernel
theorem dL_beginning_0 : decode cL_beginning 0 = .ok (.iconst 1, 1) := by decide +kernel
theorem dL_beginning_1 : decode cL_beginning 1 = .ok (.iload_n 3, 1) := by decide +kernel
theorem dL_beginning_2 : decode cL_beginning 2 = .ok (.iconst 1, 1) := by decide +kernel
theorem dL_beginning_3 : decode cL_beginning 3 = .ok (.isub, 1) := by decide +kernel
theorem dL_beginning_4 : decode cL_beginning 4 = .ok (.ishl, 1) := by decide +kernel
theorem dL_beginning_5 : decode cL_beginning 5 = .ok (.istore 4, 2) := by decide +kernel
theorem dL_beginning_7 : decode cL_beginning 7 = .ok (.iload_n 3, 1) := by decide +kernel
theorem dL_beginning_8 : decode cL_beginning 8 = .ok (.iconst 2, 1) := by decide +kernel
theorem dL_beginning_9 : decode cL_beginning 9 = .ok (.irem, 1) := by decide +kernel
theorem dL_beginning_10 : decode cL_beginning 10 = .ok (.ifCond .ne 7, 3) := by decide +kernel
theorem dL_beginning_13 : decode cL_beginning 13 = .ok (.iconst 1, 1) := by decide +kernel
theorem dL_beginning_14 : decode cL_beginning 14 = .ok (.goto 4, 3) := by decide +kernel
theorem dL_beginning_17 : decode cL_beginning 17 = .ok (.iconst 0, 1) := by decide +kernel
theorem dL_beginning_18 : decode cL_beginning 18 = .ok (.istore 5, 2) := by decide +kernel
theorem dL_beginning_20 : decode cL_beginning 20 = .ok (.aload_n 0, 1) := by decide +kernel
theorem dL_beginning_21 : decode cL_beginning 21 = .ok (.iconst 0, 1) := by decide +kernel
theorem dL_beginning_22 : decode cL_beginning 22 = .ok (.iload_n 3, 1) := by decide +kernel
theorem dL_beginning_23 : decode cL_beginning 23 = .ok (.iastore, 1) := by decide +kernel
theorem dL_beginning_24 : decode cL_beginning 24 = .ok (.aload_n 0, 1) := by decide +kernel
theorem dL_beginning_25 : decode cL_beginning 25 = .ok (.iconst 1, 1) := by decide +kernel
theorem dL_beginning_26 : decode cL_beginning 26 = .ok (.iconst 2, 1) := by decide +kernel
theorem dL_beginning_27 : decode cL_beginning 27 = .ok (.iload_n 3, 1) := by decide +kernel
theorem dL_beginning_28 : decode cL_beginning 28 = .ok (.imul, 1) := by decide +kernel
theorem dL_beginning_29 : decode cL_beginning 29 = .ok (.iastore, 1) := by decide +kernel
theorem dL_beginning_30 : decode cL_beginning 30 = .ok (.aload_n 0, 1) := by decide +kernel
theorem dL_beginning_31 : decode cL_beginning 31 = .ok (.iconst 2, 1) := by decide +kernel
theorem dL_beginning_32 : decode cL_beginning 32 = .ok (.iconst 0, 1) := by decide +kernel
theorem dL_beginning_33 : decode cL_beginning 33 = .ok (.iastore, 1) := by decide +kernel
theorem dL_beginning_34 : decode cL_beginning 34 = .ok (.iconst 0, 1) := by decide +kernel
theorem dL_beginning_35 : decode cL_beginning 35 = .ok (.istore 6, 2) := by decide +kernel
theorem dL_beginning_37 : decode cL_beginning 37 = .ok (.iload 6, 2) := by decide +kernel
theorem dL_beginning_39 : decode cL_beginning 39 = .ok (.iconst 2, 1) := by decide +kernel
theorem dL_beginning_40 : decode cL_beginning 40 = .ok (.iload_n 3, 1) := by decide +kernel
theorem dL_beginning_41 : decode cL_beginning 41 = .ok (.imul, 1) := by decide +kernel
theorem dL_beginning_42 : decode cL_beginning 42 = .ok (.if_icmp .ge 47, 3) := by decide +kernel
theorem dL_beginning_45 : decode cL_beginning 45 = .ok (.aload_n 1, 1) := by decide +kernel
theorem dL_beginning_46 : decode cL_beginning 46 = .ok (.iload 6, 2) := by decide +kernel
theorem dL_beginning_48 : decode cL_beginning 48 = .ok (.iload 6, 2) := by decide +kernel
theorem dL_beginning_50 : decode cL_beginning 50 = .ok (.iconst 2, 1) := by decide +kernel
theorem dL_beginning_51 : decode cL_beginning 51 = .ok (.irem, 1) := by decide +kernel
theorem dL_beginning_52 : decode cL_beginning 52 = .ok (.ifCond .ne 17, 3) := by decide +kernel
theorem dL_beginning_55 : decode cL_beginning 55 = .ok (.iload 5, 2) := by decide +kernel
theorem dL_beginning_57 : decode cL_beginning 57 = .ok (.ifCond .eq 7, 3) := by decide +kernel
theorem dL_beginning_60 : decode cL_beginning 60 = .ok (.iconst 0, 1) := by decide +kernel
theorem dL_beginning_61 : decode cL_beginning 61 = .ok (.goto 21, 3) := by decide +kernel
theorem dL_beginning_64 : decode cL_beginning 64 = .ok (.iload 4, 2) := by decide +kernel
theorem dL_beginning_66 : decode cL_beginning 66 = .ok (.goto 16, 3) := by decide +kernel
theorem dL_beginning_69 : decode cL_beginning 69 = .ok (.iload 5, 2) := by decide +kernel
theorem dL_beginning_71 : decode cL_beginning 71 = .ok (.ifCond .eq 10, 3) := by decide +kernel
theorem dL_beginning_74 : decode cL_beginning 74 = .ok (.iconst 1, 1) := by decide +kernel
theorem dL_beginning_75 : decode cL_beginning 75 = .ok (.iload 4, 2) := by decide +kernel
theorem dL_beginning_77 : decode cL_beginning 77 = .ok (.iadd, 1) := by decide +kernel
theorem dL_beginning_78 : decode cL_beginning 78 = .ok (.goto 4, 3) := by decide +kernel
theorem dL_beginning_81 : decode cL_beginning 81 = .ok (.iconst 1, 1) := by decide +kernel
theorem dL_beginning_82 : decode cL_beginning 82 = .ok (.iastore, 1) := by decide +kernel
theorem dL_beginning_83 : decode cL_beginning 83 = .ok (.iinc 6 1, 3) := by decide +kernel
theorem dL_beginning_86 : decode cL_beginning 86 = .ok (.goto (-49), 3) := by decide +kernel
theorem dL_beginning_89 : decode cL_beginning 89 = .ok (.aload_n 1, 1) := by decide +kernel
theorem dL_beginning_90 : decode cL_beginning 90 = .ok (.iconst 2, 1) := by decide +kernel
theorem dL_beginning_91 : decode cL_beginning 91 = .ok (.iload_n 3, 1) := by decide +kernel
theorem dL_beginning_92 : decode cL_beginning 92 = .ok (.imul, 1) := by decide +kernel
theorem dL_beginning_93 : decode cL_beginning 93 = .ok (.iconst 1, 1) := by decide +kernel
theorem dL_beginning_94 : decode cL_beginning 94 = .ok (.isub, 1) := by decide +kernel
theorem dL_beginning_95 : decode cL_beginning 95 = .ok (.iload 5, 2) := by decide +kernel
theorem dL_beginning_97 : decode cL_beginning 97 = .ok (.ifCond .eq 7, 3) := by decide +kernel
theorem dL_beginning_100 : decode cL_beginning 100 = .ok (.iconst 3, 1) := by decide +kernel
theorem dL_beginning_101 : decode cL_beginning 101 = .ok (.goto 7, 3) := by decide +kernel
theorem dL_beginning_104 : decode cL_beginning 104 = .ok (.iconst 3, 1) := by decide +kernel
theorem dL_beginning_105 : decode cL_beginning 105 = .ok (.iload 4, 2) := by decide +kernel
theorem dL_beginning_107 : decode cL_beginning 107 = .ok (.iadd, 1) := by decide +kernel
theorem dL_beginning_108 : decode cL_beginning 108 = .ok (.iastore, 1) := by decide +kernel
theorem dL_beginning_109 : decode cL_beginning 109 = .ok (.aload_n 2, 1) := by decide +kernel
theorem dL_beginning_110 : decode cL_beginning 110 = .ok (.iconst 1, 1) := by decide +kernel
theorem dL_beginning_111 : decode cL_beginning 111 = .ok (.iload_n 3, 1) := by decide +kernel
theorem dL_beginning_112 : decode cL_beginning 112 = .ok (.iconst 4, 1) := by decide +kernel
theorem dL_beginning_113 : decode cL_beginning 113 = .ok (.if_icmp .ne 8, 3) := by decide +kernel
theorem dL_beginning_116 : decode cL_beginning 116 = .ok (.bipush 9, 2) := by decide +kernel
theorem dL_beginning_118 : decode cL_beginning 118 = .ok (.goto 18, 3) := by decide +kernel
theorem dL_beginning_121 : decode cL_beginning 121 = .ok (.iload 5, 2) := by decide +kernel
theorem dL_beginning_123 : decode cL_beginning 123 = .ok (.ifCond .eq 8, 3) := by decide +kernel
theorem dL_beginning_126 : decode cL_beginning 126 = .ok (.bipush 9, 2) := by decide +kernel
theorem dL_beginning_128 : decode cL_beginning 128 = .ok (.goto 8, 3) := by decide +kernel
theorem dL_beginning_131 : decode cL_beginning 131 = .ok (.bipush 9, 2) := by decide +kernel
theorem dL_beginning_133 : decode cL_beginning 133 = .ok (.iload 4, 2) := by decide +kernel
theorem dL_beginning_135 : decode cL_beginning 135 = .ok (.iadd, 1) := by decide +kernel
theorem dL_beginning_136 : decode cL_beginning 136 = .ok (.iastore, 1) := by decide +kernel
theorem dL_beginning_137 : decode cL_beginning 137 = .ok (.aload_n 2, 1) := by decide +kernel
theorem dL_beginning_138 : decode cL_beginning 138 = .ok (.iconst 2, 1) := by decide +kernel
theorem dL_beginning_139 : decode cL_beginning 139 = .ok (.iload_n 3, 1) := by decide +kernel
theorem dL_beginning_140 : decode cL_beginning 140 = .ok (.iconst 4, 1) := by decide +kernel
theorem dL_beginning_141 : decode cL_beginning 141 = .ok (.if_icmp .ne 8, 3) := by decide +kernel
theorem dL_beginning_144 : decode cL_beginning 144 = .ok (.bipush 12, 2) := by decide +kernel
theorem dL_beginning_146 : decode cL_beginning 146 = .ok (.goto 26, 3) := by decide +kernel
theorem dL_beginning_149 : decode cL_beginning 149 = .ok (.iload_n 3, 1) := by decide +kernel
theorem dL_beginning_150 : decode cL_beginning 150 = .ok (.iconst 5, 1) := by decide +kernel
theorem dL_beginning_151 : decode cL_beginning 151 = .ok (.if_icmp .ne 8, 3) := by decide +kernel
theorem dL_beginning_154 : decode cL_beginning 154 = .ok (.bipush 7, 2) := by decide +kernel
theorem dL_beginning_156 : decode cL_beginning 156 = .ok (.goto 16, 3) := by decide +kernel
theorem dL_beginning_159 : decode cL_beginning 159 = .ok (.iload_n 3, 1) := by decide +kernel
theorem dL_beginning_160 : decode cL_beginning 160 = .ok (.bipush 6, 2) := by decide +kernel
theorem dL_beginning_162 : decode cL_beginning 162 = .ok (.if_icmp .ne 8, 3) := by decide +kernel
theorem dL_beginning_165 : decode cL_beginning 165 = .ok (.bipush 15, 2) := by decide +kernel
theorem dL_beginning_167 : decode cL_beginning 167 = .ok (.goto 5, 3) := by decide +kernel
theorem dL_beginning_170 : decode cL_beginning 170 = .ok (.bipush 79, 2) := by decide +kernel
theorem dL_beginning_172 : decode cL_beginning 172 = .ok (.iastore, 1) := by decide +kernel
theorem dL_beginning_173 : decode cL_beginning 173 = .ok (.return_, 1) := by decide +kernel
theorem dL_change_0 : decode cL_change 0 = .ok (.iload 4, 2) := by decide +kernel
theorem dL_change_2 : decode cL_change 2 = .ok (.aload_n 0, 1) := by decide +kernel
theorem dL_change_3 : decode cL_change 3 = .ok (.iconst 1, 1) := by decide +kernel
theorem dL_change_4 : decode cL_change 4 = .ok (.iaload, 1) := by decide +kernel
theorem dL_change_5 : decode cL_change 5 = .ok (.irem, 1) := by decide +kernel
theorem dL_change_6 : decode cL_change 6 = .ok (.istore 5, 2) := by decide +kernel
theorem dL_change_8 : decode cL_change 8 = .ok (.aload_n 3, 1) := by decide +kernel
theorem dL_change_9 : decode cL_change 9 = .ok (.iload 4, 2) := by decide +kernel
theorem dL_change_11 : decode cL_change 11 = .ok (.aload_n 0, 1) := by decide +kernel
theorem dL_change_12 : decode cL_change 12 = .ok (.iconst 1, 1) := by decide +kernel
theorem dL_change_13 : decode cL_change 13 = .ok (.iaload, 1) := by decide +kernel
theorem dL_change_14 : decode cL_change 14 = .ok (.idiv, 1) := by decide +kernel
theorem dL_change_15 : decode cL_change 15 = .ok (.iaload, 1) := by decide +kernel
theorem dL_change_16 : decode cL_change 16 = .ok (.istore 6, 2) := by decide +kernel
theorem dL_change_18 : decode cL_change 18 = .ok (.iload 5, 2) := by decide +kernel
theorem dL_change_20 : decode cL_change 20 = .ok (.aload_n 0, 1) := by decide +kernel
theorem dL_change_21 : decode cL_change 21 = .ok (.iconst 1, 1) := by decide +kernel
theorem dL_change_22 : decode cL_change 22 = .ok (.iaload, 1) := by decide +kernel
theorem dL_change_23 : decode cL_change 23 = .ok (.iconst 1, 1) := by decide +kernel
theorem dL_change_24 : decode cL_change 24 = .ok (.isub, 1) := by decide +kernel
theorem dL_change_25 : decode cL_change 25 = .ok (.if_icmp .ne 15, 3) := by decide +kernel
theorem dL_change_28 : decode cL_change 28 = .ok (.iload 6, 2) := by decide +kernel
theorem dL_change_30 : decode cL_change 30 = .ok (.ifCond .le 10, 3) := by decide +kernel
theorem dL_change_33 : decode cL_change 33 = .ok (.aload_n 2, 1) := by decide +kernel
theorem dL_change_34 : decode cL_change 34 = .ok (.iload 6, 2) := by decide +kernel
theorem dL_change_36 : decode cL_change 36 = .ok (.iaload, 1) := by decide +kernel
theorem dL_change_37 : decode cL_change 37 = .ok (.goto 7, 3) := by decide +kernel
theorem dL_change_40 : decode cL_change 40 = .ok (.aload_n 1, 1) := by decide +kernel
theorem dL_change_41 : decode cL_change 41 = .ok (.iload 5, 2) := by decide +kernel
theorem dL_change_43 : decode cL_change 43 = .ok (.iaload, 1) := by decide +kernel
theorem dL_change_44 : decode cL_change 44 = .ok (.ireturn, 1) := by decide +kernel
theorem dL_ring_0 : decode cL_ring 0 = .ok (.iconst (-1), 1) := by decide +kernel
theorem dL_ring_1 : decode cL_ring 1 = .ok (.istore_n 3, 1) := by decide +kernel
theorem dL_ring_2 : decode cL_ring 2 = .ok (.iconst 0, 1) := by decide +kernel
theorem dL_ring_3 : decode cL_ring 3 = .ok (.istore 4, 2) := by decide +kernel
theorem dL_ring_5 : decode cL_ring 5 = .ok (.iload 4, 2) := by decide +kernel
theorem dL_ring_7 : decode cL_ring 7 = .ok (.iload_n 0, 1) := by decide +kernel
theorem dL_ring_8 : decode cL_ring 8 = .ok (.if_icmp .ge 48, 3) := by decide +kernel
theorem dL_ring_11 : decode cL_ring 11 = .ok (.iload_n 1, 1) := by decide +kernel
theorem dL_ring_12 : decode cL_ring 12 = .ok (.iload 4, 2) := by decide +kernel
theorem dL_ring_14 : decode cL_ring 14 = .ok (.ishr, 1) := by decide +kernel
theorem dL_ring_15 : decode cL_ring 15 = .ok (.iconst 1, 1) := by decide +kernel
theorem dL_ring_16 : decode cL_ring 16 = .ok (.iand, 1) := by decide +kernel
theorem dL_ring_17 : decode cL_ring 17 = .ok (.ifCond .ne 33, 3) := by decide +kernel
theorem dL_ring_20 : decode cL_ring 20 = .ok (.iload_n 3, 1) := by decide +kernel
theorem dL_ring_21 : decode cL_ring 21 = .ok (.ifCond .ge 9, 3) := by decide +kernel
theorem dL_ring_24 : decode cL_ring 24 = .ok (.iload 4, 2) := by decide +kernel
theorem dL_ring_26 : decode cL_ring 26 = .ok (.istore_n 3, 1) := by decide +kernel
theorem dL_ring_27 : decode cL_ring 27 = .ok (.goto 23, 3) := by decide +kernel
theorem dL_ring_30 : decode cL_ring 30 = .ok (.aload_n 2, 1) := by decide +kernel
theorem dL_ring_31 : decode cL_ring 31 = .ok (.iload_n 3, 1) := by decide +kernel
theorem dL_ring_32 : decode cL_ring 32 = .ok (.iaload, 1) := by decide +kernel
theorem dL_ring_33 : decode cL_ring 33 = .ok (.istore 5, 2) := by decide +kernel
theorem dL_ring_35 : decode cL_ring 35 = .ok (.aload_n 2, 1) := by decide +kernel
theorem dL_ring_36 : decode cL_ring 36 = .ok (.iload_n 3, 1) := by decide +kernel
theorem dL_ring_37 : decode cL_ring 37 = .ok (.aload_n 2, 1) := by decide +kernel
theorem dL_ring_38 : decode cL_ring 38 = .ok (.iload 4, 2) := by decide +kernel
theorem dL_ring_40 : decode cL_ring 40 = .ok (.iaload, 1) := by decide +kernel
theorem dL_ring_41 : decode cL_ring 41 = .ok (.iastore, 1) := by decide +kernel
theorem dL_ring_42 : decode cL_ring 42 = .ok (.aload_n 2, 1) := by decide +kernel
theorem dL_ring_43 : decode cL_ring 43 = .ok (.iload 4, 2) := by decide +kernel
theorem dL_ring_45 : decode cL_ring 45 = .ok (.iload 5, 2) := by decide +kernel
theorem dL_ring_47 : decode cL_ring 47 = .ok (.iastore, 1) := by decide +kernel
theorem dL_ring_48 : decode cL_ring 48 = .ok (.iconst (-1), 1) := by decide +kernel
theorem dL_ring_49 : decode cL_ring 49 = .ok (.istore_n 3, 1) := by decide +kernel
theorem dL_ring_50 : decode cL_ring 50 = .ok (.iinc 4 1, 3) := by decide +kernel
theorem dL_ring_53 : decode cL_ring 53 = .ok (.goto (-48), 3) := by decide +kernel
theorem dL_ring_56 : decode cL_ring 56 = .ok (.return_, 1) := by decide +kernel
theorem dL_code_0 : decode cL_code 0 = .ok (.lconst 0, 1) := by decide +kernel
theorem dL_code_1 : decode cL_code 1 = .ok (.lstore_n 2, 1) := by decide +kernel
theorem dL_code_2 : decode cL_code 2 = .ok (.iconst 0, 1) := by decide +kernel
theorem dL_code_3 : decode cL_code 3 = .ok (.istore 4, 2) := by decide +kernel
theorem dL_code_5 : decode cL_code 5 = .ok (.iload 4, 2) := by decide +kernel
theorem dL_code_7 : decode cL_code 7 = .ok (.iload_n 0, 1) := by decide +kernel
theorem dL_code_8 : decode cL_code 8 = .ok (.if_icmp .ge 21, 3) := by decide +kernel
theorem dL_code_11 : decode cL_code 11 = .ok (.ldc2_w 9, 3) := by decide +kernel
theorem dL_code_14 : decode cL_code 14 = .ok (.lload_n 2, 1) := by decide +kernel
theorem dL_code_15 : decode cL_code 15 = .ok (.lmul, 1) := by decide +kernel
theorem dL_code_16 : decode cL_code 16 = .ok (.aload_n 1, 1) := by decide +kernel
theorem dL_code_17 : decode cL_code 17 = .ok (.iload 4, 2) := by decide +kernel
theorem dL_code_19 : decode cL_code 19 = .ok (.iaload, 1) := by decide +kernel
theorem dL_code_20 : decode cL_code 20 = .ok (.i2l, 1) := by decide +kernel
theorem dL_code_21 : decode cL_code 21 = .ok (.ladd, 1) := by decide +kernel
theorem dL_code_22 : decode cL_code 22 = .ok (.lstore_n 2, 1) := by decide +kernel
theorem dL_code_23 : decode cL_code 23 = .ok (.iinc 4 1, 3) := by decide +kernel
theorem dL_code_26 : decode cL_code 26 = .ok (.goto (-21), 3) := by decide +kernel
theorem dL_code_29 : decode cL_code 29 = .ok (.lload_n 2, 1) := by decide +kernel
theorem dL_code_30 : decode cL_code 30 = .ok (.lreturn, 1) := by decide +kernel
theorem dL_rounds_0 : decode cL_rounds 0 = .ok (.iconst 0, 1) := by decide +kernel
theorem dL_rounds_1 : decode cL_rounds 1 = .ok (.istore_n 2, 1) := by decide +kernel
theorem dL_rounds_2 : decode cL_rounds 2 = .ok (.iload_n 2, 1) := by decide +kernel
theorem dL_rounds_3 : decode cL_rounds 3 = .ok (.iload_n 0, 1) := by decide +kernel
theorem dL_rounds_4 : decode cL_rounds 4 = .ok (.if_icmp .ge 15, 3) := by decide +kernel
theorem dL_rounds_7 : decode cL_rounds 7 = .ok (.aload_n 1, 1) := by decide +kernel
theorem dL_rounds_8 : decode cL_rounds 8 = .ok (.iload_n 2, 1) := by decide +kernel
theorem dL_rounds_9 : decode cL_rounds 9 = .ok (.iload_n 2, 1) := by decide +kernel
theorem dL_rounds_10 : decode cL_rounds 10 = .ok (.iconst 1, 1) := by decide +kernel
theorem dL_rounds_11 : decode cL_rounds 11 = .ok (.iadd, 1) := by decide +kernel
theorem dL_rounds_12 : decode cL_rounds 12 = .ok (.iastore, 1) := by decide +kernel
theorem dL_rounds_13 : decode cL_rounds 13 = .ok (.iinc 2 1, 3) := by decide +kernel
theorem dL_rounds_16 : decode cL_rounds 16 = .ok (.goto (-14), 3) := by decide +kernel
theorem dL_rounds_19 : decode cL_rounds 19 = .ok (.return_, 1) := by decide +kernel
theorem dL_rowAt_0 : decode cL_rowAt 0 = .ok (.aload_n 0, 1) := by decide +kernel
theorem dL_rowAt_1 : decode cL_rowAt 1 = .ok (.iload_n 1, 1) := by decide +kernel
theorem dL_rowAt_2 : decode cL_rowAt 2 = .ok (.iconst 3, 1) := by decide +kernel
theorem dL_rowAt_3 : decode cL_rowAt 3 = .ok (.idiv, 1) := by decide +kernel
theorem dL_rowAt_4 : decode cL_rowAt 4 = .ok (.laload, 1) := by decide +kernel
theorem dL_rowAt_5 : decode cL_rowAt 5 = .ok (.bipush 21, 2) := by decide +kernel
theorem dL_rowAt_7 : decode cL_rowAt 7 = .ok (.iload_n 1, 1) := by decide +kernel
theorem dL_rowAt_8 : decode cL_rowAt 8 = .ok (.iconst 3, 1) := by decide +kernel
theorem dL_rowAt_9 : decode cL_rowAt 9 = .ok (.irem, 1) := by decide +kernel
theorem dL_rowAt_10 : decode cL_rowAt 10 = .ok (.imul, 1) := by decide +kernel
theorem dL_rowAt_11 : decode cL_rowAt 11 = .ok (.lshr, 1) := by decide +kernel
theorem dL_rowAt_12 : decode cL_rowAt 12 = .ok (.ldc2_w 11, 3) := by decide +kernel
theorem dL_rowAt_15 : decode cL_rowAt 15 = .ok (.land, 1) := by decide +kernel
theorem dL_rowAt_16 : decode cL_rowAt 16 = .ok (.lreturn, 1) := by decide +kernel
theorem dL_all_0 : decode cL_all 0 = .ok (.iconst 0, 1) := by decide +kernel
theorem dL_all_1 : decode cL_all 1 = .ok (.istore 6, 2) := by decide +kernel
theorem dL_all_3 : decode cL_all 3 = .ok (.iload 6, 2) := by decide +kernel
theorem dL_all_5 : decode cL_all 5 = .ok (.bipush 64, 2) := by decide +kernel
theorem dL_all_7 : decode cL_all 7 = .ok (.if_icmp .ge 15, 3) := by decide +kernel
theorem dL_all_10 : decode cL_all 10 = .ok (.aload 5, 2) := by decide +kernel
theorem dL_all_12 : decode cL_all 12 = .ok (.iload 6, 2) := by decide +kernel
theorem dL_all_14 : decode cL_all 14 = .ok (.lconst 0, 1) := by decide +kernel
theorem dL_all_15 : decode cL_all 15 = .ok (.lastore, 1) := by decide +kernel
theorem dL_all_16 : decode cL_all 16 = .ok (.iinc 6 1, 3) := by decide +kernel
theorem dL_all_19 : decode cL_all 19 = .ok (.goto (-16), 3) := by decide +kernel
theorem dL_all_22 : decode cL_all 22 = .ok (.aload_n 0, 1) := by decide +kernel
theorem dL_all_23 : decode cL_all 23 = .ok (.iconst 0, 1) := by decide +kernel
theorem dL_all_24 : decode cL_all 24 = .ok (.iaload, 1) := by decide +kernel
theorem dL_all_25 : decode cL_all 25 = .ok (.aload 4, 2) := by decide +kernel
theorem dL_all_27 : decode cL_all 27 = .ok (.invokestatic 13, 3) := by decide +kernel
theorem dL_all_30 : decode cL_all 30 = .ok (.aload 5, 2) := by decide +kernel
theorem dL_all_32 : decode cL_all 32 = .ok (.iconst 0, 1) := by decide +kernel
theorem dL_all_33 : decode cL_all 33 = .ok (.aload_n 0, 1) := by decide +kernel
theorem dL_all_34 : decode cL_all 34 = .ok (.iconst 0, 1) := by decide +kernel
theorem dL_all_35 : decode cL_all 35 = .ok (.iaload, 1) := by decide +kernel
theorem dL_all_36 : decode cL_all 36 = .ok (.aload 4, 2) := by decide +kernel
theorem dL_all_38 : decode cL_all 38 = .ok (.invokestatic 19, 3) := by decide +kernel
theorem dL_all_41 : decode cL_all 41 = .ok (.lastore, 1) := by decide +kernel
theorem dL_all_42 : decode cL_all 42 = .ok (.iconst 0, 1) := by decide +kernel
theorem dL_all_43 : decode cL_all 43 = .ok (.istore 6, 2) := by decide +kernel
theorem dL_all_45 : decode cL_all 45 = .ok (.iload 6, 2) := by decide +kernel
theorem dL_all_47 : decode cL_all 47 = .ok (.aload_n 0, 1) := by decide +kernel
theorem dL_all_48 : decode cL_all 48 = .ok (.iconst 1, 1) := by decide +kernel
theorem dL_all_49 : decode cL_all 49 = .ok (.iaload, 1) := by decide +kernel
theorem dL_all_50 : decode cL_all 50 = .ok (.aload_n 0, 1) := by decide +kernel
theorem dL_all_51 : decode cL_all 51 = .ok (.iconst 2, 1) := by decide +kernel
theorem dL_all_52 : decode cL_all 52 = .ok (.iaload, 1) := by decide +kernel
theorem dL_all_53 : decode cL_all 53 = .ok (.imul, 1) := by decide +kernel
theorem dL_all_54 : decode cL_all 54 = .ok (.if_icmp .ge 56, 3) := by decide +kernel
theorem dL_all_57 : decode cL_all 57 = .ok (.aload_n 0, 1) := by decide +kernel
theorem dL_all_58 : decode cL_all 58 = .ok (.iconst 0, 1) := by decide +kernel
theorem dL_all_59 : decode cL_all 59 = .ok (.iaload, 1) := by decide +kernel
theorem dL_all_60 : decode cL_all 60 = .ok (.aload_n 0, 1) := by decide +kernel
theorem dL_all_61 : decode cL_all 61 = .ok (.aload_n 1, 1) := by decide +kernel
theorem dL_all_62 : decode cL_all 62 = .ok (.aload_n 2, 1) := by decide +kernel
theorem dL_all_63 : decode cL_all 63 = .ok (.aload_n 3, 1) := by decide +kernel
theorem dL_all_64 : decode cL_all 64 = .ok (.iload 6, 2) := by decide +kernel
theorem dL_all_66 : decode cL_all 66 = .ok (.invokestatic 23, 3) := by decide +kernel
theorem dL_all_69 : decode cL_all 69 = .ok (.aload 4, 2) := by decide +kernel
theorem dL_all_71 : decode cL_all 71 = .ok (.invokestatic 27, 3) := by decide +kernel
theorem dL_all_74 : decode cL_all 74 = .ok (.aload 5, 2) := by decide +kernel
theorem dL_all_76 : decode cL_all 76 = .ok (.iload 6, 2) := by decide +kernel
theorem dL_all_78 : decode cL_all 78 = .ok (.iconst 1, 1) := by decide +kernel
theorem dL_all_79 : decode cL_all 79 = .ok (.iadd, 1) := by decide +kernel
theorem dL_all_80 : decode cL_all 80 = .ok (.iconst 3, 1) := by decide +kernel
theorem dL_all_81 : decode cL_all 81 = .ok (.idiv, 1) := by decide +kernel
theorem dL_all_82 : decode cL_all 82 = .ok (.dup2, 1) := by decide +kernel
theorem dL_all_83 : decode cL_all 83 = .ok (.laload, 1) := by decide +kernel
theorem dL_all_84 : decode cL_all 84 = .ok (.aload_n 0, 1) := by decide +kernel
theorem dL_all_85 : decode cL_all 85 = .ok (.iconst 0, 1) := by decide +kernel
theorem dL_all_86 : decode cL_all 86 = .ok (.iaload, 1) := by decide +kernel
theorem dL_all_87 : decode cL_all 87 = .ok (.aload 4, 2) := by decide +kernel
theorem dL_all_89 : decode cL_all 89 = .ok (.invokestatic 19, 3) := by decide +kernel
theorem dL_all_92 : decode cL_all 92 = .ok (.bipush 21, 2) := by decide +kernel
theorem dL_all_94 : decode cL_all 94 = .ok (.iload 6, 2) := by decide +kernel
theorem dL_all_96 : decode cL_all 96 = .ok (.iconst 1, 1) := by decide +kernel
theorem dL_all_97 : decode cL_all 97 = .ok (.iadd, 1) := by decide +kernel
theorem dL_all_98 : decode cL_all 98 = .ok (.iconst 3, 1) := by decide +kernel
theorem dL_all_99 : decode cL_all 99 = .ok (.irem, 1) := by decide +kernel
theorem dL_all_100 : decode cL_all 100 = .ok (.imul, 1) := by decide +kernel
theorem dL_all_101 : decode cL_all 101 = .ok (.lshl, 1) := by decide +kernel
theorem dL_all_102 : decode cL_all 102 = .ok (.lor, 1) := by decide +kernel
theorem dL_all_103 : decode cL_all 103 = .ok (.lastore, 1) := by decide +kernel
theorem dL_all_104 : decode cL_all 104 = .ok (.iinc 6 1, 3) := by decide +kernel
theorem dL_all_107 : decode cL_all 107 = .ok (.goto (-62), 3) := by decide +kernel
theorem dL_all_110 : decode cL_all 110 = .ok (.return_, 1) := by decide +kernel
theorem dL_digit_0 : decode cL_digit 0 = .ok (.lload_n 1, 1) := by decide +kernel
theorem dL_digit_1 : decode cL_digit 1 = .ok (.iconst 3, 1) := by decide +kernel
theorem dL_digit_2 : decode cL_digit 2 = .ok (.iload_n 0, 1) := by decide +kernel
theorem dL_digit_3 : decode cL_digit 3 = .ok (.iconst 1, 1) := by decide +kernel
theorem dL_digit_4 : decode cL_digit 4 = .ok (.isub, 1) := by decide +kernel
theorem dL_digit_5 : decode cL_digit 5 = .ok (.iload_n 3, 1) := by decide +kernel
theorem dL_digit_6 : decode cL_digit 6 = .ok (.isub, 1) := by decide +kernel
theorem dL_digit_7 : decode cL_digit 7 = .ok (.imul, 1) := by decide +kernel
theorem dL_digit_8 : decode cL_digit 8 = .ok (.lshr, 1) := by decide +kernel
theorem dL_digit_9 : decode cL_digit 9 = .ok (.ldc2_w 31, 3) := by decide +kernel
theorem dL_digit_12 : decode cL_digit 12 = .ok (.land, 1) := by decide +kernel
theorem dL_digit_13 : decode cL_digit 13 = .ok (.l2i, 1) := by decide +kernel
theorem dL_digit_14 : decode cL_digit 14 = .ok (.ireturn, 1) := by decide +kernel
theorem dL_sounds_0 : decode cL_sounds 0 = .ok (.iload_n 0, 1) := by decide +kernel
theorem dL_sounds_1 : decode cL_sounds 1 = .ok (.lload_n 1, 1) := by decide +kernel
theorem dL_sounds_2 : decode cL_sounds 2 = .ok (.iload_n 0, 1) := by decide +kernel
theorem dL_sounds_3 : decode cL_sounds 3 = .ok (.iconst 3, 1) := by decide +kernel
theorem dL_sounds_4 : decode cL_sounds 4 = .ok (.isub, 1) := by decide +kernel
theorem dL_sounds_5 : decode cL_sounds 5 = .ok (.invokestatic 33, 3) := by decide +kernel
theorem dL_sounds_8 : decode cL_sounds 8 = .ok (.iload_n 0, 1) := by decide +kernel
theorem dL_sounds_9 : decode cL_sounds 9 = .ok (.lload_n 1, 1) := by decide +kernel
theorem dL_sounds_10 : decode cL_sounds 10 = .ok (.iload_n 0, 1) := by decide +kernel
theorem dL_sounds_11 : decode cL_sounds 11 = .ok (.iconst 2, 1) := by decide +kernel
theorem dL_sounds_12 : decode cL_sounds 12 = .ok (.isub, 1) := by decide +kernel
theorem dL_sounds_13 : decode cL_sounds 13 = .ok (.invokestatic 33, 3) := by decide +kernel
theorem dL_sounds_16 : decode cL_sounds 16 = .ok (.if_icmp .ge 26, 3) := by decide +kernel
theorem dL_sounds_19 : decode cL_sounds 19 = .ok (.iload_n 0, 1) := by decide +kernel
theorem dL_sounds_20 : decode cL_sounds 20 = .ok (.lload_n 1, 1) := by decide +kernel
theorem dL_sounds_21 : decode cL_sounds 21 = .ok (.iload_n 0, 1) := by decide +kernel
theorem dL_sounds_22 : decode cL_sounds 22 = .ok (.iconst 2, 1) := by decide +kernel
theorem dL_sounds_23 : decode cL_sounds 23 = .ok (.isub, 1) := by decide +kernel
theorem dL_sounds_24 : decode cL_sounds 24 = .ok (.invokestatic 33, 3) := by decide +kernel
theorem dL_sounds_27 : decode cL_sounds 27 = .ok (.iload_n 0, 1) := by decide +kernel
theorem dL_sounds_28 : decode cL_sounds 28 = .ok (.lload_n 1, 1) := by decide +kernel
theorem dL_sounds_29 : decode cL_sounds 29 = .ok (.iload_n 0, 1) := by decide +kernel
theorem dL_sounds_30 : decode cL_sounds 30 = .ok (.iconst 1, 1) := by decide +kernel
theorem dL_sounds_31 : decode cL_sounds 31 = .ok (.isub, 1) := by decide +kernel
theorem dL_sounds_32 : decode cL_sounds 32 = .ok (.invokestatic 33, 3) := by decide +kernel
theorem dL_sounds_35 : decode cL_sounds 35 = .ok (.if_icmp .ge 7, 3) := by decide +kernel
theorem dL_sounds_38 : decode cL_sounds 38 = .ok (.iconst 1, 1) := by decide +kernel
theorem dL_sounds_39 : decode cL_sounds 39 = .ok (.goto 4, 3) := by decide +kernel
theorem dL_sounds_42 : decode cL_sounds 42 = .ok (.iconst 0, 1) := by decide +kernel
theorem dL_sounds_43 : decode cL_sounds 43 = .ok (.ireturn, 1) := by decide +kernel
theorem dL_first_0 : decode cL_first 0 = .ok (.iload_n 2, 1) := by decide +kernel
theorem dL_first_1 : decode cL_first 1 = .ok (.istore_n 3, 1) := by decide +kernel
theorem dL_first_2 : decode cL_first 2 = .ok (.aload_n 0, 1) := by decide +kernel
theorem dL_first_3 : decode cL_first 3 = .ok (.iload_n 3, 1) := by decide +kernel
theorem dL_first_4 : decode cL_first 4 = .ok (.invokestatic 37, 3) := by decide +kernel
theorem dL_first_7 : decode cL_first 7 = .ok (.aload_n 0, 1) := by decide +kernel
theorem dL_first_8 : decode cL_first 8 = .ok (.iload_n 1, 1) := by decide +kernel
theorem dL_first_9 : decode cL_first 9 = .ok (.invokestatic 37, 3) := by decide +kernel
theorem dL_first_12 : decode cL_first 12 = .ok (.lcmp, 1) := by decide +kernel
theorem dL_first_13 : decode cL_first 13 = .ok (.ifCond .eq 9, 3) := by decide +kernel
theorem dL_first_16 : decode cL_first 16 = .ok (.iinc 3 1, 3) := by decide +kernel
theorem dL_first_19 : decode cL_first 19 = .ok (.goto (-17), 3) := by decide +kernel
theorem dL_first_22 : decode cL_first 22 = .ok (.iload_n 3, 1) := by decide +kernel
theorem dL_first_23 : decode cL_first 23 = .ok (.ireturn, 1) := by decide +kernel
theorem dL_areRows_0 : decode cL_areRows 0 = .ok (.aload_n 1, 1) := by decide +kernel
theorem dL_areRows_1 : decode cL_areRows 1 = .ok (.iconst 0, 1) := by decide +kernel
theorem dL_areRows_2 : decode cL_areRows 2 = .ok (.iaload, 1) := by decide +kernel
theorem dL_areRows_3 : decode cL_areRows 3 = .ok (.istore 4, 2) := by decide +kernel
theorem dL_areRows_5 : decode cL_areRows 5 = .ok (.aload_n 1, 1) := by decide +kernel
theorem dL_areRows_6 : decode cL_areRows 6 = .ok (.iconst 1, 1) := by decide +kernel
theorem dL_areRows_7 : decode cL_areRows 7 = .ok (.iaload, 1) := by decide +kernel
theorem dL_areRows_8 : decode cL_areRows 8 = .ok (.aload_n 1, 1) := by decide +kernel
theorem dL_areRows_9 : decode cL_areRows 9 = .ok (.iconst 2, 1) := by decide +kernel
theorem dL_areRows_10 : decode cL_areRows 10 = .ok (.iaload, 1) := by decide +kernel
theorem dL_areRows_11 : decode cL_areRows 11 = .ok (.imul, 1) := by decide +kernel
theorem dL_areRows_12 : decode cL_areRows 12 = .ok (.istore 5, 2) := by decide +kernel
theorem dL_areRows_14 : decode cL_areRows 14 = .ok (.bipush (-4), 2) := by decide +kernel
theorem dL_areRows_16 : decode cL_areRows 16 = .ok (.istore 6, 2) := by decide +kernel
theorem dL_areRows_18 : decode cL_areRows 18 = .ok (.bipush (-4), 2) := by decide +kernel
theorem dL_areRows_20 : decode cL_areRows 20 = .ok (.istore 7, 2) := by decide +kernel
theorem dL_areRows_22 : decode cL_areRows 22 = .ok (.iconst 0, 1) := by decide +kernel
theorem dL_areRows_23 : decode cL_areRows 23 = .ok (.istore 8, 2) := by decide +kernel
theorem dL_areRows_25 : decode cL_areRows 25 = .ok (.iconst 0, 1) := by decide +kernel
theorem dL_areRows_26 : decode cL_areRows 26 = .ok (.istore 9, 2) := by decide +kernel
theorem dL_areRows_28 : decode cL_areRows 28 = .ok (.aload_n 0, 1) := by decide +kernel
theorem dL_areRows_29 : decode cL_areRows 29 = .ok (.iload 5, 2) := by decide +kernel
theorem dL_areRows_31 : decode cL_areRows 31 = .ok (.iconst 1, 1) := by decide +kernel
theorem dL_areRows_32 : decode cL_areRows 32 = .ok (.iadd, 1) := by decide +kernel
theorem dL_areRows_33 : decode cL_areRows 33 = .ok (.iconst 1, 1) := by decide +kernel
theorem dL_areRows_34 : decode cL_areRows 34 = .ok (.invokevirtual 41, 3) := by decide +kernel
theorem dL_areRows_37 : decode cL_areRows 37 = .ok (.iconst (-1), 1) := by decide +kernel
theorem dL_areRows_38 : decode cL_areRows 38 = .ok (.if_icmp .ne 53, 3) := by decide +kernel
theorem dL_areRows_41 : decode cL_areRows 41 = .ok (.aload_n 0, 1) := by decide +kernel
theorem dL_areRows_42 : decode cL_areRows 42 = .ok (.iconst (-1), 1) := by decide +kernel
theorem dL_areRows_43 : decode cL_areRows 43 = .ok (.iconst 1, 1) := by decide +kernel
theorem dL_areRows_44 : decode cL_areRows 44 = .ok (.invokevirtual 41, 3) := by decide +kernel
theorem dL_areRows_47 : decode cL_areRows 47 = .ok (.iconst (-1), 1) := by decide +kernel
theorem dL_areRows_48 : decode cL_areRows 48 = .ok (.if_icmp .ne 43, 3) := by decide +kernel
theorem dL_areRows_51 : decode cL_areRows 51 = .ok (.aload_n 0, 1) := by decide +kernel
theorem dL_areRows_52 : decode cL_areRows 52 = .ok (.iconst 0, 1) := by decide +kernel
theorem dL_areRows_53 : decode cL_areRows 53 = .ok (.iload 4, 2) := by decide +kernel
theorem dL_areRows_55 : decode cL_areRows 55 = .ok (.iconst 1, 1) := by decide +kernel
theorem dL_areRows_56 : decode cL_areRows 56 = .ok (.iadd, 1) := by decide +kernel
theorem dL_areRows_57 : decode cL_areRows 57 = .ok (.invokevirtual 41, 3) := by decide +kernel
theorem dL_areRows_60 : decode cL_areRows 60 = .ok (.iconst (-1), 1) := by decide +kernel
theorem dL_areRows_61 : decode cL_areRows 61 = .ok (.if_icmp .ne 30, 3) := by decide +kernel
theorem dL_areRows_64 : decode cL_areRows 64 = .ok (.aload_n 0, 1) := by decide +kernel
theorem dL_areRows_65 : decode cL_areRows 65 = .ok (.iconst 0, 1) := by decide +kernel
theorem dL_areRows_66 : decode cL_areRows 66 = .ok (.iconst 0, 1) := by decide +kernel
theorem dL_areRows_67 : decode cL_areRows 67 = .ok (.invokevirtual 41, 3) := by decide +kernel
theorem dL_areRows_70 : decode cL_areRows 70 = .ok (.iconst (-1), 1) := by decide +kernel
theorem dL_areRows_71 : decode cL_areRows 71 = .ok (.if_icmp .ne 20, 3) := by decide +kernel
theorem dL_areRows_74 : decode cL_areRows 74 = .ok (.aload_n 0, 1) := by decide +kernel
theorem dL_areRows_75 : decode cL_areRows 75 = .ok (.iload 5, 2) := by decide +kernel
theorem dL_areRows_77 : decode cL_areRows 77 = .ok (.iconst 1, 1) := by decide +kernel
theorem dL_areRows_78 : decode cL_areRows 78 = .ok (.iadd, 1) := by decide +kernel
theorem dL_areRows_79 : decode cL_areRows 79 = .ok (.iconst 0, 1) := by decide +kernel
theorem dL_areRows_80 : decode cL_areRows 80 = .ok (.invokevirtual 47, 3) := by decide +kernel
theorem dL_areRows_83 : decode cL_areRows 83 = .ok (.iconst (-1), 1) := by decide +kernel
theorem dL_areRows_84 : decode cL_areRows 84 = .ok (.if_icmp .ne 7, 3) := by decide +kernel
theorem dL_areRows_87 : decode cL_areRows 87 = .ok (.iconst 1, 1) := by decide +kernel
theorem dL_areRows_88 : decode cL_areRows 88 = .ok (.goto 4, 3) := by decide +kernel
theorem dL_areRows_91 : decode cL_areRows 91 = .ok (.iconst 0, 1) := by decide +kernel
theorem dL_areRows_92 : decode cL_areRows 92 = .ok (.istore 10, 2) := by decide +kernel
theorem dL_areRows_94 : decode cL_areRows 94 = .ok (.iconst 0, 1) := by decide +kernel
theorem dL_areRows_95 : decode cL_areRows 95 = .ok (.istore 11, 2) := by decide +kernel
theorem dL_areRows_97 : decode cL_areRows 97 = .ok (.iload 11, 2) := by decide +kernel
theorem dL_areRows_99 : decode cL_areRows 99 = .ok (.iload 5, 2) := by decide +kernel
theorem dL_areRows_101 : decode cL_areRows 101 = .ok (.if_icmp .gt 360, 3) := by decide +kernel
theorem dL_areRows_104 : decode cL_areRows 104 = .ok (.iload 10, 2) := by decide +kernel
theorem dL_areRows_106 : decode cL_areRows 106 = .ok (.ifCond .eq 355, 3) := by decide +kernel
theorem dL_areRows_109 : decode cL_areRows 109 = .ok (.aload_n 2, 1) := by decide +kernel
theorem dL_areRows_110 : decode cL_areRows 110 = .ok (.iload 11, 2) := by decide +kernel
theorem dL_areRows_112 : decode cL_areRows 112 = .ok (.invokestatic 37, 3) := by decide +kernel
theorem dL_areRows_115 : decode cL_areRows 115 = .ok (.lstore 12, 2) := by decide +kernel
theorem dL_areRows_117 : decode cL_areRows 117 = .ok (.iload 11, 2) := by decide +kernel
theorem dL_areRows_119 : decode cL_areRows 119 = .ok (.ifCond .le 101, 3) := by decide +kernel
theorem dL_areRows_122 : decode cL_areRows 122 = .ok (.iload 6, 2) := by decide +kernel
theorem dL_areRows_124 : decode cL_areRows 124 = .ok (.ifCond .ge 19, 3) := by decide +kernel
theorem dL_areRows_127 : decode cL_areRows 127 = .ok (.lload 12, 2) := by decide +kernel
theorem dL_areRows_129 : decode cL_areRows 129 = .ok (.aload_n 2, 1) := by decide +kernel
theorem dL_areRows_130 : decode cL_areRows 130 = .ok (.iconst 0, 1) := by decide +kernel
theorem dL_areRows_131 : decode cL_areRows 131 = .ok (.invokestatic 37, 3) := by decide +kernel
theorem dL_areRows_134 : decode cL_areRows 134 = .ok (.lcmp, 1) := by decide +kernel
theorem dL_areRows_135 : decode cL_areRows 135 = .ok (.ifCond .ne 8, 3) := by decide +kernel
theorem dL_areRows_138 : decode cL_areRows 138 = .ok (.iload 11, 2) := by decide +kernel
theorem dL_areRows_140 : decode cL_areRows 140 = .ok (.goto 5, 3) := by decide +kernel
theorem dL_areRows_143 : decode cL_areRows 143 = .ok (.iload 6, 2) := by decide +kernel
theorem dL_areRows_145 : decode cL_areRows 145 = .ok (.istore 6, 2) := by decide +kernel
theorem dL_areRows_147 : decode cL_areRows 147 = .ok (.aload_n 2, 1) := by decide +kernel
theorem dL_areRows_148 : decode cL_areRows 148 = .ok (.iload 11, 2) := by decide +kernel
theorem dL_areRows_150 : decode cL_areRows 150 = .ok (.iconst 1, 1) := by decide +kernel
theorem dL_areRows_151 : decode cL_areRows 151 = .ok (.invokestatic 50, 3) := by decide +kernel
theorem dL_areRows_154 : decode cL_areRows 154 = .ok (.iload 11, 2) := by decide +kernel
theorem dL_areRows_156 : decode cL_areRows 156 = .ok (.if_icmp .ge 7, 3) := by decide +kernel
theorem dL_areRows_159 : decode cL_areRows 159 = .ok (.iconst 1, 1) := by decide +kernel
theorem dL_areRows_160 : decode cL_areRows 160 = .ok (.goto 4, 3) := by decide +kernel
theorem dL_areRows_163 : decode cL_areRows 163 = .ok (.iconst 0, 1) := by decide +kernel
theorem dL_areRows_164 : decode cL_areRows 164 = .ok (.istore 14, 2) := by decide +kernel
theorem dL_areRows_166 : decode cL_areRows 166 = .ok (.iload 7, 2) := by decide +kernel
theorem dL_areRows_168 : decode cL_areRows 168 = .ok (.ifCond .ge 13, 3) := by decide +kernel
theorem dL_areRows_171 : decode cL_areRows 171 = .ok (.iload 14, 2) := by decide +kernel
theorem dL_areRows_173 : decode cL_areRows 173 = .ok (.ifCond .eq 8, 3) := by decide +kernel
theorem dL_areRows_176 : decode cL_areRows 176 = .ok (.iload 11, 2) := by decide +kernel
theorem dL_areRows_178 : decode cL_areRows 178 = .ok (.goto 5, 3) := by decide +kernel
theorem dL_areRows_181 : decode cL_areRows 181 = .ok (.iload 7, 2) := by decide +kernel
theorem dL_areRows_183 : decode cL_areRows 183 = .ok (.istore 7, 2) := by decide +kernel
theorem dL_areRows_185 : decode cL_areRows 185 = .ok (.iload 8, 2) := by decide +kernel
theorem dL_areRows_187 : decode cL_areRows 187 = .ok (.iload 14, 2) := by decide +kernel
theorem dL_areRows_189 : decode cL_areRows 189 = .ok (.ifCond .eq 7, 3) := by decide +kernel
theorem dL_areRows_192 : decode cL_areRows 192 = .ok (.iconst 0, 1) := by decide +kernel
theorem dL_areRows_193 : decode cL_areRows 193 = .ok (.goto 4, 3) := by decide +kernel
theorem dL_areRows_196 : decode cL_areRows 196 = .ok (.iconst 1, 1) := by decide +kernel
theorem dL_areRows_197 : decode cL_areRows 197 = .ok (.iadd, 1) := by decide +kernel
theorem dL_areRows_198 : decode cL_areRows 198 = .ok (.istore 8, 2) := by decide +kernel
theorem dL_areRows_200 : decode cL_areRows 200 = .ok (.iload 9, 2) := by decide +kernel
theorem dL_areRows_202 : decode cL_areRows 202 = .ok (.iload 4, 2) := by decide +kernel
theorem dL_areRows_204 : decode cL_areRows 204 = .ok (.lload 12, 2) := by decide +kernel
theorem dL_areRows_206 : decode cL_areRows 206 = .ok (.invokestatic 54, 3) := by decide +kernel
theorem dL_areRows_209 : decode cL_areRows 209 = .ok (.ifCond .eq 7, 3) := by decide +kernel
theorem dL_areRows_212 : decode cL_areRows 212 = .ok (.iconst 1, 1) := by decide +kernel
theorem dL_areRows_213 : decode cL_areRows 213 = .ok (.goto 4, 3) := by decide +kernel
theorem dL_areRows_216 : decode cL_areRows 216 = .ok (.iconst 0, 1) := by decide +kernel
theorem dL_areRows_217 : decode cL_areRows 217 = .ok (.iadd, 1) := by decide +kernel
theorem dL_areRows_218 : decode cL_areRows 218 = .ok (.istore 9, 2) := by decide +kernel
theorem dL_areRows_220 : decode cL_areRows 220 = .ok (.iload 11, 2) := by decide +kernel
theorem dL_areRows_222 : decode cL_areRows 222 = .ok (.bipush 9, 2) := by decide +kernel
theorem dL_areRows_224 : decode cL_areRows 224 = .ok (.irem, 1) := by decide +kernel
theorem dL_areRows_225 : decode cL_areRows 225 = .ok (.iload_n 3, 1) := by decide +kernel
theorem dL_areRows_226 : decode cL_areRows 226 = .ok (.if_icmp .eq 10, 3) := by decide +kernel
theorem dL_areRows_229 : decode cL_areRows 229 = .ok (.iload 11, 2) := by decide +kernel
theorem dL_areRows_231 : decode cL_areRows 231 = .ok (.iload 5, 2) := by decide +kernel
theorem dL_areRows_233 : decode cL_areRows 233 = .ok (.if_icmp .ne 222, 3) := by decide +kernel
theorem dL_areRows_236 : decode cL_areRows 236 = .ok (.iconst 0, 1) := by decide +kernel
theorem dL_areRows_237 : decode cL_areRows 237 = .ok (.istore 14, 2) := by decide +kernel
theorem dL_areRows_239 : decode cL_areRows 239 = .ok (.iconst 0, 1) := by decide +kernel
theorem dL_areRows_240 : decode cL_areRows 240 = .ok (.istore 15, 2) := by decide +kernel
theorem dL_areRows_242 : decode cL_areRows 242 = .ok (.iconst 0, 1) := by decide +kernel
theorem dL_areRows_243 : decode cL_areRows 243 = .ok (.istore 16, 2) := by decide +kernel
theorem dL_areRows_245 : decode cL_areRows 245 = .ok (.iload 16, 2) := by decide +kernel
theorem dL_areRows_247 : decode cL_areRows 247 = .ok (.iload 4, 2) := by decide +kernel
theorem dL_areRows_249 : decode cL_areRows 249 = .ok (.if_icmp .ge 116, 3) := by decide +kernel
theorem dL_areRows_252 : decode cL_areRows 252 = .ok (.iload 10, 2) := by decide +kernel
theorem dL_areRows_254 : decode cL_areRows 254 = .ok (.ifCond .eq 29, 3) := by decide +kernel
theorem dL_areRows_257 : decode cL_areRows 257 = .ok (.aload_n 0, 1) := by decide +kernel
theorem dL_areRows_258 : decode cL_areRows 258 = .ok (.iload 11, 2) := by decide +kernel
theorem dL_areRows_260 : decode cL_areRows 260 = .ok (.iload 16, 2) := by decide +kernel
theorem dL_areRows_262 : decode cL_areRows 262 = .ok (.iconst 1, 1) := by decide +kernel
theorem dL_areRows_263 : decode cL_areRows 263 = .ok (.iadd, 1) := by decide +kernel
theorem dL_areRows_264 : decode cL_areRows 264 = .ok (.invokevirtual 41, 3) := by decide +kernel
theorem dL_areRows_267 : decode cL_areRows 267 = .ok (.iload 4, 2) := by decide +kernel
theorem dL_areRows_269 : decode cL_areRows 269 = .ok (.lload 12, 2) := by decide +kernel
theorem dL_areRows_271 : decode cL_areRows 271 = .ok (.iload 16, 2) := by decide +kernel
theorem dL_areRows_273 : decode cL_areRows 273 = .ok (.invokestatic 33, 3) := by decide +kernel
theorem dL_areRows_276 : decode cL_areRows 276 = .ok (.if_icmp .ne 7, 3) := by decide +kernel
theorem dL_areRows_279 : decode cL_areRows 279 = .ok (.iconst 1, 1) := by decide +kernel
theorem dL_areRows_280 : decode cL_areRows 280 = .ok (.goto 4, 3) := by decide +kernel
theorem dL_areRows_283 : decode cL_areRows 283 = .ok (.iconst 0, 1) := by decide +kernel
theorem dL_areRows_284 : decode cL_areRows 284 = .ok (.istore 10, 2) := by decide +kernel
theorem dL_areRows_286 : decode cL_areRows 286 = .ok (.iload 15, 2) := by decide +kernel
theorem dL_areRows_288 : decode cL_areRows 288 = .ok (.iload 4, 2) := by decide +kernel
theorem dL_areRows_290 : decode cL_areRows 290 = .ok (.lload 12, 2) := by decide +kernel
theorem dL_areRows_292 : decode cL_areRows 292 = .ok (.iload 16, 2) := by decide +kernel
theorem dL_areRows_294 : decode cL_areRows 294 = .ok (.invokestatic 33, 3) := by decide +kernel
theorem dL_areRows_297 : decode cL_areRows 297 = .ok (.iload 16, 2) := by decide +kernel
theorem dL_areRows_299 : decode cL_areRows 299 = .ok (.iconst 1, 1) := by decide +kernel
theorem dL_areRows_300 : decode cL_areRows 300 = .ok (.iadd, 1) := by decide +kernel
theorem dL_areRows_301 : decode cL_areRows 301 = .ok (.if_icmp .ne 7, 3) := by decide +kernel
theorem dL_areRows_304 : decode cL_areRows 304 = .ok (.iconst 1, 1) := by decide +kernel
theorem dL_areRows_305 : decode cL_areRows 305 = .ok (.goto 4, 3) := by decide +kernel
theorem dL_areRows_308 : decode cL_areRows 308 = .ok (.iconst 0, 1) := by decide +kernel
theorem dL_areRows_309 : decode cL_areRows 309 = .ok (.iadd, 1) := by decide +kernel
theorem dL_areRows_310 : decode cL_areRows 310 = .ok (.istore 15, 2) := by decide +kernel
theorem dL_areRows_312 : decode cL_areRows 312 = .ok (.iconst 0, 1) := by decide +kernel
theorem dL_areRows_313 : decode cL_areRows 313 = .ok (.istore 17, 2) := by decide +kernel
theorem dL_areRows_315 : decode cL_areRows 315 = .ok (.iload 17, 2) := by decide +kernel
theorem dL_areRows_317 : decode cL_areRows 317 = .ok (.iload 16, 2) := by decide +kernel
theorem dL_areRows_319 : decode cL_areRows 319 = .ok (.if_icmp .ge 40, 3) := by decide +kernel
theorem dL_areRows_322 : decode cL_areRows 322 = .ok (.iload 14, 2) := by decide +kernel
theorem dL_areRows_324 : decode cL_areRows 324 = .ok (.iload 4, 2) := by decide +kernel
theorem dL_areRows_326 : decode cL_areRows 326 = .ok (.lload 12, 2) := by decide +kernel
theorem dL_areRows_328 : decode cL_areRows 328 = .ok (.iload 17, 2) := by decide +kernel
theorem dL_areRows_330 : decode cL_areRows 330 = .ok (.invokestatic 33, 3) := by decide +kernel
theorem dL_areRows_333 : decode cL_areRows 333 = .ok (.iload 4, 2) := by decide +kernel
theorem dL_areRows_335 : decode cL_areRows 335 = .ok (.lload 12, 2) := by decide +kernel
theorem dL_areRows_337 : decode cL_areRows 337 = .ok (.iload 16, 2) := by decide +kernel
theorem dL_areRows_339 : decode cL_areRows 339 = .ok (.invokestatic 33, 3) := by decide +kernel
theorem dL_areRows_342 : decode cL_areRows 342 = .ok (.if_icmp .le 7, 3) := by decide +kernel
theorem dL_areRows_345 : decode cL_areRows 345 = .ok (.iconst 1, 1) := by decide +kernel
theorem dL_areRows_346 : decode cL_areRows 346 = .ok (.goto 4, 3) := by decide +kernel
theorem dL_areRows_349 : decode cL_areRows 349 = .ok (.iconst 0, 1) := by decide +kernel
theorem dL_areRows_350 : decode cL_areRows 350 = .ok (.ixor, 1) := by decide +kernel
theorem dL_areRows_351 : decode cL_areRows 351 = .ok (.istore 14, 2) := by decide +kernel
theorem dL_areRows_353 : decode cL_areRows 353 = .ok (.iinc 17 1, 3) := by decide +kernel
theorem dL_areRows_356 : decode cL_areRows 356 = .ok (.goto (-41), 3) := by decide +kernel
theorem dL_areRows_359 : decode cL_areRows 359 = .ok (.iinc 16 1, 3) := by decide +kernel
theorem dL_areRows_362 : decode cL_areRows 362 = .ok (.goto (-117), 3) := by decide +kernel
theorem dL_areRows_365 : decode cL_areRows 365 = .ok (.iload 10, 2) := by decide +kernel
theorem dL_areRows_367 : decode cL_areRows 367 = .ok (.ifCond .eq 85, 3) := by decide +kernel
theorem dL_areRows_370 : decode cL_areRows 370 = .ok (.aload_n 0, 1) := by decide +kernel
theorem dL_areRows_371 : decode cL_areRows 371 = .ok (.iload 11, 2) := by decide +kernel
theorem dL_areRows_373 : decode cL_areRows 373 = .ok (.iconst 0, 1) := by decide +kernel
theorem dL_areRows_374 : decode cL_areRows 374 = .ok (.invokevirtual 47, 3) := by decide +kernel
theorem dL_areRows_377 : decode cL_areRows 377 = .ok (.iload 14, 2) := by decide +kernel
theorem dL_areRows_379 : decode cL_areRows 379 = .ok (.if_icmp .ne 73, 3) := by decide +kernel
theorem dL_areRows_382 : decode cL_areRows 382 = .ok (.aload_n 0, 1) := by decide +kernel
theorem dL_areRows_383 : decode cL_areRows 383 = .ok (.iload 11, 2) := by decide +kernel
theorem dL_areRows_385 : decode cL_areRows 385 = .ok (.iconst 1, 1) := by decide +kernel
theorem dL_areRows_386 : decode cL_areRows 386 = .ok (.invokevirtual 47, 3) := by decide +kernel
theorem dL_areRows_389 : decode cL_areRows 389 = .ok (.iload 14, 2) := by decide +kernel
theorem dL_areRows_391 : decode cL_areRows 391 = .ok (.if_icmp .ne 61, 3) := by decide +kernel
theorem dL_areRows_394 : decode cL_areRows 394 = .ok (.aload_n 0, 1) := by decide +kernel
theorem dL_areRows_395 : decode cL_areRows 395 = .ok (.iload 11, 2) := by decide +kernel
theorem dL_areRows_397 : decode cL_areRows 397 = .ok (.iconst 2, 1) := by decide +kernel
theorem dL_areRows_398 : decode cL_areRows 398 = .ok (.invokevirtual 47, 3) := by decide +kernel
theorem dL_areRows_401 : decode cL_areRows 401 = .ok (.iload 4, 2) := by decide +kernel
theorem dL_areRows_403 : decode cL_areRows 403 = .ok (.lload 12, 2) := by decide +kernel
theorem dL_areRows_405 : decode cL_areRows 405 = .ok (.invokestatic 54, 3) := by decide +kernel
theorem dL_areRows_408 : decode cL_areRows 408 = .ok (.ifCond .eq 7, 3) := by decide +kernel
theorem dL_areRows_411 : decode cL_areRows 411 = .ok (.iconst 1, 1) := by decide +kernel
theorem dL_areRows_412 : decode cL_areRows 412 = .ok (.goto 4, 3) := by decide +kernel
theorem dL_areRows_415 : decode cL_areRows 415 = .ok (.iconst 0, 1) := by decide +kernel
theorem dL_areRows_416 : decode cL_areRows 416 = .ok (.if_icmp .ne 36, 3) := by decide +kernel
theorem dL_areRows_419 : decode cL_areRows 419 = .ok (.aload_n 0, 1) := by decide +kernel
theorem dL_areRows_420 : decode cL_areRows 420 = .ok (.iload 11, 2) := by decide +kernel
theorem dL_areRows_422 : decode cL_areRows 422 = .ok (.iconst 3, 1) := by decide +kernel
theorem dL_areRows_423 : decode cL_areRows 423 = .ok (.invokevirtual 47, 3) := by decide +kernel
theorem dL_areRows_426 : decode cL_areRows 426 = .ok (.iload 15, 2) := by decide +kernel
theorem dL_areRows_428 : decode cL_areRows 428 = .ok (.if_icmp .ne 24, 3) := by decide +kernel
theorem dL_areRows_431 : decode cL_areRows 431 = .ok (.aload_n 0, 1) := by decide +kernel
theorem dL_areRows_432 : decode cL_areRows 432 = .ok (.iload 11, 2) := by decide +kernel
theorem dL_areRows_434 : decode cL_areRows 434 = .ok (.iconst 4, 1) := by decide +kernel
theorem dL_areRows_435 : decode cL_areRows 435 = .ok (.invokevirtual 47, 3) := by decide +kernel
theorem dL_areRows_438 : decode cL_areRows 438 = .ok (.aload_n 2, 1) := by decide +kernel
theorem dL_areRows_439 : decode cL_areRows 439 = .ok (.iload 11, 2) := by decide +kernel
theorem dL_areRows_441 : decode cL_areRows 441 = .ok (.iconst 0, 1) := by decide +kernel
theorem dL_areRows_442 : decode cL_areRows 442 = .ok (.invokestatic 50, 3) := by decide +kernel
theorem dL_areRows_445 : decode cL_areRows 445 = .ok (.if_icmp .ne 7, 3) := by decide +kernel
theorem dL_areRows_448 : decode cL_areRows 448 = .ok (.iconst 1, 1) := by decide +kernel
theorem dL_areRows_449 : decode cL_areRows 449 = .ok (.goto 4, 3) := by decide +kernel
theorem dL_areRows_452 : decode cL_areRows 452 = .ok (.iconst 0, 1) := by decide +kernel
theorem dL_areRows_453 : decode cL_areRows 453 = .ok (.istore 10, 2) := by decide +kernel
theorem dL_areRows_455 : decode cL_areRows 455 = .ok (.iinc 11 1, 3) := by decide +kernel
theorem dL_areRows_458 : decode cL_areRows 458 = .ok (.goto (-361), 3) := by decide +kernel
theorem dL_areRows_461 : decode cL_areRows 461 = .ok (.iload 10, 2) := by decide +kernel
theorem dL_areRows_463 : decode cL_areRows 463 = .ok (.ifCond .eq 102, 3) := by decide +kernel
theorem dL_areRows_466 : decode cL_areRows 466 = .ok (.aload_n 0, 1) := by decide +kernel
theorem dL_areRows_467 : decode cL_areRows 467 = .ok (.iconst 3, 1) := by decide +kernel
theorem dL_areRows_468 : decode cL_areRows 468 = .ok (.invokevirtual 58, 3) := by decide +kernel
theorem dL_areRows_471 : decode cL_areRows 471 = .ok (.iload 5, 2) := by decide +kernel
theorem dL_areRows_473 : decode cL_areRows 473 = .ok (.if_icmp .ne 92, 3) := by decide +kernel
theorem dL_areRows_476 : decode cL_areRows 476 = .ok (.aload_n 0, 1) := by decide +kernel
theorem dL_areRows_477 : decode cL_areRows 477 = .ok (.iconst 4, 1) := by decide +kernel
theorem dL_areRows_478 : decode cL_areRows 478 = .ok (.invokevirtual 58, 3) := by decide +kernel
theorem dL_areRows_481 : decode cL_areRows 481 = .ok (.iload 6, 2) := by decide +kernel
theorem dL_areRows_483 : decode cL_areRows 483 = .ok (.if_icmp .ne 82, 3) := by decide +kernel
theorem dL_areRows_486 : decode cL_areRows 486 = .ok (.aload_n 0, 1) := by decide +kernel
theorem dL_areRows_487 : decode cL_areRows 487 = .ok (.iconst 5, 1) := by decide +kernel
theorem dL_areRows_488 : decode cL_areRows 488 = .ok (.invokevirtual 58, 3) := by decide +kernel
theorem dL_areRows_491 : decode cL_areRows 491 = .ok (.iload 7, 2) := by decide +kernel
theorem dL_areRows_493 : decode cL_areRows 493 = .ok (.ifCond .ge 7, 3) := by decide +kernel
theorem dL_areRows_496 : decode cL_areRows 496 = .ok (.iconst 1, 1) := by decide +kernel
theorem dL_areRows_497 : decode cL_areRows 497 = .ok (.goto 4, 3) := by decide +kernel
theorem dL_areRows_500 : decode cL_areRows 500 = .ok (.iconst 0, 1) := by decide +kernel
theorem dL_areRows_501 : decode cL_areRows 501 = .ok (.if_icmp .ne 64, 3) := by decide +kernel
theorem dL_areRows_504 : decode cL_areRows 504 = .ok (.aload_n 0, 1) := by decide +kernel
theorem dL_areRows_505 : decode cL_areRows 505 = .ok (.bipush 6, 2) := by decide +kernel
theorem dL_areRows_507 : decode cL_areRows 507 = .ok (.invokevirtual 58, 3) := by decide +kernel
theorem dL_areRows_510 : decode cL_areRows 510 = .ok (.iload 7, 2) := by decide +kernel
theorem dL_areRows_512 : decode cL_areRows 512 = .ok (.if_icmp .ne 53, 3) := by decide +kernel
theorem dL_areRows_515 : decode cL_areRows 515 = .ok (.aload_n 0, 1) := by decide +kernel
theorem dL_areRows_516 : decode cL_areRows 516 = .ok (.bipush 7, 2) := by decide +kernel
theorem dL_areRows_518 : decode cL_areRows 518 = .ok (.invokevirtual 58, 3) := by decide +kernel
theorem dL_areRows_521 : decode cL_areRows 521 = .ok (.iload 8, 2) := by decide +kernel
theorem dL_areRows_523 : decode cL_areRows 523 = .ok (.if_icmp .ne 42, 3) := by decide +kernel
theorem dL_areRows_526 : decode cL_areRows 526 = .ok (.aload_n 0, 1) := by decide +kernel
theorem dL_areRows_527 : decode cL_areRows 527 = .ok (.bipush 9, 2) := by decide +kernel
theorem dL_areRows_529 : decode cL_areRows 529 = .ok (.invokevirtual 58, 3) := by decide +kernel
theorem dL_areRows_532 : decode cL_areRows 532 = .ok (.iload 9, 2) := by decide +kernel
theorem dL_areRows_534 : decode cL_areRows 534 = .ok (.if_icmp .ne 31, 3) := by decide +kernel
theorem dL_areRows_537 : decode cL_areRows 537 = .ok (.aload_n 0, 1) := by decide +kernel
theorem dL_areRows_538 : decode cL_areRows 538 = .ok (.invokevirtual 62, 3) := by decide +kernel
theorem dL_areRows_541 : decode cL_areRows 541 = .ok (.iload 5, 2) := by decide +kernel
theorem dL_areRows_543 : decode cL_areRows 543 = .ok (.ifCond .ne 7, 3) := by decide +kernel
theorem dL_areRows_546 : decode cL_areRows 546 = .ok (.dconst 0, 1) := by decide +kernel
theorem dL_areRows_547 : decode cL_areRows 547 = .ok (.goto 10, 3) := by decide +kernel
theorem dL_areRows_550 : decode cL_areRows 550 = .ok (.iload 9, 2) := by decide +kernel
theorem dL_areRows_552 : decode cL_areRows 552 = .ok (.i2d, 1) := by decide +kernel
theorem dL_areRows_553 : decode cL_areRows 553 = .ok (.iload 5, 2) := by decide +kernel
theorem dL_areRows_555 : decode cL_areRows 555 = .ok (.i2d, 1) := by decide +kernel
theorem dL_areRows_556 : decode cL_areRows 556 = .ok (.ddiv, 1) := by decide +kernel
theorem dL_areRows_557 : decode cL_areRows 557 = .ok (.dcmp .l, 1) := by decide +kernel
theorem dL_areRows_558 : decode cL_areRows 558 = .ok (.ifCond .ne 7, 3) := by decide +kernel
theorem dL_areRows_561 : decode cL_areRows 561 = .ok (.iconst 1, 1) := by decide +kernel
theorem dL_areRows_562 : decode cL_areRows 562 = .ok (.goto 4, 3) := by decide +kernel
theorem dL_areRows_565 : decode cL_areRows 565 = .ok (.iconst 0, 1) := by decide +kernel
theorem dL_areRows_566 : decode cL_areRows 566 = .ok (.ireturn, 1) := by decide +kernel
theorem dL_areLeads_0 : decode cL_areLeads 0 = .ok (.iconst 0, 1) := by decide +kernel
theorem dL_areLeads_1 : decode cL_areLeads 1 = .ok (.istore 6, 2) := by decide +kernel
theorem dL_areLeads_3 : decode cL_areLeads 3 = .ok (.iconst 0, 1) := by decide +kernel
theorem dL_areLeads_4 : decode cL_areLeads 4 = .ok (.istore 7, 2) := by decide +kernel
theorem dL_areLeads_6 : decode cL_areLeads 6 = .ok (.aload_n 0, 1) := by decide +kernel
theorem dL_areLeads_7 : decode cL_areLeads 7 = .ok (.iconst 0, 1) := by decide +kernel
theorem dL_areLeads_8 : decode cL_areLeads 8 = .ok (.invokevirtual 58, 3) := by decide +kernel
theorem dL_areLeads_11 : decode cL_areLeads 11 = .ok (.aload_n 1, 1) := by decide +kernel
theorem dL_areLeads_12 : decode cL_areLeads 12 = .ok (.iconst 0, 1) := by decide +kernel
theorem dL_areLeads_13 : decode cL_areLeads 13 = .ok (.iaload, 1) := by decide +kernel
theorem dL_areLeads_14 : decode cL_areLeads 14 = .ok (.if_icmp .ne 99, 3) := by decide +kernel
theorem dL_areLeads_17 : decode cL_areLeads 17 = .ok (.aload_n 0, 1) := by decide +kernel
theorem dL_areLeads_18 : decode cL_areLeads 18 = .ok (.iconst 1, 1) := by decide +kernel
theorem dL_areLeads_19 : decode cL_areLeads 19 = .ok (.invokevirtual 58, 3) := by decide +kernel
theorem dL_areLeads_22 : decode cL_areLeads 22 = .ok (.aload_n 1, 1) := by decide +kernel
theorem dL_areLeads_23 : decode cL_areLeads 23 = .ok (.iconst 1, 1) := by decide +kernel
theorem dL_areLeads_24 : decode cL_areLeads 24 = .ok (.iaload, 1) := by decide +kernel
theorem dL_areLeads_25 : decode cL_areLeads 25 = .ok (.if_icmp .ne 88, 3) := by decide +kernel
theorem dL_areLeads_28 : decode cL_areLeads 28 = .ok (.aload_n 0, 1) := by decide +kernel
theorem dL_areLeads_29 : decode cL_areLeads 29 = .ok (.iconst 2, 1) := by decide +kernel
theorem dL_areLeads_30 : decode cL_areLeads 30 = .ok (.invokevirtual 58, 3) := by decide +kernel
theorem dL_areLeads_33 : decode cL_areLeads 33 = .ok (.aload_n 1, 1) := by decide +kernel
theorem dL_areLeads_34 : decode cL_areLeads 34 = .ok (.iconst 2, 1) := by decide +kernel
theorem dL_areLeads_35 : decode cL_areLeads 35 = .ok (.iaload, 1) := by decide +kernel
theorem dL_areLeads_36 : decode cL_areLeads 36 = .ok (.if_icmp .ne 77, 3) := by decide +kernel
theorem dL_areLeads_39 : decode cL_areLeads 39 = .ok (.aload_n 0, 1) := by decide +kernel
theorem dL_areLeads_40 : decode cL_areLeads 40 = .ok (.bipush 12, 2) := by decide +kernel
theorem dL_areLeads_42 : decode cL_areLeads 42 = .ok (.invokevirtual 58, 3) := by decide +kernel
theorem dL_areLeads_45 : decode cL_areLeads 45 = .ok (.aload_n 3, 1) := by decide +kernel
theorem dL_areLeads_46 : decode cL_areLeads 46 = .ok (.iconst 1, 1) := by decide +kernel
theorem dL_areLeads_47 : decode cL_areLeads 47 = .ok (.iaload, 1) := by decide +kernel
theorem dL_areLeads_48 : decode cL_areLeads 48 = .ok (.if_icmp .ne 65, 3) := by decide +kernel
theorem dL_areLeads_51 : decode cL_areLeads 51 = .ok (.aload_n 0, 1) := by decide +kernel
theorem dL_areLeads_52 : decode cL_areLeads 52 = .ok (.bipush 13, 2) := by decide +kernel
theorem dL_areLeads_54 : decode cL_areLeads 54 = .ok (.invokevirtual 58, 3) := by decide +kernel
theorem dL_areLeads_57 : decode cL_areLeads 57 = .ok (.aload_n 3, 1) := by decide +kernel
theorem dL_areLeads_58 : decode cL_areLeads 58 = .ok (.iconst 2, 1) := by decide +kernel
theorem dL_areLeads_59 : decode cL_areLeads 59 = .ok (.iaload, 1) := by decide +kernel
theorem dL_areLeads_60 : decode cL_areLeads 60 = .ok (.if_icmp .ne 53, 3) := by decide +kernel
theorem dL_areLeads_63 : decode cL_areLeads 63 = .ok (.aload_n 0, 1) := by decide +kernel
theorem dL_areLeads_64 : decode cL_areLeads 64 = .ok (.aload_n 1, 1) := by decide +kernel
theorem dL_areLeads_65 : decode cL_areLeads 65 = .ok (.iconst 2, 1) := by decide +kernel
theorem dL_areLeads_66 : decode cL_areLeads 66 = .ok (.iaload, 1) := by decide +kernel
theorem dL_areLeads_67 : decode cL_areLeads 67 = .ok (.iconst 0, 1) := by decide +kernel
theorem dL_areLeads_68 : decode cL_areLeads 68 = .ok (.invokevirtual 66, 3) := by decide +kernel
theorem dL_areLeads_71 : decode cL_areLeads 71 = .ok (.iconst (-1), 1) := by decide +kernel
theorem dL_areLeads_72 : decode cL_areLeads 72 = .ok (.if_icmp .ne 41, 3) := by decide +kernel
theorem dL_areLeads_75 : decode cL_areLeads 75 = .ok (.aload_n 0, 1) := by decide +kernel
theorem dL_areLeads_76 : decode cL_areLeads 76 = .ok (.bipush (-2), 2) := by decide +kernel
theorem dL_areLeads_78 : decode cL_areLeads 78 = .ok (.iconst 0, 1) := by decide +kernel
theorem dL_areLeads_79 : decode cL_areLeads 79 = .ok (.invokevirtual 66, 3) := by decide +kernel
theorem dL_areLeads_82 : decode cL_areLeads 82 = .ok (.iconst (-1), 1) := by decide +kernel
theorem dL_areLeads_83 : decode cL_areLeads 83 = .ok (.if_icmp .ne 30, 3) := by decide +kernel
theorem dL_areLeads_86 : decode cL_areLeads 86 = .ok (.aload_n 0, 1) := by decide +kernel
theorem dL_areLeads_87 : decode cL_areLeads 87 = .ok (.iconst (-1), 1) := by decide +kernel
theorem dL_areLeads_88 : decode cL_areLeads 88 = .ok (.aload_n 1, 1) := by decide +kernel
theorem dL_areLeads_89 : decode cL_areLeads 89 = .ok (.iconst 1, 1) := by decide +kernel
theorem dL_areLeads_90 : decode cL_areLeads 90 = .ok (.iaload, 1) := by decide +kernel
theorem dL_areLeads_91 : decode cL_areLeads 91 = .ok (.invokevirtual 66, 3) := by decide +kernel
theorem dL_areLeads_94 : decode cL_areLeads 94 = .ok (.bipush (-4), 2) := by decide +kernel
theorem dL_areLeads_96 : decode cL_areLeads 96 = .ok (.if_icmp .ne 17, 3) := by decide +kernel
theorem dL_areLeads_99 : decode cL_areLeads 99 = .ok (.aload_n 0, 1) := by decide +kernel
theorem dL_areLeads_100 : decode cL_areLeads 100 = .ok (.iconst (-1), 1) := by decide +kernel
theorem dL_areLeads_101 : decode cL_areLeads 101 = .ok (.iconst (-1), 1) := by decide +kernel
theorem dL_areLeads_102 : decode cL_areLeads 102 = .ok (.invokevirtual 66, 3) := by decide +kernel
theorem dL_areLeads_105 : decode cL_areLeads 105 = .ok (.iconst (-1), 1) := by decide +kernel
theorem dL_areLeads_106 : decode cL_areLeads 106 = .ok (.if_icmp .ne 7, 3) := by decide +kernel
theorem dL_areLeads_109 : decode cL_areLeads 109 = .ok (.iconst 1, 1) := by decide +kernel
theorem dL_areLeads_110 : decode cL_areLeads 110 = .ok (.goto 4, 3) := by decide +kernel
theorem dL_areLeads_113 : decode cL_areLeads 113 = .ok (.iconst 0, 1) := by decide +kernel
theorem dL_areLeads_114 : decode cL_areLeads 114 = .ok (.istore 8, 2) := by decide +kernel
theorem dL_areLeads_116 : decode cL_areLeads 116 = .ok (.iconst 0, 1) := by decide +kernel
theorem dL_areLeads_117 : decode cL_areLeads 117 = .ok (.istore 9, 2) := by decide +kernel
theorem dL_areLeads_119 : decode cL_areLeads 119 = .ok (.iload 9, 2) := by decide +kernel
theorem dL_areLeads_121 : decode cL_areLeads 121 = .ok (.aload_n 1, 1) := by decide +kernel
theorem dL_areLeads_122 : decode cL_areLeads 122 = .ok (.iconst 2, 1) := by decide +kernel
theorem dL_areLeads_123 : decode cL_areLeads 123 = .ok (.iaload, 1) := by decide +kernel
theorem dL_areLeads_124 : decode cL_areLeads 124 = .ok (.if_icmp .ge 208, 3) := by decide +kernel
theorem dL_areLeads_127 : decode cL_areLeads 127 = .ok (.iload 7, 2) := by decide +kernel
theorem dL_areLeads_129 : decode cL_areLeads 129 = .ok (.aload 4, 2) := by decide +kernel
theorem dL_areLeads_131 : decode cL_areLeads 131 = .ok (.iload 9, 2) := by decide +kernel
theorem dL_areLeads_133 : decode cL_areLeads 133 = .ok (.iaload, 1) := by decide +kernel
theorem dL_areLeads_134 : decode cL_areLeads 134 = .ok (.ifCond .le 7, 3) := by decide +kernel
theorem dL_areLeads_137 : decode cL_areLeads 137 = .ok (.iconst 1, 1) := by decide +kernel
theorem dL_areLeads_138 : decode cL_areLeads 138 = .ok (.goto 4, 3) := by decide +kernel
theorem dL_areLeads_141 : decode cL_areLeads 141 = .ok (.iconst 0, 1) := by decide +kernel
theorem dL_areLeads_142 : decode cL_areLeads 142 = .ok (.iadd, 1) := by decide +kernel
theorem dL_areLeads_143 : decode cL_areLeads 143 = .ok (.istore 7, 2) := by decide +kernel
theorem dL_areLeads_145 : decode cL_areLeads 145 = .ok (.iload 8, 2) := by decide +kernel
theorem dL_areLeads_147 : decode cL_areLeads 147 = .ok (.ifCond .eq 59, 3) := by decide +kernel
theorem dL_areLeads_150 : decode cL_areLeads 150 = .ok (.aload_n 0, 1) := by decide +kernel
theorem dL_areLeads_151 : decode cL_areLeads 151 = .ok (.iload 9, 2) := by decide +kernel
theorem dL_areLeads_153 : decode cL_areLeads 153 = .ok (.aload_n 1, 1) := by decide +kernel
theorem dL_areLeads_154 : decode cL_areLeads 154 = .ok (.iconst 1, 1) := by decide +kernel
theorem dL_areLeads_155 : decode cL_areLeads 155 = .ok (.iaload, 1) := by decide +kernel
theorem dL_areLeads_156 : decode cL_areLeads 156 = .ok (.iconst 1, 1) := by decide +kernel
theorem dL_areLeads_157 : decode cL_areLeads 157 = .ok (.isub, 1) := by decide +kernel
theorem dL_areLeads_158 : decode cL_areLeads 158 = .ok (.invokevirtual 66, 3) := by decide +kernel
theorem dL_areLeads_161 : decode cL_areLeads 161 = .ok (.aload_n 1, 1) := by decide +kernel
theorem dL_areLeads_162 : decode cL_areLeads 162 = .ok (.aload_n 2, 1) := by decide +kernel
theorem dL_areLeads_163 : decode cL_areLeads 163 = .ok (.aload_n 3, 1) := by decide +kernel
theorem dL_areLeads_164 : decode cL_areLeads 164 = .ok (.aload 4, 2) := by decide +kernel
theorem dL_areLeads_166 : decode cL_areLeads 166 = .ok (.iload 9, 2) := by decide +kernel
theorem dL_areLeads_168 : decode cL_areLeads 168 = .ok (.iconst 1, 1) := by decide +kernel
theorem dL_areLeads_169 : decode cL_areLeads 169 = .ok (.iadd, 1) := by decide +kernel
theorem dL_areLeads_170 : decode cL_areLeads 170 = .ok (.aload_n 1, 1) := by decide +kernel
theorem dL_areLeads_171 : decode cL_areLeads 171 = .ok (.iconst 1, 1) := by decide +kernel
theorem dL_areLeads_172 : decode cL_areLeads 172 = .ok (.iaload, 1) := by decide +kernel
theorem dL_areLeads_173 : decode cL_areLeads 173 = .ok (.imul, 1) := by decide +kernel
theorem dL_areLeads_174 : decode cL_areLeads 174 = .ok (.iconst 1, 1) := by decide +kernel
theorem dL_areLeads_175 : decode cL_areLeads 175 = .ok (.isub, 1) := by decide +kernel
theorem dL_areLeads_176 : decode cL_areLeads 176 = .ok (.invokestatic 23, 3) := by decide +kernel
theorem dL_areLeads_179 : decode cL_areLeads 179 = .ok (.if_icmp .ne 27, 3) := by decide +kernel
theorem dL_areLeads_182 : decode cL_areLeads 182 = .ok (.aload_n 1, 1) := by decide +kernel
theorem dL_areLeads_183 : decode cL_areLeads 183 = .ok (.iconst 1, 1) := by decide +kernel
theorem dL_areLeads_184 : decode cL_areLeads 184 = .ok (.iaload, 1) := by decide +kernel
theorem dL_areLeads_185 : decode cL_areLeads 185 = .ok (.iconst 1, 1) := by decide +kernel
theorem dL_areLeads_186 : decode cL_areLeads 186 = .ok (.if_icmp .eq 16, 3) := by decide +kernel
theorem dL_areLeads_189 : decode cL_areLeads 189 = .ok (.aload_n 0, 1) := by decide +kernel
theorem dL_areLeads_190 : decode cL_areLeads 190 = .ok (.iload 9, 2) := by decide +kernel
theorem dL_areLeads_192 : decode cL_areLeads 192 = .ok (.iconst 0, 1) := by decide +kernel
theorem dL_areLeads_193 : decode cL_areLeads 193 = .ok (.invokevirtual 66, 3) := by decide +kernel
theorem dL_areLeads_196 : decode cL_areLeads 196 = .ok (.aload_n 2, 1) := by decide +kernel
theorem dL_areLeads_197 : decode cL_areLeads 197 = .ok (.iconst 0, 1) := by decide +kernel
theorem dL_areLeads_198 : decode cL_areLeads 198 = .ok (.iaload, 1) := by decide +kernel
theorem dL_areLeads_199 : decode cL_areLeads 199 = .ok (.if_icmp .ne 7, 3) := by decide +kernel
theorem dL_areLeads_202 : decode cL_areLeads 202 = .ok (.iconst 1, 1) := by decide +kernel
theorem dL_areLeads_203 : decode cL_areLeads 203 = .ok (.goto 4, 3) := by decide +kernel
theorem dL_areLeads_206 : decode cL_areLeads 206 = .ok (.iconst 0, 1) := by decide +kernel
theorem dL_areLeads_207 : decode cL_areLeads 207 = .ok (.istore 8, 2) := by decide +kernel
theorem dL_areLeads_209 : decode cL_areLeads 209 = .ok (.iconst 0, 1) := by decide +kernel
theorem dL_areLeads_210 : decode cL_areLeads 210 = .ok (.istore 10, 2) := by decide +kernel
theorem dL_areLeads_212 : decode cL_areLeads 212 = .ok (.iload 10, 2) := by decide +kernel
theorem dL_areLeads_214 : decode cL_areLeads 214 = .ok (.iload 9, 2) := by decide +kernel
theorem dL_areLeads_216 : decode cL_areLeads 216 = .ok (.if_icmp .ge 110, 3) := by decide +kernel
theorem dL_areLeads_219 : decode cL_areLeads 219 = .ok (.iconst 0, 1) := by decide +kernel
theorem dL_areLeads_220 : decode cL_areLeads 220 = .ok (.istore 11, 2) := by decide +kernel
theorem dL_areLeads_222 : decode cL_areLeads 222 = .ok (.iconst 1, 1) := by decide +kernel
theorem dL_areLeads_223 : decode cL_areLeads 223 = .ok (.istore 12, 2) := by decide +kernel
theorem dL_areLeads_225 : decode cL_areLeads 225 = .ok (.iload 12, 2) := by decide +kernel
theorem dL_areLeads_227 : decode cL_areLeads 227 = .ok (.aload_n 1, 1) := by decide +kernel
theorem dL_areLeads_228 : decode cL_areLeads 228 = .ok (.iconst 1, 1) := by decide +kernel
theorem dL_areLeads_229 : decode cL_areLeads 229 = .ok (.iaload, 1) := by decide +kernel
theorem dL_areLeads_230 : decode cL_areLeads 230 = .ok (.if_icmp .gt 75, 3) := by decide +kernel
theorem dL_areLeads_233 : decode cL_areLeads 233 = .ok (.iload 11, 2) := by decide +kernel
theorem dL_areLeads_235 : decode cL_areLeads 235 = .ok (.ifCond .ne 70, 3) := by decide +kernel
theorem dL_areLeads_238 : decode cL_areLeads 238 = .ok (.iconst 1, 1) := by decide +kernel
theorem dL_areLeads_239 : decode cL_areLeads 239 = .ok (.istore 13, 2) := by decide +kernel
theorem dL_areLeads_241 : decode cL_areLeads 241 = .ok (.iload 13, 2) := by decide +kernel
theorem dL_areLeads_243 : decode cL_areLeads 243 = .ok (.aload_n 1, 1) := by decide +kernel
theorem dL_areLeads_244 : decode cL_areLeads 244 = .ok (.iconst 1, 1) := by decide +kernel
theorem dL_areLeads_245 : decode cL_areLeads 245 = .ok (.iaload, 1) := by decide +kernel
theorem dL_areLeads_246 : decode cL_areLeads 246 = .ok (.if_icmp .gt 53, 3) := by decide +kernel
theorem dL_areLeads_249 : decode cL_areLeads 249 = .ok (.iload 11, 2) := by decide +kernel
theorem dL_areLeads_251 : decode cL_areLeads 251 = .ok (.ifCond .ne 48, 3) := by decide +kernel
theorem dL_areLeads_254 : decode cL_areLeads 254 = .ok (.aload 5, 2) := by decide +kernel
theorem dL_areLeads_256 : decode cL_areLeads 256 = .ok (.iload 9, 2) := by decide +kernel
theorem dL_areLeads_258 : decode cL_areLeads 258 = .ok (.aload_n 1, 1) := by decide +kernel
theorem dL_areLeads_259 : decode cL_areLeads 259 = .ok (.iconst 1, 1) := by decide +kernel
theorem dL_areLeads_260 : decode cL_areLeads 260 = .ok (.iaload, 1) := by decide +kernel
theorem dL_areLeads_261 : decode cL_areLeads 261 = .ok (.imul, 1) := by decide +kernel
theorem dL_areLeads_262 : decode cL_areLeads 262 = .ok (.iload 12, 2) := by decide +kernel
theorem dL_areLeads_264 : decode cL_areLeads 264 = .ok (.iadd, 1) := by decide +kernel
theorem dL_areLeads_265 : decode cL_areLeads 265 = .ok (.invokestatic 37, 3) := by decide +kernel
theorem dL_areLeads_268 : decode cL_areLeads 268 = .ok (.aload 5, 2) := by decide +kernel
theorem dL_areLeads_270 : decode cL_areLeads 270 = .ok (.iload 10, 2) := by decide +kernel
theorem dL_areLeads_272 : decode cL_areLeads 272 = .ok (.aload_n 1, 1) := by decide +kernel
theorem dL_areLeads_273 : decode cL_areLeads 273 = .ok (.iconst 1, 1) := by decide +kernel
theorem dL_areLeads_274 : decode cL_areLeads 274 = .ok (.iaload, 1) := by decide +kernel
theorem dL_areLeads_275 : decode cL_areLeads 275 = .ok (.imul, 1) := by decide +kernel
theorem dL_areLeads_276 : decode cL_areLeads 276 = .ok (.iload 13, 2) := by decide +kernel
theorem dL_areLeads_278 : decode cL_areLeads 278 = .ok (.iadd, 1) := by decide +kernel
theorem dL_areLeads_279 : decode cL_areLeads 279 = .ok (.invokestatic 37, 3) := by decide +kernel
theorem dL_areLeads_282 : decode cL_areLeads 282 = .ok (.lcmp, 1) := by decide +kernel
theorem dL_areLeads_283 : decode cL_areLeads 283 = .ok (.ifCond .ne 7, 3) := by decide +kernel
theorem dL_areLeads_286 : decode cL_areLeads 286 = .ok (.iconst 1, 1) := by decide +kernel
theorem dL_areLeads_287 : decode cL_areLeads 287 = .ok (.goto 4, 3) := by decide +kernel
theorem dL_areLeads_290 : decode cL_areLeads 290 = .ok (.iconst 0, 1) := by decide +kernel
theorem dL_areLeads_291 : decode cL_areLeads 291 = .ok (.istore 11, 2) := by decide +kernel
theorem dL_areLeads_293 : decode cL_areLeads 293 = .ok (.iinc 13 1, 3) := by decide +kernel
theorem dL_areLeads_296 : decode cL_areLeads 296 = .ok (.goto (-55), 3) := by decide +kernel
theorem dL_areLeads_299 : decode cL_areLeads 299 = .ok (.iinc 12 1, 3) := by decide +kernel
theorem dL_areLeads_302 : decode cL_areLeads 302 = .ok (.goto (-77), 3) := by decide +kernel
theorem dL_areLeads_305 : decode cL_areLeads 305 = .ok (.iload 6, 2) := by decide +kernel
theorem dL_areLeads_307 : decode cL_areLeads 307 = .ok (.iload 11, 2) := by decide +kernel
theorem dL_areLeads_309 : decode cL_areLeads 309 = .ok (.ifCond .eq 7, 3) := by decide +kernel
theorem dL_areLeads_312 : decode cL_areLeads 312 = .ok (.iconst 1, 1) := by decide +kernel
theorem dL_areLeads_313 : decode cL_areLeads 313 = .ok (.goto 4, 3) := by decide +kernel
theorem dL_areLeads_316 : decode cL_areLeads 316 = .ok (.iconst 0, 1) := by decide +kernel
theorem dL_areLeads_317 : decode cL_areLeads 317 = .ok (.iadd, 1) := by decide +kernel
theorem dL_areLeads_318 : decode cL_areLeads 318 = .ok (.istore 6, 2) := by decide +kernel
theorem dL_areLeads_320 : decode cL_areLeads 320 = .ok (.iinc 10 1, 3) := by decide +kernel
theorem dL_areLeads_323 : decode cL_areLeads 323 = .ok (.goto (-111), 3) := by decide +kernel
theorem dL_areLeads_326 : decode cL_areLeads 326 = .ok (.iinc 9 1, 3) := by decide +kernel
theorem dL_areLeads_329 : decode cL_areLeads 329 = .ok (.goto (-210), 3) := by decide +kernel
theorem dL_areLeads_332 : decode cL_areLeads 332 = .ok (.iconst 0, 1) := by decide +kernel
theorem dL_areLeads_333 : decode cL_areLeads 333 = .ok (.istore 9, 2) := by decide +kernel
theorem dL_areLeads_335 : decode cL_areLeads 335 = .ok (.iload 9, 2) := by decide +kernel
theorem dL_areLeads_337 : decode cL_areLeads 337 = .ok (.aload_n 1, 1) := by decide +kernel
theorem dL_areLeads_338 : decode cL_areLeads 338 = .ok (.iconst 1, 1) := by decide +kernel
theorem dL_areLeads_339 : decode cL_areLeads 339 = .ok (.iaload, 1) := by decide +kernel
theorem dL_areLeads_340 : decode cL_areLeads 340 = .ok (.if_icmp .ge 35, 3) := by decide +kernel
theorem dL_areLeads_343 : decode cL_areLeads 343 = .ok (.iload 8, 2) := by decide +kernel
theorem dL_areLeads_345 : decode cL_areLeads 345 = .ok (.ifCond .eq 21, 3) := by decide +kernel
theorem dL_areLeads_348 : decode cL_areLeads 348 = .ok (.aload_n 0, 1) := by decide +kernel
theorem dL_areLeads_349 : decode cL_areLeads 349 = .ok (.iconst (-1), 1) := by decide +kernel
theorem dL_areLeads_350 : decode cL_areLeads 350 = .ok (.iload 9, 2) := by decide +kernel
theorem dL_areLeads_352 : decode cL_areLeads 352 = .ok (.invokevirtual 66, 3) := by decide +kernel
theorem dL_areLeads_355 : decode cL_areLeads 355 = .ok (.aload_n 2, 1) := by decide +kernel
theorem dL_areLeads_356 : decode cL_areLeads 356 = .ok (.iload 9, 2) := by decide +kernel
theorem dL_areLeads_358 : decode cL_areLeads 358 = .ok (.iaload, 1) := by decide +kernel
theorem dL_areLeads_359 : decode cL_areLeads 359 = .ok (.if_icmp .ne 7, 3) := by decide +kernel
theorem dL_areLeads_362 : decode cL_areLeads 362 = .ok (.iconst 1, 1) := by decide +kernel
theorem dL_areLeads_363 : decode cL_areLeads 363 = .ok (.goto 4, 3) := by decide +kernel
theorem dL_areLeads_366 : decode cL_areLeads 366 = .ok (.iconst 0, 1) := by decide +kernel
theorem dL_areLeads_367 : decode cL_areLeads 367 = .ok (.istore 8, 2) := by decide +kernel
theorem dL_areLeads_369 : decode cL_areLeads 369 = .ok (.iinc 9 1, 3) := by decide +kernel
theorem dL_areLeads_372 : decode cL_areLeads 372 = .ok (.goto (-37), 3) := by decide +kernel
theorem dL_areLeads_375 : decode cL_areLeads 375 = .ok (.iload 8, 2) := by decide +kernel
theorem dL_areLeads_377 : decode cL_areLeads 377 = .ok (.ifCond .eq 29, 3) := by decide +kernel
theorem dL_areLeads_380 : decode cL_areLeads 380 = .ok (.aload_n 0, 1) := by decide +kernel
theorem dL_areLeads_381 : decode cL_areLeads 381 = .ok (.bipush 8, 2) := by decide +kernel
theorem dL_areLeads_383 : decode cL_areLeads 383 = .ok (.invokevirtual 58, 3) := by decide +kernel
theorem dL_areLeads_386 : decode cL_areLeads 386 = .ok (.iload 6, 2) := by decide +kernel
theorem dL_areLeads_388 : decode cL_areLeads 388 = .ok (.if_icmp .ne 18, 3) := by decide +kernel
theorem dL_areLeads_391 : decode cL_areLeads 391 = .ok (.aload_n 0, 1) := by decide +kernel
theorem dL_areLeads_392 : decode cL_areLeads 392 = .ok (.bipush 10, 2) := by decide +kernel
theorem dL_areLeads_394 : decode cL_areLeads 394 = .ok (.invokevirtual 58, 3) := by decide +kernel
theorem dL_areLeads_397 : decode cL_areLeads 397 = .ok (.iload 7, 2) := by decide +kernel
theorem dL_areLeads_399 : decode cL_areLeads 399 = .ok (.if_icmp .ne 7, 3) := by decide +kernel
theorem dL_areLeads_402 : decode cL_areLeads 402 = .ok (.iconst 1, 1) := by decide +kernel
theorem dL_areLeads_403 : decode cL_areLeads 403 = .ok (.goto 4, 3) := by decide +kernel
theorem dL_areLeads_406 : decode cL_areLeads 406 = .ok (.iconst 0, 1) := by decide +kernel
theorem dL_areLeads_407 : decode cL_areLeads 407 = .ok (.ireturn, 1) := by decide +kernel
theorem dL_isPath_0 : decode cL_isPath 0 = .ok (.aload_n 1, 1) := by decide +kernel
theorem dL_isPath_1 : decode cL_isPath 1 = .ok (.iconst 0, 1) := by decide +kernel
theorem dL_isPath_2 : decode cL_isPath 2 = .ok (.iaload, 1) := by decide +kernel
theorem dL_isPath_3 : decode cL_isPath 3 = .ok (.istore 4, 2) := by decide +kernel
theorem dL_isPath_5 : decode cL_isPath 5 = .ok (.aload_n 1, 1) := by decide +kernel
theorem dL_isPath_6 : decode cL_isPath 6 = .ok (.iconst 1, 1) := by decide +kernel
theorem dL_isPath_7 : decode cL_isPath 7 = .ok (.iaload, 1) := by decide +kernel
theorem dL_isPath_8 : decode cL_isPath 8 = .ok (.aload_n 1, 1) := by decide +kernel
theorem dL_isPath_9 : decode cL_isPath 9 = .ok (.iconst 2, 1) := by decide +kernel
theorem dL_isPath_10 : decode cL_isPath 10 = .ok (.iaload, 1) := by decide +kernel
theorem dL_isPath_11 : decode cL_isPath 11 = .ok (.imul, 1) := by decide +kernel
theorem dL_isPath_12 : decode cL_isPath 12 = .ok (.istore 5, 2) := by decide +kernel
theorem dL_isPath_14 : decode cL_isPath 14 = .ok (.bipush 7, 2) := by decide +kernel
theorem dL_isPath_16 : decode cL_isPath 16 = .ok (.newarray .int, 2) := by decide +kernel
theorem dL_isPath_18 : decode cL_isPath 18 = .ok (.astore 6, 2) := by decide +kernel
theorem dL_isPath_20 : decode cL_isPath 20 = .ok (.iconst 0, 1) := by decide +kernel
theorem dL_isPath_21 : decode cL_isPath 21 = .ok (.istore 7, 2) := by decide +kernel
theorem dL_isPath_23 : decode cL_isPath 23 = .ok (.bipush (-4), 2) := by decide +kernel
theorem dL_isPath_25 : decode cL_isPath 25 = .ok (.istore 8, 2) := by decide +kernel
theorem dL_isPath_27 : decode cL_isPath 27 = .ok (.iconst 0, 1) := by decide +kernel
theorem dL_isPath_28 : decode cL_isPath 28 = .ok (.istore 9, 2) := by decide +kernel
theorem dL_isPath_30 : decode cL_isPath 30 = .ok (.iconst (-1), 1) := by decide +kernel
theorem dL_isPath_31 : decode cL_isPath 31 = .ok (.istore 10, 2) := by decide +kernel
theorem dL_isPath_33 : decode cL_isPath 33 = .ok (.bipush (-2), 2) := by decide +kernel
theorem dL_isPath_35 : decode cL_isPath 35 = .ok (.istore 11, 2) := by decide +kernel
theorem dL_isPath_37 : decode cL_isPath 37 = .ok (.bipush (-3), 2) := by decide +kernel
theorem dL_isPath_39 : decode cL_isPath 39 = .ok (.istore 12, 2) := by decide +kernel
theorem dL_isPath_41 : decode cL_isPath 41 = .ok (.iconst 0, 1) := by decide +kernel
theorem dL_isPath_42 : decode cL_isPath 42 = .ok (.istore 13, 2) := by decide +kernel
theorem dL_isPath_44 : decode cL_isPath 44 = .ok (.iconst 0, 1) := by decide +kernel
theorem dL_isPath_45 : decode cL_isPath 45 = .ok (.istore 14, 2) := by decide +kernel
theorem dL_isPath_47 : decode cL_isPath 47 = .ok (.iload 14, 2) := by decide +kernel
theorem dL_isPath_49 : decode cL_isPath 49 = .ok (.iload 5, 2) := by decide +kernel
theorem dL_isPath_51 : decode cL_isPath 51 = .ok (.if_icmp .gt 157, 3) := by decide +kernel
theorem dL_isPath_54 : decode cL_isPath 54 = .ok (.iconst 0, 1) := by decide +kernel
theorem dL_isPath_55 : decode cL_isPath 55 = .ok (.istore 13, 2) := by decide +kernel
theorem dL_isPath_57 : decode cL_isPath 57 = .ok (.iload 4, 2) := by decide +kernel
theorem dL_isPath_59 : decode cL_isPath 59 = .ok (.aload_n 2, 1) := by decide +kernel
theorem dL_isPath_60 : decode cL_isPath 60 = .ok (.iload 14, 2) := by decide +kernel
theorem dL_isPath_62 : decode cL_isPath 62 = .ok (.invokestatic 37, 3) := by decide +kernel
theorem dL_isPath_65 : decode cL_isPath 65 = .ok (.iload 13, 2) := by decide +kernel
theorem dL_isPath_67 : decode cL_isPath 67 = .ok (.invokestatic 33, 3) := by decide +kernel
theorem dL_isPath_70 : decode cL_isPath 70 = .ok (.iload_n 3, 1) := by decide +kernel
theorem dL_isPath_71 : decode cL_isPath 71 = .ok (.if_icmp .eq 9, 3) := by decide +kernel
theorem dL_isPath_74 : decode cL_isPath 74 = .ok (.iinc 13 1, 3) := by decide +kernel
theorem dL_isPath_77 : decode cL_isPath 77 = .ok (.goto (-20), 3) := by decide +kernel
theorem dL_isPath_80 : decode cL_isPath 80 = .ok (.aload 6, 2) := by decide +kernel
theorem dL_isPath_82 : decode cL_isPath 82 = .ok (.iload 13, 2) := by decide +kernel
theorem dL_isPath_84 : decode cL_isPath 84 = .ok (.dup2, 1) := by decide +kernel
theorem dL_isPath_85 : decode cL_isPath 85 = .ok (.iaload, 1) := by decide +kernel
theorem dL_isPath_86 : decode cL_isPath 86 = .ok (.iload 14, 2) := by decide +kernel
theorem dL_isPath_88 : decode cL_isPath 88 = .ok (.ifCond .le 7, 3) := by decide +kernel
theorem dL_isPath_91 : decode cL_isPath 91 = .ok (.iconst 1, 1) := by decide +kernel
theorem dL_isPath_92 : decode cL_isPath 92 = .ok (.goto 4, 3) := by decide +kernel
theorem dL_isPath_95 : decode cL_isPath 95 = .ok (.iconst 0, 1) := by decide +kernel
theorem dL_isPath_96 : decode cL_isPath 96 = .ok (.iadd, 1) := by decide +kernel
theorem dL_isPath_97 : decode cL_isPath 97 = .ok (.iastore, 1) := by decide +kernel
theorem dL_isPath_98 : decode cL_isPath 98 = .ok (.iload 9, 2) := by decide +kernel
theorem dL_isPath_100 : decode cL_isPath 100 = .ok (.iload 14, 2) := by decide +kernel
theorem dL_isPath_102 : decode cL_isPath 102 = .ok (.ifCond .le 14, 3) := by decide +kernel
theorem dL_isPath_105 : decode cL_isPath 105 = .ok (.iload 13, 2) := by decide +kernel
theorem dL_isPath_107 : decode cL_isPath 107 = .ok (.iload 12, 2) := by decide +kernel
theorem dL_isPath_109 : decode cL_isPath 109 = .ok (.if_icmp .ne 7, 3) := by decide +kernel
theorem dL_isPath_112 : decode cL_isPath 112 = .ok (.iconst 1, 1) := by decide +kernel
theorem dL_isPath_113 : decode cL_isPath 113 = .ok (.goto 4, 3) := by decide +kernel
theorem dL_isPath_116 : decode cL_isPath 116 = .ok (.iconst 0, 1) := by decide +kernel
theorem dL_isPath_117 : decode cL_isPath 117 = .ok (.iadd, 1) := by decide +kernel
theorem dL_isPath_118 : decode cL_isPath 118 = .ok (.istore 9, 2) := by decide +kernel
theorem dL_isPath_120 : decode cL_isPath 120 = .ok (.iload 14, 2) := by decide +kernel
theorem dL_isPath_122 : decode cL_isPath 122 = .ok (.iconst 2, 1) := by decide +kernel
theorem dL_isPath_123 : decode cL_isPath 123 = .ok (.if_icmp .le 28, 3) := by decide +kernel
theorem dL_isPath_126 : decode cL_isPath 126 = .ok (.iload 13, 2) := by decide +kernel
theorem dL_isPath_128 : decode cL_isPath 128 = .ok (.iload 11, 2) := by decide +kernel
theorem dL_isPath_130 : decode cL_isPath 130 = .ok (.if_icmp .ne 21, 3) := by decide +kernel
theorem dL_isPath_133 : decode cL_isPath 133 = .ok (.iload 12, 2) := by decide +kernel
theorem dL_isPath_135 : decode cL_isPath 135 = .ok (.iload 10, 2) := by decide +kernel
theorem dL_isPath_137 : decode cL_isPath 137 = .ok (.if_icmp .ne 14, 3) := by decide +kernel
theorem dL_isPath_140 : decode cL_isPath 140 = .ok (.iload 10, 2) := by decide +kernel
theorem dL_isPath_142 : decode cL_isPath 142 = .ok (.iload 11, 2) := by decide +kernel
theorem dL_isPath_144 : decode cL_isPath 144 = .ok (.if_icmp .eq 7, 3) := by decide +kernel
theorem dL_isPath_147 : decode cL_isPath 147 = .ok (.iconst 1, 1) := by decide +kernel
theorem dL_isPath_148 : decode cL_isPath 148 = .ok (.goto 4, 3) := by decide +kernel
theorem dL_isPath_151 : decode cL_isPath 151 = .ok (.iconst 0, 1) := by decide +kernel
theorem dL_isPath_152 : decode cL_isPath 152 = .ok (.istore 15, 2) := by decide +kernel
theorem dL_isPath_154 : decode cL_isPath 154 = .ok (.iload 8, 2) := by decide +kernel
theorem dL_isPath_156 : decode cL_isPath 156 = .ok (.ifCond .ge 15, 3) := by decide +kernel
theorem dL_isPath_159 : decode cL_isPath 159 = .ok (.iload 15, 2) := by decide +kernel
theorem dL_isPath_161 : decode cL_isPath 161 = .ok (.ifCond .eq 10, 3) := by decide +kernel
theorem dL_isPath_164 : decode cL_isPath 164 = .ok (.iload 14, 2) := by decide +kernel
theorem dL_isPath_166 : decode cL_isPath 166 = .ok (.iconst 3, 1) := by decide +kernel
theorem dL_isPath_167 : decode cL_isPath 167 = .ok (.isub, 1) := by decide +kernel
theorem dL_isPath_168 : decode cL_isPath 168 = .ok (.goto 5, 3) := by decide +kernel
theorem dL_isPath_171 : decode cL_isPath 171 = .ok (.iload 8, 2) := by decide +kernel
theorem dL_isPath_173 : decode cL_isPath 173 = .ok (.istore 8, 2) := by decide +kernel
theorem dL_isPath_175 : decode cL_isPath 175 = .ok (.iload 7, 2) := by decide +kernel
theorem dL_isPath_177 : decode cL_isPath 177 = .ok (.iload 15, 2) := by decide +kernel
theorem dL_isPath_179 : decode cL_isPath 179 = .ok (.ifCond .eq 7, 3) := by decide +kernel
theorem dL_isPath_182 : decode cL_isPath 182 = .ok (.iconst 1, 1) := by decide +kernel
theorem dL_isPath_183 : decode cL_isPath 183 = .ok (.goto 4, 3) := by decide +kernel
theorem dL_isPath_186 : decode cL_isPath 186 = .ok (.iconst 0, 1) := by decide +kernel
theorem dL_isPath_187 : decode cL_isPath 187 = .ok (.iadd, 1) := by decide +kernel
theorem dL_isPath_188 : decode cL_isPath 188 = .ok (.istore 7, 2) := by decide +kernel
theorem dL_isPath_190 : decode cL_isPath 190 = .ok (.iload 11, 2) := by decide +kernel
theorem dL_isPath_192 : decode cL_isPath 192 = .ok (.istore 10, 2) := by decide +kernel
theorem dL_isPath_194 : decode cL_isPath 194 = .ok (.iload 12, 2) := by decide +kernel
theorem dL_isPath_196 : decode cL_isPath 196 = .ok (.istore 11, 2) := by decide +kernel
theorem dL_isPath_198 : decode cL_isPath 198 = .ok (.iload 13, 2) := by decide +kernel
theorem dL_isPath_200 : decode cL_isPath 200 = .ok (.istore 12, 2) := by decide +kernel
theorem dL_isPath_202 : decode cL_isPath 202 = .ok (.iinc 14 1, 3) := by decide +kernel
theorem dL_isPath_205 : decode cL_isPath 205 = .ok (.goto (-158), 3) := by decide +kernel
theorem dL_isPath_208 : decode cL_isPath 208 = .ok (.aload_n 0, 1) := by decide +kernel
theorem dL_isPath_209 : decode cL_isPath 209 = .ok (.iload_n 3, 1) := by decide +kernel
theorem dL_isPath_210 : decode cL_isPath 210 = .ok (.iconst 0, 1) := by decide +kernel
theorem dL_isPath_211 : decode cL_isPath 211 = .ok (.invokevirtual 68, 3) := by decide +kernel
theorem dL_isPath_214 : decode cL_isPath 214 = .ok (.iload 7, 2) := by decide +kernel
theorem dL_isPath_216 : decode cL_isPath 216 = .ok (.if_icmp .ne 78, 3) := by decide +kernel
theorem dL_isPath_219 : decode cL_isPath 219 = .ok (.aload_n 0, 1) := by decide +kernel
theorem dL_isPath_220 : decode cL_isPath 220 = .ok (.iload_n 3, 1) := by decide +kernel
theorem dL_isPath_221 : decode cL_isPath 221 = .ok (.iconst 1, 1) := by decide +kernel
theorem dL_isPath_222 : decode cL_isPath 222 = .ok (.invokevirtual 68, 3) := by decide +kernel
theorem dL_isPath_225 : decode cL_isPath 225 = .ok (.iload 8, 2) := by decide +kernel
theorem dL_isPath_227 : decode cL_isPath 227 = .ok (.if_icmp .ne 67, 3) := by decide +kernel
theorem dL_isPath_230 : decode cL_isPath 230 = .ok (.aload_n 0, 1) := by decide +kernel
theorem dL_isPath_231 : decode cL_isPath 231 = .ok (.iload_n 3, 1) := by decide +kernel
theorem dL_isPath_232 : decode cL_isPath 232 = .ok (.iconst 2, 1) := by decide +kernel
theorem dL_isPath_233 : decode cL_isPath 233 = .ok (.invokevirtual 68, 3) := by decide +kernel
theorem dL_isPath_236 : decode cL_isPath 236 = .ok (.aload 6, 2) := by decide +kernel
theorem dL_isPath_238 : decode cL_isPath 238 = .ok (.iconst 0, 1) := by decide +kernel
theorem dL_isPath_239 : decode cL_isPath 239 = .ok (.iaload, 1) := by decide +kernel
theorem dL_isPath_240 : decode cL_isPath 240 = .ok (.if_icmp .ne 54, 3) := by decide +kernel
theorem dL_isPath_243 : decode cL_isPath 243 = .ok (.aload_n 0, 1) := by decide +kernel
theorem dL_isPath_244 : decode cL_isPath 244 = .ok (.iload_n 3, 1) := by decide +kernel
theorem dL_isPath_245 : decode cL_isPath 245 = .ok (.iconst 3, 1) := by decide +kernel
theorem dL_isPath_246 : decode cL_isPath 246 = .ok (.invokevirtual 68, 3) := by decide +kernel
theorem dL_isPath_249 : decode cL_isPath 249 = .ok (.iload 9, 2) := by decide +kernel
theorem dL_isPath_251 : decode cL_isPath 251 = .ok (.if_icmp .ne 43, 3) := by decide +kernel
theorem dL_isPath_254 : decode cL_isPath 254 = .ok (.aload_n 0, 1) := by decide +kernel
theorem dL_isPath_255 : decode cL_isPath 255 = .ok (.iload_n 3, 1) := by decide +kernel
theorem dL_isPath_256 : decode cL_isPath 256 = .ok (.iconst 4, 1) := by decide +kernel
theorem dL_isPath_257 : decode cL_isPath 257 = .ok (.invokevirtual 68, 3) := by decide +kernel
theorem dL_isPath_260 : decode cL_isPath 260 = .ok (.iload 13, 2) := by decide +kernel
theorem dL_isPath_262 : decode cL_isPath 262 = .ok (.iconst 1, 1) := by decide +kernel
theorem dL_isPath_263 : decode cL_isPath 263 = .ok (.iadd, 1) := by decide +kernel
theorem dL_isPath_264 : decode cL_isPath 264 = .ok (.if_icmp .ne 30, 3) := by decide +kernel
theorem dL_isPath_267 : decode cL_isPath 267 = .ok (.aload_n 0, 1) := by decide +kernel
theorem dL_isPath_268 : decode cL_isPath 268 = .ok (.iload_n 3, 1) := by decide +kernel
theorem dL_isPath_269 : decode cL_isPath 269 = .ok (.iconst 5, 1) := by decide +kernel
theorem dL_isPath_270 : decode cL_isPath 270 = .ok (.invokevirtual 68, 3) := by decide +kernel
theorem dL_isPath_273 : decode cL_isPath 273 = .ok (.iconst (-1), 1) := by decide +kernel
theorem dL_isPath_274 : decode cL_isPath 274 = .ok (.if_icmp .ne 20, 3) := by decide +kernel
theorem dL_isPath_277 : decode cL_isPath 277 = .ok (.aload_n 0, 1) := by decide +kernel
theorem dL_isPath_278 : decode cL_isPath 278 = .ok (.iload 4, 2) := by decide +kernel
theorem dL_isPath_280 : decode cL_isPath 280 = .ok (.iconst 1, 1) := by decide +kernel
theorem dL_isPath_281 : decode cL_isPath 281 = .ok (.iadd, 1) := by decide +kernel
theorem dL_isPath_282 : decode cL_isPath 282 = .ok (.iconst 0, 1) := by decide +kernel
theorem dL_isPath_283 : decode cL_isPath 283 = .ok (.invokevirtual 68, 3) := by decide +kernel
theorem dL_isPath_286 : decode cL_isPath 286 = .ok (.iconst (-1), 1) := by decide +kernel
theorem dL_isPath_287 : decode cL_isPath 287 = .ok (.if_icmp .ne 7, 3) := by decide +kernel
theorem dL_isPath_290 : decode cL_isPath 290 = .ok (.iconst 1, 1) := by decide +kernel
theorem dL_isPath_291 : decode cL_isPath 291 = .ok (.goto 4, 3) := by decide +kernel
theorem dL_isPath_294 : decode cL_isPath 294 = .ok (.iconst 0, 1) := by decide +kernel
theorem dL_isPath_295 : decode cL_isPath 295 = .ok (.istore 14, 2) := by decide +kernel
theorem dL_isPath_297 : decode cL_isPath 297 = .ok (.iconst 0, 1) := by decide +kernel
theorem dL_isPath_298 : decode cL_isPath 298 = .ok (.istore 15, 2) := by decide +kernel
theorem dL_isPath_300 : decode cL_isPath 300 = .ok (.iload 15, 2) := by decide +kernel
theorem dL_isPath_302 : decode cL_isPath 302 = .ok (.iload 4, 2) := by decide +kernel
theorem dL_isPath_304 : decode cL_isPath 304 = .ok (.if_icmp .ge 38, 3) := by decide +kernel
theorem dL_isPath_307 : decode cL_isPath 307 = .ok (.iload 14, 2) := by decide +kernel
theorem dL_isPath_309 : decode cL_isPath 309 = .ok (.ifCond .eq 24, 3) := by decide +kernel
theorem dL_isPath_312 : decode cL_isPath 312 = .ok (.aload_n 0, 1) := by decide +kernel
theorem dL_isPath_313 : decode cL_isPath 313 = .ok (.iload_n 3, 1) := by decide +kernel
theorem dL_isPath_314 : decode cL_isPath 314 = .ok (.iload 15, 2) := by decide +kernel
theorem dL_isPath_316 : decode cL_isPath 316 = .ok (.iconst 1, 1) := by decide +kernel
theorem dL_isPath_317 : decode cL_isPath 317 = .ok (.iadd, 1) := by decide +kernel
theorem dL_isPath_318 : decode cL_isPath 318 = .ok (.invokevirtual 71, 3) := by decide +kernel
theorem dL_isPath_321 : decode cL_isPath 321 = .ok (.aload 6, 2) := by decide +kernel
theorem dL_isPath_323 : decode cL_isPath 323 = .ok (.iload 15, 2) := by decide +kernel
theorem dL_isPath_325 : decode cL_isPath 325 = .ok (.iaload, 1) := by decide +kernel
theorem dL_isPath_326 : decode cL_isPath 326 = .ok (.if_icmp .ne 7, 3) := by decide +kernel
theorem dL_isPath_329 : decode cL_isPath 329 = .ok (.iconst 1, 1) := by decide +kernel
theorem dL_isPath_330 : decode cL_isPath 330 = .ok (.goto 4, 3) := by decide +kernel
theorem dL_isPath_333 : decode cL_isPath 333 = .ok (.iconst 0, 1) := by decide +kernel
theorem dL_isPath_334 : decode cL_isPath 334 = .ok (.istore 14, 2) := by decide +kernel
theorem dL_isPath_336 : decode cL_isPath 336 = .ok (.iinc 15 1, 3) := by decide +kernel
theorem dL_isPath_339 : decode cL_isPath 339 = .ok (.goto (-39), 3) := by decide +kernel
theorem dL_isPath_342 : decode cL_isPath 342 = .ok (.iload 14, 2) := by decide +kernel
theorem dL_isPath_344 : decode cL_isPath 344 = .ok (.ireturn, 1) := by decide +kernel
theorem dL_typed_0 : decode cL_typed 0 = .ok (.aload_n 0, 1) := by decide +kernel
theorem dL_typed_1 : decode cL_typed 1 = .ok (.invokevirtual 74, 3) := by decide +kernel
theorem dL_typed_4 : decode cL_typed 4 = .ok (.ifCond .lt 7, 3) := by decide +kernel
theorem dL_typed_7 : decode cL_typed 7 = .ok (.iconst 1, 1) := by decide +kernel
theorem dL_typed_8 : decode cL_typed 8 = .ok (.goto 4, 3) := by decide +kernel
theorem dL_typed_11 : decode cL_typed 11 = .ok (.iconst 0, 1) := by decide +kernel
theorem dL_typed_12 : decode cL_typed 12 = .ok (.istore 4, 2) := by decide +kernel
theorem dL_typed_14 : decode cL_typed 14 = .ok (.iconst 0, 1) := by decide +kernel
theorem dL_typed_15 : decode cL_typed 15 = .ok (.istore 5, 2) := by decide +kernel
theorem dL_typed_17 : decode cL_typed 17 = .ok (.iload 5, 2) := by decide +kernel
theorem dL_typed_19 : decode cL_typed 19 = .ok (.iload_n 2, 1) := by decide +kernel
theorem dL_typed_20 : decode cL_typed 20 = .ok (.if_icmp .ge 102, 3) := by decide +kernel
theorem dL_typed_23 : decode cL_typed 23 = .ok (.iload 4, 2) := by decide +kernel
theorem dL_typed_25 : decode cL_typed 25 = .ok (.ifCond .eq 37, 3) := by decide +kernel
theorem dL_typed_28 : decode cL_typed 28 = .ok (.iload 5, 2) := by decide +kernel
theorem dL_typed_30 : decode cL_typed 30 = .ok (.ifCond .eq 12, 3) := by decide +kernel
theorem dL_typed_33 : decode cL_typed 33 = .ok (.aload_n 0, 1) := by decide +kernel
theorem dL_typed_34 : decode cL_typed 34 = .ok (.bipush 46, 2) := by decide +kernel
theorem dL_typed_36 : decode cL_typed 36 = .ok (.invokevirtual 78, 3) := by decide +kernel
theorem dL_typed_39 : decode cL_typed 39 = .ok (.ifCond .le 23, 3) := by decide +kernel
theorem dL_typed_42 : decode cL_typed 42 = .ok (.aload_n 1, 1) := by decide +kernel
theorem dL_typed_43 : decode cL_typed 43 = .ok (.iload 5, 2) := by decide +kernel
theorem dL_typed_45 : decode cL_typed 45 = .ok (.iaload, 1) := by decide +kernel
theorem dL_typed_46 : decode cL_typed 46 = .ok (.ifCond .gt 12, 3) := by decide +kernel
theorem dL_typed_49 : decode cL_typed 49 = .ok (.aload_n 0, 1) := by decide +kernel
theorem dL_typed_50 : decode cL_typed 50 = .ok (.bipush 120, 2) := by decide +kernel
theorem dL_typed_52 : decode cL_typed 52 = .ok (.invokevirtual 78, 3) := by decide +kernel
theorem dL_typed_55 : decode cL_typed 55 = .ok (.ifCond .le 7, 3) := by decide +kernel
theorem dL_typed_58 : decode cL_typed 58 = .ok (.iconst 1, 1) := by decide +kernel
theorem dL_typed_59 : decode cL_typed 59 = .ok (.goto 4, 3) := by decide +kernel
theorem dL_typed_62 : decode cL_typed 62 = .ok (.iconst 0, 1) := by decide +kernel
theorem dL_typed_63 : decode cL_typed 63 = .ok (.istore 4, 2) := by decide +kernel
theorem dL_typed_65 : decode cL_typed 65 = .ok (.iconst 0, 1) := by decide +kernel
theorem dL_typed_66 : decode cL_typed 66 = .ok (.istore 6, 2) := by decide +kernel
theorem dL_typed_68 : decode cL_typed 68 = .ok (.iload 6, 2) := by decide +kernel
theorem dL_typed_70 : decode cL_typed 70 = .ok (.iload_n 3, 1) := by decide +kernel
theorem dL_typed_71 : decode cL_typed 71 = .ok (.if_icmp .ge 45, 3) := by decide +kernel
theorem dL_typed_74 : decode cL_typed 74 = .ok (.iload 4, 2) := by decide +kernel
theorem dL_typed_76 : decode cL_typed 76 = .ok (.ifCond .eq 31, 3) := by decide +kernel
theorem dL_typed_79 : decode cL_typed 79 = .ok (.aload_n 1, 1) := by decide +kernel
theorem dL_typed_80 : decode cL_typed 80 = .ok (.iload 5, 2) := by decide +kernel
theorem dL_typed_82 : decode cL_typed 82 = .ok (.iaload, 1) := by decide +kernel
theorem dL_typed_83 : decode cL_typed 83 = .ok (.iload 6, 2) := by decide +kernel
theorem dL_typed_85 : decode cL_typed 85 = .ok (.ishr, 1) := by decide +kernel
theorem dL_typed_86 : decode cL_typed 86 = .ok (.iconst 1, 1) := by decide +kernel
theorem dL_typed_87 : decode cL_typed 87 = .ok (.iand, 1) := by decide +kernel
theorem dL_typed_88 : decode cL_typed 88 = .ok (.ifCond .eq 15, 3) := by decide +kernel
theorem dL_typed_91 : decode cL_typed 91 = .ok (.aload_n 0, 1) := by decide +kernel
theorem dL_typed_92 : decode cL_typed 92 = .ok (.bipush 49, 2) := by decide +kernel
theorem dL_typed_94 : decode cL_typed 94 = .ok (.iload 6, 2) := by decide +kernel
theorem dL_typed_96 : decode cL_typed 96 = .ok (.iadd, 1) := by decide +kernel
theorem dL_typed_97 : decode cL_typed 97 = .ok (.invokevirtual 78, 3) := by decide +kernel
theorem dL_typed_100 : decode cL_typed 100 = .ok (.ifCond .le 7, 3) := by decide +kernel
theorem dL_typed_103 : decode cL_typed 103 = .ok (.iconst 1, 1) := by decide +kernel
theorem dL_typed_104 : decode cL_typed 104 = .ok (.goto 4, 3) := by decide +kernel
theorem dL_typed_107 : decode cL_typed 107 = .ok (.iconst 0, 1) := by decide +kernel
theorem dL_typed_108 : decode cL_typed 108 = .ok (.istore 4, 2) := by decide +kernel
theorem dL_typed_110 : decode cL_typed 110 = .ok (.iinc 6 1, 3) := by decide +kernel
theorem dL_typed_113 : decode cL_typed 113 = .ok (.goto (-45), 3) := by decide +kernel
theorem dL_typed_116 : decode cL_typed 116 = .ok (.iinc 5 1, 3) := by decide +kernel
theorem dL_typed_119 : decode cL_typed 119 = .ok (.goto (-102), 3) := by decide +kernel
theorem dL_typed_122 : decode cL_typed 122 = .ok (.iload 4, 2) := by decide +kernel
theorem dL_typed_124 : decode cL_typed 124 = .ok (.ireturn, 1) := by decide +kernel
theorem dL_isActed_0 : decode cL_isActed 0 = .ok (.iload 5, 2) := by decide +kernel
theorem dL_isActed_2 : decode cL_isActed 2 = .ok (.bipush 9, 2) := by decide +kernel
theorem dL_isActed_4 : decode cL_isActed 4 = .ok (.if_icmp .ge 112, 3) := by decide +kernel
theorem dL_isActed_7 : decode cL_isActed 7 = .ok (.aload_n 1, 1) := by decide +kernel
theorem dL_isActed_8 : decode cL_isActed 8 = .ok (.iconst 1, 1) := by decide +kernel
theorem dL_isActed_9 : decode cL_isActed 9 = .ok (.iaload, 1) := by decide +kernel
theorem dL_isActed_10 : decode cL_isActed 10 = .ok (.aload_n 1, 1) := by decide +kernel
theorem dL_isActed_11 : decode cL_isActed 11 = .ok (.iconst 2, 1) := by decide +kernel
theorem dL_isActed_12 : decode cL_isActed 12 = .ok (.iaload, 1) := by decide +kernel
theorem dL_isActed_13 : decode cL_isActed 13 = .ok (.iconst 1, 1) := by decide +kernel
theorem dL_isActed_14 : decode cL_isActed 14 = .ok (.iadd, 1) := by decide +kernel
theorem dL_isActed_15 : decode cL_isActed 15 = .ok (.imul, 1) := by decide +kernel
theorem dL_isActed_16 : decode cL_isActed 16 = .ok (.sipush 181, 3) := by decide +kernel
theorem dL_isActed_19 : decode cL_isActed 19 = .ok (.if_icmp .ge 15, 3) := by decide +kernel
theorem dL_isActed_22 : decode cL_isActed 22 = .ok (.aload_n 1, 1) := by decide +kernel
theorem dL_isActed_23 : decode cL_isActed 23 = .ok (.iconst 2, 1) := by decide +kernel
theorem dL_isActed_24 : decode cL_isActed 24 = .ok (.iaload, 1) := by decide +kernel
theorem dL_isActed_25 : decode cL_isActed 25 = .ok (.bipush 16, 2) := by decide +kernel
theorem dL_isActed_27 : decode cL_isActed 27 = .ok (.if_icmp .ge 7, 3) := by decide +kernel
theorem dL_isActed_30 : decode cL_isActed 30 = .ok (.iconst 1, 1) := by decide +kernel
theorem dL_isActed_31 : decode cL_isActed 31 = .ok (.goto 4, 3) := by decide +kernel
theorem dL_isActed_34 : decode cL_isActed 34 = .ok (.iconst 0, 1) := by decide +kernel
theorem dL_isActed_35 : decode cL_isActed 35 = .ok (.istore 7, 2) := by decide +kernel
theorem dL_isActed_37 : decode cL_isActed 37 = .ok (.iload 7, 2) := by decide +kernel
theorem dL_isActed_39 : decode cL_isActed 39 = .ok (.ifCond .eq 40, 3) := by decide +kernel
theorem dL_isActed_42 : decode cL_isActed 42 = .ok (.aload 4, 2) := by decide +kernel
theorem dL_isActed_44 : decode cL_isActed 44 = .ok (.aload_n 1, 1) := by decide +kernel
theorem dL_isActed_45 : decode cL_isActed 45 = .ok (.iconst 2, 1) := by decide +kernel
theorem dL_isActed_46 : decode cL_isActed 46 = .ok (.iaload, 1) := by decide +kernel
theorem dL_isActed_47 : decode cL_isActed 47 = .ok (.iload 6, 2) := by decide +kernel
theorem dL_isActed_49 : decode cL_isActed 49 = .ok (.iconst 3, 1) := by decide +kernel
theorem dL_isActed_50 : decode cL_isActed 50 = .ok (.irem, 1) := by decide +kernel
theorem dL_isActed_51 : decode cL_isActed 51 = .ok (.iastore, 1) := by decide +kernel
theorem dL_isActed_52 : decode cL_isActed 52 = .ok (.aload_n 1, 1) := by decide +kernel
theorem dL_isActed_53 : decode cL_isActed 53 = .ok (.iconst 2, 1) := by decide +kernel
theorem dL_isActed_54 : decode cL_isActed 54 = .ok (.dup2, 1) := by decide +kernel
theorem dL_isActed_55 : decode cL_isActed 55 = .ok (.iaload, 1) := by decide +kernel
theorem dL_isActed_56 : decode cL_isActed 56 = .ok (.iconst 1, 1) := by decide +kernel
theorem dL_isActed_57 : decode cL_isActed 57 = .ok (.iadd, 1) := by decide +kernel
theorem dL_isActed_58 : decode cL_isActed 58 = .ok (.iastore, 1) := by decide +kernel
theorem dL_isActed_59 : decode cL_isActed 59 = .ok (.aload_n 0, 1) := by decide +kernel
theorem dL_isActed_60 : decode cL_isActed 60 = .ok (.iload 6, 2) := by decide +kernel
theorem dL_isActed_62 : decode cL_isActed 62 = .ok (.iconst 3, 1) := by decide +kernel
theorem dL_isActed_63 : decode cL_isActed 63 = .ok (.irem, 1) := by decide +kernel
theorem dL_isActed_64 : decode cL_isActed 64 = .ok (.invokevirtual 81, 3) := by decide +kernel
theorem dL_isActed_67 : decode cL_isActed 67 = .ok (.aload_n 1, 1) := by decide +kernel
theorem dL_isActed_68 : decode cL_isActed 68 = .ok (.iconst 2, 1) := by decide +kernel
theorem dL_isActed_69 : decode cL_isActed 69 = .ok (.iaload, 1) := by decide +kernel
theorem dL_isActed_70 : decode cL_isActed 70 = .ok (.if_icmp .ne 7, 3) := by decide +kernel
theorem dL_isActed_73 : decode cL_isActed 73 = .ok (.iconst 1, 1) := by decide +kernel
theorem dL_isActed_74 : decode cL_isActed 74 = .ok (.goto 4, 3) := by decide +kernel
theorem dL_isActed_77 : decode cL_isActed 77 = .ok (.iconst 0, 1) := by decide +kernel
theorem dL_isActed_78 : decode cL_isActed 78 = .ok (.ireturn, 1) := by decide +kernel
theorem dL_isActed_79 : decode cL_isActed 79 = .ok (.aload_n 1, 1) := by decide +kernel
theorem dL_isActed_80 : decode cL_isActed 80 = .ok (.iconst 2, 1) := by decide +kernel
theorem dL_isActed_81 : decode cL_isActed 81 = .ok (.iaload, 1) := by decide +kernel
theorem dL_isActed_82 : decode cL_isActed 82 = .ok (.istore 8, 2) := by decide +kernel
theorem dL_isActed_84 : decode cL_isActed 84 = .ok (.aload_n 1, 1) := by decide +kernel
theorem dL_isActed_85 : decode cL_isActed 85 = .ok (.iconst 2, 1) := by decide +kernel
theorem dL_isActed_86 : decode cL_isActed 86 = .ok (.iload 6, 2) := by decide +kernel
theorem dL_isActed_88 : decode cL_isActed 88 = .ok (.iload 8, 2) := by decide +kernel
theorem dL_isActed_90 : decode cL_isActed 90 = .ok (.iconst 1, 1) := by decide +kernel
theorem dL_isActed_91 : decode cL_isActed 91 = .ok (.iadd, 1) := by decide +kernel
theorem dL_isActed_92 : decode cL_isActed 92 = .ok (.irem, 1) := by decide +kernel
theorem dL_isActed_93 : decode cL_isActed 93 = .ok (.iastore, 1) := by decide +kernel
theorem dL_isActed_94 : decode cL_isActed 94 = .ok (.aload_n 0, 1) := by decide +kernel
theorem dL_isActed_95 : decode cL_isActed 95 = .ok (.iload 6, 2) := by decide +kernel
theorem dL_isActed_97 : decode cL_isActed 97 = .ok (.iload 8, 2) := by decide +kernel
theorem dL_isActed_99 : decode cL_isActed 99 = .ok (.iconst 1, 1) := by decide +kernel
theorem dL_isActed_100 : decode cL_isActed 100 = .ok (.iadd, 1) := by decide +kernel
theorem dL_isActed_101 : decode cL_isActed 101 = .ok (.irem, 1) := by decide +kernel
theorem dL_isActed_102 : decode cL_isActed 102 = .ok (.invokevirtual 84, 3) := by decide +kernel
theorem dL_isActed_105 : decode cL_isActed 105 = .ok (.iload 8, 2) := by decide +kernel
theorem dL_isActed_107 : decode cL_isActed 107 = .ok (.if_icmp .ne 7, 3) := by decide +kernel
theorem dL_isActed_110 : decode cL_isActed 110 = .ok (.iconst 1, 1) := by decide +kernel
theorem dL_isActed_111 : decode cL_isActed 111 = .ok (.goto 4, 3) := by decide +kernel
theorem dL_isActed_114 : decode cL_isActed 114 = .ok (.iconst 0, 1) := by decide +kernel
theorem dL_isActed_115 : decode cL_isActed 115 = .ok (.ireturn, 1) := by decide +kernel
theorem dL_isActed_116 : decode cL_isActed 116 = .ok (.iload 5, 2) := by decide +kernel
theorem dL_isActed_118 : decode cL_isActed 118 = .ok (.bipush 9, 2) := by decide +kernel
theorem dL_isActed_120 : decode cL_isActed 120 = .ok (.if_icmp .ne 40, 3) := by decide +kernel
theorem dL_isActed_123 : decode cL_isActed 123 = .ok (.aload_n 1, 1) := by decide +kernel
theorem dL_isActed_124 : decode cL_isActed 124 = .ok (.iconst 2, 1) := by decide +kernel
theorem dL_isActed_125 : decode cL_isActed 125 = .ok (.iaload, 1) := by decide +kernel
theorem dL_isActed_126 : decode cL_isActed 126 = .ok (.istore 7, 2) := by decide +kernel
theorem dL_isActed_128 : decode cL_isActed 128 = .ok (.aload_n 1, 1) := by decide +kernel
theorem dL_isActed_129 : decode cL_isActed 129 = .ok (.iconst 2, 1) := by decide +kernel
theorem dL_isActed_130 : decode cL_isActed 130 = .ok (.iload 6, 2) := by decide +kernel
theorem dL_isActed_132 : decode cL_isActed 132 = .ok (.iload 7, 2) := by decide +kernel
theorem dL_isActed_134 : decode cL_isActed 134 = .ok (.iconst 1, 1) := by decide +kernel
theorem dL_isActed_135 : decode cL_isActed 135 = .ok (.iadd, 1) := by decide +kernel
theorem dL_isActed_136 : decode cL_isActed 136 = .ok (.irem, 1) := by decide +kernel
theorem dL_isActed_137 : decode cL_isActed 137 = .ok (.iastore, 1) := by decide +kernel
theorem dL_isActed_138 : decode cL_isActed 138 = .ok (.aload_n 0, 1) := by decide +kernel
theorem dL_isActed_139 : decode cL_isActed 139 = .ok (.iload 6, 2) := by decide +kernel
theorem dL_isActed_141 : decode cL_isActed 141 = .ok (.iload 7, 2) := by decide +kernel
theorem dL_isActed_143 : decode cL_isActed 143 = .ok (.iconst 1, 1) := by decide +kernel
theorem dL_isActed_144 : decode cL_isActed 144 = .ok (.iadd, 1) := by decide +kernel
theorem dL_isActed_145 : decode cL_isActed 145 = .ok (.irem, 1) := by decide +kernel
theorem dL_isActed_146 : decode cL_isActed 146 = .ok (.invokevirtual 84, 3) := by decide +kernel
theorem dL_isActed_149 : decode cL_isActed 149 = .ok (.iload 7, 2) := by decide +kernel
theorem dL_isActed_151 : decode cL_isActed 151 = .ok (.if_icmp .ne 7, 3) := by decide +kernel
theorem dL_isActed_154 : decode cL_isActed 154 = .ok (.iconst 1, 1) := by decide +kernel
theorem dL_isActed_155 : decode cL_isActed 155 = .ok (.goto 4, 3) := by decide +kernel
theorem dL_isActed_158 : decode cL_isActed 158 = .ok (.iconst 0, 1) := by decide +kernel
theorem dL_isActed_159 : decode cL_isActed 159 = .ok (.ireturn, 1) := by decide +kernel
theorem dL_isActed_160 : decode cL_isActed 160 = .ok (.iload 5, 2) := by decide +kernel
theorem dL_isActed_162 : decode cL_isActed 162 = .ok (.bipush 12, 2) := by decide +kernel
theorem dL_isActed_164 : decode cL_isActed 164 = .ok (.if_icmp .ge 83, 3) := by decide +kernel
theorem dL_isActed_167 : decode cL_isActed 167 = .ok (.iconst 1, 1) := by decide +kernel
theorem dL_isActed_168 : decode cL_isActed 168 = .ok (.iload 6, 2) := by decide +kernel
theorem dL_isActed_170 : decode cL_isActed 170 = .ok (.iconst 2, 1) := by decide +kernel
theorem dL_isActed_171 : decode cL_isActed 171 = .ok (.irem, 1) := by decide +kernel
theorem dL_isActed_172 : decode cL_isActed 172 = .ok (.iadd, 1) := by decide +kernel
theorem dL_isActed_173 : decode cL_isActed 173 = .ok (.istore 7, 2) := by decide +kernel
theorem dL_isActed_175 : decode cL_isActed 175 = .ok (.iload 6, 2) := by decide +kernel
theorem dL_isActed_177 : decode cL_isActed 177 = .ok (.iconst 2, 1) := by decide +kernel
theorem dL_isActed_178 : decode cL_isActed 178 = .ok (.idiv, 1) := by decide +kernel
theorem dL_isActed_179 : decode cL_isActed 179 = .ok (.sipush 140, 3) := by decide +kernel
theorem dL_isActed_182 : decode cL_isActed 182 = .ok (.irem, 1) := by decide +kernel
theorem dL_isActed_183 : decode cL_isActed 183 = .ok (.istore 8, 2) := by decide +kernel
theorem dL_isActed_185 : decode cL_isActed 185 = .ok (.aload_n 1, 1) := by decide +kernel
theorem dL_isActed_186 : decode cL_isActed 186 = .ok (.iconst 0, 1) := by decide +kernel
theorem dL_isActed_187 : decode cL_isActed 187 = .ok (.iaload, 1) := by decide +kernel
theorem dL_isActed_188 : decode cL_isActed 188 = .ok (.iload 8, 2) := by decide +kernel
theorem dL_isActed_190 : decode cL_isActed 190 = .ok (.invokestatic 87, 3) := by decide +kernel
theorem dL_isActed_193 : decode cL_isActed 193 = .ok (.istore 9, 2) := by decide +kernel
theorem dL_isActed_195 : decode cL_isActed 195 = .ok (.iload 9, 2) := by decide +kernel
theorem dL_isActed_197 : decode cL_isActed 197 = .ok (.ifCond .eq 10, 3) := by decide +kernel
theorem dL_isActed_200 : decode cL_isActed 200 = .ok (.aload_n 3, 1) := by decide +kernel
theorem dL_isActed_201 : decode cL_isActed 201 = .ok (.iload 7, 2) := by decide +kernel
theorem dL_isActed_203 : decode cL_isActed 203 = .ok (.iaload, 1) := by decide +kernel
theorem dL_isActed_204 : decode cL_isActed 204 = .ok (.goto 4, 3) := by decide +kernel
theorem dL_isActed_207 : decode cL_isActed 207 = .ok (.iconst (-1), 1) := by decide +kernel
theorem dL_isActed_208 : decode cL_isActed 208 = .ok (.istore 10, 2) := by decide +kernel
theorem dL_isActed_210 : decode cL_isActed 210 = .ok (.aload_n 3, 1) := by decide +kernel
theorem dL_isActed_211 : decode cL_isActed 211 = .ok (.iload 7, 2) := by decide +kernel
theorem dL_isActed_213 : decode cL_isActed 213 = .ok (.iload 9, 2) := by decide +kernel
theorem dL_isActed_215 : decode cL_isActed 215 = .ok (.ifCond .eq 8, 3) := by decide +kernel
theorem dL_isActed_218 : decode cL_isActed 218 = .ok (.iload 8, 2) := by decide +kernel
theorem dL_isActed_220 : decode cL_isActed 220 = .ok (.goto 7, 3) := by decide +kernel
theorem dL_isActed_223 : decode cL_isActed 223 = .ok (.aload_n 3, 1) := by decide +kernel
theorem dL_isActed_224 : decode cL_isActed 224 = .ok (.iload 7, 2) := by decide +kernel
theorem dL_isActed_226 : decode cL_isActed 226 = .ok (.iaload, 1) := by decide +kernel
theorem dL_isActed_227 : decode cL_isActed 227 = .ok (.iastore, 1) := by decide +kernel
theorem dL_isActed_228 : decode cL_isActed 228 = .ok (.aload_n 0, 1) := by decide +kernel
theorem dL_isActed_229 : decode cL_isActed 229 = .ok (.iload 7, 2) := by decide +kernel
theorem dL_isActed_231 : decode cL_isActed 231 = .ok (.iload 8, 2) := by decide +kernel
theorem dL_isActed_233 : decode cL_isActed 233 = .ok (.invokevirtual 91, 3) := by decide +kernel
theorem dL_isActed_236 : decode cL_isActed 236 = .ok (.iload 10, 2) := by decide +kernel
theorem dL_isActed_238 : decode cL_isActed 238 = .ok (.if_icmp .ne 7, 3) := by decide +kernel
theorem dL_isActed_241 : decode cL_isActed 241 = .ok (.iconst 1, 1) := by decide +kernel
theorem dL_isActed_242 : decode cL_isActed 242 = .ok (.goto 4, 3) := by decide +kernel
theorem dL_isActed_245 : decode cL_isActed 245 = .ok (.iconst 0, 1) := by decide +kernel
theorem dL_isActed_246 : decode cL_isActed 246 = .ok (.ireturn, 1) := by decide +kernel
theorem dL_isActed_247 : decode cL_isActed 247 = .ok (.iload 5, 2) := by decide +kernel
theorem dL_isActed_249 : decode cL_isActed 249 = .ok (.bipush 12, 2) := by decide +kernel
theorem dL_isActed_251 : decode cL_isActed 251 = .ok (.if_icmp .ne 41, 3) := by decide +kernel
theorem dL_isActed_254 : decode cL_isActed 254 = .ok (.aload_n 1, 1) := by decide +kernel
theorem dL_isActed_255 : decode cL_isActed 255 = .ok (.iconst 0, 1) := by decide +kernel
theorem dL_isActed_256 : decode cL_isActed 256 = .ok (.iaload, 1) := by decide +kernel
theorem dL_isActed_257 : decode cL_isActed 257 = .ok (.istore 7, 2) := by decide +kernel
theorem dL_isActed_259 : decode cL_isActed 259 = .ok (.aload_n 1, 1) := by decide +kernel
theorem dL_isActed_260 : decode cL_isActed 260 = .ok (.aload_n 2, 1) := by decide +kernel
theorem dL_isActed_261 : decode cL_isActed 261 = .ok (.aload_n 3, 1) := by decide +kernel
theorem dL_isActed_262 : decode cL_isActed 262 = .ok (.iconst 4, 1) := by decide +kernel
theorem dL_isActed_263 : decode cL_isActed 263 = .ok (.iload 6, 2) := by decide +kernel
theorem dL_isActed_265 : decode cL_isActed 265 = .ok (.iconst 4, 1) := by decide +kernel
theorem dL_isActed_266 : decode cL_isActed 266 = .ok (.irem, 1) := by decide +kernel
theorem dL_isActed_267 : decode cL_isActed 267 = .ok (.iadd, 1) := by decide +kernel
theorem dL_isActed_268 : decode cL_isActed 268 = .ok (.invokestatic 94, 3) := by decide +kernel
theorem dL_isActed_271 : decode cL_isActed 271 = .ok (.aload_n 0, 1) := by decide +kernel
theorem dL_isActed_272 : decode cL_isActed 272 = .ok (.iconst 4, 1) := by decide +kernel
theorem dL_isActed_273 : decode cL_isActed 273 = .ok (.iload 6, 2) := by decide +kernel
theorem dL_isActed_275 : decode cL_isActed 275 = .ok (.iconst 4, 1) := by decide +kernel
theorem dL_isActed_276 : decode cL_isActed 276 = .ok (.irem, 1) := by decide +kernel
theorem dL_isActed_277 : decode cL_isActed 277 = .ok (.iadd, 1) := by decide +kernel
theorem dL_isActed_278 : decode cL_isActed 278 = .ok (.invokevirtual 98, 3) := by decide +kernel
theorem dL_isActed_281 : decode cL_isActed 281 = .ok (.iload 7, 2) := by decide +kernel
theorem dL_isActed_283 : decode cL_isActed 283 = .ok (.if_icmp .ne 7, 3) := by decide +kernel
theorem dL_isActed_286 : decode cL_isActed 286 = .ok (.iconst 1, 1) := by decide +kernel
theorem dL_isActed_287 : decode cL_isActed 287 = .ok (.goto 4, 3) := by decide +kernel
theorem dL_isActed_290 : decode cL_isActed 290 = .ok (.iconst 0, 1) := by decide +kernel
theorem dL_isActed_291 : decode cL_isActed 291 = .ok (.ireturn, 1) := by decide +kernel
theorem dL_isActed_292 : decode cL_isActed 292 = .ok (.iconst 1, 1) := by decide +kernel
theorem dL_isActed_293 : decode cL_isActed 293 = .ok (.iload 6, 2) := by decide +kernel
theorem dL_isActed_295 : decode cL_isActed 295 = .ok (.bipush 7, 2) := by decide +kernel
theorem dL_isActed_297 : decode cL_isActed 297 = .ok (.irem, 1) := by decide +kernel
theorem dL_isActed_298 : decode cL_isActed 298 = .ok (.iadd, 1) := by decide +kernel
theorem dL_isActed_299 : decode cL_isActed 299 = .ok (.istore 7, 2) := by decide +kernel
theorem dL_isActed_301 : decode cL_isActed 301 = .ok (.iload 6, 2) := by decide +kernel
theorem dL_isActed_303 : decode cL_isActed 303 = .ok (.bipush 7, 2) := by decide +kernel
theorem dL_isActed_305 : decode cL_isActed 305 = .ok (.idiv, 1) := by decide +kernel
theorem dL_isActed_306 : decode cL_isActed 306 = .ok (.istore 8, 2) := by decide +kernel
theorem dL_isActed_308 : decode cL_isActed 308 = .ok (.iconst 0, 1) := by decide +kernel
theorem dL_isActed_309 : decode cL_isActed 309 = .ok (.istore 9, 2) := by decide +kernel
theorem dL_isActed_311 : decode cL_isActed 311 = .ok (.iload 9, 2) := by decide +kernel
theorem dL_isActed_313 : decode cL_isActed 313 = .ok (.iload 7, 2) := by decide +kernel
theorem dL_isActed_315 : decode cL_isActed 315 = .ok (.if_icmp .ge 62, 3) := by decide +kernel
theorem dL_isActed_318 : decode cL_isActed 318 = .ok (.iload 8, 2) := by decide +kernel
theorem dL_isActed_320 : decode cL_isActed 320 = .ok (.iconst 1, 1) := by decide +kernel
theorem dL_isActed_321 : decode cL_isActed 321 = .ok (.aload_n 1, 1) := by decide +kernel
theorem dL_isActed_322 : decode cL_isActed 322 = .ok (.iconst 0, 1) := by decide +kernel
theorem dL_isActed_323 : decode cL_isActed 323 = .ok (.iaload, 1) := by decide +kernel
theorem dL_isActed_324 : decode cL_isActed 324 = .ok (.ishl, 1) := by decide +kernel
theorem dL_isActed_325 : decode cL_isActed 325 = .ok (.irem, 1) := by decide +kernel
theorem dL_isActed_326 : decode cL_isActed 326 = .ok (.istore 10, 2) := by decide +kernel
theorem dL_isActed_328 : decode cL_isActed 328 = .ok (.aload_n 1, 1) := by decide +kernel
theorem dL_isActed_329 : decode cL_isActed 329 = .ok (.iconst 0, 1) := by decide +kernel
theorem dL_isActed_330 : decode cL_isActed 330 = .ok (.iaload, 1) := by decide +kernel
theorem dL_isActed_331 : decode cL_isActed 331 = .ok (.iload 10, 2) := by decide +kernel
theorem dL_isActed_333 : decode cL_isActed 333 = .ok (.invokestatic 87, 3) := by decide +kernel
theorem dL_isActed_336 : decode cL_isActed 336 = .ok (.ifCond .ne 18, 3) := by decide +kernel
theorem dL_isActed_339 : decode cL_isActed 339 = .ok (.iload 10, 2) := by decide +kernel
theorem dL_isActed_341 : decode cL_isActed 341 = .ok (.iconst 1, 1) := by decide +kernel
theorem dL_isActed_342 : decode cL_isActed 342 = .ok (.iadd, 1) := by decide +kernel
theorem dL_isActed_343 : decode cL_isActed 343 = .ok (.iconst 1, 1) := by decide +kernel
theorem dL_isActed_344 : decode cL_isActed 344 = .ok (.aload_n 1, 1) := by decide +kernel
theorem dL_isActed_345 : decode cL_isActed 345 = .ok (.iconst 0, 1) := by decide +kernel
theorem dL_isActed_346 : decode cL_isActed 346 = .ok (.iaload, 1) := by decide +kernel
theorem dL_isActed_347 : decode cL_isActed 347 = .ok (.ishl, 1) := by decide +kernel
theorem dL_isActed_348 : decode cL_isActed 348 = .ok (.irem, 1) := by decide +kernel
theorem dL_isActed_349 : decode cL_isActed 349 = .ok (.istore 10, 2) := by decide +kernel
theorem dL_isActed_351 : decode cL_isActed 351 = .ok (.goto (-23), 3) := by decide +kernel
theorem dL_isActed_354 : decode cL_isActed 354 = .ok (.aload_n 2, 1) := by decide +kernel
theorem dL_isActed_355 : decode cL_isActed 355 = .ok (.iload 9, 2) := by decide +kernel
theorem dL_isActed_357 : decode cL_isActed 357 = .ok (.iload 10, 2) := by decide +kernel
theorem dL_isActed_359 : decode cL_isActed 359 = .ok (.iastore, 1) := by decide +kernel
theorem dL_isActed_360 : decode cL_isActed 360 = .ok (.iload 8, 2) := by decide +kernel
theorem dL_isActed_362 : decode cL_isActed 362 = .ok (.iconst 5, 1) := by decide +kernel
theorem dL_isActed_363 : decode cL_isActed 363 = .ok (.idiv, 1) := by decide +kernel
theorem dL_isActed_364 : decode cL_isActed 364 = .ok (.iconst 3, 1) := by decide +kernel
theorem dL_isActed_365 : decode cL_isActed 365 = .ok (.iload 9, 2) := by decide +kernel
theorem dL_isActed_367 : decode cL_isActed 367 = .ok (.imul, 1) := by decide +kernel
theorem dL_isActed_368 : decode cL_isActed 368 = .ok (.iadd, 1) := by decide +kernel
theorem dL_isActed_369 : decode cL_isActed 369 = .ok (.istore 8, 2) := by decide +kernel
theorem dL_isActed_371 : decode cL_isActed 371 = .ok (.iinc 9 1, 3) := by decide +kernel
theorem dL_isActed_374 : decode cL_isActed 374 = .ok (.goto (-63), 3) := by decide +kernel
theorem dL_isActed_377 : decode cL_isActed 377 = .ok (.aload_n 1, 1) := by decide +kernel
theorem dL_isActed_378 : decode cL_isActed 378 = .ok (.iconst 2, 1) := by decide +kernel
theorem dL_isActed_379 : decode cL_isActed 379 = .ok (.aload_n 1, 1) := by decide +kernel
theorem dL_isActed_380 : decode cL_isActed 380 = .ok (.iconst 2, 1) := by decide +kernel
theorem dL_isActed_381 : decode cL_isActed 381 = .ok (.iaload, 1) := by decide +kernel
theorem dL_isActed_382 : decode cL_isActed 382 = .ok (.iload 7, 2) := by decide +kernel
theorem dL_isActed_384 : decode cL_isActed 384 = .ok (.imul, 1) := by decide +kernel
theorem dL_isActed_385 : decode cL_isActed 385 = .ok (.sipush 181, 3) := by decide +kernel
theorem dL_isActed_388 : decode cL_isActed 388 = .ok (.if_icmp .ge 9, 3) := by decide +kernel
theorem dL_isActed_391 : decode cL_isActed 391 = .ok (.aload_n 1, 1) := by decide +kernel
theorem dL_isActed_392 : decode cL_isActed 392 = .ok (.iconst 2, 1) := by decide +kernel
theorem dL_isActed_393 : decode cL_isActed 393 = .ok (.iaload, 1) := by decide +kernel
theorem dL_isActed_394 : decode cL_isActed 394 = .ok (.goto 9, 3) := by decide +kernel
theorem dL_isActed_397 : decode cL_isActed 397 = .ok (.sipush 180, 3) := by decide +kernel
theorem dL_isActed_400 : decode cL_isActed 400 = .ok (.iload 7, 2) := by decide +kernel
theorem dL_isActed_402 : decode cL_isActed 402 = .ok (.idiv, 1) := by decide +kernel
theorem dL_isActed_403 : decode cL_isActed 403 = .ok (.iastore, 1) := by decide +kernel
theorem dL_isActed_404 : decode cL_isActed 404 = .ok (.aload_n 1, 1) := by decide +kernel
theorem dL_isActed_405 : decode cL_isActed 405 = .ok (.iconst 1, 1) := by decide +kernel
theorem dL_isActed_406 : decode cL_isActed 406 = .ok (.iload 7, 2) := by decide +kernel
theorem dL_isActed_408 : decode cL_isActed 408 = .ok (.iastore, 1) := by decide +kernel
theorem dL_isActed_409 : decode cL_isActed 409 = .ok (.aload_n 0, 1) := by decide +kernel
theorem dL_isActed_410 : decode cL_isActed 410 = .ok (.aload_n 1, 1) := by decide +kernel
theorem dL_isActed_411 : decode cL_isActed 411 = .ok (.iconst 2, 1) := by decide +kernel
theorem dL_isActed_412 : decode cL_isActed 412 = .ok (.iaload, 1) := by decide +kernel
theorem dL_isActed_413 : decode cL_isActed 413 = .ok (.invokevirtual 84, 3) := by decide +kernel
theorem dL_isActed_416 : decode cL_isActed 416 = .ok (.ifCond .lt 48, 3) := by decide +kernel
theorem dL_isActed_419 : decode cL_isActed 419 = .ok (.aload_n 0, 1) := by decide +kernel
theorem dL_isActed_420 : decode cL_isActed 420 = .ok (.aload_n 2, 1) := by decide +kernel
theorem dL_isActed_421 : decode cL_isActed 421 = .ok (.iload 7, 2) := by decide +kernel
theorem dL_isActed_423 : decode cL_isActed 423 = .ok (.aload_n 1, 1) := by decide +kernel
theorem dL_isActed_424 : decode cL_isActed 424 = .ok (.iconst 0, 1) := by decide +kernel
theorem dL_isActed_425 : decode cL_isActed 425 = .ok (.iaload, 1) := by decide +kernel
theorem dL_isActed_426 : decode cL_isActed 426 = .ok (.invokestatic 101, 3) := by decide +kernel
theorem dL_isActed_429 : decode cL_isActed 429 = .ok (.ifCond .eq 35, 3) := by decide +kernel
theorem dL_isActed_432 : decode cL_isActed 432 = .ok (.aload_n 0, 1) := by decide +kernel
theorem dL_isActed_433 : decode cL_isActed 433 = .ok (.iconst 0, 1) := by decide +kernel
theorem dL_isActed_434 : decode cL_isActed 434 = .ok (.invokevirtual 105, 3) := by decide +kernel
theorem dL_isActed_437 : decode cL_isActed 437 = .ok (.bipush (-4), 2) := by decide +kernel
theorem dL_isActed_439 : decode cL_isActed 439 = .ok (.if_icmp .ne 25, 3) := by decide +kernel
theorem dL_isActed_442 : decode cL_isActed 442 = .ok (.aload_n 0, 1) := by decide +kernel
theorem dL_isActed_443 : decode cL_isActed 443 = .ok (.invokevirtual 108, 3) := by decide +kernel
theorem dL_isActed_446 : decode cL_isActed 446 = .ok (.iload 7, 2) := by decide +kernel
theorem dL_isActed_448 : decode cL_isActed 448 = .ok (.if_icmp .ne 16, 3) := by decide +kernel
theorem dL_isActed_451 : decode cL_isActed 451 = .ok (.aload_n 0, 1) := by decide +kernel
theorem dL_isActed_452 : decode cL_isActed 452 = .ok (.bipush 14, 2) := by decide +kernel
theorem dL_isActed_454 : decode cL_isActed 454 = .ok (.invokevirtual 58, 3) := by decide +kernel
theorem dL_isActed_457 : decode cL_isActed 457 = .ok (.ifCond .ne 7, 3) := by decide +kernel
theorem dL_isActed_460 : decode cL_isActed 460 = .ok (.iconst 1, 1) := by decide +kernel
theorem dL_isActed_461 : decode cL_isActed 461 = .ok (.goto 4, 3) := by decide +kernel
theorem dL_isActed_464 : decode cL_isActed 464 = .ok (.iconst 0, 1) := by decide +kernel
theorem dL_isActed_465 : decode cL_isActed 465 = .ok (.ireturn, 1) := by decide +kernel
theorem dL_law_0 : decode cL_law 0 = .ok (.new 42, 3) := by decide +kernel
theorem dL_law_3 : decode cL_law 3 = .ok (.dup, 1) := by decide +kernel
theorem dL_law_4 : decode cL_law 4 = .ok (.invokespecial 111, 3) := by decide +kernel
theorem dL_law_7 : decode cL_law 7 = .ok (.astore_n 1, 1) := by decide +kernel
theorem dL_law_8 : decode cL_law 8 = .ok (.iconst 3, 1) := by decide +kernel
theorem dL_law_9 : decode cL_law 9 = .ok (.newarray .int, 2) := by decide +kernel
theorem dL_law_11 : decode cL_law 11 = .ok (.astore_n 2, 1) := by decide +kernel
theorem dL_law_12 : decode cL_law 12 = .ok (.bipush 20, 2) := by decide +kernel
theorem dL_law_14 : decode cL_law 14 = .ok (.newarray .int, 2) := by decide +kernel
theorem dL_law_16 : decode cL_law 16 = .ok (.astore_n 3, 1) := by decide +kernel
theorem dL_law_17 : decode cL_law 17 = .ok (.iconst 3, 1) := by decide +kernel
theorem dL_law_18 : decode cL_law 18 = .ok (.newarray .int, 2) := by decide +kernel
theorem dL_law_20 : decode cL_law 20 = .ok (.astore 4, 2) := by decide +kernel
theorem dL_law_22 : decode cL_law 22 = .ok (.bipush 16, 2) := by decide +kernel
theorem dL_law_24 : decode cL_law 24 = .ok (.newarray .int, 2) := by decide +kernel
theorem dL_law_26 : decode cL_law 26 = .ok (.astore 5, 2) := by decide +kernel
theorem dL_law_28 : decode cL_law 28 = .ok (.bipush 7, 2) := by decide +kernel
theorem dL_law_30 : decode cL_law 30 = .ok (.newarray .int, 2) := by decide +kernel
theorem dL_law_32 : decode cL_law 32 = .ok (.astore 6, 2) := by decide +kernel
theorem dL_law_34 : decode cL_law 34 = .ok (.bipush 64, 2) := by decide +kernel
theorem dL_law_36 : decode cL_law 36 = .ok (.newarray .long, 2) := by decide +kernel
theorem dL_law_38 : decode cL_law 38 = .ok (.astore 7, 2) := by decide +kernel
theorem dL_law_40 : decode cL_law 40 = .ok (.aload_n 2, 1) := by decide +kernel
theorem dL_law_41 : decode cL_law 41 = .ok (.aload_n 3, 1) := by decide +kernel
theorem dL_law_42 : decode cL_law 42 = .ok (.aload 4, 2) := by decide +kernel
theorem dL_law_44 : decode cL_law 44 = .ok (.bipush 6, 2) := by decide +kernel
theorem dL_law_46 : decode cL_law 46 = .ok (.invokestatic 94, 3) := by decide +kernel
theorem dL_law_49 : decode cL_law 49 = .ok (.iconst 0, 1) := by decide +kernel
theorem dL_law_50 : decode cL_law 50 = .ok (.istore 8, 2) := by decide +kernel
theorem dL_law_52 : decode cL_law 52 = .ok (.iload 8, 2) := by decide +kernel
theorem dL_law_54 : decode cL_law 54 = .ok (.bipush 40, 2) := by decide +kernel
theorem dL_law_56 : decode cL_law 56 = .ok (.if_icmp .ge 113, 3) := by decide +kernel
theorem dL_law_59 : decode cL_law 59 = .ok (.aload_n 0, 1) := by decide +kernel
theorem dL_law_60 : decode cL_law 60 = .ok (.iload 8, 2) := by decide +kernel
theorem dL_law_62 : decode cL_law 62 = .ok (.invokestatic 112, 3) := by decide +kernel
theorem dL_law_65 : decode cL_law 65 = .ok (.ldc 8, 2) := by decide +kernel
theorem dL_law_67 : decode cL_law 67 = .ok (.iand, 1) := by decide +kernel
theorem dL_law_68 : decode cL_law 68 = .ok (.istore 9, 2) := by decide +kernel
theorem dL_law_70 : decode cL_law 70 = .ok (.aload_n 1, 1) := by decide +kernel
theorem dL_law_71 : decode cL_law 71 = .ok (.aload_n 2, 1) := by decide +kernel
theorem dL_law_72 : decode cL_law 72 = .ok (.aload_n 3, 1) := by decide +kernel
theorem dL_law_73 : decode cL_law 73 = .ok (.aload 4, 2) := by decide +kernel
theorem dL_law_75 : decode cL_law 75 = .ok (.aload 5, 2) := by decide +kernel
theorem dL_law_77 : decode cL_law 77 = .ok (.iload 9, 2) := by decide +kernel
theorem dL_law_79 : decode cL_law 79 = .ok (.bipush 15, 2) := by decide +kernel
theorem dL_law_81 : decode cL_law 81 = .ok (.irem, 1) := by decide +kernel
theorem dL_law_82 : decode cL_law 82 = .ok (.iload 9, 2) := by decide +kernel
theorem dL_law_84 : decode cL_law 84 = .ok (.bipush 15, 2) := by decide +kernel
theorem dL_law_86 : decode cL_law 86 = .ok (.idiv, 1) := by decide +kernel
theorem dL_law_87 : decode cL_law 87 = .ok (.invokestatic 116, 3) := by decide +kernel
theorem dL_law_90 : decode cL_law 90 = .ok (.ifCond .ne 5, 3) := by decide +kernel
theorem dL_law_93 : decode cL_law 93 = .ok (.iconst 0, 1) := by decide +kernel
theorem dL_law_94 : decode cL_law 94 = .ok (.ireturn, 1) := by decide +kernel
theorem dL_law_95 : decode cL_law 95 = .ok (.aload_n 2, 1) := by decide +kernel
theorem dL_law_96 : decode cL_law 96 = .ok (.aload_n 3, 1) := by decide +kernel
theorem dL_law_97 : decode cL_law 97 = .ok (.aload 4, 2) := by decide +kernel
theorem dL_law_99 : decode cL_law 99 = .ok (.aload 5, 2) := by decide +kernel
theorem dL_law_101 : decode cL_law 101 = .ok (.aload 6, 2) := by decide +kernel
theorem dL_law_103 : decode cL_law 103 = .ok (.aload 7, 2) := by decide +kernel
theorem dL_law_105 : decode cL_law 105 = .ok (.invokestatic 120, 3) := by decide +kernel
theorem dL_law_108 : decode cL_law 108 = .ok (.aload_n 1, 1) := by decide +kernel
theorem dL_law_109 : decode cL_law 109 = .ok (.aload_n 2, 1) := by decide +kernel
theorem dL_law_110 : decode cL_law 110 = .ok (.aload_n 3, 1) := by decide +kernel
theorem dL_law_111 : decode cL_law 111 = .ok (.aload 4, 2) := by decide +kernel
theorem dL_law_113 : decode cL_law 113 = .ok (.aload 5, 2) := by decide +kernel
theorem dL_law_115 : decode cL_law 115 = .ok (.aload 7, 2) := by decide +kernel
theorem dL_law_117 : decode cL_law 117 = .ok (.invokestatic 124, 3) := by decide +kernel
theorem dL_law_120 : decode cL_law 120 = .ok (.ifCond .eq 41, 3) := by decide +kernel
theorem dL_law_123 : decode cL_law 123 = .ok (.aload_n 1, 1) := by decide +kernel
theorem dL_law_124 : decode cL_law 124 = .ok (.aload_n 2, 1) := by decide +kernel
theorem dL_law_125 : decode cL_law 125 = .ok (.aload 7, 2) := by decide +kernel
theorem dL_law_127 : decode cL_law 127 = .ok (.iload 9, 2) := by decide +kernel
theorem dL_law_129 : decode cL_law 129 = .ok (.bipush 7, 2) := by decide +kernel
theorem dL_law_131 : decode cL_law 131 = .ok (.idiv, 1) := by decide +kernel
theorem dL_law_132 : decode cL_law 132 = .ok (.bipush 9, 2) := by decide +kernel
theorem dL_law_134 : decode cL_law 134 = .ok (.irem, 1) := by decide +kernel
theorem dL_law_135 : decode cL_law 135 = .ok (.invokestatic 128, 3) := by decide +kernel
theorem dL_law_138 : decode cL_law 138 = .ok (.ifCond .eq 23, 3) := by decide +kernel
theorem dL_law_141 : decode cL_law 141 = .ok (.aload_n 1, 1) := by decide +kernel
theorem dL_law_142 : decode cL_law 142 = .ok (.aload_n 2, 1) := by decide +kernel
theorem dL_law_143 : decode cL_law 143 = .ok (.aload 7, 2) := by decide +kernel
theorem dL_law_145 : decode cL_law 145 = .ok (.iconst 1, 1) := by decide +kernel
theorem dL_law_146 : decode cL_law 146 = .ok (.iload 9, 2) := by decide +kernel
theorem dL_law_148 : decode cL_law 148 = .ok (.iconst 3, 1) := by decide +kernel
theorem dL_law_149 : decode cL_law 149 = .ok (.idiv, 1) := by decide +kernel
theorem dL_law_150 : decode cL_law 150 = .ok (.aload_n 2, 1) := by decide +kernel
theorem dL_law_151 : decode cL_law 151 = .ok (.iconst 0, 1) := by decide +kernel
theorem dL_law_152 : decode cL_law 152 = .ok (.iaload, 1) := by decide +kernel
theorem dL_law_153 : decode cL_law 153 = .ok (.irem, 1) := by decide +kernel
theorem dL_law_154 : decode cL_law 154 = .ok (.iadd, 1) := by decide +kernel
theorem dL_law_155 : decode cL_law 155 = .ok (.invokestatic 132, 3) := by decide +kernel
theorem dL_law_158 : decode cL_law 158 = .ok (.ifCond .ne 5, 3) := by decide +kernel
theorem dL_law_161 : decode cL_law 161 = .ok (.iconst 0, 1) := by decide +kernel
theorem dL_law_162 : decode cL_law 162 = .ok (.ireturn, 1) := by decide +kernel
theorem dL_law_163 : decode cL_law 163 = .ok (.iinc 8 1, 3) := by decide +kernel
theorem dL_law_166 : decode cL_law 166 = .ok (.goto (-114), 3) := by decide +kernel
theorem dL_law_169 : decode cL_law 169 = .ok (.iconst 1, 1) := by decide +kernel
theorem dL_law_170 : decode cL_law 170 = .ok (.ireturn, 1) := by decide +kernel
