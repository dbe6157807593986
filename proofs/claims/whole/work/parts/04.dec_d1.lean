theorem dX11_init_0 : decode cX11_init 0 = .ok (.aload_n 0, 1) := by decide +kernel
theorem dX11_init_1 : decode cX11_init 1 = .ok (.invokespecial 1, 3) := by decide +kernel
theorem dX11_init_4 : decode cX11_init 4 = .ok (.aload_n 0, 1) := by decide +kernel
theorem dX11_init_5 : decode cX11_init 5 = .ok (.bipush 41, 2) := by decide +kernel
theorem dX11_init_7 : decode cX11_init 7 = .ok (.newarray .int, 2) := by decide +kernel
theorem dX11_init_9 : decode cX11_init 9 = .ok (.putfield 7, 3) := by decide +kernel
theorem dX11_init_12 : decode cX11_init 12 = .ok (.aload_n 0, 1) := by decide +kernel
theorem dX11_init_13 : decode cX11_init 13 = .ok (.sipush 164, 3) := by decide +kernel
theorem dX11_init_16 : decode cX11_init 16 = .ok (.newarray .int, 2) := by decide +kernel
theorem dX11_init_18 : decode cX11_init 18 = .ok (.putfield 13, 3) := by decide +kernel
theorem dX11_init_21 : decode cX11_init 21 = .ok (.aload_n 0, 1) := by decide +kernel
theorem dX11_init_22 : decode cX11_init 22 = .ok (.bipush 41, 2) := by decide +kernel
theorem dX11_init_24 : decode cX11_init 24 = .ok (.newarray .int, 2) := by decide +kernel
theorem dX11_init_26 : decode cX11_init 26 = .ok (.putfield 16, 3) := by decide +kernel
theorem dX11_init_29 : decode cX11_init 29 = .ok (.aload_n 0, 1) := by decide +kernel
theorem dX11_init_30 : decode cX11_init 30 = .ok (.bipush 80, 2) := by decide +kernel
theorem dX11_init_32 : decode cX11_init 32 = .ok (.newarray .int, 2) := by decide +kernel
theorem dX11_init_34 : decode cX11_init 34 = .ok (.putfield 19, 3) := by decide +kernel
theorem dX11_init_37 : decode cX11_init 37 = .ok (.aload_n 0, 1) := by decide +kernel
theorem dX11_init_38 : decode cX11_init 38 = .ok (.bipush 7, 2) := by decide +kernel
theorem dX11_init_40 : decode cX11_init 40 = .ok (.newarray .int, 2) := by decide +kernel
theorem dX11_init_42 : decode cX11_init 42 = .ok (.putfield 22, 3) := by decide +kernel
theorem dX11_init_45 : decode cX11_init 45 = .ok (.aload_n 0, 1) := by decide +kernel
theorem dX11_init_46 : decode cX11_init 46 = .ok (.bipush 7, 2) := by decide +kernel
theorem dX11_init_48 : decode cX11_init 48 = .ok (.newarray .int, 2) := by decide +kernel
theorem dX11_init_50 : decode cX11_init 50 = .ok (.putfield 25, 3) := by decide +kernel
theorem dX11_init_53 : decode cX11_init 53 = .ok (.aload_n 0, 1) := by decide +kernel
theorem dX11_init_54 : decode cX11_init 54 = .ok (.sipush 341, 3) := by decide +kernel
theorem dX11_init_57 : decode cX11_init 57 = .ok (.newarray .int, 2) := by decide +kernel
theorem dX11_init_59 : decode cX11_init 59 = .ok (.putfield 28, 3) := by decide +kernel
theorem dX11_init_62 : decode cX11_init 62 = .ok (.aload_n 0, 1) := by decide +kernel
theorem dX11_init_63 : decode cX11_init 63 = .ok (.bipush 21, 2) := by decide +kernel
theorem dX11_init_65 : decode cX11_init 65 = .ok (.newarray .int, 2) := by decide +kernel
theorem dX11_init_67 : decode cX11_init 67 = .ok (.putfield 31, 3) := by decide +kernel
theorem dX11_init_70 : decode cX11_init 70 = .ok (.aload_n 0, 1) := by decide +kernel
theorem dX11_init_71 : decode cX11_init 71 = .ok (.sipush 341, 3) := by decide +kernel
theorem dX11_init_74 : decode cX11_init 74 = .ok (.newarray .int, 2) := by decide +kernel
theorem dX11_init_76 : decode cX11_init 76 = .ok (.putfield 34, 3) := by decide +kernel
theorem dX11_init_79 : decode cX11_init 79 = .ok (.aload_n 0, 1) := by decide +kernel
theorem dX11_init_80 : decode cX11_init 80 = .ok (.bipush 21, 2) := by decide +kernel
theorem dX11_init_82 : decode cX11_init 82 = .ok (.newarray .int, 2) := by decide +kernel
theorem dX11_init_84 : decode cX11_init 84 = .ok (.putfield 37, 3) := by decide +kernel
theorem dX11_init_87 : decode cX11_init 87 = .ok (.aload_n 0, 1) := by decide +kernel
theorem dX11_init_88 : decode cX11_init 88 = .ok (.sipush 5040, 3) := by decide +kernel
theorem dX11_init_91 : decode cX11_init 91 = .ok (.newarray .int, 2) := by decide +kernel
theorem dX11_init_93 : decode cX11_init 93 = .ok (.putfield 40, 3) := by decide +kernel
theorem dX11_init_96 : decode cX11_init 96 = .ok (.aload_n 0, 1) := by decide +kernel
theorem dX11_init_97 : decode cX11_init 97 = .ok (.sipush 5040, 3) := by decide +kernel
theorem dX11_init_100 : decode cX11_init 100 = .ok (.newarray .int, 2) := by decide +kernel
theorem dX11_init_102 : decode cX11_init 102 = .ok (.putfield 43, 3) := by decide +kernel
theorem dX11_init_105 : decode cX11_init 105 = .ok (.aload_n 0, 1) := by decide +kernel
theorem dX11_init_106 : decode cX11_init 106 = .ok (.bipush 6, 2) := by decide +kernel
theorem dX11_init_108 : decode cX11_init 108 = .ok (.invokevirtual 46, 3) := by decide +kernel
theorem dX11_init_111 : decode cX11_init 111 = .ok (.return_, 1) := by decide +kernel
theorem dX11_in_0 : decode cX11_in 0 = .ok (.iload_n 0, 1) := by decide +kernel
theorem dX11_in_1 : decode cX11_in 1 = .ok (.iload_n 1, 1) := by decide +kernel
theorem dX11_in_2 : decode cX11_in 2 = .ok (.if_icmp .lt 12, 3) := by decide +kernel
theorem dX11_in_5 : decode cX11_in 5 = .ok (.iload_n 0, 1) := by decide +kernel
theorem dX11_in_6 : decode cX11_in 6 = .ok (.iload_n 2, 1) := by decide +kernel
theorem dX11_in_7 : decode cX11_in 7 = .ok (.if_icmp .gt 7, 3) := by decide +kernel
theorem dX11_in_10 : decode cX11_in 10 = .ok (.iconst 1, 1) := by decide +kernel
theorem dX11_in_11 : decode cX11_in 11 = .ok (.goto 4, 3) := by decide +kernel
theorem dX11_in_14 : decode cX11_in 14 = .ok (.iconst 0, 1) := by decide +kernel
theorem dX11_in_15 : decode cX11_in 15 = .ok (.ireturn, 1) := by decide +kernel
theorem dX11_changes_0 : decode cX11_changes 0 = .ok (.aload_n 0, 1) := by decide +kernel
theorem dX11_changes_1 : decode cX11_changes 1 = .ok (.getfield 50, 3) := by decide +kernel
theorem dX11_changes_4 : decode cX11_changes 4 = .ok (.iconst 4, 1) := by decide +kernel
theorem dX11_changes_5 : decode cX11_changes 5 = .ok (.if_icmp .ne 42, 3) := by decide +kernel
theorem dX11_changes_8 : decode cX11_changes 8 = .ok (.iconst 0, 1) := by decide +kernel
theorem dX11_changes_9 : decode cX11_changes 9 = .ok (.istore_n 1, 1) := by decide +kernel
theorem dX11_changes_10 : decode cX11_changes 10 = .ok (.iload_n 1, 1) := by decide +kernel
theorem dX11_changes_11 : decode cX11_changes 11 = .ok (.bipush 123, 2) := by decide +kernel
theorem dX11_changes_13 : decode cX11_changes 13 = .ok (.if_icmp .ge 24, 3) := by decide +kernel
theorem dX11_changes_16 : decode cX11_changes 16 = .ok (.aload_n 0, 1) := by decide +kernel
theorem dX11_changes_17 : decode cX11_changes 17 = .ok (.getfield 13, 3) := by decide +kernel
theorem dX11_changes_20 : decode cX11_changes 20 = .ok (.iload_n 1, 1) := by decide +kernel
theorem dX11_changes_21 : decode cX11_changes 21 = .ok (.aload_n 0, 1) := by decide +kernel
theorem dX11_changes_22 : decode cX11_changes 22 = .ok (.getfield 13, 3) := by decide +kernel
theorem dX11_changes_25 : decode cX11_changes 25 = .ok (.iload_n 1, 1) := by decide +kernel
theorem dX11_changes_26 : decode cX11_changes 26 = .ok (.bipush 41, 2) := by decide +kernel
theorem dX11_changes_28 : decode cX11_changes 28 = .ok (.iadd, 1) := by decide +kernel
theorem dX11_changes_29 : decode cX11_changes 29 = .ok (.iaload, 1) := by decide +kernel
theorem dX11_changes_30 : decode cX11_changes 30 = .ok (.iastore, 1) := by decide +kernel
theorem dX11_changes_31 : decode cX11_changes 31 = .ok (.iinc 1 1, 3) := by decide +kernel
theorem dX11_changes_34 : decode cX11_changes 34 = .ok (.goto (-24), 3) := by decide +kernel
theorem dX11_changes_37 : decode cX11_changes 37 = .ok (.aload_n 0, 1) := by decide +kernel
theorem dX11_changes_38 : decode cX11_changes 38 = .ok (.dup, 1) := by decide +kernel
theorem dX11_changes_39 : decode cX11_changes 39 = .ok (.getfield 50, 3) := by decide +kernel
theorem dX11_changes_42 : decode cX11_changes 42 = .ok (.iconst 1, 1) := by decide +kernel
theorem dX11_changes_43 : decode cX11_changes 43 = .ok (.isub, 1) := by decide +kernel
theorem dX11_changes_44 : decode cX11_changes 44 = .ok (.putfield 50, 3) := by decide +kernel
theorem dX11_changes_47 : decode cX11_changes 47 = .ok (.iconst 0, 1) := by decide +kernel
theorem dX11_changes_48 : decode cX11_changes 48 = .ok (.istore_n 1, 1) := by decide +kernel
theorem dX11_changes_49 : decode cX11_changes 49 = .ok (.iload_n 1, 1) := by decide +kernel
theorem dX11_changes_50 : decode cX11_changes 50 = .ok (.bipush 41, 2) := by decide +kernel
theorem dX11_changes_52 : decode cX11_changes 52 = .ok (.if_icmp .ge 29, 3) := by decide +kernel
theorem dX11_changes_55 : decode cX11_changes 55 = .ok (.aload_n 0, 1) := by decide +kernel
theorem dX11_changes_56 : decode cX11_changes 56 = .ok (.getfield 13, 3) := by decide +kernel
theorem dX11_changes_59 : decode cX11_changes 59 = .ok (.bipush 41, 2) := by decide +kernel
theorem dX11_changes_61 : decode cX11_changes 61 = .ok (.aload_n 0, 1) := by decide +kernel
theorem dX11_changes_62 : decode cX11_changes 62 = .ok (.getfield 50, 3) := by decide +kernel
theorem dX11_changes_65 : decode cX11_changes 65 = .ok (.imul, 1) := by decide +kernel
theorem dX11_changes_66 : decode cX11_changes 66 = .ok (.iload_n 1, 1) := by decide +kernel
theorem dX11_changes_67 : decode cX11_changes 67 = .ok (.iadd, 1) := by decide +kernel
theorem dX11_changes_68 : decode cX11_changes 68 = .ok (.aload_n 0, 1) := by decide +kernel
theorem dX11_changes_69 : decode cX11_changes 69 = .ok (.getfield 7, 3) := by decide +kernel
theorem dX11_changes_72 : decode cX11_changes 72 = .ok (.iload_n 1, 1) := by decide +kernel
theorem dX11_changes_73 : decode cX11_changes 73 = .ok (.iaload, 1) := by decide +kernel
theorem dX11_changes_74 : decode cX11_changes 74 = .ok (.iastore, 1) := by decide +kernel
theorem dX11_changes_75 : decode cX11_changes 75 = .ok (.iinc 1 1, 3) := by decide +kernel
theorem dX11_changes_78 : decode cX11_changes 78 = .ok (.goto (-29), 3) := by decide +kernel
theorem dX11_changes_81 : decode cX11_changes 81 = .ok (.aload_n 0, 1) := by decide +kernel
theorem dX11_changes_82 : decode cX11_changes 82 = .ok (.dup, 1) := by decide +kernel
theorem dX11_changes_83 : decode cX11_changes 83 = .ok (.getfield 50, 3) := by decide +kernel
theorem dX11_changes_86 : decode cX11_changes 86 = .ok (.iconst 1, 1) := by decide +kernel
theorem dX11_changes_87 : decode cX11_changes 87 = .ok (.iadd, 1) := by decide +kernel
theorem dX11_changes_88 : decode cX11_changes 88 = .ok (.putfield 50, 3) := by decide +kernel
theorem dX11_changes_91 : decode cX11_changes 91 = .ok (.return_, 1) := by decide +kernel
theorem dX11_lays_0 : decode cX11_lays 0 = .ok (.iload_n 1, 1) := by decide +kernel
theorem dX11_lays_1 : decode cX11_lays 1 = .ok (.iconst 2, 1) := by decide +kernel
theorem dX11_lays_2 : decode cX11_lays 2 = .ok (.irem, 1) := by decide +kernel
theorem dX11_lays_3 : decode cX11_lays 3 = .ok (.iconst 1, 1) := by decide +kernel
theorem dX11_lays_4 : decode cX11_lays 4 = .ok (.if_icmp .ne 7, 3) := by decide +kernel
theorem dX11_lays_7 : decode cX11_lays 7 = .ok (.iconst 1, 1) := by decide +kernel
theorem dX11_lays_8 : decode cX11_lays 8 = .ok (.goto 4, 3) := by decide +kernel
theorem dX11_lays_11 : decode cX11_lays 11 = .ok (.iconst 0, 1) := by decide +kernel
theorem dX11_lays_12 : decode cX11_lays 12 = .ok (.istore_n 2, 1) := by decide +kernel
theorem dX11_lays_13 : decode cX11_lays 13 = .ok (.iload_n 2, 1) := by decide +kernel
theorem dX11_lays_14 : decode cX11_lays 14 = .ok (.ifCond .eq 11, 3) := by decide +kernel
theorem dX11_lays_17 : decode cX11_lays 17 = .ok (.iconst 1, 1) := by decide +kernel
theorem dX11_lays_18 : decode cX11_lays 18 = .ok (.iload_n 1, 1) := by decide +kernel
theorem dX11_lays_19 : decode cX11_lays 19 = .ok (.iconst 1, 1) := by decide +kernel
theorem dX11_lays_20 : decode cX11_lays 20 = .ok (.isub, 1) := by decide +kernel
theorem dX11_lays_21 : decode cX11_lays 21 = .ok (.ishl, 1) := by decide +kernel
theorem dX11_lays_22 : decode cX11_lays 22 = .ok (.goto 4, 3) := by decide +kernel
theorem dX11_lays_25 : decode cX11_lays 25 = .ok (.iconst 0, 1) := by decide +kernel
theorem dX11_lays_26 : decode cX11_lays 26 = .ok (.istore_n 3, 1) := by decide +kernel
theorem dX11_lays_27 : decode cX11_lays 27 = .ok (.aload_n 0, 1) := by decide +kernel
theorem dX11_lays_28 : decode cX11_lays 28 = .ok (.getfield 7, 3) := by decide +kernel
theorem dX11_lays_31 : decode cX11_lays 31 = .ok (.iconst 0, 1) := by decide +kernel
theorem dX11_lays_32 : decode cX11_lays 32 = .ok (.iload_n 1, 1) := by decide +kernel
theorem dX11_lays_33 : decode cX11_lays 33 = .ok (.iastore, 1) := by decide +kernel
theorem dX11_lays_34 : decode cX11_lays 34 = .ok (.aload_n 0, 1) := by decide +kernel
theorem dX11_lays_35 : decode cX11_lays 35 = .ok (.getfield 7, 3) := by decide +kernel
theorem dX11_lays_38 : decode cX11_lays 38 = .ok (.iconst 1, 1) := by decide +kernel
theorem dX11_lays_39 : decode cX11_lays 39 = .ok (.iconst 2, 1) := by decide +kernel
theorem dX11_lays_40 : decode cX11_lays 40 = .ok (.iload_n 1, 1) := by decide +kernel
theorem dX11_lays_41 : decode cX11_lays 41 = .ok (.imul, 1) := by decide +kernel
theorem dX11_lays_42 : decode cX11_lays 42 = .ok (.iastore, 1) := by decide +kernel
theorem dX11_lays_43 : decode cX11_lays 43 = .ok (.aload_n 0, 1) := by decide +kernel
theorem dX11_lays_44 : decode cX11_lays 44 = .ok (.getfield 7, 3) := by decide +kernel
theorem dX11_lays_47 : decode cX11_lays 47 = .ok (.iconst 2, 1) := by decide +kernel
theorem dX11_lays_48 : decode cX11_lays 48 = .ok (.iconst 0, 1) := by decide +kernel
theorem dX11_lays_49 : decode cX11_lays 49 = .ok (.iastore, 1) := by decide +kernel
theorem dX11_lays_50 : decode cX11_lays 50 = .ok (.iconst 0, 1) := by decide +kernel
theorem dX11_lays_51 : decode cX11_lays 51 = .ok (.istore 4, 2) := by decide +kernel
theorem dX11_lays_53 : decode cX11_lays 53 = .ok (.iload 4, 2) := by decide +kernel
theorem dX11_lays_55 : decode cX11_lays 55 = .ok (.bipush 20, 2) := by decide +kernel
theorem dX11_lays_57 : decode cX11_lays 57 = .ok (.if_icmp .ge 78, 3) := by decide +kernel
theorem dX11_lays_60 : decode cX11_lays 60 = .ok (.iload 4, 2) := by decide +kernel
theorem dX11_lays_62 : decode cX11_lays 62 = .ok (.iconst 2, 1) := by decide +kernel
theorem dX11_lays_63 : decode cX11_lays 63 = .ok (.irem, 1) := by decide +kernel
theorem dX11_lays_64 : decode cX11_lays 64 = .ok (.ifCond .ne 7, 3) := by decide +kernel
theorem dX11_lays_67 : decode cX11_lays 67 = .ok (.iload_n 3, 1) := by decide +kernel
theorem dX11_lays_68 : decode cX11_lays 68 = .ok (.goto 18, 3) := by decide +kernel
theorem dX11_lays_71 : decode cX11_lays 71 = .ok (.iload_n 2, 1) := by decide +kernel
theorem dX11_lays_72 : decode cX11_lays 72 = .ok (.ifCond .eq 7, 3) := by decide +kernel
theorem dX11_lays_75 : decode cX11_lays 75 = .ok (.iconst 1, 1) := by decide +kernel
theorem dX11_lays_76 : decode cX11_lays 76 = .ok (.goto 10, 3) := by decide +kernel
theorem dX11_lays_79 : decode cX11_lays 79 = .ok (.iconst 1, 1) := by decide +kernel
theorem dX11_lays_80 : decode cX11_lays 80 = .ok (.iconst 1, 1) := by decide +kernel
theorem dX11_lays_81 : decode cX11_lays 81 = .ok (.iload_n 1, 1) := by decide +kernel
theorem dX11_lays_82 : decode cX11_lays 82 = .ok (.iconst 1, 1) := by decide +kernel
theorem dX11_lays_83 : decode cX11_lays 83 = .ok (.isub, 1) := by decide +kernel
theorem dX11_lays_84 : decode cX11_lays 84 = .ok (.ishl, 1) := by decide +kernel
theorem dX11_lays_85 : decode cX11_lays 85 = .ok (.ior, 1) := by decide +kernel
theorem dX11_lays_86 : decode cX11_lays 86 = .ok (.istore 5, 2) := by decide +kernel
theorem dX11_lays_88 : decode cX11_lays 88 = .ok (.aload_n 0, 1) := by decide +kernel
theorem dX11_lays_89 : decode cX11_lays 89 = .ok (.getfield 7, 3) := by decide +kernel
theorem dX11_lays_92 : decode cX11_lays 92 = .ok (.iconst 5, 1) := by decide +kernel
theorem dX11_lays_93 : decode cX11_lays 93 = .ok (.iload 4, 2) := by decide +kernel
theorem dX11_lays_95 : decode cX11_lays 95 = .ok (.iadd, 1) := by decide +kernel
theorem dX11_lays_96 : decode cX11_lays 96 = .ok (.iload 4, 2) := by decide +kernel
theorem dX11_lays_98 : decode cX11_lays 98 = .ok (.iconst 2, 1) := by decide +kernel
theorem dX11_lays_99 : decode cX11_lays 99 = .ok (.iload_n 1, 1) := by decide +kernel
theorem dX11_lays_100 : decode cX11_lays 100 = .ok (.imul, 1) := by decide +kernel
theorem dX11_lays_101 : decode cX11_lays 101 = .ok (.iconst 1, 1) := by decide +kernel
theorem dX11_lays_102 : decode cX11_lays 102 = .ok (.isub, 1) := by decide +kernel
theorem dX11_lays_103 : decode cX11_lays 103 = .ok (.if_icmp .le 7, 3) := by decide +kernel
theorem dX11_lays_106 : decode cX11_lays 106 = .ok (.iconst 0, 1) := by decide +kernel
theorem dX11_lays_107 : decode cX11_lays 107 = .ok (.goto 21, 3) := by decide +kernel
theorem dX11_lays_110 : decode cX11_lays 110 = .ok (.iload 4, 2) := by decide +kernel
theorem dX11_lays_112 : decode cX11_lays 112 = .ok (.iconst 2, 1) := by decide +kernel
theorem dX11_lays_113 : decode cX11_lays 113 = .ok (.iload_n 1, 1) := by decide +kernel
theorem dX11_lays_114 : decode cX11_lays 114 = .ok (.imul, 1) := by decide +kernel
theorem dX11_lays_115 : decode cX11_lays 115 = .ok (.iconst 1, 1) := by decide +kernel
theorem dX11_lays_116 : decode cX11_lays 116 = .ok (.isub, 1) := by decide +kernel
theorem dX11_lays_117 : decode cX11_lays 117 = .ok (.if_icmp .ne 9, 3) := by decide +kernel
theorem dX11_lays_120 : decode cX11_lays 120 = .ok (.iconst 3, 1) := by decide +kernel
theorem dX11_lays_121 : decode cX11_lays 121 = .ok (.iload_n 3, 1) := by decide +kernel
theorem dX11_lays_122 : decode cX11_lays 122 = .ok (.ior, 1) := by decide +kernel
theorem dX11_lays_123 : decode cX11_lays 123 = .ok (.goto 5, 3) := by decide +kernel
theorem dX11_lays_126 : decode cX11_lays 126 = .ok (.iload 5, 2) := by decide +kernel
theorem dX11_lays_128 : decode cX11_lays 128 = .ok (.iastore, 1) := by decide +kernel
theorem dX11_lays_129 : decode cX11_lays 129 = .ok (.iinc 4 1, 3) := by decide +kernel
theorem dX11_lays_132 : decode cX11_lays 132 = .ok (.goto (-79), 3) := by decide +kernel
theorem dX11_lays_135 : decode cX11_lays 135 = .ok (.iconst 0, 1) := by decide +kernel
theorem dX11_lays_136 : decode cX11_lays 136 = .ok (.istore 4, 2) := by decide +kernel
theorem dX11_lays_138 : decode cX11_lays 138 = .ok (.iload 4, 2) := by decide +kernel
theorem dX11_lays_140 : decode cX11_lays 140 = .ok (.bipush 16, 2) := by decide +kernel
theorem dX11_lays_142 : decode cX11_lays 142 = .ok (.if_icmp .ge 20, 3) := by decide +kernel
theorem dX11_lays_145 : decode cX11_lays 145 = .ok (.aload_n 0, 1) := by decide +kernel
theorem dX11_lays_146 : decode cX11_lays 146 = .ok (.getfield 7, 3) := by decide +kernel
theorem dX11_lays_149 : decode cX11_lays 149 = .ok (.bipush 25, 2) := by decide +kernel
theorem dX11_lays_151 : decode cX11_lays 151 = .ok (.iload 4, 2) := by decide +kernel
theorem dX11_lays_153 : decode cX11_lays 153 = .ok (.iadd, 1) := by decide +kernel
theorem dX11_lays_154 : decode cX11_lays 154 = .ok (.iconst 0, 1) := by decide +kernel
theorem dX11_lays_155 : decode cX11_lays 155 = .ok (.iastore, 1) := by decide +kernel
theorem dX11_lays_156 : decode cX11_lays 156 = .ok (.iinc 4 1, 3) := by decide +kernel
theorem dX11_lays_159 : decode cX11_lays 159 = .ok (.goto (-21), 3) := by decide +kernel
theorem dX11_lays_162 : decode cX11_lays 162 = .ok (.aload_n 0, 1) := by decide +kernel
theorem dX11_lays_163 : decode cX11_lays 163 = .ok (.getfield 7, 3) := by decide +kernel
theorem dX11_lays_166 : decode cX11_lays 166 = .ok (.iconst 3, 1) := by decide +kernel
theorem dX11_lays_167 : decode cX11_lays 167 = .ok (.bipush 9, 2) := by decide +kernel
theorem dX11_lays_169 : decode cX11_lays 169 = .ok (.iload_n 3, 1) := by decide +kernel
theorem dX11_lays_170 : decode cX11_lays 170 = .ok (.ior, 1) := by decide +kernel
theorem dX11_lays_171 : decode cX11_lays 171 = .ok (.iastore, 1) := by decide +kernel
theorem dX11_lays_172 : decode cX11_lays 172 = .ok (.aload_n 0, 1) := by decide +kernel
theorem dX11_lays_173 : decode cX11_lays 173 = .ok (.getfield 7, 3) := by decide +kernel
theorem dX11_lays_176 : decode cX11_lays 176 = .ok (.iconst 4, 1) := by decide +kernel
theorem dX11_lays_177 : decode cX11_lays 177 = .ok (.iload_n 1, 1) := by decide +kernel
theorem dX11_lays_178 : decode cX11_lays 178 = .ok (.iconst 4, 1) := by decide +kernel
theorem dX11_lays_179 : decode cX11_lays 179 = .ok (.if_icmp .ne 8, 3) := by decide +kernel
theorem dX11_lays_182 : decode cX11_lays 182 = .ok (.bipush 12, 2) := by decide +kernel
theorem dX11_lays_184 : decode cX11_lays 184 = .ok (.goto 17, 3) := by decide +kernel
theorem dX11_lays_187 : decode cX11_lays 187 = .ok (.iload_n 1, 1) := by decide +kernel
theorem dX11_lays_188 : decode cX11_lays 188 = .ok (.iconst 5, 1) := by decide +kernel
theorem dX11_lays_189 : decode cX11_lays 189 = .ok (.if_icmp .ne 8, 3) := by decide +kernel
theorem dX11_lays_192 : decode cX11_lays 192 = .ok (.bipush 7, 2) := by decide +kernel
theorem dX11_lays_194 : decode cX11_lays 194 = .ok (.goto 7, 3) := by decide +kernel
theorem dX11_lays_197 : decode cX11_lays 197 = .ok (.bipush 15, 2) := by decide +kernel
theorem dX11_lays_199 : decode cX11_lays 199 = .ok (.iload_n 3, 1) := by decide +kernel
theorem dX11_lays_200 : decode cX11_lays 200 = .ok (.ior, 1) := by decide +kernel
theorem dX11_lays_201 : decode cX11_lays 201 = .ok (.iastore, 1) := by decide +kernel
theorem dX11_lays_202 : decode cX11_lays 202 = .ok (.return_, 1) := by decide +kernel
theorem dX11_last_0 : decode cX11_last 0 = .ok (.aload_n 0, 1) := by decide +kernel
theorem dX11_last_1 : decode cX11_last 1 = .ok (.getfield 7, 3) := by decide +kernel
theorem dX11_last_4 : decode cX11_last 4 = .ok (.iconst 2, 1) := by decide +kernel
theorem dX11_last_5 : decode cX11_last 5 = .ok (.iaload, 1) := by decide +kernel
theorem dX11_last_6 : decode cX11_last 6 = .ok (.aload_n 0, 1) := by decide +kernel
theorem dX11_last_7 : decode cX11_last 7 = .ok (.getfield 7, 3) := by decide +kernel
theorem dX11_last_10 : decode cX11_last 10 = .ok (.iconst 1, 1) := by decide +kernel
theorem dX11_last_11 : decode cX11_last 11 = .ok (.iaload, 1) := by decide +kernel
theorem dX11_last_12 : decode cX11_last 12 = .ok (.imul, 1) := by decide +kernel
theorem dX11_last_13 : decode cX11_last 13 = .ok (.ireturn, 1) := by decide +kernel
theorem dX11_isRight_0 : decode cX11_isRight 0 = .ok (.aload_n 0, 1) := by decide +kernel
theorem dX11_isRight_1 : decode cX11_isRight 1 = .ok (.getfield 7, 3) := by decide +kernel
theorem dX11_isRight_4 : decode cX11_isRight 4 = .ok (.iconst 0, 1) := by decide +kernel
theorem dX11_isRight_5 : decode cX11_isRight 5 = .ok (.iaload, 1) := by decide +kernel
theorem dX11_isRight_6 : decode cX11_isRight 6 = .ok (.istore_n 2, 1) := by decide +kernel
theorem dX11_isRight_7 : decode cX11_isRight 7 = .ok (.iload_n 1, 1) := by decide +kernel
theorem dX11_isRight_8 : decode cX11_isRight 8 = .ok (.iconst 0, 1) := by decide +kernel
theorem dX11_isRight_9 : decode cX11_isRight 9 = .ok (.iconst 1, 1) := by decide +kernel
theorem dX11_isRight_10 : decode cX11_isRight 10 = .ok (.iload_n 2, 1) := by decide +kernel
theorem dX11_isRight_11 : decode cX11_isRight 11 = .ok (.ishl, 1) := by decide +kernel
theorem dX11_isRight_12 : decode cX11_isRight 12 = .ok (.iconst 2, 1) := by decide +kernel
theorem dX11_isRight_13 : decode cX11_isRight 13 = .ok (.isub, 1) := by decide +kernel
theorem dX11_isRight_14 : decode cX11_isRight 14 = .ok (.invokestatic 54, 3) := by decide +kernel
theorem dX11_isRight_17 : decode cX11_isRight 17 = .ok (.ifCond .ne 5, 3) := by decide +kernel
theorem dX11_isRight_20 : decode cX11_isRight 20 = .ok (.iconst 0, 1) := by decide +kernel
theorem dX11_isRight_21 : decode cX11_isRight 21 = .ok (.ireturn, 1) := by decide +kernel
theorem dX11_isRight_22 : decode cX11_isRight 22 = .ok (.iconst 0, 1) := by decide +kernel
theorem dX11_isRight_23 : decode cX11_isRight 23 = .ok (.istore_n 3, 1) := by decide +kernel
theorem dX11_isRight_24 : decode cX11_isRight 24 = .ok (.iload_n 3, 1) := by decide +kernel
theorem dX11_isRight_25 : decode cX11_isRight 25 = .ok (.iload_n 2, 1) := by decide +kernel
theorem dX11_isRight_26 : decode cX11_isRight 26 = .ok (.if_icmp .ge 43, 3) := by decide +kernel
theorem dX11_isRight_29 : decode cX11_isRight 29 = .ok (.iload_n 1, 1) := by decide +kernel
theorem dX11_isRight_30 : decode cX11_isRight 30 = .ok (.iload_n 3, 1) := by decide +kernel
theorem dX11_isRight_31 : decode cX11_isRight 31 = .ok (.ishr, 1) := by decide +kernel
theorem dX11_isRight_32 : decode cX11_isRight 32 = .ok (.iconst 1, 1) := by decide +kernel
theorem dX11_isRight_33 : decode cX11_isRight 33 = .ok (.iand, 1) := by decide +kernel
theorem dX11_isRight_34 : decode cX11_isRight 34 = .ok (.iconst 1, 1) := by decide +kernel
theorem dX11_isRight_35 : decode cX11_isRight 35 = .ok (.if_icmp .ne 9, 3) := by decide +kernel
theorem dX11_isRight_38 : decode cX11_isRight 38 = .ok (.iinc 3 1, 3) := by decide +kernel
theorem dX11_isRight_41 : decode cX11_isRight 41 = .ok (.goto (-17), 3) := by decide +kernel
theorem dX11_isRight_44 : decode cX11_isRight 44 = .ok (.iload_n 3, 1) := by decide +kernel
theorem dX11_isRight_45 : decode cX11_isRight 45 = .ok (.iconst 1, 1) := by decide +kernel
theorem dX11_isRight_46 : decode cX11_isRight 46 = .ok (.iadd, 1) := by decide +kernel
theorem dX11_isRight_47 : decode cX11_isRight 47 = .ok (.iload_n 2, 1) := by decide +kernel
theorem dX11_isRight_48 : decode cX11_isRight 48 = .ok (.if_icmp .ge 19, 3) := by decide +kernel
theorem dX11_isRight_51 : decode cX11_isRight 51 = .ok (.iload_n 1, 1) := by decide +kernel
theorem dX11_isRight_52 : decode cX11_isRight 52 = .ok (.iload_n 3, 1) := by decide +kernel
theorem dX11_isRight_53 : decode cX11_isRight 53 = .ok (.iconst 1, 1) := by decide +kernel
theorem dX11_isRight_54 : decode cX11_isRight 54 = .ok (.iadd, 1) := by decide +kernel
theorem dX11_isRight_55 : decode cX11_isRight 55 = .ok (.ishr, 1) := by decide +kernel
theorem dX11_isRight_56 : decode cX11_isRight 56 = .ok (.iconst 1, 1) := by decide +kernel
theorem dX11_isRight_57 : decode cX11_isRight 57 = .ok (.iand, 1) := by decide +kernel
theorem dX11_isRight_58 : decode cX11_isRight 58 = .ok (.ifCond .ne 9, 3) := by decide +kernel
theorem dX11_isRight_61 : decode cX11_isRight 61 = .ok (.iinc 3 2, 3) := by decide +kernel
theorem dX11_isRight_64 : decode cX11_isRight 64 = .ok (.goto (-40), 3) := by decide +kernel
theorem dX11_isRight_67 : decode cX11_isRight 67 = .ok (.iconst 0, 1) := by decide +kernel
theorem dX11_isRight_68 : decode cX11_isRight 68 = .ok (.ireturn, 1) := by decide +kernel
theorem dX11_isRight_69 : decode cX11_isRight 69 = .ok (.iconst 1, 1) := by decide +kernel
theorem dX11_isRight_70 : decode cX11_isRight 70 = .ok (.ireturn, 1) := by decide +kernel
theorem dX11_toRounds_0 : decode cX11_toRounds 0 = .ok (.iconst 0, 1) := by decide +kernel
theorem dX11_toRounds_1 : decode cX11_toRounds 1 = .ok (.istore_n 1, 1) := by decide +kernel
theorem dX11_toRounds_2 : decode cX11_toRounds 2 = .ok (.iload_n 1, 1) := by decide +kernel
theorem dX11_toRounds_3 : decode cX11_toRounds 3 = .ok (.aload_n 0, 1) := by decide +kernel
theorem dX11_toRounds_4 : decode cX11_toRounds 4 = .ok (.getfield 7, 3) := by decide +kernel
theorem dX11_toRounds_7 : decode cX11_toRounds 7 = .ok (.iconst 0, 1) := by decide +kernel
theorem dX11_toRounds_8 : decode cX11_toRounds 8 = .ok (.iaload, 1) := by decide +kernel
theorem dX11_toRounds_9 : decode cX11_toRounds 9 = .ok (.if_icmp .ge 16, 3) := by decide +kernel
theorem dX11_toRounds_12 : decode cX11_toRounds 12 = .ok (.aload_n 0, 1) := by decide +kernel
theorem dX11_toRounds_13 : decode cX11_toRounds 13 = .ok (.getfield 22, 3) := by decide +kernel
theorem dX11_toRounds_16 : decode cX11_toRounds 16 = .ok (.iload_n 1, 1) := by decide +kernel
theorem dX11_toRounds_17 : decode cX11_toRounds 17 = .ok (.iload_n 1, 1) := by decide +kernel
theorem dX11_toRounds_18 : decode cX11_toRounds 18 = .ok (.iastore, 1) := by decide +kernel
theorem dX11_toRounds_19 : decode cX11_toRounds 19 = .ok (.iinc 1 1, 3) := by decide +kernel
theorem dX11_toRounds_22 : decode cX11_toRounds 22 = .ok (.goto (-20), 3) := by decide +kernel
theorem dX11_toRounds_25 : decode cX11_toRounds 25 = .ok (.return_, 1) := by decide +kernel
theorem dX11_rings_0 : decode cX11_rings 0 = .ok (.iconst 0, 1) := by decide +kernel
theorem dX11_rings_1 : decode cX11_rings 1 = .ok (.istore_n 2, 1) := by decide +kernel
theorem dX11_rings_2 : decode cX11_rings 2 = .ok (.iload_n 2, 1) := by decide +kernel
theorem dX11_rings_3 : decode cX11_rings 3 = .ok (.aload_n 0, 1) := by decide +kernel
theorem dX11_rings_4 : decode cX11_rings 4 = .ok (.getfield 7, 3) := by decide +kernel
theorem dX11_rings_7 : decode cX11_rings 7 = .ok (.iconst 0, 1) := by decide +kernel
theorem dX11_rings_8 : decode cX11_rings 8 = .ok (.iaload, 1) := by decide +kernel
theorem dX11_rings_9 : decode cX11_rings 9 = .ok (.if_icmp .ge 54, 3) := by decide +kernel
theorem dX11_rings_12 : decode cX11_rings 12 = .ok (.iload_n 1, 1) := by decide +kernel
theorem dX11_rings_13 : decode cX11_rings 13 = .ok (.iload_n 2, 1) := by decide +kernel
theorem dX11_rings_14 : decode cX11_rings 14 = .ok (.ishr, 1) := by decide +kernel
theorem dX11_rings_15 : decode cX11_rings 15 = .ok (.iconst 1, 1) := by decide +kernel
theorem dX11_rings_16 : decode cX11_rings 16 = .ok (.iand, 1) := by decide +kernel
theorem dX11_rings_17 : decode cX11_rings 17 = .ok (.iconst 1, 1) := by decide +kernel
theorem dX11_rings_18 : decode cX11_rings 18 = .ok (.if_icmp .ne 9, 3) := by decide +kernel
theorem dX11_rings_21 : decode cX11_rings 21 = .ok (.iinc 2 1, 3) := by decide +kernel
theorem dX11_rings_24 : decode cX11_rings 24 = .ok (.goto (-22), 3) := by decide +kernel
theorem dX11_rings_27 : decode cX11_rings 27 = .ok (.aload_n 0, 1) := by decide +kernel
theorem dX11_rings_28 : decode cX11_rings 28 = .ok (.getfield 22, 3) := by decide +kernel
theorem dX11_rings_31 : decode cX11_rings 31 = .ok (.iload_n 2, 1) := by decide +kernel
theorem dX11_rings_32 : decode cX11_rings 32 = .ok (.iaload, 1) := by decide +kernel
theorem dX11_rings_33 : decode cX11_rings 33 = .ok (.istore_n 3, 1) := by decide +kernel
theorem dX11_rings_34 : decode cX11_rings 34 = .ok (.aload_n 0, 1) := by decide +kernel
theorem dX11_rings_35 : decode cX11_rings 35 = .ok (.getfield 22, 3) := by decide +kernel
theorem dX11_rings_38 : decode cX11_rings 38 = .ok (.iload_n 2, 1) := by decide +kernel
theorem dX11_rings_39 : decode cX11_rings 39 = .ok (.aload_n 0, 1) := by decide +kernel
theorem dX11_rings_40 : decode cX11_rings 40 = .ok (.getfield 22, 3) := by decide +kernel
theorem dX11_rings_43 : decode cX11_rings 43 = .ok (.iload_n 2, 1) := by decide +kernel
theorem dX11_rings_44 : decode cX11_rings 44 = .ok (.iconst 1, 1) := by decide +kernel
theorem dX11_rings_45 : decode cX11_rings 45 = .ok (.iadd, 1) := by decide +kernel
theorem dX11_rings_46 : decode cX11_rings 46 = .ok (.iaload, 1) := by decide +kernel
theorem dX11_rings_47 : decode cX11_rings 47 = .ok (.iastore, 1) := by decide +kernel
theorem dX11_rings_48 : decode cX11_rings 48 = .ok (.aload_n 0, 1) := by decide +kernel
theorem dX11_rings_49 : decode cX11_rings 49 = .ok (.getfield 22, 3) := by decide +kernel
theorem dX11_rings_52 : decode cX11_rings 52 = .ok (.iload_n 2, 1) := by decide +kernel
theorem dX11_rings_53 : decode cX11_rings 53 = .ok (.iconst 1, 1) := by decide +kernel
theorem dX11_rings_54 : decode cX11_rings 54 = .ok (.iadd, 1) := by decide +kernel
theorem dX11_rings_55 : decode cX11_rings 55 = .ok (.iload_n 3, 1) := by decide +kernel
theorem dX11_rings_56 : decode cX11_rings 56 = .ok (.iastore, 1) := by decide +kernel
theorem dX11_rings_57 : decode cX11_rings 57 = .ok (.iinc 2 2, 3) := by decide +kernel
theorem dX11_rings_60 : decode cX11_rings 60 = .ok (.goto (-58), 3) := by decide +kernel
theorem dX11_rings_63 : decode cX11_rings 63 = .ok (.return_, 1) := by decide +kernel
theorem dX11_rank_0 : decode cX11_rank 0 = .ok (.aload_n 0, 1) := by decide +kernel
theorem dX11_rank_1 : decode cX11_rank 1 = .ok (.getfield 7, 3) := by decide +kernel
theorem dX11_rank_4 : decode cX11_rank 4 = .ok (.iconst 0, 1) := by decide +kernel
theorem dX11_rank_5 : decode cX11_rank 5 = .ok (.iaload, 1) := by decide +kernel
theorem dX11_rank_6 : decode cX11_rank 6 = .ok (.istore_n 1, 1) := by decide +kernel
theorem dX11_rank_7 : decode cX11_rank 7 = .ok (.iconst 0, 1) := by decide +kernel
theorem dX11_rank_8 : decode cX11_rank 8 = .ok (.istore_n 2, 1) := by decide +kernel
theorem dX11_rank_9 : decode cX11_rank 9 = .ok (.iconst 0, 1) := by decide +kernel
theorem dX11_rank_10 : decode cX11_rank 10 = .ok (.istore_n 3, 1) := by decide +kernel
theorem dX11_rank_11 : decode cX11_rank 11 = .ok (.iload_n 3, 1) := by decide +kernel
theorem dX11_rank_12 : decode cX11_rank 12 = .ok (.iload_n 1, 1) := by decide +kernel
theorem dX11_rank_13 : decode cX11_rank 13 = .ok (.if_icmp .ge 64, 3) := by decide +kernel
theorem dX11_rank_16 : decode cX11_rank 16 = .ok (.iconst 0, 1) := by decide +kernel
theorem dX11_rank_17 : decode cX11_rank 17 = .ok (.istore 4, 2) := by decide +kernel
theorem dX11_rank_19 : decode cX11_rank 19 = .ok (.iload_n 3, 1) := by decide +kernel
theorem dX11_rank_20 : decode cX11_rank 20 = .ok (.iconst 1, 1) := by decide +kernel
theorem dX11_rank_21 : decode cX11_rank 21 = .ok (.iadd, 1) := by decide +kernel
theorem dX11_rank_22 : decode cX11_rank 22 = .ok (.istore 5, 2) := by decide +kernel
theorem dX11_rank_24 : decode cX11_rank 24 = .ok (.iload 5, 2) := by decide +kernel
theorem dX11_rank_26 : decode cX11_rank 26 = .ok (.iload_n 1, 1) := by decide +kernel
theorem dX11_rank_27 : decode cX11_rank 27 = .ok (.if_icmp .ge 35, 3) := by decide +kernel
theorem dX11_rank_30 : decode cX11_rank 30 = .ok (.iload 4, 2) := by decide +kernel
theorem dX11_rank_32 : decode cX11_rank 32 = .ok (.aload_n 0, 1) := by decide +kernel
theorem dX11_rank_33 : decode cX11_rank 33 = .ok (.getfield 22, 3) := by decide +kernel
theorem dX11_rank_36 : decode cX11_rank 36 = .ok (.iload 5, 2) := by decide +kernel
theorem dX11_rank_38 : decode cX11_rank 38 = .ok (.iaload, 1) := by decide +kernel
theorem dX11_rank_39 : decode cX11_rank 39 = .ok (.aload_n 0, 1) := by decide +kernel
theorem dX11_rank_40 : decode cX11_rank 40 = .ok (.getfield 22, 3) := by decide +kernel
theorem dX11_rank_43 : decode cX11_rank 43 = .ok (.iload_n 3, 1) := by decide +kernel
theorem dX11_rank_44 : decode cX11_rank 44 = .ok (.iaload, 1) := by decide +kernel
theorem dX11_rank_45 : decode cX11_rank 45 = .ok (.if_icmp .ge 7, 3) := by decide +kernel
theorem dX11_rank_48 : decode cX11_rank 48 = .ok (.iconst 1, 1) := by decide +kernel
theorem dX11_rank_49 : decode cX11_rank 49 = .ok (.goto 4, 3) := by decide +kernel
theorem dX11_rank_52 : decode cX11_rank 52 = .ok (.iconst 0, 1) := by decide +kernel
theorem dX11_rank_53 : decode cX11_rank 53 = .ok (.iadd, 1) := by decide +kernel
theorem dX11_rank_54 : decode cX11_rank 54 = .ok (.istore 4, 2) := by decide +kernel
theorem dX11_rank_56 : decode cX11_rank 56 = .ok (.iinc 5 1, 3) := by decide +kernel
theorem dX11_rank_59 : decode cX11_rank 59 = .ok (.goto (-35), 3) := by decide +kernel
theorem dX11_rank_62 : decode cX11_rank 62 = .ok (.iload_n 2, 1) := by decide +kernel
theorem dX11_rank_63 : decode cX11_rank 63 = .ok (.iload_n 1, 1) := by decide +kernel
theorem dX11_rank_64 : decode cX11_rank 64 = .ok (.iload_n 3, 1) := by decide +kernel
theorem dX11_rank_65 : decode cX11_rank 65 = .ok (.isub, 1) := by decide +kernel
theorem dX11_rank_66 : decode cX11_rank 66 = .ok (.imul, 1) := by decide +kernel
theorem dX11_rank_67 : decode cX11_rank 67 = .ok (.iload 4, 2) := by decide +kernel
theorem dX11_rank_69 : decode cX11_rank 69 = .ok (.iadd, 1) := by decide +kernel
theorem dX11_rank_70 : decode cX11_rank 70 = .ok (.istore_n 2, 1) := by decide +kernel
theorem dX11_rank_71 : decode cX11_rank 71 = .ok (.iinc 3 1, 3) := by decide +kernel
theorem dX11_rank_74 : decode cX11_rank 74 = .ok (.goto (-63), 3) := by decide +kernel
theorem dX11_rank_77 : decode cX11_rank 77 = .ok (.iload_n 2, 1) := by decide +kernel
theorem dX11_rank_78 : decode cX11_rank 78 = .ok (.ireturn, 1) := by decide +kernel
theorem dX11_unrank_0 : decode cX11_unrank 0 = .ok (.aload_n 0, 1) := by decide +kernel
theorem dX11_unrank_1 : decode cX11_unrank 1 = .ok (.getfield 7, 3) := by decide +kernel
theorem dX11_unrank_4 : decode cX11_unrank 4 = .ok (.iconst 0, 1) := by decide +kernel
theorem dX11_unrank_5 : decode cX11_unrank 5 = .ok (.iaload, 1) := by decide +kernel
theorem dX11_unrank_6 : decode cX11_unrank 6 = .ok (.istore_n 2, 1) := by decide +kernel
theorem dX11_unrank_7 : decode cX11_unrank 7 = .ok (.iload_n 1, 1) := by decide +kernel
theorem dX11_unrank_8 : decode cX11_unrank 8 = .ok (.istore_n 3, 1) := by decide +kernel
theorem dX11_unrank_9 : decode cX11_unrank 9 = .ok (.iload_n 2, 1) := by decide +kernel
theorem dX11_unrank_10 : decode cX11_unrank 10 = .ok (.iconst 1, 1) := by decide +kernel
theorem dX11_unrank_11 : decode cX11_unrank 11 = .ok (.isub, 1) := by decide +kernel
theorem dX11_unrank_12 : decode cX11_unrank 12 = .ok (.istore 4, 2) := by decide +kernel
theorem dX11_unrank_14 : decode cX11_unrank 14 = .ok (.iload 4, 2) := by decide +kernel
theorem dX11_unrank_16 : decode cX11_unrank 16 = .ok (.ifCond .lt 79, 3) := by decide +kernel
theorem dX11_unrank_19 : decode cX11_unrank 19 = .ok (.aload_n 0, 1) := by decide +kernel
theorem dX11_unrank_20 : decode cX11_unrank 20 = .ok (.getfield 22, 3) := by decide +kernel
theorem dX11_unrank_23 : decode cX11_unrank 23 = .ok (.iload 4, 2) := by decide +kernel
theorem dX11_unrank_25 : decode cX11_unrank 25 = .ok (.iload_n 3, 1) := by decide +kernel
theorem dX11_unrank_26 : decode cX11_unrank 26 = .ok (.iload_n 2, 1) := by decide +kernel
theorem dX11_unrank_27 : decode cX11_unrank 27 = .ok (.iload 4, 2) := by decide +kernel
theorem dX11_unrank_29 : decode cX11_unrank 29 = .ok (.isub, 1) := by decide +kernel
theorem dX11_unrank_30 : decode cX11_unrank 30 = .ok (.irem, 1) := by decide +kernel
theorem dX11_unrank_31 : decode cX11_unrank 31 = .ok (.iastore, 1) := by decide +kernel
theorem dX11_unrank_32 : decode cX11_unrank 32 = .ok (.iload_n 3, 1) := by decide +kernel
theorem dX11_unrank_33 : decode cX11_unrank 33 = .ok (.iload_n 2, 1) := by decide +kernel
theorem dX11_unrank_34 : decode cX11_unrank 34 = .ok (.iload 4, 2) := by decide +kernel
theorem dX11_unrank_36 : decode cX11_unrank 36 = .ok (.isub, 1) := by decide +kernel
theorem dX11_unrank_37 : decode cX11_unrank 37 = .ok (.idiv, 1) := by decide +kernel
theorem dX11_unrank_38 : decode cX11_unrank 38 = .ok (.istore_n 3, 1) := by decide +kernel
theorem dX11_unrank_39 : decode cX11_unrank 39 = .ok (.iload 4, 2) := by decide +kernel
theorem dX11_unrank_41 : decode cX11_unrank 41 = .ok (.iconst 1, 1) := by decide +kernel
theorem dX11_unrank_42 : decode cX11_unrank 42 = .ok (.iadd, 1) := by decide +kernel
theorem dX11_unrank_43 : decode cX11_unrank 43 = .ok (.istore 5, 2) := by decide +kernel
theorem dX11_unrank_45 : decode cX11_unrank 45 = .ok (.iload 5, 2) := by decide +kernel
theorem dX11_unrank_47 : decode cX11_unrank 47 = .ok (.iload_n 2, 1) := by decide +kernel
theorem dX11_unrank_48 : decode cX11_unrank 48 = .ok (.if_icmp .ge 41, 3) := by decide +kernel
theorem dX11_unrank_51 : decode cX11_unrank 51 = .ok (.aload_n 0, 1) := by decide +kernel
theorem dX11_unrank_52 : decode cX11_unrank 52 = .ok (.getfield 22, 3) := by decide +kernel
theorem dX11_unrank_55 : decode cX11_unrank 55 = .ok (.iload 5, 2) := by decide +kernel
theorem dX11_unrank_57 : decode cX11_unrank 57 = .ok (.dup2, 1) := by decide +kernel
theorem dX11_unrank_58 : decode cX11_unrank 58 = .ok (.iaload, 1) := by decide +kernel
theorem dX11_unrank_59 : decode cX11_unrank 59 = .ok (.aload_n 0, 1) := by decide +kernel
theorem dX11_unrank_60 : decode cX11_unrank 60 = .ok (.getfield 22, 3) := by decide +kernel
theorem dX11_unrank_63 : decode cX11_unrank 63 = .ok (.iload 5, 2) := by decide +kernel
theorem dX11_unrank_65 : decode cX11_unrank 65 = .ok (.iaload, 1) := by decide +kernel
theorem dX11_unrank_66 : decode cX11_unrank 66 = .ok (.aload_n 0, 1) := by decide +kernel
theorem dX11_unrank_67 : decode cX11_unrank 67 = .ok (.getfield 22, 3) := by decide +kernel
theorem dX11_unrank_70 : decode cX11_unrank 70 = .ok (.iload 4, 2) := by decide +kernel
theorem dX11_unrank_72 : decode cX11_unrank 72 = .ok (.iaload, 1) := by decide +kernel
theorem dX11_unrank_73 : decode cX11_unrank 73 = .ok (.if_icmp .lt 7, 3) := by decide +kernel
theorem dX11_unrank_76 : decode cX11_unrank 76 = .ok (.iconst 1, 1) := by decide +kernel
theorem dX11_unrank_77 : decode cX11_unrank 77 = .ok (.goto 4, 3) := by decide +kernel
theorem dX11_unrank_80 : decode cX11_unrank 80 = .ok (.iconst 0, 1) := by decide +kernel
theorem dX11_unrank_81 : decode cX11_unrank 81 = .ok (.iadd, 1) := by decide +kernel
theorem dX11_unrank_82 : decode cX11_unrank 82 = .ok (.iastore, 1) := by decide +kernel
theorem dX11_unrank_83 : decode cX11_unrank 83 = .ok (.iinc 5 1, 3) := by decide +kernel
theorem dX11_unrank_86 : decode cX11_unrank 86 = .ok (.goto (-41), 3) := by decide +kernel
theorem dX11_unrank_89 : decode cX11_unrank 89 = .ok (.iinc 4 (-1), 3) := by decide +kernel
theorem dX11_unrank_92 : decode cX11_unrank 92 = .ok (.goto (-78), 3) := by decide +kernel
theorem dX11_unrank_95 : decode cX11_unrank 95 = .ok (.return_, 1) := by decide +kernel
theorem dX11_changeOf_0 : decode cX11_changeOf 0 = .ok (.iload_n 1, 1) := by decide +kernel
theorem dX11_changeOf_1 : decode cX11_changeOf 1 = .ok (.ifCond .le 26, 3) := by decide +kernel
theorem dX11_changeOf_4 : decode cX11_changeOf 4 = .ok (.iload_n 2, 1) := by decide +kernel
theorem dX11_changeOf_5 : decode cX11_changeOf 5 = .ok (.aload_n 0, 1) := by decide +kernel
theorem dX11_changeOf_6 : decode cX11_changeOf 6 = .ok (.getfield 7, 3) := by decide +kernel
theorem dX11_changeOf_9 : decode cX11_changeOf 9 = .ok (.iconst 1, 1) := by decide +kernel
theorem dX11_changeOf_10 : decode cX11_changeOf 10 = .ok (.iaload, 1) := by decide +kernel
theorem dX11_changeOf_11 : decode cX11_changeOf 11 = .ok (.iconst 1, 1) := by decide +kernel
theorem dX11_changeOf_12 : decode cX11_changeOf 12 = .ok (.isub, 1) := by decide +kernel
theorem dX11_changeOf_13 : decode cX11_changeOf 13 = .ok (.if_icmp .ne 14, 3) := by decide +kernel
theorem dX11_changeOf_16 : decode cX11_changeOf 16 = .ok (.aload_n 0, 1) := by decide +kernel
theorem dX11_changeOf_17 : decode cX11_changeOf 17 = .ok (.getfield 7, 3) := by decide +kernel
theorem dX11_changeOf_20 : decode cX11_changeOf 20 = .ok (.iconst 2, 1) := by decide +kernel
theorem dX11_changeOf_21 : decode cX11_changeOf 21 = .ok (.iload_n 1, 1) := by decide +kernel
theorem dX11_changeOf_22 : decode cX11_changeOf 22 = .ok (.iadd, 1) := by decide +kernel
theorem dX11_changeOf_23 : decode cX11_changeOf 23 = .ok (.iaload, 1) := by decide +kernel
theorem dX11_changeOf_24 : decode cX11_changeOf 24 = .ok (.goto 11, 3) := by decide +kernel
theorem dX11_changeOf_27 : decode cX11_changeOf 27 = .ok (.aload_n 0, 1) := by decide +kernel
theorem dX11_changeOf_28 : decode cX11_changeOf 28 = .ok (.getfield 7, 3) := by decide +kernel
theorem dX11_changeOf_31 : decode cX11_changeOf 31 = .ok (.iconst 5, 1) := by decide +kernel
theorem dX11_changeOf_32 : decode cX11_changeOf 32 = .ok (.iload_n 2, 1) := by decide +kernel
theorem dX11_changeOf_33 : decode cX11_changeOf 33 = .ok (.iadd, 1) := by decide +kernel
theorem dX11_changeOf_34 : decode cX11_changeOf 34 = .ok (.iaload, 1) := by decide +kernel
theorem dX11_changeOf_35 : decode cX11_changeOf 35 = .ok (.ireturn, 1) := by decide +kernel
theorem dX11_ringsLead_0 : decode cX11_ringsLead 0 = .ok (.iconst 0, 1) := by decide +kernel
theorem dX11_ringsLead_1 : decode cX11_ringsLead 1 = .ok (.istore_n 2, 1) := by decide +kernel
theorem dX11_ringsLead_2 : decode cX11_ringsLead 2 = .ok (.iload_n 2, 1) := by decide +kernel
theorem dX11_ringsLead_3 : decode cX11_ringsLead 3 = .ok (.aload_n 0, 1) := by decide +kernel
theorem dX11_ringsLead_4 : decode cX11_ringsLead 4 = .ok (.getfield 7, 3) := by decide +kernel
theorem dX11_ringsLead_7 : decode cX11_ringsLead 7 = .ok (.iconst 1, 1) := by decide +kernel
theorem dX11_ringsLead_8 : decode cX11_ringsLead 8 = .ok (.iaload, 1) := by decide +kernel
theorem dX11_ringsLead_9 : decode cX11_ringsLead 9 = .ok (.if_icmp .ge 42, 3) := by decide +kernel
theorem dX11_ringsLead_12 : decode cX11_ringsLead 12 = .ok (.aload_n 0, 1) := by decide +kernel
theorem dX11_ringsLead_13 : decode cX11_ringsLead 13 = .ok (.aload_n 0, 1) := by decide +kernel
theorem dX11_ringsLead_14 : decode cX11_ringsLead 14 = .ok (.iload_n 1, 1) := by decide +kernel
theorem dX11_ringsLead_15 : decode cX11_ringsLead 15 = .ok (.iload_n 2, 1) := by decide +kernel
theorem dX11_ringsLead_16 : decode cX11_ringsLead 16 = .ok (.invokevirtual 58, 3) := by decide +kernel
theorem dX11_ringsLead_19 : decode cX11_ringsLead 19 = .ok (.invokevirtual 62, 3) := by decide +kernel
theorem dX11_ringsLead_22 : decode cX11_ringsLead 22 = .ok (.aload_n 0, 1) := by decide +kernel
theorem dX11_ringsLead_23 : decode cX11_ringsLead 23 = .ok (.dup, 1) := by decide +kernel
theorem dX11_ringsLead_24 : decode cX11_ringsLead 24 = .ok (.getfield 65, 3) := by decide +kernel
theorem dX11_ringsLead_27 : decode cX11_ringsLead 27 = .ok (.iconst 1, 1) := by decide +kernel
theorem dX11_ringsLead_28 : decode cX11_ringsLead 28 = .ok (.iadd, 1) := by decide +kernel
theorem dX11_ringsLead_29 : decode cX11_ringsLead 29 = .ok (.putfield 65, 3) := by decide +kernel
theorem dX11_ringsLead_32 : decode cX11_ringsLead 32 = .ok (.aload_n 0, 1) := by decide +kernel
theorem dX11_ringsLead_33 : decode cX11_ringsLead 33 = .ok (.getfield 28, 3) := by decide +kernel
theorem dX11_ringsLead_36 : decode cX11_ringsLead 36 = .ok (.aload_n 0, 1) := by decide +kernel
theorem dX11_ringsLead_37 : decode cX11_ringsLead 37 = .ok (.getfield 65, 3) := by decide +kernel
theorem dX11_ringsLead_40 : decode cX11_ringsLead 40 = .ok (.aload_n 0, 1) := by decide +kernel
theorem dX11_ringsLead_41 : decode cX11_ringsLead 41 = .ok (.invokevirtual 68, 3) := by decide +kernel
theorem dX11_ringsLead_44 : decode cX11_ringsLead 44 = .ok (.iastore, 1) := by decide +kernel
theorem dX11_ringsLead_45 : decode cX11_ringsLead 45 = .ok (.iinc 2 1, 3) := by decide +kernel
theorem dX11_ringsLead_48 : decode cX11_ringsLead 48 = .ok (.goto (-46), 3) := by decide +kernel
theorem dX11_ringsLead_51 : decode cX11_ringsLead 51 = .ok (.return_, 1) := by decide +kernel
theorem dX11_ringsAll_0 : decode cX11_ringsAll 0 = .ok (.aload_n 0, 1) := by decide +kernel
theorem dX11_ringsAll_1 : decode cX11_ringsAll 1 = .ok (.invokevirtual 72, 3) := by decide +kernel
theorem dX11_ringsAll_4 : decode cX11_ringsAll 4 = .ok (.aload_n 0, 1) := by decide +kernel
theorem dX11_ringsAll_5 : decode cX11_ringsAll 5 = .ok (.iconst 0, 1) := by decide +kernel
theorem dX11_ringsAll_6 : decode cX11_ringsAll 6 = .ok (.putfield 65, 3) := by decide +kernel
theorem dX11_ringsAll_9 : decode cX11_ringsAll 9 = .ok (.aload_n 0, 1) := by decide +kernel
theorem dX11_ringsAll_10 : decode cX11_ringsAll 10 = .ok (.getfield 28, 3) := by decide +kernel
theorem dX11_ringsAll_13 : decode cX11_ringsAll 13 = .ok (.iconst 0, 1) := by decide +kernel
theorem dX11_ringsAll_14 : decode cX11_ringsAll 14 = .ok (.iconst 0, 1) := by decide +kernel
theorem dX11_ringsAll_15 : decode cX11_ringsAll 15 = .ok (.iastore, 1) := by decide +kernel
theorem dX11_ringsAll_16 : decode cX11_ringsAll 16 = .ok (.iconst 0, 1) := by decide +kernel
theorem dX11_ringsAll_17 : decode cX11_ringsAll 17 = .ok (.istore_n 2, 1) := by decide +kernel
theorem dX11_ringsAll_18 : decode cX11_ringsAll 18 = .ok (.iload_n 2, 1) := by decide +kernel
theorem dX11_ringsAll_19 : decode cX11_ringsAll 19 = .ok (.aload_n 0, 1) := by decide +kernel
theorem dX11_ringsAll_20 : decode cX11_ringsAll 20 = .ok (.getfield 7, 3) := by decide +kernel
theorem dX11_ringsAll_23 : decode cX11_ringsAll 23 = .ok (.iconst 2, 1) := by decide +kernel
theorem dX11_ringsAll_24 : decode cX11_ringsAll 24 = .ok (.iaload, 1) := by decide +kernel
theorem dX11_ringsAll_25 : decode cX11_ringsAll 25 = .ok (.if_icmp .ge 22, 3) := by decide +kernel
theorem dX11_ringsAll_28 : decode cX11_ringsAll 28 = .ok (.aload_n 0, 1) := by decide +kernel
theorem dX11_ringsAll_29 : decode cX11_ringsAll 29 = .ok (.aload_n 0, 1) := by decide +kernel
theorem dX11_ringsAll_30 : decode cX11_ringsAll 30 = .ok (.getfield 7, 3) := by decide +kernel
theorem dX11_ringsAll_33 : decode cX11_ringsAll 33 = .ok (.bipush 25, 2) := by decide +kernel
theorem dX11_ringsAll_35 : decode cX11_ringsAll 35 = .ok (.iload_n 2, 1) := by decide +kernel
theorem dX11_ringsAll_36 : decode cX11_ringsAll 36 = .ok (.iadd, 1) := by decide +kernel
theorem dX11_ringsAll_37 : decode cX11_ringsAll 37 = .ok (.iaload, 1) := by decide +kernel
theorem dX11_ringsAll_38 : decode cX11_ringsAll 38 = .ok (.invokevirtual 75, 3) := by decide +kernel
theorem dX11_ringsAll_41 : decode cX11_ringsAll 41 = .ok (.iinc 2 1, 3) := by decide +kernel
theorem dX11_ringsAll_44 : decode cX11_ringsAll 44 = .ok (.goto (-26), 3) := by decide +kernel
theorem dX11_ringsAll_47 : decode cX11_ringsAll 47 = .ok (.iload_n 1, 1) := by decide +kernel
theorem dX11_ringsAll_48 : decode cX11_ringsAll 48 = .ok (.ifCond .lt 8, 3) := by decide +kernel
theorem dX11_ringsAll_51 : decode cX11_ringsAll 51 = .ok (.aload_n 0, 1) := by decide +kernel
theorem dX11_ringsAll_52 : decode cX11_ringsAll 52 = .ok (.iload_n 1, 1) := by decide +kernel
theorem dX11_ringsAll_53 : decode cX11_ringsAll 53 = .ok (.invokevirtual 75, 3) := by decide +kernel
theorem dX11_ringsAll_56 : decode cX11_ringsAll 56 = .ok (.return_, 1) := by decide +kernel
theorem dX11_bells_0 : decode cX11_bells 0 = .ok (.iload_n 1, 1) := by decide +kernel
theorem dX11_bells_1 : decode cX11_bells 1 = .ok (.iconst 4, 1) := by decide +kernel
theorem dX11_bells_2 : decode cX11_bells 2 = .ok (.bipush 7, 2) := by decide +kernel
theorem dX11_bells_4 : decode cX11_bells 4 = .ok (.invokestatic 54, 3) := by decide +kernel
theorem dX11_bells_7 : decode cX11_bells 7 = .ok (.ifCond .ne 5, 3) := by decide +kernel
theorem dX11_bells_10 : decode cX11_bells 10 = .ok (.iconst (-1), 1) := by decide +kernel
theorem dX11_bells_11 : decode cX11_bells 11 = .ok (.ireturn, 1) := by decide +kernel
theorem dX11_bells_12 : decode cX11_bells 12 = .ok (.aload_n 0, 1) := by decide +kernel
theorem dX11_bells_13 : decode cX11_bells 13 = .ok (.invokevirtual 78, 3) := by decide +kernel
theorem dX11_bells_16 : decode cX11_bells 16 = .ok (.aload_n 0, 1) := by decide +kernel
theorem dX11_bells_17 : decode cX11_bells 17 = .ok (.getfield 7, 3) := by decide +kernel
theorem dX11_bells_20 : decode cX11_bells 20 = .ok (.iconst 0, 1) := by decide +kernel
theorem dX11_bells_21 : decode cX11_bells 21 = .ok (.iaload, 1) := by decide +kernel
theorem dX11_bells_22 : decode cX11_bells 22 = .ok (.istore_n 2, 1) := by decide +kernel
theorem dX11_bells_23 : decode cX11_bells 23 = .ok (.aload_n 0, 1) := by decide +kernel
theorem dX11_bells_24 : decode cX11_bells 24 = .ok (.iload_n 1, 1) := by decide +kernel
theorem dX11_bells_25 : decode cX11_bells 25 = .ok (.invokevirtual 46, 3) := by decide +kernel
theorem dX11_bells_28 : decode cX11_bells 28 = .ok (.iload_n 2, 1) := by decide +kernel
theorem dX11_bells_29 : decode cX11_bells 29 = .ok (.ireturn, 1) := by decide +kernel
theorem dX11_isAt_0 : decode cX11_isAt 0 = .ok (.aload_n 0, 1) := by decide +kernel
theorem dX11_isAt_1 : decode cX11_isAt 1 = .ok (.getfield 81, 3) := by decide +kernel
theorem dX11_isAt_4 : decode cX11_isAt 4 = .ok (.aload_n 0, 1) := by decide +kernel
theorem dX11_isAt_5 : decode cX11_isAt 5 = .ok (.getfield 84, 3) := by decide +kernel
theorem dX11_isAt_8 : decode cX11_isAt 8 = .ok (.if_icmp .ge 24, 3) := by decide +kernel
theorem dX11_isAt_11 : decode cX11_isAt 11 = .ok (.aload_n 0, 1) := by decide +kernel
theorem dX11_isAt_12 : decode cX11_isAt 12 = .ok (.getfield 19, 3) := by decide +kernel
theorem dX11_isAt_15 : decode cX11_isAt 15 = .ok (.aload_n 0, 1) := by decide +kernel
theorem dX11_isAt_16 : decode cX11_isAt 16 = .ok (.getfield 81, 3) := by decide +kernel
theorem dX11_isAt_19 : decode cX11_isAt 19 = .ok (.iaload, 1) := by decide +kernel
theorem dX11_isAt_20 : decode cX11_isAt 20 = .ok (.iload_n 1, 1) := by decide +kernel
theorem dX11_isAt_21 : decode cX11_isAt 21 = .ok (.iload_n 2, 1) := by decide +kernel
theorem dX11_isAt_22 : decode cX11_isAt 22 = .ok (.invokestatic 54, 3) := by decide +kernel
theorem dX11_isAt_25 : decode cX11_isAt 25 = .ok (.ifCond .eq 7, 3) := by decide +kernel
theorem dX11_isAt_28 : decode cX11_isAt 28 = .ok (.iconst 1, 1) := by decide +kernel
theorem dX11_isAt_29 : decode cX11_isAt 29 = .ok (.goto 4, 3) := by decide +kernel
theorem dX11_isAt_32 : decode cX11_isAt 32 = .ok (.iconst 0, 1) := by decide +kernel
theorem dX11_isAt_33 : decode cX11_isAt 33 = .ok (.ireturn, 1) := by decide +kernel
theorem dX11_couldBeRight_0 : decode cX11_couldBeRight 0 = .ok (.iconst 0, 1) := by decide +kernel
theorem dX11_couldBeRight_1 : decode cX11_couldBeRight 1 = .ok (.istore_n 3, 1) := by decide +kernel
theorem dX11_couldBeRight_2 : decode cX11_couldBeRight 2 = .ok (.iconst 0, 1) := by decide +kernel
theorem dX11_couldBeRight_3 : decode cX11_couldBeRight 3 = .ok (.istore 4, 2) := by decide +kernel
theorem dX11_couldBeRight_5 : decode cX11_couldBeRight 5 = .ok (.iload 4, 2) := by decide +kernel
theorem dX11_couldBeRight_7 : decode cX11_couldBeRight 7 = .ok (.iconst 1, 1) := by decide +kernel
theorem dX11_couldBeRight_8 : decode cX11_couldBeRight 8 = .ok (.aload_n 0, 1) := by decide +kernel
theorem dX11_couldBeRight_9 : decode cX11_couldBeRight 9 = .ok (.getfield 7, 3) := by decide +kernel
theorem dX11_couldBeRight_12 : decode cX11_couldBeRight 12 = .ok (.iconst 0, 1) := by decide +kernel
theorem dX11_couldBeRight_13 : decode cX11_couldBeRight 13 = .ok (.iaload, 1) := by decide +kernel
theorem dX11_couldBeRight_14 : decode cX11_couldBeRight 14 = .ok (.iload_n 2, 1) := by decide +kernel
theorem dX11_couldBeRight_15 : decode cX11_couldBeRight 15 = .ok (.isub, 1) := by decide +kernel
theorem dX11_couldBeRight_16 : decode cX11_couldBeRight 16 = .ok (.ishl, 1) := by decide +kernel
theorem dX11_couldBeRight_17 : decode cX11_couldBeRight 17 = .ok (.if_icmp .ge 32, 3) := by decide +kernel
theorem dX11_couldBeRight_20 : decode cX11_couldBeRight 20 = .ok (.iload_n 3, 1) := by decide +kernel
theorem dX11_couldBeRight_21 : decode cX11_couldBeRight 21 = .ok (.ifCond .ne 16, 3) := by decide +kernel
theorem dX11_couldBeRight_24 : decode cX11_couldBeRight 24 = .ok (.aload_n 0, 1) := by decide +kernel
theorem dX11_couldBeRight_25 : decode cX11_couldBeRight 25 = .ok (.iload_n 1, 1) := by decide +kernel
theorem dX11_couldBeRight_26 : decode cX11_couldBeRight 26 = .ok (.iload 4, 2) := by decide +kernel
theorem dX11_couldBeRight_28 : decode cX11_couldBeRight 28 = .ok (.iload_n 2, 1) := by decide +kernel
theorem dX11_couldBeRight_29 : decode cX11_couldBeRight 29 = .ok (.ishl, 1) := by decide +kernel
theorem dX11_couldBeRight_30 : decode cX11_couldBeRight 30 = .ok (.ior, 1) := by decide +kernel
theorem dX11_couldBeRight_31 : decode cX11_couldBeRight 31 = .ok (.invokevirtual 87, 3) := by decide +kernel
theorem dX11_couldBeRight_34 : decode cX11_couldBeRight 34 = .ok (.ifCond .eq 7, 3) := by decide +kernel
theorem dX11_couldBeRight_37 : decode cX11_couldBeRight 37 = .ok (.iconst 1, 1) := by decide +kernel
theorem dX11_couldBeRight_38 : decode cX11_couldBeRight 38 = .ok (.goto 4, 3) := by decide +kernel
theorem dX11_couldBeRight_41 : decode cX11_couldBeRight 41 = .ok (.iconst 0, 1) := by decide +kernel
theorem dX11_couldBeRight_42 : decode cX11_couldBeRight 42 = .ok (.istore_n 3, 1) := by decide +kernel
theorem dX11_couldBeRight_43 : decode cX11_couldBeRight 43 = .ok (.iinc 4 1, 3) := by decide +kernel
theorem dX11_couldBeRight_46 : decode cX11_couldBeRight 46 = .ok (.goto (-41), 3) := by decide +kernel
theorem dX11_couldBeRight_49 : decode cX11_couldBeRight 49 = .ok (.iload_n 3, 1) := by decide +kernel
theorem dX11_couldBeRight_50 : decode cX11_couldBeRight 50 = .ok (.ireturn, 1) := by decide +kernel
theorem dX11_readsChange_0 : decode cX11_readsChange 0 = .ok (.aload_n 0, 1) := by decide +kernel
theorem dX11_readsChange_1 : decode cX11_readsChange 1 = .ok (.getfield 31, 3) := by decide +kernel
theorem dX11_readsChange_4 : decode cX11_readsChange 4 = .ok (.aload_n 0, 1) := by decide +kernel
theorem dX11_readsChange_5 : decode cX11_readsChange 5 = .ok (.getfield 91, 3) := by decide +kernel
theorem dX11_readsChange_8 : decode cX11_readsChange 8 = .ok (.iconst 0, 1) := by decide +kernel
theorem dX11_readsChange_9 : decode cX11_readsChange 9 = .ok (.iastore, 1) := by decide +kernel
theorem dX11_readsChange_10 : decode cX11_readsChange 10 = .ok (.aload_n 0, 1) := by decide +kernel
theorem dX11_readsChange_11 : decode cX11_readsChange 11 = .ok (.bipush 120, 2) := by decide +kernel
theorem dX11_readsChange_13 : decode cX11_readsChange 13 = .ok (.bipush 120, 2) := by decide +kernel
theorem dX11_readsChange_15 : decode cX11_readsChange 15 = .ok (.invokevirtual 94, 3) := by decide +kernel
theorem dX11_readsChange_18 : decode cX11_readsChange 18 = .ok (.ifCond .eq 23, 3) := by decide +kernel
theorem dX11_readsChange_21 : decode cX11_readsChange 21 = .ok (.aload_n 0, 1) := by decide +kernel
theorem dX11_readsChange_22 : decode cX11_readsChange 22 = .ok (.iconst 0, 1) := by decide +kernel
theorem dX11_readsChange_23 : decode cX11_readsChange 23 = .ok (.invokevirtual 87, 3) := by decide +kernel
theorem dX11_readsChange_26 : decode cX11_readsChange 26 = .ok (.ifCond .eq 15, 3) := by decide +kernel
theorem dX11_readsChange_29 : decode cX11_readsChange 29 = .ok (.aload_n 0, 1) := by decide +kernel
theorem dX11_readsChange_30 : decode cX11_readsChange 30 = .ok (.dup, 1) := by decide +kernel
theorem dX11_readsChange_31 : decode cX11_readsChange 31 = .ok (.getfield 81, 3) := by decide +kernel
theorem dX11_readsChange_34 : decode cX11_readsChange 34 = .ok (.iconst 1, 1) := by decide +kernel
theorem dX11_readsChange_35 : decode cX11_readsChange 35 = .ok (.iadd, 1) := by decide +kernel
theorem dX11_readsChange_36 : decode cX11_readsChange 36 = .ok (.putfield 81, 3) := by decide +kernel
theorem dX11_readsChange_39 : decode cX11_readsChange 39 = .ok (.iconst 1, 1) := by decide +kernel
theorem dX11_readsChange_40 : decode cX11_readsChange 40 = .ok (.ireturn, 1) := by decide +kernel
theorem dX11_readsChange_41 : decode cX11_readsChange 41 = .ok (.iconst 0, 1) := by decide +kernel
theorem dX11_readsChange_42 : decode cX11_readsChange 42 = .ok (.istore_n 1, 1) := by decide +kernel
theorem dX11_readsChange_43 : decode cX11_readsChange 43 = .ok (.aload_n 0, 1) := by decide +kernel
theorem dX11_readsChange_44 : decode cX11_readsChange 44 = .ok (.bipush 49, 2) := by decide +kernel
theorem dX11_readsChange_46 : decode cX11_readsChange 46 = .ok (.iload_n 1, 1) := by decide +kernel
theorem dX11_readsChange_47 : decode cX11_readsChange 47 = .ok (.iadd, 1) := by decide +kernel
theorem dX11_readsChange_48 : decode cX11_readsChange 48 = .ok (.bipush 48, 2) := by decide +kernel
theorem dX11_readsChange_50 : decode cX11_readsChange 50 = .ok (.aload_n 0, 1) := by decide +kernel
theorem dX11_readsChange_51 : decode cX11_readsChange 51 = .ok (.getfield 7, 3) := by decide +kernel
theorem dX11_readsChange_54 : decode cX11_readsChange 54 = .ok (.iconst 0, 1) := by decide +kernel
theorem dX11_readsChange_55 : decode cX11_readsChange 55 = .ok (.iaload, 1) := by decide +kernel
theorem dX11_readsChange_56 : decode cX11_readsChange 56 = .ok (.iadd, 1) := by decide +kernel
theorem dX11_readsChange_57 : decode cX11_readsChange 57 = .ok (.invokevirtual 94, 3) := by decide +kernel
theorem dX11_readsChange_60 : decode cX11_readsChange 60 = .ok (.ifCond .eq 68, 3) := by decide +kernel
theorem dX11_readsChange_63 : decode cX11_readsChange 63 = .ok (.aload_n 0, 1) := by decide +kernel
theorem dX11_readsChange_64 : decode cX11_readsChange 64 = .ok (.getfield 19, 3) := by decide +kernel
theorem dX11_readsChange_67 : decode cX11_readsChange 67 = .ok (.aload_n 0, 1) := by decide +kernel
theorem dX11_readsChange_68 : decode cX11_readsChange 68 = .ok (.getfield 81, 3) := by decide +kernel
theorem dX11_readsChange_71 : decode cX11_readsChange 71 = .ok (.iaload, 1) := by decide +kernel
theorem dX11_readsChange_72 : decode cX11_readsChange 72 = .ok (.bipush 48, 2) := by decide +kernel
theorem dX11_readsChange_74 : decode cX11_readsChange 74 = .ok (.isub, 1) := by decide +kernel
theorem dX11_readsChange_75 : decode cX11_readsChange 75 = .ok (.istore_n 2, 1) := by decide +kernel
theorem dX11_readsChange_76 : decode cX11_readsChange 76 = .ok (.aload_n 0, 1) := by decide +kernel
theorem dX11_readsChange_77 : decode cX11_readsChange 77 = .ok (.getfield 31, 3) := by decide +kernel
theorem dX11_readsChange_80 : decode cX11_readsChange 80 = .ok (.aload_n 0, 1) := by decide +kernel
theorem dX11_readsChange_81 : decode cX11_readsChange 81 = .ok (.getfield 91, 3) := by decide +kernel
theorem dX11_readsChange_84 : decode cX11_readsChange 84 = .ok (.iaload, 1) := by decide +kernel
theorem dX11_readsChange_85 : decode cX11_readsChange 85 = .ok (.iconst 1, 1) := by decide +kernel
theorem dX11_readsChange_86 : decode cX11_readsChange 86 = .ok (.iload_n 2, 1) := by decide +kernel
theorem dX11_readsChange_87 : decode cX11_readsChange 87 = .ok (.iconst 1, 1) := by decide +kernel
theorem dX11_readsChange_88 : decode cX11_readsChange 88 = .ok (.isub, 1) := by decide +kernel
theorem dX11_readsChange_89 : decode cX11_readsChange 89 = .ok (.ishl, 1) := by decide +kernel
theorem dX11_readsChange_90 : decode cX11_readsChange 90 = .ok (.ior, 1) := by decide +kernel
theorem dX11_readsChange_91 : decode cX11_readsChange 91 = .ok (.istore_n 3, 1) := by decide +kernel
theorem dX11_readsChange_92 : decode cX11_readsChange 92 = .ok (.aload_n 0, 1) := by decide +kernel
theorem dX11_readsChange_93 : decode cX11_readsChange 93 = .ok (.iload_n 3, 1) := by decide +kernel
theorem dX11_readsChange_94 : decode cX11_readsChange 94 = .ok (.iload_n 2, 1) := by decide +kernel
theorem dX11_readsChange_95 : decode cX11_readsChange 95 = .ok (.invokevirtual 98, 3) := by decide +kernel
theorem dX11_readsChange_98 : decode cX11_readsChange 98 = .ok (.ifCond .ne 5, 3) := by decide +kernel
theorem dX11_readsChange_101 : decode cX11_readsChange 101 = .ok (.iconst 0, 1) := by decide +kernel
theorem dX11_readsChange_102 : decode cX11_readsChange 102 = .ok (.ireturn, 1) := by decide +kernel
theorem dX11_readsChange_103 : decode cX11_readsChange 103 = .ok (.aload_n 0, 1) := by decide +kernel
theorem dX11_readsChange_104 : decode cX11_readsChange 104 = .ok (.getfield 31, 3) := by decide +kernel
theorem dX11_readsChange_107 : decode cX11_readsChange 107 = .ok (.aload_n 0, 1) := by decide +kernel
theorem dX11_readsChange_108 : decode cX11_readsChange 108 = .ok (.getfield 91, 3) := by decide +kernel
theorem dX11_readsChange_111 : decode cX11_readsChange 111 = .ok (.iload_n 3, 1) := by decide +kernel
theorem dX11_readsChange_112 : decode cX11_readsChange 112 = .ok (.iastore, 1) := by decide +kernel
theorem dX11_readsChange_113 : decode cX11_readsChange 113 = .ok (.iload_n 2, 1) := by decide +kernel
theorem dX11_readsChange_114 : decode cX11_readsChange 114 = .ok (.istore_n 1, 1) := by decide +kernel
theorem dX11_readsChange_115 : decode cX11_readsChange 115 = .ok (.aload_n 0, 1) := by decide +kernel
theorem dX11_readsChange_116 : decode cX11_readsChange 116 = .ok (.dup, 1) := by decide +kernel
theorem dX11_readsChange_117 : decode cX11_readsChange 117 = .ok (.getfield 81, 3) := by decide +kernel
theorem dX11_readsChange_120 : decode cX11_readsChange 120 = .ok (.iconst 1, 1) := by decide +kernel
theorem dX11_readsChange_121 : decode cX11_readsChange 121 = .ok (.iadd, 1) := by decide +kernel
theorem dX11_readsChange_122 : decode cX11_readsChange 122 = .ok (.putfield 81, 3) := by decide +kernel
theorem dX11_readsChange_125 : decode cX11_readsChange 125 = .ok (.goto (-82), 3) := by decide +kernel
theorem dX11_readsChange_128 : decode cX11_readsChange 128 = .ok (.iload_n 1, 1) := by decide +kernel
theorem dX11_readsChange_129 : decode cX11_readsChange 129 = .ok (.ifCond .le 23, 3) := by decide +kernel
theorem dX11_readsChange_132 : decode cX11_readsChange 132 = .ok (.aload_n 0, 1) := by decide +kernel
theorem dX11_readsChange_133 : decode cX11_readsChange 133 = .ok (.aload_n 0, 1) := by decide +kernel
theorem dX11_readsChange_134 : decode cX11_readsChange 134 = .ok (.getfield 31, 3) := by decide +kernel
theorem dX11_readsChange_137 : decode cX11_readsChange 137 = .ok (.aload_n 0, 1) := by decide +kernel
theorem dX11_readsChange_138 : decode cX11_readsChange 138 = .ok (.getfield 91, 3) := by decide +kernel
theorem dX11_readsChange_141 : decode cX11_readsChange 141 = .ok (.iaload, 1) := by decide +kernel
theorem dX11_readsChange_142 : decode cX11_readsChange 142 = .ok (.invokevirtual 87, 3) := by decide +kernel
theorem dX11_readsChange_145 : decode cX11_readsChange 145 = .ok (.ifCond .eq 7, 3) := by decide +kernel
theorem dX11_readsChange_148 : decode cX11_readsChange 148 = .ok (.iconst 1, 1) := by decide +kernel
theorem dX11_readsChange_149 : decode cX11_readsChange 149 = .ok (.goto 4, 3) := by decide +kernel
theorem dX11_readsChange_152 : decode cX11_readsChange 152 = .ok (.iconst 0, 1) := by decide +kernel
theorem dX11_readsChange_153 : decode cX11_readsChange 153 = .ok (.ireturn, 1) := by decide +kernel
theorem dX11_methodFault_0 : decode cX11_methodFault 0 = .ok (.aload_n 0, 1) := by decide +kernel
theorem dX11_methodFault_1 : decode cX11_methodFault 1 = .ok (.iconst 0, 1) := by decide +kernel
theorem dX11_methodFault_2 : decode cX11_methodFault 2 = .ok (.putfield 81, 3) := by decide +kernel
theorem dX11_methodFault_5 : decode cX11_methodFault 5 = .ok (.aload_n 0, 1) := by decide +kernel
theorem dX11_methodFault_6 : decode cX11_methodFault 6 = .ok (.iconst 0, 1) := by decide +kernel
theorem dX11_methodFault_7 : decode cX11_methodFault 7 = .ok (.putfield 91, 3) := by decide +kernel
theorem dX11_methodFault_10 : decode cX11_methodFault 10 = .ok (.iconst 1, 1) := by decide +kernel
theorem dX11_methodFault_11 : decode cX11_methodFault 11 = .ok (.istore_n 1, 1) := by decide +kernel
theorem dX11_methodFault_12 : decode cX11_methodFault 12 = .ok (.iload_n 1, 1) := by decide +kernel
theorem dX11_methodFault_13 : decode cX11_methodFault 13 = .ok (.ifCond .eq 72, 3) := by decide +kernel
theorem dX11_methodFault_16 : decode cX11_methodFault 16 = .ok (.aload_n 0, 1) := by decide +kernel
theorem dX11_methodFault_17 : decode cX11_methodFault 17 = .ok (.invokevirtual 101, 3) := by decide +kernel
theorem dX11_methodFault_20 : decode cX11_methodFault 20 = .ok (.ifCond .ne 8, 3) := by decide +kernel
theorem dX11_methodFault_23 : decode cX11_methodFault 23 = .ok (.aload_n 0, 1) := by decide +kernel
theorem dX11_methodFault_24 : decode cX11_methodFault 24 = .ok (.getfield 81, 3) := by decide +kernel
theorem dX11_methodFault_27 : decode cX11_methodFault 27 = .ok (.ireturn, 1) := by decide +kernel
theorem dX11_methodFault_28 : decode cX11_methodFault 28 = .ok (.aload_n 0, 1) := by decide +kernel
theorem dX11_methodFault_29 : decode cX11_methodFault 29 = .ok (.dup, 1) := by decide +kernel
theorem dX11_methodFault_30 : decode cX11_methodFault 30 = .ok (.getfield 91, 3) := by decide +kernel
theorem dX11_methodFault_33 : decode cX11_methodFault 33 = .ok (.iconst 1, 1) := by decide +kernel
theorem dX11_methodFault_34 : decode cX11_methodFault 34 = .ok (.iadd, 1) := by decide +kernel
theorem dX11_methodFault_35 : decode cX11_methodFault 35 = .ok (.putfield 91, 3) := by decide +kernel
theorem dX11_methodFault_38 : decode cX11_methodFault 38 = .ok (.aload_n 0, 1) := by decide +kernel
theorem dX11_methodFault_39 : decode cX11_methodFault 39 = .ok (.getfield 91, 3) := by decide +kernel
theorem dX11_methodFault_42 : decode cX11_methodFault 42 = .ok (.bipush 20, 2) := by decide +kernel
theorem dX11_methodFault_44 : decode cX11_methodFault 44 = .ok (.if_icmp .ge 18, 3) := by decide +kernel
theorem dX11_methodFault_47 : decode cX11_methodFault 47 = .ok (.aload_n 0, 1) := by decide +kernel
theorem dX11_methodFault_48 : decode cX11_methodFault 48 = .ok (.bipush 46, 2) := by decide +kernel
theorem dX11_methodFault_50 : decode cX11_methodFault 50 = .ok (.bipush 46, 2) := by decide +kernel
theorem dX11_methodFault_52 : decode cX11_methodFault 52 = .ok (.invokevirtual 94, 3) := by decide +kernel
theorem dX11_methodFault_55 : decode cX11_methodFault 55 = .ok (.ifCond .eq 7, 3) := by decide +kernel
theorem dX11_methodFault_58 : decode cX11_methodFault 58 = .ok (.iconst 1, 1) := by decide +kernel
theorem dX11_methodFault_59 : decode cX11_methodFault 59 = .ok (.goto 4, 3) := by decide +kernel
theorem dX11_methodFault_62 : decode cX11_methodFault 62 = .ok (.iconst 0, 1) := by decide +kernel
theorem dX11_methodFault_63 : decode cX11_methodFault 63 = .ok (.istore_n 1, 1) := by decide +kernel
theorem dX11_methodFault_64 : decode cX11_methodFault 64 = .ok (.aload_n 0, 1) := by decide +kernel
theorem dX11_methodFault_65 : decode cX11_methodFault 65 = .ok (.dup, 1) := by decide +kernel
theorem dX11_methodFault_66 : decode cX11_methodFault 66 = .ok (.getfield 81, 3) := by decide +kernel
theorem dX11_methodFault_69 : decode cX11_methodFault 69 = .ok (.iload_n 1, 1) := by decide +kernel
theorem dX11_methodFault_70 : decode cX11_methodFault 70 = .ok (.ifCond .eq 7, 3) := by decide +kernel
theorem dX11_methodFault_73 : decode cX11_methodFault 73 = .ok (.iconst 1, 1) := by decide +kernel
theorem dX11_methodFault_74 : decode cX11_methodFault 74 = .ok (.goto 4, 3) := by decide +kernel
theorem dX11_methodFault_77 : decode cX11_methodFault 77 = .ok (.iconst 0, 1) := by decide +kernel
theorem dX11_methodFault_78 : decode cX11_methodFault 78 = .ok (.iadd, 1) := by decide +kernel
theorem dX11_methodFault_79 : decode cX11_methodFault 79 = .ok (.putfield 81, 3) := by decide +kernel
theorem dX11_methodFault_82 : decode cX11_methodFault 82 = .ok (.goto (-70), 3) := by decide +kernel
theorem dX11_methodFault_85 : decode cX11_methodFault 85 = .ok (.aload_n 0, 1) := by decide +kernel
theorem dX11_methodFault_86 : decode cX11_methodFault 86 = .ok (.getfield 81, 3) := by decide +kernel
theorem dX11_methodFault_89 : decode cX11_methodFault 89 = .ok (.aload_n 0, 1) := by decide +kernel
theorem dX11_methodFault_90 : decode cX11_methodFault 90 = .ok (.getfield 84, 3) := by decide +kernel
theorem dX11_methodFault_93 : decode cX11_methodFault 93 = .ok (.if_icmp .ne 8, 3) := by decide +kernel
theorem dX11_methodFault_96 : decode cX11_methodFault 96 = .ok (.bipush (-4), 2) := by decide +kernel
theorem dX11_methodFault_98 : decode cX11_methodFault 98 = .ok (.goto 7, 3) := by decide +kernel
theorem dX11_methodFault_101 : decode cX11_methodFault 101 = .ok (.aload_n 0, 1) := by decide +kernel
theorem dX11_methodFault_102 : decode cX11_methodFault 102 = .ok (.getfield 81, 3) := by decide +kernel
theorem dX11_methodFault_105 : decode cX11_methodFault 105 = .ok (.ireturn, 1) := by decide +kernel
theorem dX11_kindOf_0 : decode cX11_kindOf 0 = .ok (.iload_n 0, 1) := by decide +kernel
theorem dX11_kindOf_1 : decode cX11_kindOf 1 = .ok (.bipush 112, 2) := by decide +kernel
theorem dX11_kindOf_3 : decode cX11_kindOf 3 = .ok (.if_icmp .ne 7, 3) := by decide +kernel
theorem dX11_kindOf_6 : decode cX11_kindOf 6 = .ok (.iconst 0, 1) := by decide +kernel
theorem dX11_kindOf_7 : decode cX11_kindOf 7 = .ok (.goto 25, 3) := by decide +kernel
theorem dX11_kindOf_10 : decode cX11_kindOf 10 = .ok (.iload_n 0, 1) := by decide +kernel
theorem dX11_kindOf_11 : decode cX11_kindOf 11 = .ok (.bipush 98, 2) := by decide +kernel
theorem dX11_kindOf_13 : decode cX11_kindOf 13 = .ok (.if_icmp .ne 7, 3) := by decide +kernel
theorem dX11_kindOf_16 : decode cX11_kindOf 16 = .ok (.iconst 1, 1) := by decide +kernel
theorem dX11_kindOf_17 : decode cX11_kindOf 17 = .ok (.goto 15, 3) := by decide +kernel
theorem dX11_kindOf_20 : decode cX11_kindOf 20 = .ok (.iload_n 0, 1) := by decide +kernel
theorem dX11_kindOf_21 : decode cX11_kindOf 21 = .ok (.bipush 115, 2) := by decide +kernel
theorem dX11_kindOf_23 : decode cX11_kindOf 23 = .ok (.if_icmp .ne 7, 3) := by decide +kernel
theorem dX11_kindOf_26 : decode cX11_kindOf 26 = .ok (.iconst 2, 1) := by decide +kernel
theorem dX11_kindOf_27 : decode cX11_kindOf 27 = .ok (.goto 5, 3) := by decide +kernel
theorem dX11_kindOf_30 : decode cX11_kindOf 30 = .ok (.bipush (-4), 2) := by decide +kernel
theorem dX11_kindOf_32 : decode cX11_kindOf 32 = .ok (.ireturn, 1) := by decide +kernel
theorem dX11_touchFault_0 : decode cX11_touchFault 0 = .ok (.iconst 0, 1) := by decide +kernel
theorem dX11_touchFault_1 : decode cX11_touchFault 1 = .ok (.istore_n 1, 1) := by decide +kernel
theorem dX11_touchFault_2 : decode cX11_touchFault 2 = .ok (.iload_n 1, 1) := by decide +kernel
theorem dX11_touchFault_3 : decode cX11_touchFault 3 = .ok (.aload_n 0, 1) := by decide +kernel
theorem dX11_touchFault_4 : decode cX11_touchFault 4 = .ok (.getfield 84, 3) := by decide +kernel
theorem dX11_touchFault_7 : decode cX11_touchFault 7 = .ok (.if_icmp .ge 29, 3) := by decide +kernel
theorem dX11_touchFault_10 : decode cX11_touchFault 10 = .ok (.iload_n 1, 1) := by decide +kernel
theorem dX11_touchFault_11 : decode cX11_touchFault 11 = .ok (.bipush 16, 2) := by decide +kernel
theorem dX11_touchFault_13 : decode cX11_touchFault 13 = .ok (.if_icmp .eq 15, 3) := by decide +kernel
theorem dX11_touchFault_16 : decode cX11_touchFault 16 = .ok (.aload_n 0, 1) := by decide +kernel
theorem dX11_touchFault_17 : decode cX11_touchFault 17 = .ok (.getfield 19, 3) := by decide +kernel
theorem dX11_touchFault_20 : decode cX11_touchFault 20 = .ok (.iload_n 1, 1) := by decide +kernel
theorem dX11_touchFault_21 : decode cX11_touchFault 21 = .ok (.iaload, 1) := by decide +kernel
theorem dX11_touchFault_22 : decode cX11_touchFault 22 = .ok (.invokestatic 105, 3) := by decide +kernel
theorem dX11_touchFault_25 : decode cX11_touchFault 25 = .ok (.ifCond .ge 5, 3) := by decide +kernel
theorem dX11_touchFault_28 : decode cX11_touchFault 28 = .ok (.iload_n 1, 1) := by decide +kernel
theorem dX11_touchFault_29 : decode cX11_touchFault 29 = .ok (.ireturn, 1) := by decide +kernel
theorem dX11_touchFault_30 : decode cX11_touchFault 30 = .ok (.iinc 1 1, 3) := by decide +kernel
theorem dX11_touchFault_33 : decode cX11_touchFault 33 = .ok (.goto (-31), 3) := by decide +kernel
theorem dX11_touchFault_36 : decode cX11_touchFault 36 = .ok (.aload_n 0, 1) := by decide +kernel
theorem dX11_touchFault_37 : decode cX11_touchFault 37 = .ok (.getfield 84, 3) := by decide +kernel
theorem dX11_touchFault_40 : decode cX11_touchFault 40 = .ok (.ifCond .ne 7, 3) := by decide +kernel
theorem dX11_touchFault_43 : decode cX11_touchFault 43 = .ok (.iconst 0, 1) := by decide +kernel
theorem dX11_touchFault_44 : decode cX11_touchFault 44 = .ok (.goto 5, 3) := by decide +kernel
theorem dX11_touchFault_47 : decode cX11_touchFault 47 = .ok (.bipush (-4), 2) := by decide +kernel
theorem dX11_touchFault_49 : decode cX11_touchFault 49 = .ok (.ireturn, 1) := by decide +kernel
theorem dX11_method_0 : decode cX11_method 0 = .ok (.aload_n 0, 1) := by decide +kernel
theorem dX11_method_1 : decode cX11_method 1 = .ok (.invokevirtual 109, 3) := by decide +kernel
theorem dX11_method_4 : decode cX11_method 4 = .ok (.bipush (-4), 2) := by decide +kernel
theorem dX11_method_6 : decode cX11_method 6 = .ok (.if_icmp .eq 6, 3) := by decide +kernel
theorem dX11_method_9 : decode cX11_method 9 = .ok (.bipush (-2), 2) := by decide +kernel
theorem dX11_method_11 : decode cX11_method 11 = .ok (.ireturn, 1) := by decide +kernel
theorem dX11_method_12 : decode cX11_method 12 = .ok (.aload_n 0, 1) := by decide +kernel
theorem dX11_method_13 : decode cX11_method 13 = .ok (.invokevirtual 78, 3) := by decide +kernel
theorem dX11_method_16 : decode cX11_method 16 = .ok (.aload_n 0, 1) := by decide +kernel
theorem dX11_method_17 : decode cX11_method 17 = .ok (.getfield 7, 3) := by decide +kernel
theorem dX11_method_20 : decode cX11_method 20 = .ok (.iconst 1, 1) := by decide +kernel
theorem dX11_method_21 : decode cX11_method 21 = .ok (.aload_n 0, 1) := by decide +kernel
theorem dX11_method_22 : decode cX11_method 22 = .ok (.getfield 91, 3) := by decide +kernel
theorem dX11_method_25 : decode cX11_method 25 = .ok (.iastore, 1) := by decide +kernel
theorem dX11_method_26 : decode cX11_method 26 = .ok (.iconst 0, 1) := by decide +kernel
theorem dX11_method_27 : decode cX11_method 27 = .ok (.istore_n 1, 1) := by decide +kernel
theorem dX11_method_28 : decode cX11_method 28 = .ok (.iload_n 1, 1) := by decide +kernel
theorem dX11_method_29 : decode cX11_method 29 = .ok (.bipush 20, 2) := by decide +kernel
theorem dX11_method_31 : decode cX11_method 31 = .ok (.if_icmp .ge 35, 3) := by decide +kernel
theorem dX11_method_34 : decode cX11_method 34 = .ok (.aload_n 0, 1) := by decide +kernel
theorem dX11_method_35 : decode cX11_method 35 = .ok (.getfield 7, 3) := by decide +kernel
theorem dX11_method_38 : decode cX11_method 38 = .ok (.iconst 5, 1) := by decide +kernel
theorem dX11_method_39 : decode cX11_method 39 = .ok (.iload_n 1, 1) := by decide +kernel
theorem dX11_method_40 : decode cX11_method 40 = .ok (.iadd, 1) := by decide +kernel
theorem dX11_method_41 : decode cX11_method 41 = .ok (.iload_n 1, 1) := by decide +kernel
theorem dX11_method_42 : decode cX11_method 42 = .ok (.aload_n 0, 1) := by decide +kernel
theorem dX11_method_43 : decode cX11_method 43 = .ok (.getfield 91, 3) := by decide +kernel
theorem dX11_method_46 : decode cX11_method 46 = .ok (.if_icmp .ge 12, 3) := by decide +kernel
theorem dX11_method_49 : decode cX11_method 49 = .ok (.aload_n 0, 1) := by decide +kernel
theorem dX11_method_50 : decode cX11_method 50 = .ok (.getfield 31, 3) := by decide +kernel
theorem dX11_method_53 : decode cX11_method 53 = .ok (.iload_n 1, 1) := by decide +kernel
theorem dX11_method_54 : decode cX11_method 54 = .ok (.iaload, 1) := by decide +kernel
theorem dX11_method_55 : decode cX11_method 55 = .ok (.goto 4, 3) := by decide +kernel
theorem dX11_method_58 : decode cX11_method 58 = .ok (.iconst 0, 1) := by decide +kernel
theorem dX11_method_59 : decode cX11_method 59 = .ok (.iastore, 1) := by decide +kernel
theorem dX11_method_60 : decode cX11_method 60 = .ok (.iinc 1 1, 3) := by decide +kernel
theorem dX11_method_63 : decode cX11_method 63 = .ok (.goto (-35), 3) := by decide +kernel
theorem dX11_method_66 : decode cX11_method 66 = .ok (.aload_n 0, 1) := by decide +kernel
theorem dX11_method_67 : decode cX11_method 67 = .ok (.iconst 0, 1) := by decide +kernel
theorem dX11_method_68 : decode cX11_method 68 = .ok (.putfield 84, 3) := by decide +kernel
theorem dX11_method_71 : decode cX11_method 71 = .ok (.aload_n 0, 1) := by decide +kernel
theorem dX11_method_72 : decode cX11_method 72 = .ok (.getfield 91, 3) := by decide +kernel
theorem dX11_method_75 : decode cX11_method 75 = .ok (.ireturn, 1) := by decide +kernel
theorem dX11_call_0 : decode cX11_call 0 = .ok (.iload_n 1, 1) := by decide +kernel
theorem dX11_call_1 : decode cX11_call 1 = .ok (.iconst 1, 1) := by decide +kernel
theorem dX11_call_2 : decode cX11_call 2 = .ok (.iconst 2, 1) := by decide +kernel
theorem dX11_call_3 : decode cX11_call 3 = .ok (.invokestatic 54, 3) := by decide +kernel
theorem dX11_call_6 : decode cX11_call 6 = .ok (.ifCond .eq 11, 3) := by decide +kernel
theorem dX11_call_9 : decode cX11_call 9 = .ok (.aload_n 0, 1) := by decide +kernel
theorem dX11_call_10 : decode cX11_call 10 = .ok (.iload_n 2, 1) := by decide +kernel
theorem dX11_call_11 : decode cX11_call 11 = .ok (.invokevirtual 87, 3) := by decide +kernel
theorem dX11_call_14 : decode cX11_call 14 = .ok (.ifCond .ne 5, 3) := by decide +kernel
theorem dX11_call_17 : decode cX11_call 17 = .ok (.iconst (-1), 1) := by decide +kernel
theorem dX11_call_18 : decode cX11_call 18 = .ok (.ireturn, 1) := by decide +kernel
theorem dX11_call_19 : decode cX11_call 19 = .ok (.aload_n 0, 1) := by decide +kernel
theorem dX11_call_20 : decode cX11_call 20 = .ok (.invokevirtual 78, 3) := by decide +kernel
theorem dX11_call_23 : decode cX11_call 23 = .ok (.aload_n 0, 1) := by decide +kernel
theorem dX11_call_24 : decode cX11_call 24 = .ok (.getfield 7, 3) := by decide +kernel
theorem dX11_call_27 : decode cX11_call 27 = .ok (.iconst 2, 1) := by decide +kernel
theorem dX11_call_28 : decode cX11_call 28 = .ok (.iload_n 1, 1) := by decide +kernel
theorem dX11_call_29 : decode cX11_call 29 = .ok (.iadd, 1) := by decide +kernel
theorem dX11_call_30 : decode cX11_call 30 = .ok (.iaload, 1) := by decide +kernel
theorem dX11_call_31 : decode cX11_call 31 = .ok (.istore_n 3, 1) := by decide +kernel
theorem dX11_call_32 : decode cX11_call 32 = .ok (.aload_n 0, 1) := by decide +kernel
theorem dX11_call_33 : decode cX11_call 33 = .ok (.getfield 7, 3) := by decide +kernel
theorem dX11_call_36 : decode cX11_call 36 = .ok (.iconst 2, 1) := by decide +kernel
theorem dX11_call_37 : decode cX11_call 37 = .ok (.iload_n 1, 1) := by decide +kernel
theorem dX11_call_38 : decode cX11_call 38 = .ok (.iadd, 1) := by decide +kernel
theorem dX11_call_39 : decode cX11_call 39 = .ok (.iload_n 2, 1) := by decide +kernel
theorem dX11_call_40 : decode cX11_call 40 = .ok (.iastore, 1) := by decide +kernel
theorem dX11_call_41 : decode cX11_call 41 = .ok (.iload_n 3, 1) := by decide +kernel
theorem dX11_call_42 : decode cX11_call 42 = .ok (.ireturn, 1) := by decide +kernel
theorem dX11_touch_0 : decode cX11_touch 0 = .ok (.aload_n 0, 1) := by decide +kernel
theorem dX11_touch_1 : decode cX11_touch 1 = .ok (.invokevirtual 112, 3) := by decide +kernel
theorem dX11_touch_4 : decode cX11_touch 4 = .ok (.bipush (-4), 2) := by decide +kernel
theorem dX11_touch_6 : decode cX11_touch 6 = .ok (.if_icmp .eq 6, 3) := by decide +kernel
theorem dX11_touch_9 : decode cX11_touch 9 = .ok (.bipush (-2), 2) := by decide +kernel
theorem dX11_touch_11 : decode cX11_touch 11 = .ok (.ireturn, 1) := by decide +kernel
theorem dX11_touch_12 : decode cX11_touch 12 = .ok (.aload_n 0, 1) := by decide +kernel
theorem dX11_touch_13 : decode cX11_touch 13 = .ok (.invokevirtual 78, 3) := by decide +kernel
theorem dX11_touch_16 : decode cX11_touch 16 = .ok (.iconst 0, 1) := by decide +kernel
theorem dX11_touch_17 : decode cX11_touch 17 = .ok (.istore_n 1, 1) := by decide +kernel
theorem dX11_touch_18 : decode cX11_touch 18 = .ok (.iload_n 1, 1) := by decide +kernel
theorem dX11_touch_19 : decode cX11_touch 19 = .ok (.bipush 16, 2) := by decide +kernel
theorem dX11_touch_21 : decode cX11_touch 21 = .ok (.if_icmp .ge 39, 3) := by decide +kernel
theorem dX11_touch_24 : decode cX11_touch 24 = .ok (.aload_n 0, 1) := by decide +kernel
theorem dX11_touch_25 : decode cX11_touch 25 = .ok (.getfield 7, 3) := by decide +kernel
theorem dX11_touch_28 : decode cX11_touch 28 = .ok (.bipush 25, 2) := by decide +kernel
theorem dX11_touch_30 : decode cX11_touch 30 = .ok (.iload_n 1, 1) := by decide +kernel
theorem dX11_touch_31 : decode cX11_touch 31 = .ok (.iadd, 1) := by decide +kernel
theorem dX11_touch_32 : decode cX11_touch 32 = .ok (.iload_n 1, 1) := by decide +kernel
theorem dX11_touch_33 : decode cX11_touch 33 = .ok (.aload_n 0, 1) := by decide +kernel
theorem dX11_touch_34 : decode cX11_touch 34 = .ok (.getfield 84, 3) := by decide +kernel
theorem dX11_touch_37 : decode cX11_touch 37 = .ok (.if_icmp .ge 15, 3) := by decide +kernel
theorem dX11_touch_40 : decode cX11_touch 40 = .ok (.aload_n 0, 1) := by decide +kernel
theorem dX11_touch_41 : decode cX11_touch 41 = .ok (.getfield 19, 3) := by decide +kernel
theorem dX11_touch_44 : decode cX11_touch 44 = .ok (.iload_n 1, 1) := by decide +kernel
theorem dX11_touch_45 : decode cX11_touch 45 = .ok (.iaload, 1) := by decide +kernel
theorem dX11_touch_46 : decode cX11_touch 46 = .ok (.invokestatic 105, 3) := by decide +kernel
theorem dX11_touch_49 : decode cX11_touch 49 = .ok (.goto 4, 3) := by decide +kernel
theorem dX11_touch_52 : decode cX11_touch 52 = .ok (.iconst 0, 1) := by decide +kernel
theorem dX11_touch_53 : decode cX11_touch 53 = .ok (.iastore, 1) := by decide +kernel
theorem dX11_touch_54 : decode cX11_touch 54 = .ok (.iinc 1 1, 3) := by decide +kernel
theorem dX11_touch_57 : decode cX11_touch 57 = .ok (.goto (-39), 3) := by decide +kernel
theorem dX11_touch_60 : decode cX11_touch 60 = .ok (.aload_n 0, 1) := by decide +kernel
theorem dX11_touch_61 : decode cX11_touch 61 = .ok (.getfield 7, 3) := by decide +kernel
theorem dX11_touch_64 : decode cX11_touch 64 = .ok (.iconst 2, 1) := by decide +kernel
theorem dX11_touch_65 : decode cX11_touch 65 = .ok (.aload_n 0, 1) := by decide +kernel
theorem dX11_touch_66 : decode cX11_touch 66 = .ok (.getfield 84, 3) := by decide +kernel
theorem dX11_touch_69 : decode cX11_touch 69 = .ok (.iastore, 1) := by decide +kernel
theorem dX11_touch_70 : decode cX11_touch 70 = .ok (.aload_n 0, 1) := by decide +kernel
theorem dX11_touch_71 : decode cX11_touch 71 = .ok (.iconst 0, 1) := by decide +kernel
theorem dX11_touch_72 : decode cX11_touch 72 = .ok (.putfield 84, 3) := by decide +kernel
theorem dX11_touch_75 : decode cX11_touch 75 = .ok (.aload_n 0, 1) := by decide +kernel
theorem dX11_touch_76 : decode cX11_touch 76 = .ok (.getfield 7, 3) := by decide +kernel
theorem dX11_touch_79 : decode cX11_touch 79 = .ok (.iconst 2, 1) := by decide +kernel
theorem dX11_touch_80 : decode cX11_touch 80 = .ok (.iaload, 1) := by decide +kernel
theorem dX11_touch_81 : decode cX11_touch 81 = .ok (.ireturn, 1) := by decide +kernel
theorem dX11_add_0 : decode cX11_add 0 = .ok (.iload_n 1, 1) := by decide +kernel
theorem dX11_add_1 : decode cX11_add 1 = .ok (.iconst 0, 1) := by decide +kernel
theorem dX11_add_2 : decode cX11_add 2 = .ok (.iconst 2, 1) := by decide +kernel
theorem dX11_add_3 : decode cX11_add 3 = .ok (.invokestatic 54, 3) := by decide +kernel
theorem dX11_add_6 : decode cX11_add 6 = .ok (.ifCond .ne 5, 3) := by decide +kernel
theorem dX11_add_9 : decode cX11_add 9 = .ok (.iconst (-1), 1) := by decide +kernel
theorem dX11_add_10 : decode cX11_add 10 = .ok (.ireturn, 1) := by decide +kernel
theorem dX11_add_11 : decode cX11_add 11 = .ok (.aload_n 0, 1) := by decide +kernel
theorem dX11_add_12 : decode cX11_add 12 = .ok (.getfield 7, 3) := by decide +kernel
theorem dX11_add_15 : decode cX11_add 15 = .ok (.iconst 2, 1) := by decide +kernel
theorem dX11_add_16 : decode cX11_add 16 = .ok (.iaload, 1) := by decide +kernel
theorem dX11_add_17 : decode cX11_add 17 = .ok (.bipush 16, 2) := by decide +kernel
theorem dX11_add_19 : decode cX11_add 19 = .ok (.if_icmp .ne 6, 3) := by decide +kernel
theorem dX11_add_22 : decode cX11_add 22 = .ok (.bipush (-3), 2) := by decide +kernel
theorem dX11_add_24 : decode cX11_add 24 = .ok (.ireturn, 1) := by decide +kernel
theorem dX11_add_25 : decode cX11_add 25 = .ok (.aload_n 0, 1) := by decide +kernel
theorem dX11_add_26 : decode cX11_add 26 = .ok (.invokevirtual 78, 3) := by decide +kernel
theorem dX11_add_29 : decode cX11_add 29 = .ok (.aload_n 0, 1) := by decide +kernel
theorem dX11_add_30 : decode cX11_add 30 = .ok (.getfield 7, 3) := by decide +kernel
theorem dX11_add_33 : decode cX11_add 33 = .ok (.bipush 25, 2) := by decide +kernel
theorem dX11_add_35 : decode cX11_add 35 = .ok (.aload_n 0, 1) := by decide +kernel
theorem dX11_add_36 : decode cX11_add 36 = .ok (.getfield 7, 3) := by decide +kernel
theorem dX11_add_39 : decode cX11_add 39 = .ok (.iconst 2, 1) := by decide +kernel
theorem dX11_add_40 : decode cX11_add 40 = .ok (.iaload, 1) := by decide +kernel
theorem dX11_add_41 : decode cX11_add 41 = .ok (.iadd, 1) := by decide +kernel
theorem dX11_add_42 : decode cX11_add 42 = .ok (.iload_n 1, 1) := by decide +kernel
theorem dX11_add_43 : decode cX11_add 43 = .ok (.iastore, 1) := by decide +kernel
theorem dX11_add_44 : decode cX11_add 44 = .ok (.aload_n 0, 1) := by decide +kernel
theorem dX11_add_45 : decode cX11_add 45 = .ok (.getfield 7, 3) := by decide +kernel
theorem dX11_add_48 : decode cX11_add 48 = .ok (.iconst 2, 1) := by decide +kernel
theorem dX11_add_49 : decode cX11_add 49 = .ok (.dup2, 1) := by decide +kernel
theorem dX11_add_50 : decode cX11_add 50 = .ok (.iaload, 1) := by decide +kernel
theorem dX11_add_51 : decode cX11_add 51 = .ok (.iconst 1, 1) := by decide +kernel
theorem dX11_add_52 : decode cX11_add 52 = .ok (.iadd, 1) := by decide +kernel
theorem dX11_add_53 : decode cX11_add 53 = .ok (.iastore, 1) := by decide +kernel
theorem dX11_add_54 : decode cX11_add 54 = .ok (.aload_n 0, 1) := by decide +kernel
theorem dX11_add_55 : decode cX11_add 55 = .ok (.getfield 7, 3) := by decide +kernel
theorem dX11_add_58 : decode cX11_add 58 = .ok (.iconst 2, 1) := by decide +kernel
theorem dX11_add_59 : decode cX11_add 59 = .ok (.iaload, 1) := by decide +kernel
theorem dX11_add_60 : decode cX11_add 60 = .ok (.ireturn, 1) := by decide +kernel
theorem dX11_cut_0 : decode cX11_cut 0 = .ok (.iload_n 1, 1) := by decide +kernel
theorem dX11_cut_1 : decode cX11_cut 1 = .ok (.iconst 0, 1) := by decide +kernel
theorem dX11_cut_2 : decode cX11_cut 2 = .ok (.aload_n 0, 1) := by decide +kernel
theorem dX11_cut_3 : decode cX11_cut 3 = .ok (.getfield 7, 3) := by decide +kernel
theorem dX11_cut_6 : decode cX11_cut 6 = .ok (.iconst 2, 1) := by decide +kernel
theorem dX11_cut_7 : decode cX11_cut 7 = .ok (.iaload, 1) := by decide +kernel
theorem dX11_cut_8 : decode cX11_cut 8 = .ok (.invokestatic 54, 3) := by decide +kernel
theorem dX11_cut_11 : decode cX11_cut 11 = .ok (.ifCond .ne 5, 3) := by decide +kernel
theorem dX11_cut_14 : decode cX11_cut 14 = .ok (.iconst (-1), 1) := by decide +kernel
theorem dX11_cut_15 : decode cX11_cut 15 = .ok (.ireturn, 1) := by decide +kernel
theorem dX11_cut_16 : decode cX11_cut 16 = .ok (.aload_n 0, 1) := by decide +kernel
theorem dX11_cut_17 : decode cX11_cut 17 = .ok (.invokevirtual 78, 3) := by decide +kernel
theorem dX11_cut_20 : decode cX11_cut 20 = .ok (.aload_n 0, 1) := by decide +kernel
theorem dX11_cut_21 : decode cX11_cut 21 = .ok (.getfield 7, 3) := by decide +kernel
theorem dX11_cut_24 : decode cX11_cut 24 = .ok (.iconst 2, 1) := by decide +kernel
theorem dX11_cut_25 : decode cX11_cut 25 = .ok (.iaload, 1) := by decide +kernel
theorem dX11_cut_26 : decode cX11_cut 26 = .ok (.istore_n 2, 1) := by decide +kernel
theorem dX11_cut_27 : decode cX11_cut 27 = .ok (.iload_n 1, 1) := by decide +kernel
theorem dX11_cut_28 : decode cX11_cut 28 = .ok (.istore_n 3, 1) := by decide +kernel
theorem dX11_cut_29 : decode cX11_cut 29 = .ok (.iload_n 3, 1) := by decide +kernel
theorem dX11_cut_30 : decode cX11_cut 30 = .ok (.bipush 16, 2) := by decide +kernel
theorem dX11_cut_32 : decode cX11_cut 32 = .ok (.if_icmp .ge 19, 3) := by decide +kernel
theorem dX11_cut_35 : decode cX11_cut 35 = .ok (.aload_n 0, 1) := by decide +kernel
theorem dX11_cut_36 : decode cX11_cut 36 = .ok (.getfield 7, 3) := by decide +kernel
theorem dX11_cut_39 : decode cX11_cut 39 = .ok (.bipush 25, 2) := by decide +kernel
theorem dX11_cut_41 : decode cX11_cut 41 = .ok (.iload_n 3, 1) := by decide +kernel
theorem dX11_cut_42 : decode cX11_cut 42 = .ok (.iadd, 1) := by decide +kernel
theorem dX11_cut_43 : decode cX11_cut 43 = .ok (.iconst 0, 1) := by decide +kernel
theorem dX11_cut_44 : decode cX11_cut 44 = .ok (.iastore, 1) := by decide +kernel
theorem dX11_cut_45 : decode cX11_cut 45 = .ok (.iinc 3 1, 3) := by decide +kernel
theorem dX11_cut_48 : decode cX11_cut 48 = .ok (.goto (-19), 3) := by decide +kernel
theorem dX11_cut_51 : decode cX11_cut 51 = .ok (.aload_n 0, 1) := by decide +kernel
theorem dX11_cut_52 : decode cX11_cut 52 = .ok (.getfield 7, 3) := by decide +kernel
theorem dX11_cut_55 : decode cX11_cut 55 = .ok (.iconst 2, 1) := by decide +kernel
theorem dX11_cut_56 : decode cX11_cut 56 = .ok (.iload_n 1, 1) := by decide +kernel
theorem dX11_cut_57 : decode cX11_cut 57 = .ok (.iastore, 1) := by decide +kernel
theorem dX11_cut_58 : decode cX11_cut 58 = .ok (.iload_n 2, 1) := by decide +kernel
theorem dX11_cut_59 : decode cX11_cut 59 = .ok (.ireturn, 1) := by decide +kernel
theorem dX11_append_0 : decode cX11_append 0 = .ok (.iload_n 1, 1) := by decide +kernel
theorem dX11_append_1 : decode cX11_append 1 = .ok (.bipush 33, 2) := by decide +kernel
theorem dX11_append_3 : decode cX11_append 3 = .ok (.bipush 126, 2) := by decide +kernel
theorem dX11_append_5 : decode cX11_append 5 = .ok (.invokestatic 54, 3) := by decide +kernel
theorem dX11_append_8 : decode cX11_append 8 = .ok (.ifCond .ne 5, 3) := by decide +kernel
theorem dX11_append_11 : decode cX11_append 11 = .ok (.iconst (-1), 1) := by decide +kernel
theorem dX11_append_12 : decode cX11_append 12 = .ok (.ireturn, 1) := by decide +kernel
theorem dX11_append_13 : decode cX11_append 13 = .ok (.aload_n 0, 1) := by decide +kernel
theorem dX11_append_14 : decode cX11_append 14 = .ok (.getfield 84, 3) := by decide +kernel
theorem dX11_append_17 : decode cX11_append 17 = .ok (.bipush 80, 2) := by decide +kernel
theorem dX11_append_19 : decode cX11_append 19 = .ok (.if_icmp .ne 6, 3) := by decide +kernel
theorem dX11_append_22 : decode cX11_append 22 = .ok (.bipush (-3), 2) := by decide +kernel
theorem dX11_append_24 : decode cX11_append 24 = .ok (.ireturn, 1) := by decide +kernel
theorem dX11_append_25 : decode cX11_append 25 = .ok (.aload_n 0, 1) := by decide +kernel
theorem dX11_append_26 : decode cX11_append 26 = .ok (.getfield 19, 3) := by decide +kernel
theorem dX11_append_29 : decode cX11_append 29 = .ok (.aload_n 0, 1) := by decide +kernel
theorem dX11_append_30 : decode cX11_append 30 = .ok (.getfield 84, 3) := by decide +kernel
theorem dX11_append_33 : decode cX11_append 33 = .ok (.iload_n 1, 1) := by decide +kernel
theorem dX11_append_34 : decode cX11_append 34 = .ok (.iastore, 1) := by decide +kernel
theorem dX11_append_35 : decode cX11_append 35 = .ok (.aload_n 0, 1) := by decide +kernel
theorem dX11_append_36 : decode cX11_append 36 = .ok (.dup, 1) := by decide +kernel
theorem dX11_append_37 : decode cX11_append 37 = .ok (.getfield 84, 3) := by decide +kernel
theorem dX11_append_40 : decode cX11_append 40 = .ok (.iconst 1, 1) := by decide +kernel
theorem dX11_append_41 : decode cX11_append 41 = .ok (.iadd, 1) := by decide +kernel
theorem dX11_append_42 : decode cX11_append 42 = .ok (.putfield 84, 3) := by decide +kernel
theorem dX11_append_45 : decode cX11_append 45 = .ok (.aload_n 0, 1) := by decide +kernel
theorem dX11_append_46 : decode cX11_append 46 = .ok (.getfield 84, 3) := by decide +kernel
theorem dX11_append_49 : decode cX11_append 49 = .ok (.ireturn, 1) := by decide +kernel
theorem dX11_clear_0 : decode cX11_clear 0 = .ok (.aload_n 0, 1) := by decide +kernel
theorem dX11_clear_1 : decode cX11_clear 1 = .ok (.getfield 84, 3) := by decide +kernel
theorem dX11_clear_4 : decode cX11_clear 4 = .ok (.istore_n 1, 1) := by decide +kernel
theorem dX11_clear_5 : decode cX11_clear 5 = .ok (.aload_n 0, 1) := by decide +kernel
theorem dX11_clear_6 : decode cX11_clear 6 = .ok (.iconst 0, 1) := by decide +kernel
theorem dX11_clear_7 : decode cX11_clear 7 = .ok (.putfield 84, 3) := by decide +kernel
theorem dX11_clear_10 : decode cX11_clear 10 = .ok (.iload_n 1, 1) := by decide +kernel
theorem dX11_clear_11 : decode cX11_clear 11 = .ok (.ireturn, 1) := by decide +kernel
theorem dX11_fault_0 : decode cX11_fault 0 = .ok (.iload_n 1, 1) := by decide +kernel
theorem dX11_fault_1 : decode cX11_fault 1 = .ok (.ifCond .ne 10, 3) := by decide +kernel
theorem dX11_fault_4 : decode cX11_fault 4 = .ok (.aload_n 0, 1) := by decide +kernel
theorem dX11_fault_5 : decode cX11_fault 5 = .ok (.invokevirtual 109, 3) := by decide +kernel
theorem dX11_fault_8 : decode cX11_fault 8 = .ok (.goto 16, 3) := by decide +kernel
theorem dX11_fault_11 : decode cX11_fault 11 = .ok (.iload_n 1, 1) := by decide +kernel
theorem dX11_fault_12 : decode cX11_fault 12 = .ok (.iconst 1, 1) := by decide +kernel
theorem dX11_fault_13 : decode cX11_fault 13 = .ok (.if_icmp .ne 10, 3) := by decide +kernel
theorem dX11_fault_16 : decode cX11_fault 16 = .ok (.aload_n 0, 1) := by decide +kernel
theorem dX11_fault_17 : decode cX11_fault 17 = .ok (.invokevirtual 112, 3) := by decide +kernel
theorem dX11_fault_20 : decode cX11_fault 20 = .ok (.goto 4, 3) := by decide +kernel
theorem dX11_fault_23 : decode cX11_fault 23 = .ok (.iconst (-1), 1) := by decide +kernel
theorem dX11_fault_24 : decode cX11_fault 24 = .ok (.ireturn, 1) := by decide +kernel
theorem dX11_isPlace_0 : decode cX11_isPlace 0 = .ok (.iload_n 1, 1) := by decide +kernel
theorem dX11_isPlace_1 : decode cX11_isPlace 1 = .ok (.iconst 1, 1) := by decide +kernel
theorem dX11_isPlace_2 : decode cX11_isPlace 2 = .ok (.aload_n 0, 1) := by decide +kernel
theorem dX11_isPlace_3 : decode cX11_isPlace 3 = .ok (.getfield 7, 3) := by decide +kernel
theorem dX11_isPlace_6 : decode cX11_isPlace 6 = .ok (.iconst 0, 1) := by decide +kernel
theorem dX11_isPlace_7 : decode cX11_isPlace 7 = .ok (.iaload, 1) := by decide +kernel
theorem dX11_isPlace_8 : decode cX11_isPlace 8 = .ok (.invokestatic 54, 3) := by decide +kernel
theorem dX11_isPlace_11 : decode cX11_isPlace 11 = .ok (.ireturn, 1) := by decide +kernel
theorem dX11_isRow_0 : decode cX11_isRow 0 = .ok (.iload_n 1, 1) := by decide +kernel
theorem dX11_isRow_1 : decode cX11_isRow 1 = .ok (.iconst 0, 1) := by decide +kernel
theorem dX11_isRow_2 : decode cX11_isRow 2 = .ok (.aload_n 0, 1) := by decide +kernel
theorem dX11_isRow_3 : decode cX11_isRow 3 = .ok (.invokevirtual 115, 3) := by decide +kernel
theorem dX11_isRow_6 : decode cX11_isRow 6 = .ok (.invokestatic 54, 3) := by decide +kernel
theorem dX11_isRow_9 : decode cX11_isRow 9 = .ok (.ireturn, 1) := by decide +kernel
theorem dX11_bell_0 : decode cX11_bell 0 = .ok (.aload_n 0, 1) := by decide +kernel
theorem dX11_bell_1 : decode cX11_bell 1 = .ok (.iload_n 1, 1) := by decide +kernel
theorem dX11_bell_2 : decode cX11_bell 2 = .ok (.invokevirtual 118, 3) := by decide +kernel
theorem dX11_bell_5 : decode cX11_bell 5 = .ok (.ifCond .eq 11, 3) := by decide +kernel
theorem dX11_bell_8 : decode cX11_bell 8 = .ok (.aload_n 0, 1) := by decide +kernel
theorem dX11_bell_9 : decode cX11_bell 9 = .ok (.iload_n 2, 1) := by decide +kernel
theorem dX11_bell_10 : decode cX11_bell 10 = .ok (.invokevirtual 121, 3) := by decide +kernel
theorem dX11_bell_13 : decode cX11_bell 13 = .ok (.ifCond .ne 5, 3) := by decide +kernel
theorem dX11_bell_16 : decode cX11_bell 16 = .ok (.iconst (-1), 1) := by decide +kernel
theorem dX11_bell_17 : decode cX11_bell 17 = .ok (.ireturn, 1) := by decide +kernel
theorem dX11_bell_18 : decode cX11_bell 18 = .ok (.aload_n 0, 1) := by decide +kernel
theorem dX11_bell_19 : decode cX11_bell 19 = .ok (.bipush (-4), 2) := by decide +kernel
theorem dX11_bell_21 : decode cX11_bell 21 = .ok (.invokevirtual 124, 3) := by decide +kernel
theorem dX11_bell_24 : decode cX11_bell 24 = .ok (.aload_n 0, 1) := by decide +kernel
theorem dX11_bell_25 : decode cX11_bell 25 = .ok (.aload_n 0, 1) := by decide +kernel
theorem dX11_bell_26 : decode cX11_bell 26 = .ok (.getfield 28, 3) := by decide +kernel
theorem dX11_bell_29 : decode cX11_bell 29 = .ok (.iload_n 1, 1) := by decide +kernel
theorem dX11_bell_30 : decode cX11_bell 30 = .ok (.iaload, 1) := by decide +kernel
theorem dX11_bell_31 : decode cX11_bell 31 = .ok (.invokevirtual 127, 3) := by decide +kernel
theorem dX11_bell_34 : decode cX11_bell 34 = .ok (.aload_n 0, 1) := by decide +kernel
theorem dX11_bell_35 : decode cX11_bell 35 = .ok (.getfield 22, 3) := by decide +kernel
theorem dX11_bell_38 : decode cX11_bell 38 = .ok (.iload_n 2, 1) := by decide +kernel
theorem dX11_bell_39 : decode cX11_bell 39 = .ok (.iconst 1, 1) := by decide +kernel
theorem dX11_bell_40 : decode cX11_bell 40 = .ok (.isub, 1) := by decide +kernel
theorem dX11_bell_41 : decode cX11_bell 41 = .ok (.iaload, 1) := by decide +kernel
theorem dX11_bell_42 : decode cX11_bell 42 = .ok (.iconst 1, 1) := by decide +kernel
theorem dX11_bell_43 : decode cX11_bell 43 = .ok (.iadd, 1) := by decide +kernel
theorem dX11_bell_44 : decode cX11_bell 44 = .ok (.ireturn, 1) := by decide +kernel
theorem dX11_change_0 : decode cX11_change 0 = .ok (.iload_n 1, 1) := by decide +kernel
theorem dX11_change_1 : decode cX11_change 1 = .ok (.iconst (-1), 1) := by decide +kernel
theorem dX11_change_2 : decode cX11_change 2 = .ok (.aload_n 0, 1) := by decide +kernel
theorem dX11_change_3 : decode cX11_change 3 = .ok (.getfield 7, 3) := by decide +kernel
theorem dX11_change_6 : decode cX11_change 6 = .ok (.iconst 2, 1) := by decide +kernel
theorem dX11_change_7 : decode cX11_change 7 = .ok (.iaload, 1) := by decide +kernel
theorem dX11_change_8 : decode cX11_change 8 = .ok (.iconst 1, 1) := by decide +kernel
theorem dX11_change_9 : decode cX11_change 9 = .ok (.isub, 1) := by decide +kernel
theorem dX11_change_10 : decode cX11_change 10 = .ok (.invokestatic 54, 3) := by decide +kernel
theorem dX11_change_13 : decode cX11_change 13 = .ok (.ifCond .eq 7, 3) := by decide +kernel
theorem dX11_change_16 : decode cX11_change 16 = .ok (.iload_n 2, 1) := by decide +kernel
theorem dX11_change_17 : decode cX11_change 17 = .ok (.ifCond .ge 5, 3) := by decide +kernel
theorem dX11_change_20 : decode cX11_change 20 = .ok (.iconst (-1), 1) := by decide +kernel
theorem dX11_change_21 : decode cX11_change 21 = .ok (.ireturn, 1) := by decide +kernel
theorem dX11_change_22 : decode cX11_change 22 = .ok (.iload_n 2, 1) := by decide +kernel
theorem dX11_change_23 : decode cX11_change 23 = .ok (.aload_n 0, 1) := by decide +kernel
theorem dX11_change_24 : decode cX11_change 24 = .ok (.getfield 7, 3) := by decide +kernel
theorem dX11_change_27 : decode cX11_change 27 = .ok (.iconst 1, 1) := by decide +kernel
theorem dX11_change_28 : decode cX11_change 28 = .ok (.iaload, 1) := by decide +kernel
theorem dX11_change_29 : decode cX11_change 29 = .ok (.if_icmp .ge 28, 3) := by decide +kernel
theorem dX11_change_32 : decode cX11_change 32 = .ok (.aload_n 0, 1) := by decide +kernel
theorem dX11_change_33 : decode cX11_change 33 = .ok (.iload_n 1, 1) := by decide +kernel
theorem dX11_change_34 : decode cX11_change 34 = .ok (.ifCond .ge 7, 3) := by decide +kernel
theorem dX11_change_37 : decode cX11_change 37 = .ok (.iconst 0, 1) := by decide +kernel
theorem dX11_change_38 : decode cX11_change 38 = .ok (.goto 12, 3) := by decide +kernel
theorem dX11_change_41 : decode cX11_change 41 = .ok (.aload_n 0, 1) := by decide +kernel
theorem dX11_change_42 : decode cX11_change 42 = .ok (.getfield 7, 3) := by decide +kernel
theorem dX11_change_45 : decode cX11_change 45 = .ok (.bipush 25, 2) := by decide +kernel
theorem dX11_change_47 : decode cX11_change 47 = .ok (.iload_n 1, 1) := by decide +kernel
theorem dX11_change_48 : decode cX11_change 48 = .ok (.iadd, 1) := by decide +kernel
theorem dX11_change_49 : decode cX11_change 49 = .ok (.iaload, 1) := by decide +kernel
theorem dX11_change_50 : decode cX11_change 50 = .ok (.iload_n 2, 1) := by decide +kernel
theorem dX11_change_51 : decode cX11_change 51 = .ok (.invokevirtual 58, 3) := by decide +kernel
theorem dX11_change_54 : decode cX11_change 54 = .ok (.goto 5, 3) := by decide +kernel
theorem dX11_change_57 : decode cX11_change 57 = .ok (.bipush (-4), 2) := by decide +kernel
theorem dX11_change_59 : decode cX11_change 59 = .ok (.ireturn, 1) := by decide +kernel
theorem dX11_signByPairs_0 : decode cX11_signByPairs 0 = .ok (.iconst 0, 1) := by decide +kernel
theorem dX11_signByPairs_1 : decode cX11_signByPairs 1 = .ok (.istore_n 1, 1) := by decide +kernel
theorem dX11_signByPairs_2 : decode cX11_signByPairs 2 = .ok (.iconst 0, 1) := by decide +kernel
theorem dX11_signByPairs_3 : decode cX11_signByPairs 3 = .ok (.istore_n 2, 1) := by decide +kernel
theorem dX11_signByPairs_4 : decode cX11_signByPairs 4 = .ok (.iload_n 2, 1) := by decide +kernel
theorem dX11_signByPairs_5 : decode cX11_signByPairs 5 = .ok (.aload_n 0, 1) := by decide +kernel
theorem dX11_signByPairs_6 : decode cX11_signByPairs 6 = .ok (.getfield 7, 3) := by decide +kernel
theorem dX11_signByPairs_9 : decode cX11_signByPairs 9 = .ok (.iconst 0, 1) := by decide +kernel
theorem dX11_signByPairs_10 : decode cX11_signByPairs 10 = .ok (.iaload, 1) := by decide +kernel
theorem dX11_signByPairs_11 : decode cX11_signByPairs 11 = .ok (.if_icmp .ge 52, 3) := by decide +kernel
theorem dX11_signByPairs_14 : decode cX11_signByPairs 14 = .ok (.iload_n 2, 1) := by decide +kernel
theorem dX11_signByPairs_15 : decode cX11_signByPairs 15 = .ok (.iconst 1, 1) := by decide +kernel
theorem dX11_signByPairs_16 : decode cX11_signByPairs 16 = .ok (.iadd, 1) := by decide +kernel
theorem dX11_signByPairs_17 : decode cX11_signByPairs 17 = .ok (.istore_n 3, 1) := by decide +kernel
theorem dX11_signByPairs_18 : decode cX11_signByPairs 18 = .ok (.iload_n 3, 1) := by decide +kernel
theorem dX11_signByPairs_19 : decode cX11_signByPairs 19 = .ok (.aload_n 0, 1) := by decide +kernel
theorem dX11_signByPairs_20 : decode cX11_signByPairs 20 = .ok (.getfield 7, 3) := by decide +kernel
theorem dX11_signByPairs_23 : decode cX11_signByPairs 23 = .ok (.iconst 0, 1) := by decide +kernel
theorem dX11_signByPairs_24 : decode cX11_signByPairs 24 = .ok (.iaload, 1) := by decide +kernel
theorem dX11_signByPairs_25 : decode cX11_signByPairs 25 = .ok (.if_icmp .ge 32, 3) := by decide +kernel
theorem dX11_signByPairs_28 : decode cX11_signByPairs 28 = .ok (.iload_n 1, 1) := by decide +kernel
theorem dX11_signByPairs_29 : decode cX11_signByPairs 29 = .ok (.aload_n 0, 1) := by decide +kernel
theorem dX11_signByPairs_30 : decode cX11_signByPairs 30 = .ok (.getfield 22, 3) := by decide +kernel
theorem dX11_signByPairs_33 : decode cX11_signByPairs 33 = .ok (.iload_n 3, 1) := by decide +kernel
theorem dX11_signByPairs_34 : decode cX11_signByPairs 34 = .ok (.iaload, 1) := by decide +kernel
theorem dX11_signByPairs_35 : decode cX11_signByPairs 35 = .ok (.aload_n 0, 1) := by decide +kernel
theorem dX11_signByPairs_36 : decode cX11_signByPairs 36 = .ok (.getfield 22, 3) := by decide +kernel
theorem dX11_signByPairs_39 : decode cX11_signByPairs 39 = .ok (.iload_n 2, 1) := by decide +kernel
theorem dX11_signByPairs_40 : decode cX11_signByPairs 40 = .ok (.iaload, 1) := by decide +kernel
theorem dX11_signByPairs_41 : decode cX11_signByPairs 41 = .ok (.if_icmp .ge 7, 3) := by decide +kernel
theorem dX11_signByPairs_44 : decode cX11_signByPairs 44 = .ok (.iconst 1, 1) := by decide +kernel
theorem dX11_signByPairs_45 : decode cX11_signByPairs 45 = .ok (.goto 4, 3) := by decide +kernel
theorem dX11_signByPairs_48 : decode cX11_signByPairs 48 = .ok (.iconst 0, 1) := by decide +kernel
theorem dX11_signByPairs_49 : decode cX11_signByPairs 49 = .ok (.iadd, 1) := by decide +kernel
theorem dX11_signByPairs_50 : decode cX11_signByPairs 50 = .ok (.istore_n 1, 1) := by decide +kernel
theorem dX11_signByPairs_51 : decode cX11_signByPairs 51 = .ok (.iinc 3 1, 3) := by decide +kernel
