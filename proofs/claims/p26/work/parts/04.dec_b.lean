theorem dX5_init_0 : decode cX5_init 0 = .ok (.aload_n 0, 1) := by decide +kernel
theorem dX5_init_1 : decode cX5_init 1 = .ok (.invokespecial 3, 3) := by decide +kernel
theorem dX5_init_4 : decode cX5_init 4 = .ok (.aload_n 0, 1) := by decide +kernel
theorem dX5_init_5 : decode cX5_init 5 = .ok (.sipush 341, 3) := by decide +kernel
theorem dX5_init_8 : decode cX5_init 8 = .ok (.newarray .int, 2) := by decide +kernel
theorem dX5_init_10 : decode cX5_init 10 = .ok (.putfield 9, 3) := by decide +kernel
theorem dX5_init_13 : decode cX5_init 13 = .ok (.aload_n 0, 1) := by decide +kernel
theorem dX5_init_14 : decode cX5_init 14 = .ok (.sipush 341, 3) := by decide +kernel
theorem dX5_init_17 : decode cX5_init 17 = .ok (.newarray .int, 2) := by decide +kernel
theorem dX5_init_19 : decode cX5_init 19 = .ok (.putfield 15, 3) := by decide +kernel
theorem dX5_init_22 : decode cX5_init 22 = .ok (.aload_n 0, 1) := by decide +kernel
theorem dX5_init_23 : decode cX5_init 23 = .ok (.sipush 5040, 3) := by decide +kernel
theorem dX5_init_26 : decode cX5_init 26 = .ok (.newarray .int, 2) := by decide +kernel
theorem dX5_init_28 : decode cX5_init 28 = .ok (.putfield 18, 3) := by decide +kernel
theorem dX5_init_31 : decode cX5_init 31 = .ok (.return_, 1) := by decide +kernel
theorem dX5_ring_0 : decode cX5_ring 0 = .ok (.aload_n 0, 1) := by decide +kernel
theorem dX5_ring_1 : decode cX5_ring 1 = .ok (.aload_n 1, 1) := by decide +kernel
theorem dX5_ring_2 : decode cX5_ring 2 = .ok (.getfield 21, 3) := by decide +kernel
theorem dX5_ring_5 : decode cX5_ring 5 = .ok (.putfield 27, 3) := by decide +kernel
theorem dX5_ring_8 : decode cX5_ring 8 = .ok (.aload_n 0, 1) := by decide +kernel
theorem dX5_ring_9 : decode cX5_ring 9 = .ok (.aload_n 1, 1) := by decide +kernel
theorem dX5_ring_10 : decode cX5_ring 10 = .ok (.getfield 28, 3) := by decide +kernel
theorem dX5_ring_13 : decode cX5_ring 13 = .ok (.putfield 31, 3) := by decide +kernel
theorem dX5_ring_16 : decode cX5_ring 16 = .ok (.aload_n 0, 1) := by decide +kernel
theorem dX5_ring_17 : decode cX5_ring 17 = .ok (.aload_n 1, 1) := by decide +kernel
theorem dX5_ring_18 : decode cX5_ring 18 = .ok (.getfield 32, 3) := by decide +kernel
theorem dX5_ring_21 : decode cX5_ring 21 = .ok (.putfield 35, 3) := by decide +kernel
theorem dX5_ring_24 : decode cX5_ring 24 = .ok (.aload_n 0, 1) := by decide +kernel
theorem dX5_ring_25 : decode cX5_ring 25 = .ok (.getfield 27, 3) := by decide +kernel
theorem dX5_ring_28 : decode cX5_ring 28 = .ok (.invokestatic 36, 3) := by decide +kernel
theorem dX5_ring_31 : decode cX5_ring 31 = .ok (.istore_n 2, 1) := by decide +kernel
theorem dX5_ring_32 : decode cX5_ring 32 = .ok (.aload_n 0, 1) := by decide +kernel
theorem dX5_ring_33 : decode cX5_ring 33 = .ok (.getfield 9, 3) := by decide +kernel
theorem dX5_ring_36 : decode cX5_ring 36 = .ok (.iconst 0, 1) := by decide +kernel
theorem dX5_ring_37 : decode cX5_ring 37 = .ok (.iload_n 2, 1) := by decide +kernel
theorem dX5_ring_38 : decode cX5_ring 38 = .ok (.iastore, 1) := by decide +kernel
theorem dX5_ring_39 : decode cX5_ring 39 = .ok (.aload_n 0, 1) := by decide +kernel
theorem dX5_ring_40 : decode cX5_ring 40 = .ok (.iconst 0, 1) := by decide +kernel
theorem dX5_ring_41 : decode cX5_ring 41 = .ok (.putfield 42, 3) := by decide +kernel
theorem dX5_ring_44 : decode cX5_ring 44 = .ok (.iconst 0, 1) := by decide +kernel
theorem dX5_ring_45 : decode cX5_ring 45 = .ok (.istore_n 3, 1) := by decide +kernel
theorem dX5_ring_46 : decode cX5_ring 46 = .ok (.iload_n 3, 1) := by decide +kernel
theorem dX5_ring_47 : decode cX5_ring 47 = .ok (.aload_n 0, 1) := by decide +kernel
theorem dX5_ring_48 : decode cX5_ring 48 = .ok (.getfield 35, 3) := by decide +kernel
theorem dX5_ring_51 : decode cX5_ring 51 = .ok (.if_icmp .ge 56, 3) := by decide +kernel
theorem dX5_ring_54 : decode cX5_ring 54 = .ok (.aload_n 1, 1) := by decide +kernel
theorem dX5_ring_55 : decode cX5_ring 55 = .ok (.iload_n 3, 1) := by decide +kernel
theorem dX5_ring_56 : decode cX5_ring 56 = .ok (.invokevirtual 45, 3) := by decide +kernel
theorem dX5_ring_59 : decode cX5_ring 59 = .ok (.istore 4, 2) := by decide +kernel
theorem dX5_ring_61 : decode cX5_ring 61 = .ok (.iconst 0, 1) := by decide +kernel
theorem dX5_ring_62 : decode cX5_ring 62 = .ok (.istore 5, 2) := by decide +kernel
theorem dX5_ring_64 : decode cX5_ring 64 = .ok (.iload 5, 2) := by decide +kernel
theorem dX5_ring_66 : decode cX5_ring 66 = .ok (.aload_n 0, 1) := by decide +kernel
theorem dX5_ring_67 : decode cX5_ring 67 = .ok (.getfield 31, 3) := by decide +kernel
theorem dX5_ring_70 : decode cX5_ring 70 = .ok (.if_icmp .ge 31, 3) := by decide +kernel
theorem dX5_ring_73 : decode cX5_ring 73 = .ok (.iload_n 2, 1) := by decide +kernel
theorem dX5_ring_74 : decode cX5_ring 74 = .ok (.aload_n 1, 1) := by decide +kernel
theorem dX5_ring_75 : decode cX5_ring 75 = .ok (.iload 4, 2) := by decide +kernel
theorem dX5_ring_77 : decode cX5_ring 77 = .ok (.iload 5, 2) := by decide +kernel
theorem dX5_ring_79 : decode cX5_ring 79 = .ok (.invokevirtual 48, 3) := by decide +kernel
theorem dX5_ring_82 : decode cX5_ring 82 = .ok (.aload_n 0, 1) := by decide +kernel
theorem dX5_ring_83 : decode cX5_ring 83 = .ok (.getfield 27, 3) := by decide +kernel
theorem dX5_ring_86 : decode cX5_ring 86 = .ok (.invokestatic 52, 3) := by decide +kernel
theorem dX5_ring_89 : decode cX5_ring 89 = .ok (.istore_n 2, 1) := by decide +kernel
theorem dX5_ring_90 : decode cX5_ring 90 = .ok (.aload_n 0, 1) := by decide +kernel
theorem dX5_ring_91 : decode cX5_ring 91 = .ok (.iload_n 2, 1) := by decide +kernel
theorem dX5_ring_92 : decode cX5_ring 92 = .ok (.invokevirtual 56, 3) := by decide +kernel
theorem dX5_ring_95 : decode cX5_ring 95 = .ok (.iinc 5 1, 3) := by decide +kernel
theorem dX5_ring_98 : decode cX5_ring 98 = .ok (.goto (-34), 3) := by decide +kernel
theorem dX5_ring_101 : decode cX5_ring 101 = .ok (.iinc 3 1, 3) := by decide +kernel
theorem dX5_ring_104 : decode cX5_ring 104 = .ok (.goto (-58), 3) := by decide +kernel
theorem dX5_ring_107 : decode cX5_ring 107 = .ok (.aload_n 0, 1) := by decide +kernel
theorem dX5_ring_108 : decode cX5_ring 108 = .ok (.invokevirtual 60, 3) := by decide +kernel
theorem dX5_ring_111 : decode cX5_ring 111 = .ok (.return_, 1) := by decide +kernel
theorem dX5_keep_0 : decode cX5_keep 0 = .ok (.aload_n 0, 1) := by decide +kernel
theorem dX5_keep_1 : decode cX5_keep 1 = .ok (.getfield 42, 3) := by decide +kernel
theorem dX5_keep_4 : decode cX5_keep 4 = .ok (.iconst 1, 1) := by decide +kernel
theorem dX5_keep_5 : decode cX5_keep 5 = .ok (.iadd, 1) := by decide +kernel
theorem dX5_keep_6 : decode cX5_keep 6 = .ok (.aload_n 0, 1) := by decide +kernel
theorem dX5_keep_7 : decode cX5_keep 7 = .ok (.getfield 9, 3) := by decide +kernel
theorem dX5_keep_10 : decode cX5_keep 10 = .ok (.arraylength, 1) := by decide +kernel
theorem dX5_keep_11 : decode cX5_keep 11 = .ok (.if_icmp .ge 23, 3) := by decide +kernel
theorem dX5_keep_14 : decode cX5_keep 14 = .ok (.aload_n 0, 1) := by decide +kernel
theorem dX5_keep_15 : decode cX5_keep 15 = .ok (.dup, 1) := by decide +kernel
theorem dX5_keep_16 : decode cX5_keep 16 = .ok (.getfield 42, 3) := by decide +kernel
theorem dX5_keep_19 : decode cX5_keep 19 = .ok (.iconst 1, 1) := by decide +kernel
theorem dX5_keep_20 : decode cX5_keep 20 = .ok (.iadd, 1) := by decide +kernel
theorem dX5_keep_21 : decode cX5_keep 21 = .ok (.putfield 42, 3) := by decide +kernel
theorem dX5_keep_24 : decode cX5_keep 24 = .ok (.aload_n 0, 1) := by decide +kernel
theorem dX5_keep_25 : decode cX5_keep 25 = .ok (.getfield 9, 3) := by decide +kernel
theorem dX5_keep_28 : decode cX5_keep 28 = .ok (.aload_n 0, 1) := by decide +kernel
theorem dX5_keep_29 : decode cX5_keep 29 = .ok (.getfield 42, 3) := by decide +kernel
theorem dX5_keep_32 : decode cX5_keep 32 = .ok (.iload_n 1, 1) := by decide +kernel
theorem dX5_keep_33 : decode cX5_keep 33 = .ok (.iastore, 1) := by decide +kernel
theorem dX5_keep_34 : decode cX5_keep 34 = .ok (.return_, 1) := by decide +kernel
theorem dX5_findFirsts_0 : decode cX5_findFirsts 0 = .ok (.iconst 1, 1) := by decide +kernel
theorem dX5_findFirsts_1 : decode cX5_findFirsts 1 = .ok (.istore_n 1, 1) := by decide +kernel
theorem dX5_findFirsts_2 : decode cX5_findFirsts 2 = .ok (.iload_n 1, 1) := by decide +kernel
theorem dX5_findFirsts_3 : decode cX5_findFirsts 3 = .ok (.aload_n 0, 1) := by decide +kernel
theorem dX5_findFirsts_4 : decode cX5_findFirsts 4 = .ok (.getfield 42, 3) := by decide +kernel
theorem dX5_findFirsts_7 : decode cX5_findFirsts 7 = .ok (.if_icmp .gt 49, 3) := by decide +kernel
theorem dX5_findFirsts_10 : decode cX5_findFirsts 10 = .ok (.aload_n 0, 1) := by decide +kernel
theorem dX5_findFirsts_11 : decode cX5_findFirsts 11 = .ok (.iload_n 1, 1) := by decide +kernel
theorem dX5_findFirsts_12 : decode cX5_findFirsts 12 = .ok (.invokevirtual 63, 3) := by decide +kernel
theorem dX5_findFirsts_15 : decode cX5_findFirsts 15 = .ok (.aload_n 0, 1) := by decide +kernel
theorem dX5_findFirsts_16 : decode cX5_findFirsts 16 = .ok (.getfield 27, 3) := by decide +kernel
theorem dX5_findFirsts_19 : decode cX5_findFirsts 19 = .ok (.invokestatic 66, 3) := by decide +kernel
theorem dX5_findFirsts_22 : decode cX5_findFirsts 22 = .ok (.istore_n 2, 1) := by decide +kernel
theorem dX5_findFirsts_23 : decode cX5_findFirsts 23 = .ok (.aload_n 0, 1) := by decide +kernel
theorem dX5_findFirsts_24 : decode cX5_findFirsts 24 = .ok (.getfield 15, 3) := by decide +kernel
theorem dX5_findFirsts_27 : decode cX5_findFirsts 27 = .ok (.iload_n 1, 1) := by decide +kernel
theorem dX5_findFirsts_28 : decode cX5_findFirsts 28 = .ok (.iload_n 2, 1) := by decide +kernel
theorem dX5_findFirsts_29 : decode cX5_findFirsts 29 = .ok (.iastore, 1) := by decide +kernel
theorem dX5_findFirsts_30 : decode cX5_findFirsts 30 = .ok (.iload_n 2, 1) := by decide +kernel
theorem dX5_findFirsts_31 : decode cX5_findFirsts 31 = .ok (.ifCond .lt 19, 3) := by decide +kernel
theorem dX5_findFirsts_34 : decode cX5_findFirsts 34 = .ok (.iload_n 2, 1) := by decide +kernel
theorem dX5_findFirsts_35 : decode cX5_findFirsts 35 = .ok (.aload_n 0, 1) := by decide +kernel
theorem dX5_findFirsts_36 : decode cX5_findFirsts 36 = .ok (.getfield 18, 3) := by decide +kernel
theorem dX5_findFirsts_39 : decode cX5_findFirsts 39 = .ok (.arraylength, 1) := by decide +kernel
theorem dX5_findFirsts_40 : decode cX5_findFirsts 40 = .ok (.if_icmp .ge 10, 3) := by decide +kernel
theorem dX5_findFirsts_43 : decode cX5_findFirsts 43 = .ok (.aload_n 0, 1) := by decide +kernel
theorem dX5_findFirsts_44 : decode cX5_findFirsts 44 = .ok (.getfield 18, 3) := by decide +kernel
theorem dX5_findFirsts_47 : decode cX5_findFirsts 47 = .ok (.iload_n 2, 1) := by decide +kernel
theorem dX5_findFirsts_48 : decode cX5_findFirsts 48 = .ok (.iconst 0, 1) := by decide +kernel
theorem dX5_findFirsts_49 : decode cX5_findFirsts 49 = .ok (.iastore, 1) := by decide +kernel
theorem dX5_findFirsts_50 : decode cX5_findFirsts 50 = .ok (.iinc 1 1, 3) := by decide +kernel
theorem dX5_findFirsts_53 : decode cX5_findFirsts 53 = .ok (.goto (-51), 3) := by decide +kernel
theorem dX5_findFirsts_56 : decode cX5_findFirsts 56 = .ok (.iconst 1, 1) := by decide +kernel
theorem dX5_findFirsts_57 : decode cX5_findFirsts 57 = .ok (.istore_n 1, 1) := by decide +kernel
theorem dX5_findFirsts_58 : decode cX5_findFirsts 58 = .ok (.iload_n 1, 1) := by decide +kernel
theorem dX5_findFirsts_59 : decode cX5_findFirsts 59 = .ok (.aload_n 0, 1) := by decide +kernel
theorem dX5_findFirsts_60 : decode cX5_findFirsts 60 = .ok (.getfield 42, 3) := by decide +kernel
theorem dX5_findFirsts_63 : decode cX5_findFirsts 63 = .ok (.if_icmp .gt 26, 3) := by decide +kernel
theorem dX5_findFirsts_66 : decode cX5_findFirsts 66 = .ok (.aload_n 0, 1) := by decide +kernel
theorem dX5_findFirsts_67 : decode cX5_findFirsts 67 = .ok (.getfield 15, 3) := by decide +kernel
theorem dX5_findFirsts_70 : decode cX5_findFirsts 70 = .ok (.iload_n 1, 1) := by decide +kernel
theorem dX5_findFirsts_71 : decode cX5_findFirsts 71 = .ok (.aload_n 0, 1) := by decide +kernel
theorem dX5_findFirsts_72 : decode cX5_findFirsts 72 = .ok (.aload_n 0, 1) := by decide +kernel
theorem dX5_findFirsts_73 : decode cX5_findFirsts 73 = .ok (.getfield 15, 3) := by decide +kernel
theorem dX5_findFirsts_76 : decode cX5_findFirsts 76 = .ok (.iload_n 1, 1) := by decide +kernel
theorem dX5_findFirsts_77 : decode cX5_findFirsts 77 = .ok (.iaload, 1) := by decide +kernel
theorem dX5_findFirsts_78 : decode cX5_findFirsts 78 = .ok (.iload_n 1, 1) := by decide +kernel
theorem dX5_findFirsts_79 : decode cX5_findFirsts 79 = .ok (.invokevirtual 69, 3) := by decide +kernel
theorem dX5_findFirsts_82 : decode cX5_findFirsts 82 = .ok (.iastore, 1) := by decide +kernel
theorem dX5_findFirsts_83 : decode cX5_findFirsts 83 = .ok (.iinc 1 1, 3) := by decide +kernel
theorem dX5_findFirsts_86 : decode cX5_findFirsts 86 = .ok (.goto (-28), 3) := by decide +kernel
theorem dX5_findFirsts_89 : decode cX5_findFirsts 89 = .ok (.return_, 1) := by decide +kernel
theorem dX5_firstWithRank_0 : decode cX5_firstWithRank 0 = .ok (.iload_n 1, 1) := by decide +kernel
theorem dX5_firstWithRank_1 : decode cX5_firstWithRank 1 = .ok (.ifCond .lt 12, 3) := by decide +kernel
theorem dX5_firstWithRank_4 : decode cX5_firstWithRank 4 = .ok (.iload_n 1, 1) := by decide +kernel
theorem dX5_firstWithRank_5 : decode cX5_firstWithRank 5 = .ok (.aload_n 0, 1) := by decide +kernel
theorem dX5_firstWithRank_6 : decode cX5_firstWithRank 6 = .ok (.getfield 18, 3) := by decide +kernel
theorem dX5_firstWithRank_9 : decode cX5_firstWithRank 9 = .ok (.arraylength, 1) := by decide +kernel
theorem dX5_firstWithRank_10 : decode cX5_firstWithRank 10 = .ok (.if_icmp .lt 5, 3) := by decide +kernel
theorem dX5_firstWithRank_13 : decode cX5_firstWithRank 13 = .ok (.iload_n 2, 1) := by decide +kernel
theorem dX5_firstWithRank_14 : decode cX5_firstWithRank 14 = .ok (.ireturn, 1) := by decide +kernel
theorem dX5_firstWithRank_15 : decode cX5_firstWithRank 15 = .ok (.aload_n 0, 1) := by decide +kernel
theorem dX5_firstWithRank_16 : decode cX5_firstWithRank 16 = .ok (.getfield 18, 3) := by decide +kernel
theorem dX5_firstWithRank_19 : decode cX5_firstWithRank 19 = .ok (.iload_n 1, 1) := by decide +kernel
theorem dX5_firstWithRank_20 : decode cX5_firstWithRank 20 = .ok (.iaload, 1) := by decide +kernel
theorem dX5_firstWithRank_21 : decode cX5_firstWithRank 21 = .ok (.ifCond .ne 10, 3) := by decide +kernel
theorem dX5_firstWithRank_24 : decode cX5_firstWithRank 24 = .ok (.aload_n 0, 1) := by decide +kernel
theorem dX5_firstWithRank_25 : decode cX5_firstWithRank 25 = .ok (.getfield 18, 3) := by decide +kernel
theorem dX5_firstWithRank_28 : decode cX5_firstWithRank 28 = .ok (.iload_n 1, 1) := by decide +kernel
theorem dX5_firstWithRank_29 : decode cX5_firstWithRank 29 = .ok (.iload_n 2, 1) := by decide +kernel
theorem dX5_firstWithRank_30 : decode cX5_firstWithRank 30 = .ok (.iastore, 1) := by decide +kernel
theorem dX5_firstWithRank_31 : decode cX5_firstWithRank 31 = .ok (.aload_n 0, 1) := by decide +kernel
theorem dX5_firstWithRank_32 : decode cX5_firstWithRank 32 = .ok (.getfield 18, 3) := by decide +kernel
theorem dX5_firstWithRank_35 : decode cX5_firstWithRank 35 = .ok (.iload_n 1, 1) := by decide +kernel
theorem dX5_firstWithRank_36 : decode cX5_firstWithRank 36 = .ok (.iaload, 1) := by decide +kernel
theorem dX5_firstWithRank_37 : decode cX5_firstWithRank 37 = .ok (.ireturn, 1) := by decide +kernel
theorem dX5_rowAt_0 : decode cX5_rowAt 0 = .ok (.iload_n 1, 1) := by decide +kernel
theorem dX5_rowAt_1 : decode cX5_rowAt 1 = .ok (.ifCond .lt 21, 3) := by decide +kernel
theorem dX5_rowAt_4 : decode cX5_rowAt 4 = .ok (.iload_n 1, 1) := by decide +kernel
theorem dX5_rowAt_5 : decode cX5_rowAt 5 = .ok (.aload_n 0, 1) := by decide +kernel
theorem dX5_rowAt_6 : decode cX5_rowAt 6 = .ok (.getfield 9, 3) := by decide +kernel
theorem dX5_rowAt_9 : decode cX5_rowAt 9 = .ok (.arraylength, 1) := by decide +kernel
theorem dX5_rowAt_10 : decode cX5_rowAt 10 = .ok (.if_icmp .ge 12, 3) := by decide +kernel
theorem dX5_rowAt_13 : decode cX5_rowAt 13 = .ok (.aload_n 0, 1) := by decide +kernel
theorem dX5_rowAt_14 : decode cX5_rowAt 14 = .ok (.getfield 9, 3) := by decide +kernel
theorem dX5_rowAt_17 : decode cX5_rowAt 17 = .ok (.iload_n 1, 1) := by decide +kernel
theorem dX5_rowAt_18 : decode cX5_rowAt 18 = .ok (.iaload, 1) := by decide +kernel
theorem dX5_rowAt_19 : decode cX5_rowAt 19 = .ok (.goto 4, 3) := by decide +kernel
theorem dX5_rowAt_22 : decode cX5_rowAt 22 = .ok (.iconst 0, 1) := by decide +kernel
theorem dX5_rowAt_23 : decode cX5_rowAt 23 = .ok (.ireturn, 1) := by decide +kernel
theorem dX5_placeIn_0 : decode cX5_placeIn 0 = .ok (.aload_n 0, 1) := by decide +kernel
theorem dX5_placeIn_1 : decode cX5_placeIn 1 = .ok (.iload_n 1, 1) := by decide +kernel
theorem dX5_placeIn_2 : decode cX5_placeIn 2 = .ok (.invokevirtual 63, 3) := by decide +kernel
theorem dX5_placeIn_5 : decode cX5_placeIn 5 = .ok (.iload_n 2, 1) := by decide +kernel
theorem dX5_placeIn_6 : decode cX5_placeIn 6 = .ok (.aload_n 0, 1) := by decide +kernel
theorem dX5_placeIn_7 : decode cX5_placeIn 7 = .ok (.getfield 27, 3) := by decide +kernel
theorem dX5_placeIn_10 : decode cX5_placeIn 10 = .ok (.invokestatic 72, 3) := by decide +kernel
theorem dX5_placeIn_13 : decode cX5_placeIn 13 = .ok (.ireturn, 1) := by decide +kernel
theorem dX5_isFirst_0 : decode cX5_isFirst 0 = .ok (.iload_n 1, 1) := by decide +kernel
theorem dX5_isFirst_1 : decode cX5_isFirst 1 = .ok (.ifCond .lt 26, 3) := by decide +kernel
theorem dX5_isFirst_4 : decode cX5_isFirst 4 = .ok (.iload_n 1, 1) := by decide +kernel
theorem dX5_isFirst_5 : decode cX5_isFirst 5 = .ok (.aload_n 0, 1) := by decide +kernel
theorem dX5_isFirst_6 : decode cX5_isFirst 6 = .ok (.getfield 15, 3) := by decide +kernel
theorem dX5_isFirst_9 : decode cX5_isFirst 9 = .ok (.arraylength, 1) := by decide +kernel
theorem dX5_isFirst_10 : decode cX5_isFirst 10 = .ok (.if_icmp .ge 17, 3) := by decide +kernel
theorem dX5_isFirst_13 : decode cX5_isFirst 13 = .ok (.aload_n 0, 1) := by decide +kernel
theorem dX5_isFirst_14 : decode cX5_isFirst 14 = .ok (.getfield 15, 3) := by decide +kernel
theorem dX5_isFirst_17 : decode cX5_isFirst 17 = .ok (.iload_n 1, 1) := by decide +kernel
theorem dX5_isFirst_18 : decode cX5_isFirst 18 = .ok (.iaload, 1) := by decide +kernel
theorem dX5_isFirst_19 : decode cX5_isFirst 19 = .ok (.iload_n 1, 1) := by decide +kernel
theorem dX5_isFirst_20 : decode cX5_isFirst 20 = .ok (.if_icmp .ne 7, 3) := by decide +kernel
theorem dX5_isFirst_23 : decode cX5_isFirst 23 = .ok (.iconst 1, 1) := by decide +kernel
theorem dX5_isFirst_24 : decode cX5_isFirst 24 = .ok (.goto 4, 3) := by decide +kernel
theorem dX5_isFirst_27 : decode cX5_isFirst 27 = .ok (.iconst 0, 1) := by decide +kernel
theorem dX5_isFirst_28 : decode cX5_isFirst 28 = .ok (.ireturn, 1) := by decide +kernel
theorem dX5_firstLike_0 : decode cX5_firstLike 0 = .ok (.aload_n 0, 1) := by decide +kernel
theorem dX5_firstLike_1 : decode cX5_firstLike 1 = .ok (.iload_n 1, 1) := by decide +kernel
theorem dX5_firstLike_2 : decode cX5_firstLike 2 = .ok (.invokevirtual 63, 3) := by decide +kernel
theorem dX5_firstLike_5 : decode cX5_firstLike 5 = .ok (.aload_n 0, 1) := by decide +kernel
theorem dX5_firstLike_6 : decode cX5_firstLike 6 = .ok (.getfield 9, 3) := by decide +kernel
theorem dX5_firstLike_9 : decode cX5_firstLike 9 = .ok (.iconst 0, 1) := by decide +kernel
theorem dX5_firstLike_10 : decode cX5_firstLike 10 = .ok (.iaload, 1) := by decide +kernel
theorem dX5_firstLike_11 : decode cX5_firstLike 11 = .ok (.if_icmp .ne 5, 3) := by decide +kernel
theorem dX5_firstLike_14 : decode cX5_firstLike 14 = .ok (.iconst 0, 1) := by decide +kernel
theorem dX5_firstLike_15 : decode cX5_firstLike 15 = .ok (.ireturn, 1) := by decide +kernel
theorem dX5_firstLike_16 : decode cX5_firstLike 16 = .ok (.iload_n 1, 1) := by decide +kernel
theorem dX5_firstLike_17 : decode cX5_firstLike 17 = .ok (.ifCond .lt 21, 3) := by decide +kernel
theorem dX5_firstLike_20 : decode cX5_firstLike 20 = .ok (.iload_n 1, 1) := by decide +kernel
theorem dX5_firstLike_21 : decode cX5_firstLike 21 = .ok (.aload_n 0, 1) := by decide +kernel
theorem dX5_firstLike_22 : decode cX5_firstLike 22 = .ok (.getfield 15, 3) := by decide +kernel
theorem dX5_firstLike_25 : decode cX5_firstLike 25 = .ok (.arraylength, 1) := by decide +kernel
theorem dX5_firstLike_26 : decode cX5_firstLike 26 = .ok (.if_icmp .ge 12, 3) := by decide +kernel
theorem dX5_firstLike_29 : decode cX5_firstLike 29 = .ok (.aload_n 0, 1) := by decide +kernel
theorem dX5_firstLike_30 : decode cX5_firstLike 30 = .ok (.getfield 15, 3) := by decide +kernel
theorem dX5_firstLike_33 : decode cX5_firstLike 33 = .ok (.iload_n 1, 1) := by decide +kernel
theorem dX5_firstLike_34 : decode cX5_firstLike 34 = .ok (.iaload, 1) := by decide +kernel
theorem dX5_firstLike_35 : decode cX5_firstLike 35 = .ok (.goto 4, 3) := by decide +kernel
theorem dX5_firstLike_38 : decode cX5_firstLike 38 = .ok (.iload_n 1, 1) := by decide +kernel
theorem dX5_firstLike_39 : decode cX5_firstLike 39 = .ok (.ireturn, 1) := by decide +kernel
theorem dX5_comesRound_0 : decode cX5_comesRound 0 = .ok (.iconst 1, 1) := by decide +kernel
theorem dX5_comesRound_1 : decode cX5_comesRound 1 = .ok (.istore_n 1, 1) := by decide +kernel
theorem dX5_comesRound_2 : decode cX5_comesRound 2 = .ok (.iload_n 1, 1) := by decide +kernel
theorem dX5_comesRound_3 : decode cX5_comesRound 3 = .ok (.aload_n 0, 1) := by decide +kernel
theorem dX5_comesRound_4 : decode cX5_comesRound 4 = .ok (.getfield 42, 3) := by decide +kernel
theorem dX5_comesRound_7 : decode cX5_comesRound 7 = .ok (.if_icmp .gt 25, 3) := by decide +kernel
theorem dX5_comesRound_10 : decode cX5_comesRound 10 = .ok (.aload_n 0, 1) := by decide +kernel
theorem dX5_comesRound_11 : decode cX5_comesRound 11 = .ok (.iload_n 1, 1) := by decide +kernel
theorem dX5_comesRound_12 : decode cX5_comesRound 12 = .ok (.invokevirtual 63, 3) := by decide +kernel
theorem dX5_comesRound_15 : decode cX5_comesRound 15 = .ok (.aload_n 0, 1) := by decide +kernel
theorem dX5_comesRound_16 : decode cX5_comesRound 16 = .ok (.getfield 9, 3) := by decide +kernel
theorem dX5_comesRound_19 : decode cX5_comesRound 19 = .ok (.iconst 0, 1) := by decide +kernel
theorem dX5_comesRound_20 : decode cX5_comesRound 20 = .ok (.iaload, 1) := by decide +kernel
theorem dX5_comesRound_21 : decode cX5_comesRound 21 = .ok (.if_icmp .ne 5, 3) := by decide +kernel
theorem dX5_comesRound_24 : decode cX5_comesRound 24 = .ok (.iload_n 1, 1) := by decide +kernel
theorem dX5_comesRound_25 : decode cX5_comesRound 25 = .ok (.ireturn, 1) := by decide +kernel
theorem dX5_comesRound_26 : decode cX5_comesRound 26 = .ok (.iinc 1 1, 3) := by decide +kernel
theorem dX5_comesRound_29 : decode cX5_comesRound 29 = .ok (.goto (-27), 3) := by decide +kernel
theorem dX5_comesRound_32 : decode cX5_comesRound 32 = .ok (.bipush (-4), 2) := by decide +kernel
theorem dX5_comesRound_34 : decode cX5_comesRound 34 = .ok (.ireturn, 1) := by decide +kernel
theorem dX5_firstRepeat_0 : decode cX5_firstRepeat 0 = .ok (.iconst 1, 1) := by decide +kernel
theorem dX5_firstRepeat_1 : decode cX5_firstRepeat 1 = .ok (.istore_n 1, 1) := by decide +kernel
theorem dX5_firstRepeat_2 : decode cX5_firstRepeat 2 = .ok (.iload_n 1, 1) := by decide +kernel
theorem dX5_firstRepeat_3 : decode cX5_firstRepeat 3 = .ok (.aload_n 0, 1) := by decide +kernel
theorem dX5_firstRepeat_4 : decode cX5_firstRepeat 4 = .ok (.getfield 42, 3) := by decide +kernel
theorem dX5_firstRepeat_7 : decode cX5_firstRepeat 7 = .ok (.if_icmp .gt 19, 3) := by decide +kernel
theorem dX5_firstRepeat_10 : decode cX5_firstRepeat 10 = .ok (.aload_n 0, 1) := by decide +kernel
theorem dX5_firstRepeat_11 : decode cX5_firstRepeat 11 = .ok (.iload_n 1, 1) := by decide +kernel
theorem dX5_firstRepeat_12 : decode cX5_firstRepeat 12 = .ok (.invokevirtual 75, 3) := by decide +kernel
theorem dX5_firstRepeat_15 : decode cX5_firstRepeat 15 = .ok (.ifCond .ne 5, 3) := by decide +kernel
theorem dX5_firstRepeat_18 : decode cX5_firstRepeat 18 = .ok (.iload_n 1, 1) := by decide +kernel
theorem dX5_firstRepeat_19 : decode cX5_firstRepeat 19 = .ok (.ireturn, 1) := by decide +kernel
theorem dX5_firstRepeat_20 : decode cX5_firstRepeat 20 = .ok (.iinc 1 1, 3) := by decide +kernel
theorem dX5_firstRepeat_23 : decode cX5_firstRepeat 23 = .ok (.goto (-21), 3) := by decide +kernel
theorem dX5_firstRepeat_26 : decode cX5_firstRepeat 26 = .ok (.bipush (-4), 2) := by decide +kernel
theorem dX5_firstRepeat_28 : decode cX5_firstRepeat 28 = .ok (.ireturn, 1) := by decide +kernel
theorem dX5_isTrue_0 : decode cX5_isTrue 0 = .ok (.aload_n 0, 1) := by decide +kernel
theorem dX5_isTrue_1 : decode cX5_isTrue 1 = .ok (.invokevirtual 79, 3) := by decide +kernel
theorem dX5_isTrue_4 : decode cX5_isTrue 4 = .ok (.bipush (-4), 2) := by decide +kernel
theorem dX5_isTrue_6 : decode cX5_isTrue 6 = .ok (.if_icmp .ne 7, 3) := by decide +kernel
theorem dX5_isTrue_9 : decode cX5_isTrue 9 = .ok (.iconst 1, 1) := by decide +kernel
theorem dX5_isTrue_10 : decode cX5_isTrue 10 = .ok (.goto 4, 3) := by decide +kernel
theorem dX5_isTrue_13 : decode cX5_isTrue 13 = .ok (.iconst 0, 1) := by decide +kernel
theorem dX5_isTrue_14 : decode cX5_isTrue 14 = .ok (.ireturn, 1) := by decide +kernel
theorem dX5_differentRows_0 : decode cX5_differentRows 0 = .ok (.iconst 0, 1) := by decide +kernel
theorem dX5_differentRows_1 : decode cX5_differentRows 1 = .ok (.istore_n 1, 1) := by decide +kernel
theorem dX5_differentRows_2 : decode cX5_differentRows 2 = .ok (.iconst 1, 1) := by decide +kernel
theorem dX5_differentRows_3 : decode cX5_differentRows 3 = .ok (.istore_n 2, 1) := by decide +kernel
theorem dX5_differentRows_4 : decode cX5_differentRows 4 = .ok (.iload_n 2, 1) := by decide +kernel
theorem dX5_differentRows_5 : decode cX5_differentRows 5 = .ok (.aload_n 0, 1) := by decide +kernel
theorem dX5_differentRows_6 : decode cX5_differentRows 6 = .ok (.getfield 42, 3) := by decide +kernel
theorem dX5_differentRows_9 : decode cX5_differentRows 9 = .ok (.if_icmp .gt 20, 3) := by decide +kernel
theorem dX5_differentRows_12 : decode cX5_differentRows 12 = .ok (.aload_n 0, 1) := by decide +kernel
theorem dX5_differentRows_13 : decode cX5_differentRows 13 = .ok (.iload_n 2, 1) := by decide +kernel
theorem dX5_differentRows_14 : decode cX5_differentRows 14 = .ok (.invokevirtual 75, 3) := by decide +kernel
theorem dX5_differentRows_17 : decode cX5_differentRows 17 = .ok (.ifCond .eq 6, 3) := by decide +kernel
theorem dX5_differentRows_20 : decode cX5_differentRows 20 = .ok (.iinc 1 1, 3) := by decide +kernel
theorem dX5_differentRows_23 : decode cX5_differentRows 23 = .ok (.iinc 2 1, 3) := by decide +kernel
theorem dX5_differentRows_26 : decode cX5_differentRows 26 = .ok (.goto (-22), 3) := by decide +kernel
theorem dX5_differentRows_29 : decode cX5_differentRows 29 = .ok (.iload_n 1, 1) := by decide +kernel
theorem dX5_differentRows_30 : decode cX5_differentRows 30 = .ok (.ireturn, 1) := by decide +kernel
theorem dX5_wellSounding_0 : decode cX5_wellSounding 0 = .ok (.iconst 0, 1) := by decide +kernel
theorem dX5_wellSounding_1 : decode cX5_wellSounding 1 = .ok (.istore_n 1, 1) := by decide +kernel
theorem dX5_wellSounding_2 : decode cX5_wellSounding 2 = .ok (.iconst 1, 1) := by decide +kernel
theorem dX5_wellSounding_3 : decode cX5_wellSounding 3 = .ok (.istore_n 2, 1) := by decide +kernel
theorem dX5_wellSounding_4 : decode cX5_wellSounding 4 = .ok (.iload_n 2, 1) := by decide +kernel
theorem dX5_wellSounding_5 : decode cX5_wellSounding 5 = .ok (.aload_n 0, 1) := by decide +kernel
theorem dX5_wellSounding_6 : decode cX5_wellSounding 6 = .ok (.getfield 42, 3) := by decide +kernel
theorem dX5_wellSounding_9 : decode cX5_wellSounding 9 = .ok (.if_icmp .gt 27, 3) := by decide +kernel
theorem dX5_wellSounding_12 : decode cX5_wellSounding 12 = .ok (.aload_n 0, 1) := by decide +kernel
theorem dX5_wellSounding_13 : decode cX5_wellSounding 13 = .ok (.iload_n 2, 1) := by decide +kernel
theorem dX5_wellSounding_14 : decode cX5_wellSounding 14 = .ok (.invokevirtual 63, 3) := by decide +kernel
theorem dX5_wellSounding_17 : decode cX5_wellSounding 17 = .ok (.aload_n 0, 1) := by decide +kernel
theorem dX5_wellSounding_18 : decode cX5_wellSounding 18 = .ok (.getfield 27, 3) := by decide +kernel
theorem dX5_wellSounding_21 : decode cX5_wellSounding 21 = .ok (.invokestatic 83, 3) := by decide +kernel
theorem dX5_wellSounding_24 : decode cX5_wellSounding 24 = .ok (.ifCond .eq 6, 3) := by decide +kernel
theorem dX5_wellSounding_27 : decode cX5_wellSounding 27 = .ok (.iinc 1 1, 3) := by decide +kernel
theorem dX5_wellSounding_30 : decode cX5_wellSounding 30 = .ok (.iinc 2 1, 3) := by decide +kernel
theorem dX5_wellSounding_33 : decode cX5_wellSounding 33 = .ok (.goto (-29), 3) := by decide +kernel
theorem dX5_wellSounding_36 : decode cX5_wellSounding 36 = .ok (.iload_n 1, 1) := by decide +kernel
theorem dX5_wellSounding_37 : decode cX5_wellSounding 37 = .ok (.ireturn, 1) := by decide +kernel
theorem dX5_falsePairs_0 : decode cX5_falsePairs 0 = .ok (.iconst 0, 1) := by decide +kernel
theorem dX5_falsePairs_1 : decode cX5_falsePairs 1 = .ok (.istore_n 1, 1) := by decide +kernel
theorem dX5_falsePairs_2 : decode cX5_falsePairs 2 = .ok (.iconst 0, 1) := by decide +kernel
theorem dX5_falsePairs_3 : decode cX5_falsePairs 3 = .ok (.istore_n 2, 1) := by decide +kernel
theorem dX5_falsePairs_4 : decode cX5_falsePairs 4 = .ok (.iload_n 2, 1) := by decide +kernel
theorem dX5_falsePairs_5 : decode cX5_falsePairs 5 = .ok (.aload_n 0, 1) := by decide +kernel
theorem dX5_falsePairs_6 : decode cX5_falsePairs 6 = .ok (.getfield 35, 3) := by decide +kernel
theorem dX5_falsePairs_9 : decode cX5_falsePairs 9 = .ok (.if_icmp .ge 39, 3) := by decide +kernel
theorem dX5_falsePairs_12 : decode cX5_falsePairs 12 = .ok (.iload_n 2, 1) := by decide +kernel
theorem dX5_falsePairs_13 : decode cX5_falsePairs 13 = .ok (.iconst 1, 1) := by decide +kernel
theorem dX5_falsePairs_14 : decode cX5_falsePairs 14 = .ok (.iadd, 1) := by decide +kernel
theorem dX5_falsePairs_15 : decode cX5_falsePairs 15 = .ok (.istore_n 3, 1) := by decide +kernel
theorem dX5_falsePairs_16 : decode cX5_falsePairs 16 = .ok (.iload_n 3, 1) := by decide +kernel
theorem dX5_falsePairs_17 : decode cX5_falsePairs 17 = .ok (.aload_n 0, 1) := by decide +kernel
theorem dX5_falsePairs_18 : decode cX5_falsePairs 18 = .ok (.getfield 35, 3) := by decide +kernel
theorem dX5_falsePairs_21 : decode cX5_falsePairs 21 = .ok (.if_icmp .ge 21, 3) := by decide +kernel
theorem dX5_falsePairs_24 : decode cX5_falsePairs 24 = .ok (.aload_n 0, 1) := by decide +kernel
theorem dX5_falsePairs_25 : decode cX5_falsePairs 25 = .ok (.iload_n 2, 1) := by decide +kernel
theorem dX5_falsePairs_26 : decode cX5_falsePairs 26 = .ok (.iload_n 3, 1) := by decide +kernel
theorem dX5_falsePairs_27 : decode cX5_falsePairs 27 = .ok (.invokevirtual 87, 3) := by decide +kernel
theorem dX5_falsePairs_30 : decode cX5_falsePairs 30 = .ok (.ifCond .eq 6, 3) := by decide +kernel
theorem dX5_falsePairs_33 : decode cX5_falsePairs 33 = .ok (.iinc 1 1, 3) := by decide +kernel
theorem dX5_falsePairs_36 : decode cX5_falsePairs 36 = .ok (.iinc 3 1, 3) := by decide +kernel
theorem dX5_falsePairs_39 : decode cX5_falsePairs 39 = .ok (.goto (-23), 3) := by decide +kernel
theorem dX5_falsePairs_42 : decode cX5_falsePairs 42 = .ok (.iinc 2 1, 3) := by decide +kernel
theorem dX5_falsePairs_45 : decode cX5_falsePairs 45 = .ok (.goto (-41), 3) := by decide +kernel
theorem dX5_falsePairs_48 : decode cX5_falsePairs 48 = .ok (.iload_n 1, 1) := by decide +kernel
theorem dX5_falsePairs_49 : decode cX5_falsePairs 49 = .ok (.ireturn, 1) := by decide +kernel
theorem dX5_areFalse_0 : decode cX5_areFalse 0 = .ok (.iconst 1, 1) := by decide +kernel
theorem dX5_areFalse_1 : decode cX5_areFalse 1 = .ok (.istore_n 3, 1) := by decide +kernel
theorem dX5_areFalse_2 : decode cX5_areFalse 2 = .ok (.iload_n 3, 1) := by decide +kernel
theorem dX5_areFalse_3 : decode cX5_areFalse 3 = .ok (.aload_n 0, 1) := by decide +kernel
theorem dX5_areFalse_4 : decode cX5_areFalse 4 = .ok (.getfield 31, 3) := by decide +kernel
theorem dX5_areFalse_7 : decode cX5_areFalse 7 = .ok (.if_icmp .gt 57, 3) := by decide +kernel
theorem dX5_areFalse_10 : decode cX5_areFalse 10 = .ok (.iconst 1, 1) := by decide +kernel
theorem dX5_areFalse_11 : decode cX5_areFalse 11 = .ok (.istore 4, 2) := by decide +kernel
theorem dX5_areFalse_13 : decode cX5_areFalse 13 = .ok (.iload 4, 2) := by decide +kernel
theorem dX5_areFalse_15 : decode cX5_areFalse 15 = .ok (.aload_n 0, 1) := by decide +kernel
theorem dX5_areFalse_16 : decode cX5_areFalse 16 = .ok (.getfield 31, 3) := by decide +kernel
theorem dX5_areFalse_19 : decode cX5_areFalse 19 = .ok (.if_icmp .gt 39, 3) := by decide +kernel
theorem dX5_areFalse_22 : decode cX5_areFalse 22 = .ok (.aload_n 0, 1) := by decide +kernel
theorem dX5_areFalse_23 : decode cX5_areFalse 23 = .ok (.iload_n 1, 1) := by decide +kernel
theorem dX5_areFalse_24 : decode cX5_areFalse 24 = .ok (.aload_n 0, 1) := by decide +kernel
theorem dX5_areFalse_25 : decode cX5_areFalse 25 = .ok (.getfield 31, 3) := by decide +kernel
theorem dX5_areFalse_28 : decode cX5_areFalse 28 = .ok (.imul, 1) := by decide +kernel
theorem dX5_areFalse_29 : decode cX5_areFalse 29 = .ok (.iload_n 3, 1) := by decide +kernel
theorem dX5_areFalse_30 : decode cX5_areFalse 30 = .ok (.iadd, 1) := by decide +kernel
theorem dX5_areFalse_31 : decode cX5_areFalse 31 = .ok (.invokevirtual 63, 3) := by decide +kernel
theorem dX5_areFalse_34 : decode cX5_areFalse 34 = .ok (.aload_n 0, 1) := by decide +kernel
theorem dX5_areFalse_35 : decode cX5_areFalse 35 = .ok (.iload_n 2, 1) := by decide +kernel
theorem dX5_areFalse_36 : decode cX5_areFalse 36 = .ok (.aload_n 0, 1) := by decide +kernel
theorem dX5_areFalse_37 : decode cX5_areFalse 37 = .ok (.getfield 31, 3) := by decide +kernel
theorem dX5_areFalse_40 : decode cX5_areFalse 40 = .ok (.imul, 1) := by decide +kernel
theorem dX5_areFalse_41 : decode cX5_areFalse 41 = .ok (.iload 4, 2) := by decide +kernel
theorem dX5_areFalse_43 : decode cX5_areFalse 43 = .ok (.iadd, 1) := by decide +kernel
theorem dX5_areFalse_44 : decode cX5_areFalse 44 = .ok (.invokevirtual 63, 3) := by decide +kernel
theorem dX5_areFalse_47 : decode cX5_areFalse 47 = .ok (.if_icmp .ne 5, 3) := by decide +kernel
theorem dX5_areFalse_50 : decode cX5_areFalse 50 = .ok (.iconst 1, 1) := by decide +kernel
theorem dX5_areFalse_51 : decode cX5_areFalse 51 = .ok (.ireturn, 1) := by decide +kernel
theorem dX5_areFalse_52 : decode cX5_areFalse 52 = .ok (.iinc 4 1, 3) := by decide +kernel
theorem dX5_areFalse_55 : decode cX5_areFalse 55 = .ok (.goto (-42), 3) := by decide +kernel
theorem dX5_areFalse_58 : decode cX5_areFalse 58 = .ok (.iinc 3 1, 3) := by decide +kernel
theorem dX5_areFalse_61 : decode cX5_areFalse 61 = .ok (.goto (-59), 3) := by decide +kernel
theorem dX5_areFalse_64 : decode cX5_areFalse 64 = .ok (.iconst 0, 1) := by decide +kernel
theorem dX5_areFalse_65 : decode cX5_areFalse 65 = .ok (.ireturn, 1) := by decide +kernel
theorem dX5_dodgesAt_0 : decode cX5_dodgesAt 0 = .ok (.aload_n 0, 1) := by decide +kernel
theorem dX5_dodgesAt_1 : decode cX5_dodgesAt 1 = .ok (.iload_n 1, 1) := by decide +kernel
theorem dX5_dodgesAt_2 : decode cX5_dodgesAt 2 = .ok (.iload_n 2, 1) := by decide +kernel
theorem dX5_dodgesAt_3 : decode cX5_dodgesAt 3 = .ok (.invokevirtual 90, 3) := by decide +kernel
theorem dX5_dodgesAt_6 : decode cX5_dodgesAt 6 = .ok (.istore_n 3, 1) := by decide +kernel
theorem dX5_dodgesAt_7 : decode cX5_dodgesAt 7 = .ok (.aload_n 0, 1) := by decide +kernel
theorem dX5_dodgesAt_8 : decode cX5_dodgesAt 8 = .ok (.iload_n 1, 1) := by decide +kernel
theorem dX5_dodgesAt_9 : decode cX5_dodgesAt 9 = .ok (.iconst 1, 1) := by decide +kernel
theorem dX5_dodgesAt_10 : decode cX5_dodgesAt 10 = .ok (.iadd, 1) := by decide +kernel
theorem dX5_dodgesAt_11 : decode cX5_dodgesAt 11 = .ok (.iload_n 2, 1) := by decide +kernel
theorem dX5_dodgesAt_12 : decode cX5_dodgesAt 12 = .ok (.invokevirtual 90, 3) := by decide +kernel
theorem dX5_dodgesAt_15 : decode cX5_dodgesAt 15 = .ok (.istore 4, 2) := by decide +kernel
theorem dX5_dodgesAt_17 : decode cX5_dodgesAt 17 = .ok (.iload_n 3, 1) := by decide +kernel
theorem dX5_dodgesAt_18 : decode cX5_dodgesAt 18 = .ok (.iload 4, 2) := by decide +kernel
theorem dX5_dodgesAt_20 : decode cX5_dodgesAt 20 = .ok (.if_icmp .eq 32, 3) := by decide +kernel
theorem dX5_dodgesAt_23 : decode cX5_dodgesAt 23 = .ok (.aload_n 0, 1) := by decide +kernel
theorem dX5_dodgesAt_24 : decode cX5_dodgesAt 24 = .ok (.iload_n 1, 1) := by decide +kernel
theorem dX5_dodgesAt_25 : decode cX5_dodgesAt 25 = .ok (.iconst 2, 1) := by decide +kernel
theorem dX5_dodgesAt_26 : decode cX5_dodgesAt 26 = .ok (.iadd, 1) := by decide +kernel
theorem dX5_dodgesAt_27 : decode cX5_dodgesAt 27 = .ok (.iload_n 2, 1) := by decide +kernel
theorem dX5_dodgesAt_28 : decode cX5_dodgesAt 28 = .ok (.invokevirtual 90, 3) := by decide +kernel
theorem dX5_dodgesAt_31 : decode cX5_dodgesAt 31 = .ok (.iload_n 3, 1) := by decide +kernel
theorem dX5_dodgesAt_32 : decode cX5_dodgesAt 32 = .ok (.if_icmp .ne 20, 3) := by decide +kernel
theorem dX5_dodgesAt_35 : decode cX5_dodgesAt 35 = .ok (.aload_n 0, 1) := by decide +kernel
theorem dX5_dodgesAt_36 : decode cX5_dodgesAt 36 = .ok (.iload_n 1, 1) := by decide +kernel
theorem dX5_dodgesAt_37 : decode cX5_dodgesAt 37 = .ok (.iconst 3, 1) := by decide +kernel
theorem dX5_dodgesAt_38 : decode cX5_dodgesAt 38 = .ok (.iadd, 1) := by decide +kernel
theorem dX5_dodgesAt_39 : decode cX5_dodgesAt 39 = .ok (.iload_n 2, 1) := by decide +kernel
theorem dX5_dodgesAt_40 : decode cX5_dodgesAt 40 = .ok (.invokevirtual 90, 3) := by decide +kernel
theorem dX5_dodgesAt_43 : decode cX5_dodgesAt 43 = .ok (.iload 4, 2) := by decide +kernel
theorem dX5_dodgesAt_45 : decode cX5_dodgesAt 45 = .ok (.if_icmp .ne 7, 3) := by decide +kernel
theorem dX5_dodgesAt_48 : decode cX5_dodgesAt 48 = .ok (.iconst 1, 1) := by decide +kernel
theorem dX5_dodgesAt_49 : decode cX5_dodgesAt 49 = .ok (.goto 4, 3) := by decide +kernel
theorem dX5_dodgesAt_52 : decode cX5_dodgesAt 52 = .ok (.iconst 0, 1) := by decide +kernel
theorem dX5_dodgesAt_53 : decode cX5_dodgesAt 53 = .ok (.ireturn, 1) := by decide +kernel
theorem dX5_dodges_0 : decode cX5_dodges 0 = .ok (.iconst 0, 1) := by decide +kernel
theorem dX5_dodges_1 : decode cX5_dodges 1 = .ok (.istore_n 2, 1) := by decide +kernel
theorem dX5_dodges_2 : decode cX5_dodges 2 = .ok (.iconst 0, 1) := by decide +kernel
theorem dX5_dodges_3 : decode cX5_dodges 3 = .ok (.istore_n 3, 1) := by decide +kernel
theorem dX5_dodges_4 : decode cX5_dodges 4 = .ok (.iload_n 3, 1) := by decide +kernel
theorem dX5_dodges_5 : decode cX5_dodges 5 = .ok (.iconst 3, 1) := by decide +kernel
theorem dX5_dodges_6 : decode cX5_dodges 6 = .ok (.iadd, 1) := by decide +kernel
theorem dX5_dodges_7 : decode cX5_dodges 7 = .ok (.aload_n 0, 1) := by decide +kernel
theorem dX5_dodges_8 : decode cX5_dodges 8 = .ok (.getfield 42, 3) := by decide +kernel
theorem dX5_dodges_11 : decode cX5_dodges 11 = .ok (.if_icmp .gt 21, 3) := by decide +kernel
theorem dX5_dodges_14 : decode cX5_dodges 14 = .ok (.aload_n 0, 1) := by decide +kernel
theorem dX5_dodges_15 : decode cX5_dodges 15 = .ok (.iload_n 3, 1) := by decide +kernel
theorem dX5_dodges_16 : decode cX5_dodges 16 = .ok (.iload_n 1, 1) := by decide +kernel
theorem dX5_dodges_17 : decode cX5_dodges 17 = .ok (.invokevirtual 93, 3) := by decide +kernel
theorem dX5_dodges_20 : decode cX5_dodges 20 = .ok (.ifCond .eq 6, 3) := by decide +kernel
theorem dX5_dodges_23 : decode cX5_dodges 23 = .ok (.iinc 2 1, 3) := by decide +kernel
theorem dX5_dodges_26 : decode cX5_dodges 26 = .ok (.iinc 3 1, 3) := by decide +kernel
theorem dX5_dodges_29 : decode cX5_dodges 29 = .ok (.goto (-25), 3) := by decide +kernel
theorem dX5_dodges_32 : decode cX5_dodges 32 = .ok (.iload_n 2, 1) := by decide +kernel
theorem dX5_dodges_33 : decode cX5_dodges 33 = .ok (.ireturn, 1) := by decide +kernel
theorem dX5_firstDodge_0 : decode cX5_firstDodge 0 = .ok (.iconst 0, 1) := by decide +kernel
theorem dX5_firstDodge_1 : decode cX5_firstDodge 1 = .ok (.istore_n 2, 1) := by decide +kernel
theorem dX5_firstDodge_2 : decode cX5_firstDodge 2 = .ok (.iload_n 2, 1) := by decide +kernel
theorem dX5_firstDodge_3 : decode cX5_firstDodge 3 = .ok (.iconst 3, 1) := by decide +kernel
theorem dX5_firstDodge_4 : decode cX5_firstDodge 4 = .ok (.iadd, 1) := by decide +kernel
theorem dX5_firstDodge_5 : decode cX5_firstDodge 5 = .ok (.aload_n 0, 1) := by decide +kernel
theorem dX5_firstDodge_6 : decode cX5_firstDodge 6 = .ok (.getfield 42, 3) := by decide +kernel
theorem dX5_firstDodge_9 : decode cX5_firstDodge 9 = .ok (.if_icmp .gt 20, 3) := by decide +kernel
theorem dX5_firstDodge_12 : decode cX5_firstDodge 12 = .ok (.aload_n 0, 1) := by decide +kernel
theorem dX5_firstDodge_13 : decode cX5_firstDodge 13 = .ok (.iload_n 2, 1) := by decide +kernel
theorem dX5_firstDodge_14 : decode cX5_firstDodge 14 = .ok (.iload_n 1, 1) := by decide +kernel
theorem dX5_firstDodge_15 : decode cX5_firstDodge 15 = .ok (.invokevirtual 93, 3) := by decide +kernel
theorem dX5_firstDodge_18 : decode cX5_firstDodge 18 = .ok (.ifCond .eq 5, 3) := by decide +kernel
theorem dX5_firstDodge_21 : decode cX5_firstDodge 21 = .ok (.iload_n 2, 1) := by decide +kernel
theorem dX5_firstDodge_22 : decode cX5_firstDodge 22 = .ok (.ireturn, 1) := by decide +kernel
theorem dX5_firstDodge_23 : decode cX5_firstDodge 23 = .ok (.iinc 2 1, 3) := by decide +kernel
theorem dX5_firstDodge_26 : decode cX5_firstDodge 26 = .ok (.goto (-24), 3) := by decide +kernel
theorem dX5_firstDodge_29 : decode cX5_firstDodge 29 = .ok (.bipush (-4), 2) := by decide +kernel
theorem dX5_firstDodge_31 : decode cX5_firstDodge 31 = .ok (.ireturn, 1) := by decide +kernel
theorem dX5_stays_0 : decode cX5_stays 0 = .ok (.iconst 0, 1) := by decide +kernel
theorem dX5_stays_1 : decode cX5_stays 1 = .ok (.istore_n 2, 1) := by decide +kernel
theorem dX5_stays_2 : decode cX5_stays 2 = .ok (.iconst 1, 1) := by decide +kernel
theorem dX5_stays_3 : decode cX5_stays 3 = .ok (.istore_n 3, 1) := by decide +kernel
theorem dX5_stays_4 : decode cX5_stays 4 = .ok (.iload_n 3, 1) := by decide +kernel
theorem dX5_stays_5 : decode cX5_stays 5 = .ok (.aload_n 0, 1) := by decide +kernel
theorem dX5_stays_6 : decode cX5_stays 6 = .ok (.getfield 42, 3) := by decide +kernel
theorem dX5_stays_9 : decode cX5_stays 9 = .ok (.if_icmp .gt 29, 3) := by decide +kernel
theorem dX5_stays_12 : decode cX5_stays 12 = .ok (.aload_n 0, 1) := by decide +kernel
theorem dX5_stays_13 : decode cX5_stays 13 = .ok (.iload_n 3, 1) := by decide +kernel
theorem dX5_stays_14 : decode cX5_stays 14 = .ok (.iload_n 1, 1) := by decide +kernel
theorem dX5_stays_15 : decode cX5_stays 15 = .ok (.invokevirtual 90, 3) := by decide +kernel
theorem dX5_stays_18 : decode cX5_stays 18 = .ok (.aload_n 0, 1) := by decide +kernel
theorem dX5_stays_19 : decode cX5_stays 19 = .ok (.iload_n 3, 1) := by decide +kernel
theorem dX5_stays_20 : decode cX5_stays 20 = .ok (.iconst 1, 1) := by decide +kernel
theorem dX5_stays_21 : decode cX5_stays 21 = .ok (.isub, 1) := by decide +kernel
theorem dX5_stays_22 : decode cX5_stays 22 = .ok (.iload_n 1, 1) := by decide +kernel
theorem dX5_stays_23 : decode cX5_stays 23 = .ok (.invokevirtual 90, 3) := by decide +kernel
theorem dX5_stays_26 : decode cX5_stays 26 = .ok (.if_icmp .ne 6, 3) := by decide +kernel
theorem dX5_stays_29 : decode cX5_stays 29 = .ok (.iinc 2 1, 3) := by decide +kernel
theorem dX5_stays_32 : decode cX5_stays 32 = .ok (.iinc 3 1, 3) := by decide +kernel
theorem dX5_stays_35 : decode cX5_stays 35 = .ok (.goto (-31), 3) := by decide +kernel
theorem dX5_stays_38 : decode cX5_stays 38 = .ok (.iload_n 2, 1) := by decide +kernel
theorem dX5_stays_39 : decode cX5_stays 39 = .ok (.ireturn, 1) := by decide +kernel
theorem dX5_blowsAt_0 : decode cX5_blowsAt 0 = .ok (.iconst 0, 1) := by decide +kernel
theorem dX5_blowsAt_1 : decode cX5_blowsAt 1 = .ok (.istore_n 3, 1) := by decide +kernel
theorem dX5_blowsAt_2 : decode cX5_blowsAt 2 = .ok (.iconst 1, 1) := by decide +kernel
theorem dX5_blowsAt_3 : decode cX5_blowsAt 3 = .ok (.istore 4, 2) := by decide +kernel
theorem dX5_blowsAt_5 : decode cX5_blowsAt 5 = .ok (.iload 4, 2) := by decide +kernel
theorem dX5_blowsAt_7 : decode cX5_blowsAt 7 = .ok (.aload_n 0, 1) := by decide +kernel
theorem dX5_blowsAt_8 : decode cX5_blowsAt 8 = .ok (.getfield 42, 3) := by decide +kernel
theorem dX5_blowsAt_11 : decode cX5_blowsAt 11 = .ok (.if_icmp .gt 26, 3) := by decide +kernel
theorem dX5_blowsAt_14 : decode cX5_blowsAt 14 = .ok (.aload_n 0, 1) := by decide +kernel
theorem dX5_blowsAt_15 : decode cX5_blowsAt 15 = .ok (.iload 4, 2) := by decide +kernel
theorem dX5_blowsAt_17 : decode cX5_blowsAt 17 = .ok (.invokevirtual 63, 3) := by decide +kernel
theorem dX5_blowsAt_20 : decode cX5_blowsAt 20 = .ok (.iload_n 2, 1) := by decide +kernel
theorem dX5_blowsAt_21 : decode cX5_blowsAt 21 = .ok (.invokestatic 96, 3) := by decide +kernel
theorem dX5_blowsAt_24 : decode cX5_blowsAt 24 = .ok (.iload_n 1, 1) := by decide +kernel
theorem dX5_blowsAt_25 : decode cX5_blowsAt 25 = .ok (.if_icmp .ne 6, 3) := by decide +kernel
theorem dX5_blowsAt_28 : decode cX5_blowsAt 28 = .ok (.iinc 3 1, 3) := by decide +kernel
theorem dX5_blowsAt_31 : decode cX5_blowsAt 31 = .ok (.iinc 4 1, 3) := by decide +kernel
theorem dX5_blowsAt_34 : decode cX5_blowsAt 34 = .ok (.goto (-29), 3) := by decide +kernel
theorem dX5_blowsAt_37 : decode cX5_blowsAt 37 = .ok (.iload_n 3, 1) := by decide +kernel
theorem dX5_blowsAt_38 : decode cX5_blowsAt 38 = .ok (.ireturn, 1) := by decide +kernel
theorem dX6_rounds_0 : decode cX6_rounds 0 = .ok (.iconst 0, 1) := by decide +kernel
theorem dX6_rounds_1 : decode cX6_rounds 1 = .ok (.istore_n 1, 1) := by decide +kernel
theorem dX6_rounds_2 : decode cX6_rounds 2 = .ok (.iconst 1, 1) := by decide +kernel
theorem dX6_rounds_3 : decode cX6_rounds 3 = .ok (.istore_n 2, 1) := by decide +kernel
theorem dX6_rounds_4 : decode cX6_rounds 4 = .ok (.iload_n 2, 1) := by decide +kernel
theorem dX6_rounds_5 : decode cX6_rounds 5 = .ok (.iload_n 0, 1) := by decide +kernel
theorem dX6_rounds_6 : decode cX6_rounds 6 = .ok (.if_icmp .gt 16, 3) := by decide +kernel
theorem dX6_rounds_9 : decode cX6_rounds 9 = .ok (.iload_n 1, 1) := by decide +kernel
theorem dX6_rounds_10 : decode cX6_rounds 10 = .ok (.iload_n 2, 1) := by decide +kernel
theorem dX6_rounds_11 : decode cX6_rounds 11 = .ok (.iload_n 2, 1) := by decide +kernel
theorem dX6_rounds_12 : decode cX6_rounds 12 = .ok (.invokestatic 7, 3) := by decide +kernel
theorem dX6_rounds_15 : decode cX6_rounds 15 = .ok (.istore_n 1, 1) := by decide +kernel
theorem dX6_rounds_16 : decode cX6_rounds 16 = .ok (.iinc 2 1, 3) := by decide +kernel
theorem dX6_rounds_19 : decode cX6_rounds 19 = .ok (.goto (-15), 3) := by decide +kernel
theorem dX6_rounds_22 : decode cX6_rounds 22 = .ok (.iload_n 1, 1) := by decide +kernel
theorem dX6_rounds_23 : decode cX6_rounds 23 = .ok (.ireturn, 1) := by decide +kernel
theorem dX6_bellAt_0 : decode cX6_bellAt 0 = .ok (.iload_n 0, 1) := by decide +kernel
theorem dX6_bellAt_1 : decode cX6_bellAt 1 = .ok (.iconst 3, 1) := by decide +kernel
theorem dX6_bellAt_2 : decode cX6_bellAt 2 = .ok (.iload_n 1, 1) := by decide +kernel
theorem dX6_bellAt_3 : decode cX6_bellAt 3 = .ok (.iconst 1, 1) := by decide +kernel
theorem dX6_bellAt_4 : decode cX6_bellAt 4 = .ok (.isub, 1) := by decide +kernel
theorem dX6_bellAt_5 : decode cX6_bellAt 5 = .ok (.imul, 1) := by decide +kernel
theorem dX6_bellAt_6 : decode cX6_bellAt 6 = .ok (.ishr, 1) := by decide +kernel
theorem dX6_bellAt_7 : decode cX6_bellAt 7 = .ok (.bipush 7, 2) := by decide +kernel
theorem dX6_bellAt_9 : decode cX6_bellAt 9 = .ok (.iand, 1) := by decide +kernel
theorem dX6_bellAt_10 : decode cX6_bellAt 10 = .ok (.ireturn, 1) := by decide +kernel
theorem dX6_put_0 : decode cX6_put 0 = .ok (.iload_n 0, 1) := by decide +kernel
theorem dX6_put_1 : decode cX6_put 1 = .ok (.iload_n 2, 1) := by decide +kernel
theorem dX6_put_2 : decode cX6_put 2 = .ok (.iconst 3, 1) := by decide +kernel
theorem dX6_put_3 : decode cX6_put 3 = .ok (.iload_n 1, 1) := by decide +kernel
theorem dX6_put_4 : decode cX6_put 4 = .ok (.iconst 1, 1) := by decide +kernel
theorem dX6_put_5 : decode cX6_put 5 = .ok (.isub, 1) := by decide +kernel
theorem dX6_put_6 : decode cX6_put 6 = .ok (.imul, 1) := by decide +kernel
theorem dX6_put_7 : decode cX6_put 7 = .ok (.ishl, 1) := by decide +kernel
theorem dX6_put_8 : decode cX6_put 8 = .ok (.ior, 1) := by decide +kernel
theorem dX6_put_9 : decode cX6_put 9 = .ok (.ireturn, 1) := by decide +kernel
theorem dX6_placeOf_0 : decode cX6_placeOf 0 = .ok (.iconst 1, 1) := by decide +kernel
theorem dX6_placeOf_1 : decode cX6_placeOf 1 = .ok (.istore_n 3, 1) := by decide +kernel
theorem dX6_placeOf_2 : decode cX6_placeOf 2 = .ok (.iload_n 3, 1) := by decide +kernel
theorem dX6_placeOf_3 : decode cX6_placeOf 3 = .ok (.iload_n 2, 1) := by decide +kernel
theorem dX6_placeOf_4 : decode cX6_placeOf 4 = .ok (.if_icmp .ge 20, 3) := by decide +kernel
theorem dX6_placeOf_7 : decode cX6_placeOf 7 = .ok (.iload_n 0, 1) := by decide +kernel
theorem dX6_placeOf_8 : decode cX6_placeOf 8 = .ok (.iload_n 3, 1) := by decide +kernel
theorem dX6_placeOf_9 : decode cX6_placeOf 9 = .ok (.invokestatic 13, 3) := by decide +kernel
theorem dX6_placeOf_12 : decode cX6_placeOf 12 = .ok (.iload_n 1, 1) := by decide +kernel
theorem dX6_placeOf_13 : decode cX6_placeOf 13 = .ok (.if_icmp .ne 5, 3) := by decide +kernel
theorem dX6_placeOf_16 : decode cX6_placeOf 16 = .ok (.iload_n 3, 1) := by decide +kernel
theorem dX6_placeOf_17 : decode cX6_placeOf 17 = .ok (.ireturn, 1) := by decide +kernel
theorem dX6_placeOf_18 : decode cX6_placeOf 18 = .ok (.iinc 3 1, 3) := by decide +kernel
theorem dX6_placeOf_21 : decode cX6_placeOf 21 = .ok (.goto (-19), 3) := by decide +kernel
theorem dX6_placeOf_24 : decode cX6_placeOf 24 = .ok (.iload_n 2, 1) := by decide +kernel
theorem dX6_placeOf_25 : decode cX6_placeOf 25 = .ok (.ireturn, 1) := by decide +kernel
theorem dX6_behindChange_0 : decode cX6_behindChange 0 = .ok (.iconst 0, 1) := by decide +kernel
theorem dX6_behindChange_1 : decode cX6_behindChange 1 = .ok (.istore_n 3, 1) := by decide +kernel
theorem dX6_behindChange_2 : decode cX6_behindChange 2 = .ok (.iconst 1, 1) := by decide +kernel
theorem dX6_behindChange_3 : decode cX6_behindChange 3 = .ok (.istore 4, 2) := by decide +kernel
theorem dX6_behindChange_5 : decode cX6_behindChange 5 = .ok (.iload 4, 2) := by decide +kernel
theorem dX6_behindChange_7 : decode cX6_behindChange 7 = .ok (.iload_n 2, 1) := by decide +kernel
theorem dX6_behindChange_8 : decode cX6_behindChange 8 = .ok (.if_icmp .gt 73, 3) := by decide +kernel
theorem dX6_behindChange_11 : decode cX6_behindChange 11 = .ok (.iload 4, 2) := by decide +kernel
theorem dX6_behindChange_13 : decode cX6_behindChange 13 = .ok (.iload_n 2, 1) := by decide +kernel
theorem dX6_behindChange_14 : decode cX6_behindChange 14 = .ok (.if_icmp .eq 12, 3) := by decide +kernel
theorem dX6_behindChange_17 : decode cX6_behindChange 17 = .ok (.iload_n 1, 1) := by decide +kernel
theorem dX6_behindChange_18 : decode cX6_behindChange 18 = .ok (.iload 4, 2) := by decide +kernel
theorem dX6_behindChange_20 : decode cX6_behindChange 20 = .ok (.invokestatic 17, 3) := by decide +kernel
theorem dX6_behindChange_23 : decode cX6_behindChange 23 = .ok (.ifCond .eq 22, 3) := by decide +kernel
theorem dX6_behindChange_26 : decode cX6_behindChange 26 = .ok (.iload_n 3, 1) := by decide +kernel
theorem dX6_behindChange_27 : decode cX6_behindChange 27 = .ok (.iload 4, 2) := by decide +kernel
theorem dX6_behindChange_29 : decode cX6_behindChange 29 = .ok (.iload_n 0, 1) := by decide +kernel
theorem dX6_behindChange_30 : decode cX6_behindChange 30 = .ok (.iload 4, 2) := by decide +kernel
theorem dX6_behindChange_32 : decode cX6_behindChange 32 = .ok (.invokestatic 13, 3) := by decide +kernel
theorem dX6_behindChange_35 : decode cX6_behindChange 35 = .ok (.invokestatic 7, 3) := by decide +kernel
theorem dX6_behindChange_38 : decode cX6_behindChange 38 = .ok (.istore_n 3, 1) := by decide +kernel
theorem dX6_behindChange_39 : decode cX6_behindChange 39 = .ok (.iinc 4 1, 3) := by decide +kernel
theorem dX6_behindChange_42 : decode cX6_behindChange 42 = .ok (.goto (-37), 3) := by decide +kernel
theorem dX6_behindChange_45 : decode cX6_behindChange 45 = .ok (.iload_n 3, 1) := by decide +kernel
theorem dX6_behindChange_46 : decode cX6_behindChange 46 = .ok (.iload 4, 2) := by decide +kernel
theorem dX6_behindChange_48 : decode cX6_behindChange 48 = .ok (.iload_n 0, 1) := by decide +kernel
theorem dX6_behindChange_49 : decode cX6_behindChange 49 = .ok (.iload 4, 2) := by decide +kernel
theorem dX6_behindChange_51 : decode cX6_behindChange 51 = .ok (.iconst 1, 1) := by decide +kernel
theorem dX6_behindChange_52 : decode cX6_behindChange 52 = .ok (.iadd, 1) := by decide +kernel
theorem dX6_behindChange_53 : decode cX6_behindChange 53 = .ok (.invokestatic 13, 3) := by decide +kernel
theorem dX6_behindChange_56 : decode cX6_behindChange 56 = .ok (.invokestatic 7, 3) := by decide +kernel
theorem dX6_behindChange_59 : decode cX6_behindChange 59 = .ok (.istore_n 3, 1) := by decide +kernel
theorem dX6_behindChange_60 : decode cX6_behindChange 60 = .ok (.iload_n 3, 1) := by decide +kernel
theorem dX6_behindChange_61 : decode cX6_behindChange 61 = .ok (.iload 4, 2) := by decide +kernel
theorem dX6_behindChange_63 : decode cX6_behindChange 63 = .ok (.iconst 1, 1) := by decide +kernel
theorem dX6_behindChange_64 : decode cX6_behindChange 64 = .ok (.iadd, 1) := by decide +kernel
theorem dX6_behindChange_65 : decode cX6_behindChange 65 = .ok (.iload_n 0, 1) := by decide +kernel
theorem dX6_behindChange_66 : decode cX6_behindChange 66 = .ok (.iload 4, 2) := by decide +kernel
theorem dX6_behindChange_68 : decode cX6_behindChange 68 = .ok (.invokestatic 13, 3) := by decide +kernel
theorem dX6_behindChange_71 : decode cX6_behindChange 71 = .ok (.invokestatic 7, 3) := by decide +kernel
theorem dX6_behindChange_74 : decode cX6_behindChange 74 = .ok (.istore_n 3, 1) := by decide +kernel
theorem dX6_behindChange_75 : decode cX6_behindChange 75 = .ok (.iinc 4 2, 3) := by decide +kernel
theorem dX6_behindChange_78 : decode cX6_behindChange 78 = .ok (.goto (-73), 3) := by decide +kernel
theorem dX6_behindChange_81 : decode cX6_behindChange 81 = .ok (.iload_n 3, 1) := by decide +kernel
theorem dX6_behindChange_82 : decode cX6_behindChange 82 = .ok (.ireturn, 1) := by decide +kernel
theorem dX6_behindLead_0 : decode cX6_behindLead 0 = .ok (.iconst 0, 1) := by decide +kernel
theorem dX6_behindLead_1 : decode cX6_behindLead 1 = .ok (.istore_n 3, 1) := by decide +kernel
theorem dX6_behindLead_2 : decode cX6_behindLead 2 = .ok (.iconst 1, 1) := by decide +kernel
theorem dX6_behindLead_3 : decode cX6_behindLead 3 = .ok (.istore 4, 2) := by decide +kernel
theorem dX6_behindLead_5 : decode cX6_behindLead 5 = .ok (.iload 4, 2) := by decide +kernel
theorem dX6_behindLead_7 : decode cX6_behindLead 7 = .ok (.iload_n 2, 1) := by decide +kernel
theorem dX6_behindLead_8 : decode cX6_behindLead 8 = .ok (.if_icmp .gt 26, 3) := by decide +kernel
theorem dX6_behindLead_11 : decode cX6_behindLead 11 = .ok (.iload_n 3, 1) := by decide +kernel
theorem dX6_behindLead_12 : decode cX6_behindLead 12 = .ok (.iload 4, 2) := by decide +kernel
theorem dX6_behindLead_14 : decode cX6_behindLead 14 = .ok (.iload_n 0, 1) := by decide +kernel
theorem dX6_behindLead_15 : decode cX6_behindLead 15 = .ok (.iload_n 1, 1) := by decide +kernel
theorem dX6_behindLead_16 : decode cX6_behindLead 16 = .ok (.iload 4, 2) := by decide +kernel
theorem dX6_behindLead_18 : decode cX6_behindLead 18 = .ok (.invokestatic 13, 3) := by decide +kernel
theorem dX6_behindLead_21 : decode cX6_behindLead 21 = .ok (.invokestatic 13, 3) := by decide +kernel
theorem dX6_behindLead_24 : decode cX6_behindLead 24 = .ok (.invokestatic 7, 3) := by decide +kernel
theorem dX6_behindLead_27 : decode cX6_behindLead 27 = .ok (.istore_n 3, 1) := by decide +kernel
theorem dX6_behindLead_28 : decode cX6_behindLead 28 = .ok (.iinc 4 1, 3) := by decide +kernel
theorem dX6_behindLead_31 : decode cX6_behindLead 31 = .ok (.goto (-26), 3) := by decide +kernel
theorem dX6_behindLead_34 : decode cX6_behindLead 34 = .ok (.iload_n 3, 1) := by decide +kernel
theorem dX6_behindLead_35 : decode cX6_behindLead 35 = .ok (.ireturn, 1) := by decide +kernel
theorem dX6_backwards_0 : decode cX6_backwards 0 = .ok (.iconst 0, 1) := by decide +kernel
theorem dX6_backwards_1 : decode cX6_backwards 1 = .ok (.istore_n 2, 1) := by decide +kernel
theorem dX6_backwards_2 : decode cX6_backwards 2 = .ok (.iconst 1, 1) := by decide +kernel
theorem dX6_backwards_3 : decode cX6_backwards 3 = .ok (.istore_n 3, 1) := by decide +kernel
theorem dX6_backwards_4 : decode cX6_backwards 4 = .ok (.iload_n 3, 1) := by decide +kernel
theorem dX6_backwards_5 : decode cX6_backwards 5 = .ok (.iload_n 1, 1) := by decide +kernel
theorem dX6_backwards_6 : decode cX6_backwards 6 = .ok (.if_icmp .gt 20, 3) := by decide +kernel
theorem dX6_backwards_9 : decode cX6_backwards 9 = .ok (.iload_n 2, 1) := by decide +kernel
theorem dX6_backwards_10 : decode cX6_backwards 10 = .ok (.iload_n 0, 1) := by decide +kernel
theorem dX6_backwards_11 : decode cX6_backwards 11 = .ok (.iload_n 3, 1) := by decide +kernel
theorem dX6_backwards_12 : decode cX6_backwards 12 = .ok (.invokestatic 13, 3) := by decide +kernel
theorem dX6_backwards_15 : decode cX6_backwards 15 = .ok (.iload_n 3, 1) := by decide +kernel
theorem dX6_backwards_16 : decode cX6_backwards 16 = .ok (.invokestatic 7, 3) := by decide +kernel
theorem dX6_backwards_19 : decode cX6_backwards 19 = .ok (.istore_n 2, 1) := by decide +kernel
theorem dX6_backwards_20 : decode cX6_backwards 20 = .ok (.iinc 3 1, 3) := by decide +kernel
theorem dX6_backwards_23 : decode cX6_backwards 23 = .ok (.goto (-19), 3) := by decide +kernel
theorem dX6_backwards_26 : decode cX6_backwards 26 = .ok (.iload_n 2, 1) := by decide +kernel
theorem dX6_backwards_27 : decode cX6_backwards 27 = .ok (.ireturn, 1) := by decide +kernel
theorem dX6_rank_0 : decode cX6_rank 0 = .ok (.iconst 0, 1) := by decide +kernel
theorem dX6_rank_1 : decode cX6_rank 1 = .ok (.istore_n 2, 1) := by decide +kernel
theorem dX6_rank_2 : decode cX6_rank 2 = .ok (.iconst 0, 1) := by decide +kernel
theorem dX6_rank_3 : decode cX6_rank 3 = .ok (.istore_n 3, 1) := by decide +kernel
theorem dX6_rank_4 : decode cX6_rank 4 = .ok (.iconst 1, 1) := by decide +kernel
theorem dX6_rank_5 : decode cX6_rank 5 = .ok (.istore 4, 2) := by decide +kernel
theorem dX6_rank_7 : decode cX6_rank 7 = .ok (.iload 4, 2) := by decide +kernel
theorem dX6_rank_9 : decode cX6_rank 9 = .ok (.iload_n 1, 1) := by decide +kernel
theorem dX6_rank_10 : decode cX6_rank 10 = .ok (.if_icmp .gt 60, 3) := by decide +kernel
theorem dX6_rank_13 : decode cX6_rank 13 = .ok (.iload_n 0, 1) := by decide +kernel
theorem dX6_rank_14 : decode cX6_rank 14 = .ok (.iload 4, 2) := by decide +kernel
theorem dX6_rank_16 : decode cX6_rank 16 = .ok (.invokestatic 13, 3) := by decide +kernel
theorem dX6_rank_19 : decode cX6_rank 19 = .ok (.istore 5, 2) := by decide +kernel
theorem dX6_rank_21 : decode cX6_rank 21 = .ok (.iload 5, 2) := by decide +kernel
theorem dX6_rank_23 : decode cX6_rank 23 = .ok (.invokestatic 23, 3) := by decide +kernel
theorem dX6_rank_26 : decode cX6_rank 26 = .ok (.iconst 1, 1) := by decide +kernel
theorem dX6_rank_27 : decode cX6_rank 27 = .ok (.isub, 1) := by decide +kernel
theorem dX6_rank_28 : decode cX6_rank 28 = .ok (.istore 6, 2) := by decide +kernel
theorem dX6_rank_30 : decode cX6_rank 30 = .ok (.iload 5, 2) := by decide +kernel
theorem dX6_rank_32 : decode cX6_rank 32 = .ok (.iconst 1, 1) := by decide +kernel
theorem dX6_rank_33 : decode cX6_rank 33 = .ok (.isub, 1) := by decide +kernel
theorem dX6_rank_34 : decode cX6_rank 34 = .ok (.iload_n 3, 1) := by decide +kernel
theorem dX6_rank_35 : decode cX6_rank 35 = .ok (.iload 6, 2) := by decide +kernel
theorem dX6_rank_37 : decode cX6_rank 37 = .ok (.iand, 1) := by decide +kernel
theorem dX6_rank_38 : decode cX6_rank 38 = .ok (.invokestatic 27, 3) := by decide +kernel
theorem dX6_rank_41 : decode cX6_rank 41 = .ok (.isub, 1) := by decide +kernel
theorem dX6_rank_42 : decode cX6_rank 42 = .ok (.istore 7, 2) := by decide +kernel
theorem dX6_rank_44 : decode cX6_rank 44 = .ok (.iload_n 2, 1) := by decide +kernel
theorem dX6_rank_45 : decode cX6_rank 45 = .ok (.iload_n 1, 1) := by decide +kernel
theorem dX6_rank_46 : decode cX6_rank 46 = .ok (.iload 4, 2) := by decide +kernel
theorem dX6_rank_48 : decode cX6_rank 48 = .ok (.isub, 1) := by decide +kernel
theorem dX6_rank_49 : decode cX6_rank 49 = .ok (.iconst 1, 1) := by decide +kernel
theorem dX6_rank_50 : decode cX6_rank 50 = .ok (.iadd, 1) := by decide +kernel
theorem dX6_rank_51 : decode cX6_rank 51 = .ok (.imul, 1) := by decide +kernel
theorem dX6_rank_52 : decode cX6_rank 52 = .ok (.iload 7, 2) := by decide +kernel
theorem dX6_rank_54 : decode cX6_rank 54 = .ok (.iadd, 1) := by decide +kernel
theorem dX6_rank_55 : decode cX6_rank 55 = .ok (.istore_n 2, 1) := by decide +kernel
theorem dX6_rank_56 : decode cX6_rank 56 = .ok (.iload_n 3, 1) := by decide +kernel
theorem dX6_rank_57 : decode cX6_rank 57 = .ok (.iload 5, 2) := by decide +kernel
theorem dX6_rank_59 : decode cX6_rank 59 = .ok (.invokestatic 23, 3) := by decide +kernel
theorem dX6_rank_62 : decode cX6_rank 62 = .ok (.ior, 1) := by decide +kernel
theorem dX6_rank_63 : decode cX6_rank 63 = .ok (.istore_n 3, 1) := by decide +kernel
theorem dX6_rank_64 : decode cX6_rank 64 = .ok (.iinc 4 1, 3) := by decide +kernel
theorem dX6_rank_67 : decode cX6_rank 67 = .ok (.goto (-60), 3) := by decide +kernel
theorem dX6_rank_70 : decode cX6_rank 70 = .ok (.iload_n 2, 1) := by decide +kernel
theorem dX6_rank_71 : decode cX6_rank 71 = .ok (.ireturn, 1) := by decide +kernel
theorem dX6_signByPairs_0 : decode cX6_signByPairs 0 = .ok (.iconst 0, 1) := by decide +kernel
theorem dX6_signByPairs_1 : decode cX6_signByPairs 1 = .ok (.istore_n 2, 1) := by decide +kernel
theorem dX6_signByPairs_2 : decode cX6_signByPairs 2 = .ok (.iconst 1, 1) := by decide +kernel
theorem dX6_signByPairs_3 : decode cX6_signByPairs 3 = .ok (.istore_n 3, 1) := by decide +kernel
theorem dX6_signByPairs_4 : decode cX6_signByPairs 4 = .ok (.iload_n 3, 1) := by decide +kernel
theorem dX6_signByPairs_5 : decode cX6_signByPairs 5 = .ok (.iload_n 1, 1) := by decide +kernel
theorem dX6_signByPairs_6 : decode cX6_signByPairs 6 = .ok (.if_icmp .gt 43, 3) := by decide +kernel
theorem dX6_signByPairs_9 : decode cX6_signByPairs 9 = .ok (.iload_n 3, 1) := by decide +kernel
theorem dX6_signByPairs_10 : decode cX6_signByPairs 10 = .ok (.iconst 1, 1) := by decide +kernel
theorem dX6_signByPairs_11 : decode cX6_signByPairs 11 = .ok (.iadd, 1) := by decide +kernel
theorem dX6_signByPairs_12 : decode cX6_signByPairs 12 = .ok (.istore 4, 2) := by decide +kernel
theorem dX6_signByPairs_14 : decode cX6_signByPairs 14 = .ok (.iload 4, 2) := by decide +kernel
theorem dX6_signByPairs_16 : decode cX6_signByPairs 16 = .ok (.iload_n 1, 1) := by decide +kernel
theorem dX6_signByPairs_17 : decode cX6_signByPairs 17 = .ok (.if_icmp .gt 26, 3) := by decide +kernel
theorem dX6_signByPairs_20 : decode cX6_signByPairs 20 = .ok (.iload_n 0, 1) := by decide +kernel
theorem dX6_signByPairs_21 : decode cX6_signByPairs 21 = .ok (.iload_n 3, 1) := by decide +kernel
theorem dX6_signByPairs_22 : decode cX6_signByPairs 22 = .ok (.invokestatic 13, 3) := by decide +kernel
theorem dX6_signByPairs_25 : decode cX6_signByPairs 25 = .ok (.iload_n 0, 1) := by decide +kernel
theorem dX6_signByPairs_26 : decode cX6_signByPairs 26 = .ok (.iload 4, 2) := by decide +kernel
theorem dX6_signByPairs_28 : decode cX6_signByPairs 28 = .ok (.invokestatic 13, 3) := by decide +kernel
theorem dX6_signByPairs_31 : decode cX6_signByPairs 31 = .ok (.if_icmp .le 6, 3) := by decide +kernel
theorem dX6_signByPairs_34 : decode cX6_signByPairs 34 = .ok (.iinc 2 1, 3) := by decide +kernel
theorem dX6_signByPairs_37 : decode cX6_signByPairs 37 = .ok (.iinc 4 1, 3) := by decide +kernel
theorem dX6_signByPairs_40 : decode cX6_signByPairs 40 = .ok (.goto (-26), 3) := by decide +kernel
theorem dX6_signByPairs_43 : decode cX6_signByPairs 43 = .ok (.iinc 3 1, 3) := by decide +kernel
theorem dX6_signByPairs_46 : decode cX6_signByPairs 46 = .ok (.goto (-42), 3) := by decide +kernel
theorem dX6_signByPairs_49 : decode cX6_signByPairs 49 = .ok (.iload_n 2, 1) := by decide +kernel
theorem dX6_signByPairs_50 : decode cX6_signByPairs 50 = .ok (.iconst 2, 1) := by decide +kernel
theorem dX6_signByPairs_51 : decode cX6_signByPairs 51 = .ok (.irem, 1) := by decide +kernel
theorem dX6_signByPairs_52 : decode cX6_signByPairs 52 = .ok (.ireturn, 1) := by decide +kernel
theorem dX6_signByCycles_0 : decode cX6_signByCycles 0 = .ok (.iconst 0, 1) := by decide +kernel
theorem dX6_signByCycles_1 : decode cX6_signByCycles 1 = .ok (.istore_n 2, 1) := by decide +kernel
theorem dX6_signByCycles_2 : decode cX6_signByCycles 2 = .ok (.iconst 0, 1) := by decide +kernel
theorem dX6_signByCycles_3 : decode cX6_signByCycles 3 = .ok (.istore_n 3, 1) := by decide +kernel
theorem dX6_signByCycles_4 : decode cX6_signByCycles 4 = .ok (.iconst 1, 1) := by decide +kernel
theorem dX6_signByCycles_5 : decode cX6_signByCycles 5 = .ok (.istore 4, 2) := by decide +kernel
theorem dX6_signByCycles_7 : decode cX6_signByCycles 7 = .ok (.iload 4, 2) := by decide +kernel
theorem dX6_signByCycles_9 : decode cX6_signByCycles 9 = .ok (.iload_n 1, 1) := by decide +kernel
theorem dX6_signByCycles_10 : decode cX6_signByCycles 10 = .ok (.if_icmp .gt 67, 3) := by decide +kernel
theorem dX6_signByCycles_13 : decode cX6_signByCycles 13 = .ok (.iload_n 0, 1) := by decide +kernel
theorem dX6_signByCycles_14 : decode cX6_signByCycles 14 = .ok (.iload 4, 2) := by decide +kernel
theorem dX6_signByCycles_16 : decode cX6_signByCycles 16 = .ok (.invokestatic 13, 3) := by decide +kernel
theorem dX6_signByCycles_19 : decode cX6_signByCycles 19 = .ok (.istore 5, 2) := by decide +kernel
theorem dX6_signByCycles_21 : decode cX6_signByCycles 21 = .ok (.iconst 0, 1) := by decide +kernel
theorem dX6_signByCycles_22 : decode cX6_signByCycles 22 = .ok (.istore 6, 2) := by decide +kernel
theorem dX6_signByCycles_24 : decode cX6_signByCycles 24 = .ok (.iload 6, 2) := by decide +kernel
theorem dX6_signByCycles_26 : decode cX6_signByCycles 26 = .ok (.iload_n 1, 1) := by decide +kernel
theorem dX6_signByCycles_27 : decode cX6_signByCycles 27 = .ok (.if_icmp .ge 44, 3) := by decide +kernel
theorem dX6_signByCycles_30 : decode cX6_signByCycles 30 = .ok (.iload 5, 2) := by decide +kernel
theorem dX6_signByCycles_32 : decode cX6_signByCycles 32 = .ok (.iload 4, 2) := by decide +kernel
theorem dX6_signByCycles_34 : decode cX6_signByCycles 34 = .ok (.if_icmp .eq 37, 3) := by decide +kernel
theorem dX6_signByCycles_37 : decode cX6_signByCycles 37 = .ok (.iload_n 2, 1) := by decide +kernel
theorem dX6_signByCycles_38 : decode cX6_signByCycles 38 = .ok (.iload 4, 2) := by decide +kernel
theorem dX6_signByCycles_40 : decode cX6_signByCycles 40 = .ok (.invokestatic 17, 3) := by decide +kernel
theorem dX6_signByCycles_43 : decode cX6_signByCycles 43 = .ok (.ifCond .ne 28, 3) := by decide +kernel
theorem dX6_signByCycles_46 : decode cX6_signByCycles 46 = .ok (.iload_n 2, 1) := by decide +kernel
theorem dX6_signByCycles_47 : decode cX6_signByCycles 47 = .ok (.iload 5, 2) := by decide +kernel
theorem dX6_signByCycles_49 : decode cX6_signByCycles 49 = .ok (.invokestatic 23, 3) := by decide +kernel
theorem dX6_signByCycles_52 : decode cX6_signByCycles 52 = .ok (.ior, 1) := by decide +kernel
theorem dX6_signByCycles_53 : decode cX6_signByCycles 53 = .ok (.istore_n 2, 1) := by decide +kernel
theorem dX6_signByCycles_54 : decode cX6_signByCycles 54 = .ok (.iinc 3 1, 3) := by decide +kernel
theorem dX6_signByCycles_57 : decode cX6_signByCycles 57 = .ok (.iload_n 0, 1) := by decide +kernel
theorem dX6_signByCycles_58 : decode cX6_signByCycles 58 = .ok (.iload 5, 2) := by decide +kernel
theorem dX6_signByCycles_60 : decode cX6_signByCycles 60 = .ok (.invokestatic 13, 3) := by decide +kernel
theorem dX6_signByCycles_63 : decode cX6_signByCycles 63 = .ok (.istore 5, 2) := by decide +kernel
theorem dX6_signByCycles_65 : decode cX6_signByCycles 65 = .ok (.iinc 6 1, 3) := by decide +kernel
theorem dX6_signByCycles_68 : decode cX6_signByCycles 68 = .ok (.goto (-44), 3) := by decide +kernel
theorem dX6_signByCycles_71 : decode cX6_signByCycles 71 = .ok (.iinc 4 1, 3) := by decide +kernel
theorem dX6_signByCycles_74 : decode cX6_signByCycles 74 = .ok (.goto (-67), 3) := by decide +kernel
theorem dX6_signByCycles_77 : decode cX6_signByCycles 77 = .ok (.iload_n 3, 1) := by decide +kernel
theorem dX6_signByCycles_78 : decode cX6_signByCycles 78 = .ok (.iconst 2, 1) := by decide +kernel
theorem dX6_signByCycles_79 : decode cX6_signByCycles 79 = .ok (.irem, 1) := by decide +kernel
theorem dX6_signByCycles_80 : decode cX6_signByCycles 80 = .ok (.ireturn, 1) := by decide +kernel
theorem dX6_soundsWell_0 : decode cX6_soundsWell 0 = .ok (.iload_n 0, 1) := by decide +kernel
theorem dX6_soundsWell_1 : decode cX6_soundsWell 1 = .ok (.iload_n 1, 1) := by decide +kernel
theorem dX6_soundsWell_2 : decode cX6_soundsWell 2 = .ok (.iconst 2, 1) := by decide +kernel
theorem dX6_soundsWell_3 : decode cX6_soundsWell 3 = .ok (.isub, 1) := by decide +kernel
theorem dX6_soundsWell_4 : decode cX6_soundsWell 4 = .ok (.invokestatic 13, 3) := by decide +kernel
theorem dX6_soundsWell_7 : decode cX6_soundsWell 7 = .ok (.istore_n 2, 1) := by decide +kernel
theorem dX6_soundsWell_8 : decode cX6_soundsWell 8 = .ok (.iload_n 0, 1) := by decide +kernel
theorem dX6_soundsWell_9 : decode cX6_soundsWell 9 = .ok (.iload_n 1, 1) := by decide +kernel
theorem dX6_soundsWell_10 : decode cX6_soundsWell 10 = .ok (.iconst 1, 1) := by decide +kernel
theorem dX6_soundsWell_11 : decode cX6_soundsWell 11 = .ok (.isub, 1) := by decide +kernel
theorem dX6_soundsWell_12 : decode cX6_soundsWell 12 = .ok (.invokestatic 13, 3) := by decide +kernel
theorem dX6_soundsWell_15 : decode cX6_soundsWell 15 = .ok (.istore_n 3, 1) := by decide +kernel
theorem dX6_soundsWell_16 : decode cX6_soundsWell 16 = .ok (.iload_n 2, 1) := by decide +kernel
theorem dX6_soundsWell_17 : decode cX6_soundsWell 17 = .ok (.iload_n 3, 1) := by decide +kernel
theorem dX6_soundsWell_18 : decode cX6_soundsWell 18 = .ok (.if_icmp .ge 16, 3) := by decide +kernel
theorem dX6_soundsWell_21 : decode cX6_soundsWell 21 = .ok (.iload_n 3, 1) := by decide +kernel
theorem dX6_soundsWell_22 : decode cX6_soundsWell 22 = .ok (.iload_n 0, 1) := by decide +kernel
theorem dX6_soundsWell_23 : decode cX6_soundsWell 23 = .ok (.iload_n 1, 1) := by decide +kernel
theorem dX6_soundsWell_24 : decode cX6_soundsWell 24 = .ok (.invokestatic 13, 3) := by decide +kernel
theorem dX6_soundsWell_27 : decode cX6_soundsWell 27 = .ok (.if_icmp .ge 7, 3) := by decide +kernel
theorem dX6_soundsWell_30 : decode cX6_soundsWell 30 = .ok (.iconst 1, 1) := by decide +kernel
theorem dX6_soundsWell_31 : decode cX6_soundsWell 31 = .ok (.goto 4, 3) := by decide +kernel
theorem dX6_soundsWell_34 : decode cX6_soundsWell 34 = .ok (.iconst 0, 1) := by decide +kernel
theorem dX6_soundsWell_35 : decode cX6_soundsWell 35 = .ok (.ireturn, 1) := by decide +kernel
theorem dX6_bellsInPlace_0 : decode cX6_bellsInPlace 0 = .ok (.iconst 0, 1) := by decide +kernel
theorem dX6_bellsInPlace_1 : decode cX6_bellsInPlace 1 = .ok (.istore_n 2, 1) := by decide +kernel
theorem dX6_bellsInPlace_2 : decode cX6_bellsInPlace 2 = .ok (.iconst 1, 1) := by decide +kernel
theorem dX6_bellsInPlace_3 : decode cX6_bellsInPlace 3 = .ok (.istore_n 3, 1) := by decide +kernel
theorem dX6_bellsInPlace_4 : decode cX6_bellsInPlace 4 = .ok (.iload_n 3, 1) := by decide +kernel
theorem dX6_bellsInPlace_5 : decode cX6_bellsInPlace 5 = .ok (.iload_n 1, 1) := by decide +kernel
theorem dX6_bellsInPlace_6 : decode cX6_bellsInPlace 6 = .ok (.if_icmp .gt 21, 3) := by decide +kernel
theorem dX6_bellsInPlace_9 : decode cX6_bellsInPlace 9 = .ok (.iload_n 0, 1) := by decide +kernel
theorem dX6_bellsInPlace_10 : decode cX6_bellsInPlace 10 = .ok (.iload_n 3, 1) := by decide +kernel
theorem dX6_bellsInPlace_11 : decode cX6_bellsInPlace 11 = .ok (.invokestatic 13, 3) := by decide +kernel
theorem dX6_bellsInPlace_14 : decode cX6_bellsInPlace 14 = .ok (.iload_n 3, 1) := by decide +kernel
theorem dX6_bellsInPlace_15 : decode cX6_bellsInPlace 15 = .ok (.if_icmp .ne 6, 3) := by decide +kernel
theorem dX6_bellsInPlace_18 : decode cX6_bellsInPlace 18 = .ok (.iinc 2 1, 3) := by decide +kernel
theorem dX6_bellsInPlace_21 : decode cX6_bellsInPlace 21 = .ok (.iinc 3 1, 3) := by decide +kernel
theorem dX6_bellsInPlace_24 : decode cX6_bellsInPlace 24 = .ok (.goto (-20), 3) := by decide +kernel
theorem dX6_bellsInPlace_27 : decode cX6_bellsInPlace 27 = .ok (.iload_n 2, 1) := by decide +kernel
theorem dX6_bellsInPlace_28 : decode cX6_bellsInPlace 28 = .ok (.ireturn, 1) := by decide +kernel
theorem dX7_init_0 : decode cX7_init 0 = .ok (.aload_n 0, 1) := by decide +kernel
theorem dX7_init_1 : decode cX7_init 1 = .ok (.invokespecial 3, 3) := by decide +kernel
theorem dX7_init_4 : decode cX7_init 4 = .ok (.aload_n 0, 1) := by decide +kernel
theorem dX7_init_5 : decode cX7_init 5 = .ok (.sipush 5040, 3) := by decide +kernel
theorem dX7_init_8 : decode cX7_init 8 = .ok (.newarray .int, 2) := by decide +kernel
theorem dX7_init_10 : decode cX7_init 10 = .ok (.putfield 9, 3) := by decide +kernel
theorem dX7_init_13 : decode cX7_init 13 = .ok (.aload_n 0, 1) := by decide +kernel
theorem dX7_init_14 : decode cX7_init 14 = .ok (.sipush 5040, 3) := by decide +kernel
theorem dX7_init_17 : decode cX7_init 17 = .ok (.newarray .int, 2) := by decide +kernel
theorem dX7_init_19 : decode cX7_init 19 = .ok (.putfield 15, 3) := by decide +kernel
theorem dX7_init_22 : decode cX7_init 22 = .ok (.return_, 1) := by decide +kernel
theorem dX7_from_0 : decode cX7_from 0 = .ok (.aload_n 0, 1) := by decide +kernel
theorem dX7_from_1 : decode cX7_from 1 = .ok (.iload 4, 2) := by decide +kernel
theorem dX7_from_3 : decode cX7_from 3 = .ok (.putfield 18, 3) := by decide +kernel
theorem dX7_from_6 : decode cX7_from 6 = .ok (.aload_n 0, 1) := by decide +kernel
theorem dX7_from_7 : decode cX7_from 7 = .ok (.iconst 0, 1) := by decide +kernel
theorem dX7_from_8 : decode cX7_from 8 = .ok (.putfield 22, 3) := by decide +kernel
theorem dX7_from_11 : decode cX7_from 11 = .ok (.aload_n 0, 1) := by decide +kernel
theorem dX7_from_12 : decode cX7_from 12 = .ok (.getfield 9, 3) := by decide +kernel
theorem dX7_from_15 : decode cX7_from 15 = .ok (.bipush (-4), 2) := by decide +kernel
theorem dX7_from_17 : decode cX7_from 17 = .ok (.invokestatic 25, 3) := by decide +kernel
theorem dX7_from_20 : decode cX7_from 20 = .ok (.aload_n 0, 1) := by decide +kernel
theorem dX7_from_21 : decode cX7_from 21 = .ok (.iload_n 1, 1) := by decide +kernel
theorem dX7_from_22 : decode cX7_from 22 = .ok (.iconst 0, 1) := by decide +kernel
theorem dX7_from_23 : decode cX7_from 23 = .ok (.invokevirtual 31, 3) := by decide +kernel
theorem dX7_from_26 : decode cX7_from 26 = .ok (.iconst 0, 1) := by decide +kernel
theorem dX7_from_27 : decode cX7_from 27 = .ok (.istore 5, 2) := by decide +kernel
theorem dX7_from_29 : decode cX7_from 29 = .ok (.iload 5, 2) := by decide +kernel
theorem dX7_from_31 : decode cX7_from 31 = .ok (.aload_n 0, 1) := by decide +kernel
theorem dX7_from_32 : decode cX7_from 32 = .ok (.getfield 22, 3) := by decide +kernel
theorem dX7_from_35 : decode cX7_from 35 = .ok (.if_icmp .ge 78, 3) := by decide +kernel
theorem dX7_from_38 : decode cX7_from 38 = .ok (.iload 5, 2) := by decide +kernel
theorem dX7_from_40 : decode cX7_from 40 = .ok (.aload_n 0, 1) := by decide +kernel
theorem dX7_from_41 : decode cX7_from 41 = .ok (.getfield 15, 3) := by decide +kernel
theorem dX7_from_44 : decode cX7_from 44 = .ok (.arraylength, 1) := by decide +kernel
theorem dX7_from_45 : decode cX7_from 45 = .ok (.if_icmp .ge 68, 3) := by decide +kernel
theorem dX7_from_48 : decode cX7_from 48 = .ok (.aload_n 0, 1) := by decide +kernel
theorem dX7_from_49 : decode cX7_from 49 = .ok (.getfield 15, 3) := by decide +kernel
theorem dX7_from_52 : decode cX7_from 52 = .ok (.iload 5, 2) := by decide +kernel
theorem dX7_from_54 : decode cX7_from 54 = .ok (.iaload, 1) := by decide +kernel
theorem dX7_from_55 : decode cX7_from 55 = .ok (.istore 6, 2) := by decide +kernel
theorem dX7_from_57 : decode cX7_from 57 = .ok (.iload 6, 2) := by decide +kernel
theorem dX7_from_59 : decode cX7_from 59 = .ok (.iload_n 2, 1) := by decide +kernel
theorem dX7_from_60 : decode cX7_from 60 = .ok (.if_icmp .ne 4, 3) := by decide +kernel
theorem dX7_from_63 : decode cX7_from 63 = .ok (.return_, 1) := by decide +kernel
theorem dX7_from_64 : decode cX7_from 64 = .ok (.aload_n 0, 1) := by decide +kernel
theorem dX7_from_65 : decode cX7_from 65 = .ok (.iload 6, 2) := by decide +kernel
theorem dX7_from_67 : decode cX7_from 67 = .ok (.invokevirtual 35, 3) := by decide +kernel
theorem dX7_from_70 : decode cX7_from 70 = .ok (.iconst 1, 1) := by decide +kernel
theorem dX7_from_71 : decode cX7_from 71 = .ok (.iadd, 1) := by decide +kernel
theorem dX7_from_72 : decode cX7_from 72 = .ok (.istore 7, 2) := by decide +kernel
theorem dX7_from_74 : decode cX7_from 74 = .ok (.iconst 0, 1) := by decide +kernel
theorem dX7_from_75 : decode cX7_from 75 = .ok (.istore 8, 2) := by decide +kernel
theorem dX7_from_77 : decode cX7_from 77 = .ok (.iload 8, 2) := by decide +kernel
theorem dX7_from_79 : decode cX7_from 79 = .ok (.aload_n 3, 1) := by decide +kernel
theorem dX7_from_80 : decode cX7_from 80 = .ok (.arraylength, 1) := by decide +kernel
theorem dX7_from_81 : decode cX7_from 81 = .ok (.if_icmp .ge 26, 3) := by decide +kernel
theorem dX7_from_84 : decode cX7_from 84 = .ok (.aload_n 0, 1) := by decide +kernel
theorem dX7_from_85 : decode cX7_from 85 = .ok (.iload 6, 2) := by decide +kernel
theorem dX7_from_87 : decode cX7_from 87 = .ok (.aload_n 3, 1) := by decide +kernel
theorem dX7_from_88 : decode cX7_from 88 = .ok (.iload 8, 2) := by decide +kernel
theorem dX7_from_90 : decode cX7_from 90 = .ok (.iaload, 1) := by decide +kernel
theorem dX7_from_91 : decode cX7_from 91 = .ok (.iload 4, 2) := by decide +kernel
theorem dX7_from_93 : decode cX7_from 93 = .ok (.invokestatic 39, 3) := by decide +kernel
theorem dX7_from_96 : decode cX7_from 96 = .ok (.iload 7, 2) := by decide +kernel
theorem dX7_from_98 : decode cX7_from 98 = .ok (.invokevirtual 31, 3) := by decide +kernel
theorem dX7_from_101 : decode cX7_from 101 = .ok (.iinc 8 1, 3) := by decide +kernel
theorem dX7_from_104 : decode cX7_from 104 = .ok (.goto (-27), 3) := by decide +kernel
theorem dX7_from_107 : decode cX7_from 107 = .ok (.iinc 5 1, 3) := by decide +kernel
theorem dX7_from_110 : decode cX7_from 110 = .ok (.goto (-81), 3) := by decide +kernel
theorem dX7_from_113 : decode cX7_from 113 = .ok (.return_, 1) := by decide +kernel
theorem dX7_reach_0 : decode cX7_reach 0 = .ok (.iload_n 1, 1) := by decide +kernel
theorem dX7_reach_1 : decode cX7_reach 1 = .ok (.aload_n 0, 1) := by decide +kernel
theorem dX7_reach_2 : decode cX7_reach 2 = .ok (.getfield 18, 3) := by decide +kernel
theorem dX7_reach_5 : decode cX7_reach 5 = .ok (.invokestatic 45, 3) := by decide +kernel
theorem dX7_reach_8 : decode cX7_reach 8 = .ok (.istore_n 3, 1) := by decide +kernel
theorem dX7_reach_9 : decode cX7_reach 9 = .ok (.iload_n 3, 1) := by decide +kernel
theorem dX7_reach_10 : decode cX7_reach 10 = .ok (.ifCond .lt 23, 3) := by decide +kernel
theorem dX7_reach_13 : decode cX7_reach 13 = .ok (.iload_n 3, 1) := by decide +kernel
theorem dX7_reach_14 : decode cX7_reach 14 = .ok (.aload_n 0, 1) := by decide +kernel
theorem dX7_reach_15 : decode cX7_reach 15 = .ok (.getfield 9, 3) := by decide +kernel
theorem dX7_reach_18 : decode cX7_reach 18 = .ok (.arraylength, 1) := by decide +kernel
theorem dX7_reach_19 : decode cX7_reach 19 = .ok (.if_icmp .ge 14, 3) := by decide +kernel
theorem dX7_reach_22 : decode cX7_reach 22 = .ok (.aload_n 0, 1) := by decide +kernel
theorem dX7_reach_23 : decode cX7_reach 23 = .ok (.getfield 9, 3) := by decide +kernel
theorem dX7_reach_26 : decode cX7_reach 26 = .ok (.iload_n 3, 1) := by decide +kernel
theorem dX7_reach_27 : decode cX7_reach 27 = .ok (.iaload, 1) := by decide +kernel
theorem dX7_reach_28 : decode cX7_reach 28 = .ok (.bipush (-4), 2) := by decide +kernel
theorem dX7_reach_30 : decode cX7_reach 30 = .ok (.if_icmp .eq 4, 3) := by decide +kernel
theorem dX7_reach_33 : decode cX7_reach 33 = .ok (.return_, 1) := by decide +kernel
theorem dX7_reach_34 : decode cX7_reach 34 = .ok (.aload_n 0, 1) := by decide +kernel
theorem dX7_reach_35 : decode cX7_reach 35 = .ok (.getfield 9, 3) := by decide +kernel
theorem dX7_reach_38 : decode cX7_reach 38 = .ok (.iload_n 3, 1) := by decide +kernel
theorem dX7_reach_39 : decode cX7_reach 39 = .ok (.iload_n 2, 1) := by decide +kernel
theorem dX7_reach_40 : decode cX7_reach 40 = .ok (.iastore, 1) := by decide +kernel
theorem dX7_reach_41 : decode cX7_reach 41 = .ok (.aload_n 0, 1) := by decide +kernel
theorem dX7_reach_42 : decode cX7_reach 42 = .ok (.getfield 22, 3) := by decide +kernel
theorem dX7_reach_45 : decode cX7_reach 45 = .ok (.ifCond .lt 35, 3) := by decide +kernel
theorem dX7_reach_48 : decode cX7_reach 48 = .ok (.aload_n 0, 1) := by decide +kernel
theorem dX7_reach_49 : decode cX7_reach 49 = .ok (.getfield 22, 3) := by decide +kernel
theorem dX7_reach_52 : decode cX7_reach 52 = .ok (.aload_n 0, 1) := by decide +kernel
theorem dX7_reach_53 : decode cX7_reach 53 = .ok (.getfield 15, 3) := by decide +kernel
theorem dX7_reach_56 : decode cX7_reach 56 = .ok (.arraylength, 1) := by decide +kernel
theorem dX7_reach_57 : decode cX7_reach 57 = .ok (.if_icmp .ge 23, 3) := by decide +kernel
theorem dX7_reach_60 : decode cX7_reach 60 = .ok (.aload_n 0, 1) := by decide +kernel
theorem dX7_reach_61 : decode cX7_reach 61 = .ok (.getfield 15, 3) := by decide +kernel
theorem dX7_reach_64 : decode cX7_reach 64 = .ok (.aload_n 0, 1) := by decide +kernel
theorem dX7_reach_65 : decode cX7_reach 65 = .ok (.getfield 22, 3) := by decide +kernel
theorem dX7_reach_68 : decode cX7_reach 68 = .ok (.iload_n 1, 1) := by decide +kernel
theorem dX7_reach_69 : decode cX7_reach 69 = .ok (.iastore, 1) := by decide +kernel
theorem dX7_reach_70 : decode cX7_reach 70 = .ok (.aload_n 0, 1) := by decide +kernel
theorem dX7_reach_71 : decode cX7_reach 71 = .ok (.dup, 1) := by decide +kernel
theorem dX7_reach_72 : decode cX7_reach 72 = .ok (.getfield 22, 3) := by decide +kernel
theorem dX7_reach_75 : decode cX7_reach 75 = .ok (.iconst 1, 1) := by decide +kernel
theorem dX7_reach_76 : decode cX7_reach 76 = .ok (.iadd, 1) := by decide +kernel
theorem dX7_reach_77 : decode cX7_reach 77 = .ok (.putfield 22, 3) := by decide +kernel
theorem dX7_reach_80 : decode cX7_reach 80 = .ok (.return_, 1) := by decide +kernel
theorem dX7_fewestTo_0 : decode cX7_fewestTo 0 = .ok (.iload_n 1, 1) := by decide +kernel
theorem dX7_fewestTo_1 : decode cX7_fewestTo 1 = .ok (.aload_n 0, 1) := by decide +kernel
theorem dX7_fewestTo_2 : decode cX7_fewestTo 2 = .ok (.getfield 18, 3) := by decide +kernel
theorem dX7_fewestTo_5 : decode cX7_fewestTo 5 = .ok (.invokestatic 45, 3) := by decide +kernel
theorem dX7_fewestTo_8 : decode cX7_fewestTo 8 = .ok (.istore_n 2, 1) := by decide +kernel
theorem dX7_fewestTo_9 : decode cX7_fewestTo 9 = .ok (.iload_n 2, 1) := by decide +kernel
theorem dX7_fewestTo_10 : decode cX7_fewestTo 10 = .ok (.ifCond .lt 21, 3) := by decide +kernel
theorem dX7_fewestTo_13 : decode cX7_fewestTo 13 = .ok (.iload_n 2, 1) := by decide +kernel
theorem dX7_fewestTo_14 : decode cX7_fewestTo 14 = .ok (.aload_n 0, 1) := by decide +kernel
theorem dX7_fewestTo_15 : decode cX7_fewestTo 15 = .ok (.getfield 9, 3) := by decide +kernel
theorem dX7_fewestTo_18 : decode cX7_fewestTo 18 = .ok (.arraylength, 1) := by decide +kernel
theorem dX7_fewestTo_19 : decode cX7_fewestTo 19 = .ok (.if_icmp .ge 12, 3) := by decide +kernel
theorem dX7_fewestTo_22 : decode cX7_fewestTo 22 = .ok (.aload_n 0, 1) := by decide +kernel
theorem dX7_fewestTo_23 : decode cX7_fewestTo 23 = .ok (.getfield 9, 3) := by decide +kernel
theorem dX7_fewestTo_26 : decode cX7_fewestTo 26 = .ok (.iload_n 2, 1) := by decide +kernel
theorem dX7_fewestTo_27 : decode cX7_fewestTo 27 = .ok (.iaload, 1) := by decide +kernel
theorem dX7_fewestTo_28 : decode cX7_fewestTo 28 = .ok (.goto 5, 3) := by decide +kernel
theorem dX7_fewestTo_31 : decode cX7_fewestTo 31 = .ok (.bipush (-4), 2) := by decide +kernel
theorem dX7_fewestTo_33 : decode cX7_fewestTo 33 = .ok (.ireturn, 1) := by decide +kernel
theorem dX8_lead_0 : decode cX8_lead 0 = .ok (.iload_n 0, 1) := by decide +kernel
theorem dX8_lead_1 : decode cX8_lead 1 = .ok (.tableswitch 36 4 6 #[27, 30, 33], 27) := by decide +kernel
theorem dX8_lead_28 : decode cX8_lead 28 = .ok (.ldc 7, 2) := by decide +kernel
theorem dX8_lead_30 : decode cX8_lead 30 = .ok (.areturn, 1) := by decide +kernel
theorem dX8_lead_31 : decode cX8_lead 31 = .ok (.ldc 9, 2) := by decide +kernel
theorem dX8_lead_33 : decode cX8_lead 33 = .ok (.areturn, 1) := by decide +kernel
theorem dX8_lead_34 : decode cX8_lead 34 = .ok (.ldc 11, 2) := by decide +kernel
theorem dX8_lead_36 : decode cX8_lead 36 = .ok (.areturn, 1) := by decide +kernel
theorem dX8_lead_37 : decode cX8_lead 37 = .ok (.ldc 13, 2) := by decide +kernel
theorem dX8_lead_39 : decode cX8_lead 39 = .ok (.areturn, 1) := by decide +kernel
theorem dX8_bob_0 : decode cX8_bob 0 = .ok (.iload_n 0, 1) := by decide +kernel
theorem dX8_bob_1 : decode cX8_bob 1 = .ok (.lookupswitch 33 #[(5, 27), (7, 30)], 27) := by decide +kernel
theorem dX8_bob_28 : decode cX8_bob 28 = .ok (.ldc 15, 2) := by decide +kernel
theorem dX8_bob_30 : decode cX8_bob 30 = .ok (.areturn, 1) := by decide +kernel
theorem dX8_bob_31 : decode cX8_bob 31 = .ok (.ldc 17, 2) := by decide +kernel
theorem dX8_bob_33 : decode cX8_bob 33 = .ok (.areturn, 1) := by decide +kernel
theorem dX8_bob_34 : decode cX8_bob 34 = .ok (.ldc 19, 2) := by decide +kernel
theorem dX8_bob_36 : decode cX8_bob 36 = .ok (.areturn, 1) := by decide +kernel
theorem dX8_single_0 : decode cX8_single 0 = .ok (.iload_n 0, 1) := by decide +kernel
theorem dX8_single_1 : decode cX8_single 1 = .ok (.tableswitch 36 4 6 #[27, 30, 33], 27) := by decide +kernel
theorem dX8_single_28 : decode cX8_single 28 = .ok (.ldc 21, 2) := by decide +kernel
theorem dX8_single_30 : decode cX8_single 30 = .ok (.areturn, 1) := by decide +kernel
theorem dX8_single_31 : decode cX8_single 31 = .ok (.ldc 23, 2) := by decide +kernel
theorem dX8_single_33 : decode cX8_single 33 = .ok (.areturn, 1) := by decide +kernel
theorem dX8_single_34 : decode cX8_single 34 = .ok (.ldc 25, 2) := by decide +kernel
theorem dX8_single_36 : decode cX8_single 36 = .ok (.areturn, 1) := by decide +kernel
theorem dX8_single_37 : decode cX8_single 37 = .ok (.ldc 27, 2) := by decide +kernel
theorem dX8_single_39 : decode cX8_single 39 = .ok (.areturn, 1) := by decide +kernel
theorem dX9_init_0 : decode cX9_init 0 = .ok (.aload_n 0, 1) := by decide +kernel
theorem dX9_init_1 : decode cX9_init 1 = .ok (.invokespecial 3, 3) := by decide +kernel
theorem dX9_init_4 : decode cX9_init 4 = .ok (.aload_n 0, 1) := by decide +kernel
theorem dX9_init_5 : decode cX9_init 5 = .ok (.bipush 20, 2) := by decide +kernel
theorem dX9_init_7 : decode cX9_init 7 = .ok (.newarray .int, 2) := by decide +kernel
theorem dX9_init_9 : decode cX9_init 9 = .ok (.putfield 9, 3) := by decide +kernel
theorem dX9_init_12 : decode cX9_init 12 = .ok (.aload_n 0, 1) := by decide +kernel
theorem dX9_init_13 : decode cX9_init 13 = .ok (.bipush 17, 2) := by decide +kernel
theorem dX9_init_15 : decode cX9_init 15 = .ok (.newarray .int, 2) := by decide +kernel
theorem dX9_init_17 : decode cX9_init 17 = .ok (.putfield 15, 3) := by decide +kernel
theorem dX9_init_20 : decode cX9_init 20 = .ok (.return_, 1) := by decide +kernel
theorem dX9_become_0 : decode cX9_become 0 = .ok (.aload_n 0, 1) := by decide +kernel
theorem dX9_become_1 : decode cX9_become 1 = .ok (.aload_n 1, 1) := by decide +kernel
theorem dX9_become_2 : decode cX9_become 2 = .ok (.getfield 18, 3) := by decide +kernel
theorem dX9_become_5 : decode cX9_become 5 = .ok (.putfield 18, 3) := by decide +kernel
theorem dX9_become_8 : decode cX9_become 8 = .ok (.aload_n 0, 1) := by decide +kernel
theorem dX9_become_9 : decode cX9_become 9 = .ok (.aload_n 1, 1) := by decide +kernel
theorem dX9_become_10 : decode cX9_become 10 = .ok (.getfield 22, 3) := by decide +kernel
theorem dX9_become_13 : decode cX9_become 13 = .ok (.putfield 22, 3) := by decide +kernel
theorem dX9_become_16 : decode cX9_become 16 = .ok (.aload_n 0, 1) := by decide +kernel
theorem dX9_become_17 : decode cX9_become 17 = .ok (.aload_n 1, 1) := by decide +kernel
theorem dX9_become_18 : decode cX9_become 18 = .ok (.getfield 25, 3) := by decide +kernel
theorem dX9_become_21 : decode cX9_become 21 = .ok (.putfield 25, 3) := by decide +kernel
theorem dX9_become_24 : decode cX9_become 24 = .ok (.aload_n 0, 1) := by decide +kernel
theorem dX9_become_25 : decode cX9_become 25 = .ok (.aload_n 1, 1) := by decide +kernel
theorem dX9_become_26 : decode cX9_become 26 = .ok (.getfield 28, 3) := by decide +kernel
theorem dX9_become_29 : decode cX9_become 29 = .ok (.putfield 28, 3) := by decide +kernel
theorem dX9_become_32 : decode cX9_become 32 = .ok (.aload_n 0, 1) := by decide +kernel
theorem dX9_become_33 : decode cX9_become 33 = .ok (.aload_n 1, 1) := by decide +kernel
theorem dX9_become_34 : decode cX9_become 34 = .ok (.getfield 31, 3) := by decide +kernel
theorem dX9_become_37 : decode cX9_become 37 = .ok (.putfield 31, 3) := by decide +kernel
theorem dX9_become_40 : decode cX9_become 40 = .ok (.aload_n 1, 1) := by decide +kernel
theorem dX9_become_41 : decode cX9_become 41 = .ok (.getfield 9, 3) := by decide +kernel
theorem dX9_become_44 : decode cX9_become 44 = .ok (.iconst 0, 1) := by decide +kernel
theorem dX9_become_45 : decode cX9_become 45 = .ok (.aload_n 0, 1) := by decide +kernel
theorem dX9_become_46 : decode cX9_become 46 = .ok (.getfield 9, 3) := by decide +kernel
theorem dX9_become_49 : decode cX9_become 49 = .ok (.iconst 0, 1) := by decide +kernel
theorem dX9_become_50 : decode cX9_become 50 = .ok (.aload_n 0, 1) := by decide +kernel
theorem dX9_become_51 : decode cX9_become 51 = .ok (.getfield 9, 3) := by decide +kernel
theorem dX9_become_54 : decode cX9_become 54 = .ok (.arraylength, 1) := by decide +kernel
theorem dX9_become_55 : decode cX9_become 55 = .ok (.invokestatic 34, 3) := by decide +kernel
theorem dX9_become_58 : decode cX9_become 58 = .ok (.aload_n 1, 1) := by decide +kernel
theorem dX9_become_59 : decode cX9_become 59 = .ok (.getfield 15, 3) := by decide +kernel
theorem dX9_become_62 : decode cX9_become 62 = .ok (.iconst 0, 1) := by decide +kernel
theorem dX9_become_63 : decode cX9_become 63 = .ok (.aload_n 0, 1) := by decide +kernel
theorem dX9_become_64 : decode cX9_become 64 = .ok (.getfield 15, 3) := by decide +kernel
theorem dX9_become_67 : decode cX9_become 67 = .ok (.iconst 0, 1) := by decide +kernel
theorem dX9_become_68 : decode cX9_become 68 = .ok (.aload_n 0, 1) := by decide +kernel
theorem dX9_become_69 : decode cX9_become 69 = .ok (.getfield 15, 3) := by decide +kernel
theorem dX9_become_72 : decode cX9_become 72 = .ok (.arraylength, 1) := by decide +kernel
theorem dX9_become_73 : decode cX9_become 73 = .ok (.invokestatic 34, 3) := by decide +kernel
theorem dX9_become_76 : decode cX9_become 76 = .ok (.return_, 1) := by decide +kernel
theorem dX9_takeMethod_0 : decode cX9_takeMethod 0 = .ok (.aload_n 0, 1) := by decide +kernel
theorem dX9_takeMethod_1 : decode cX9_takeMethod 1 = .ok (.aload_n 1, 1) := by decide +kernel
theorem dX9_takeMethod_2 : decode cX9_takeMethod 2 = .ok (.getfield 40, 3) := by decide +kernel
theorem dX9_takeMethod_5 : decode cX9_takeMethod 5 = .ok (.putfield 22, 3) := by decide +kernel
theorem dX9_takeMethod_8 : decode cX9_takeMethod 8 = .ok (.aload_n 1, 1) := by decide +kernel
theorem dX9_takeMethod_9 : decode cX9_takeMethod 9 = .ok (.getfield 43, 3) := by decide +kernel
theorem dX9_takeMethod_12 : decode cX9_takeMethod 12 = .ok (.iconst 0, 1) := by decide +kernel
theorem dX9_takeMethod_13 : decode cX9_takeMethod 13 = .ok (.aload_n 0, 1) := by decide +kernel
theorem dX9_takeMethod_14 : decode cX9_takeMethod 14 = .ok (.getfield 9, 3) := by decide +kernel
theorem dX9_takeMethod_17 : decode cX9_takeMethod 17 = .ok (.iconst 0, 1) := by decide +kernel
theorem dX9_takeMethod_18 : decode cX9_takeMethod 18 = .ok (.aload_n 0, 1) := by decide +kernel
theorem dX9_takeMethod_19 : decode cX9_takeMethod 19 = .ok (.getfield 9, 3) := by decide +kernel
theorem dX9_takeMethod_22 : decode cX9_takeMethod 22 = .ok (.arraylength, 1) := by decide +kernel
theorem dX9_takeMethod_23 : decode cX9_takeMethod 23 = .ok (.invokestatic 34, 3) := by decide +kernel
theorem dX9_takeMethod_26 : decode cX9_takeMethod 26 = .ok (.return_, 1) := by decide +kernel
theorem dX9_addLead_0 : decode cX9_addLead 0 = .ok (.aload_n 0, 1) := by decide +kernel
theorem dX9_addLead_1 : decode cX9_addLead 1 = .ok (.getfield 31, 3) := by decide +kernel
theorem dX9_addLead_4 : decode cX9_addLead 4 = .ok (.ifCond .lt 35, 3) := by decide +kernel
theorem dX9_addLead_7 : decode cX9_addLead 7 = .ok (.aload_n 0, 1) := by decide +kernel
theorem dX9_addLead_8 : decode cX9_addLead 8 = .ok (.getfield 31, 3) := by decide +kernel
theorem dX9_addLead_11 : decode cX9_addLead 11 = .ok (.aload_n 0, 1) := by decide +kernel
theorem dX9_addLead_12 : decode cX9_addLead 12 = .ok (.getfield 15, 3) := by decide +kernel
theorem dX9_addLead_15 : decode cX9_addLead 15 = .ok (.arraylength, 1) := by decide +kernel
theorem dX9_addLead_16 : decode cX9_addLead 16 = .ok (.if_icmp .ge 23, 3) := by decide +kernel
theorem dX9_addLead_19 : decode cX9_addLead 19 = .ok (.aload_n 0, 1) := by decide +kernel
theorem dX9_addLead_20 : decode cX9_addLead 20 = .ok (.getfield 15, 3) := by decide +kernel
theorem dX9_addLead_23 : decode cX9_addLead 23 = .ok (.aload_n 0, 1) := by decide +kernel
theorem dX9_addLead_24 : decode cX9_addLead 24 = .ok (.getfield 31, 3) := by decide +kernel
theorem dX9_addLead_27 : decode cX9_addLead 27 = .ok (.iload_n 1, 1) := by decide +kernel
theorem dX9_addLead_28 : decode cX9_addLead 28 = .ok (.iastore, 1) := by decide +kernel
theorem dX9_addLead_29 : decode cX9_addLead 29 = .ok (.aload_n 0, 1) := by decide +kernel
theorem dX9_addLead_30 : decode cX9_addLead 30 = .ok (.dup, 1) := by decide +kernel
theorem dX9_addLead_31 : decode cX9_addLead 31 = .ok (.getfield 31, 3) := by decide +kernel
theorem dX9_addLead_34 : decode cX9_addLead 34 = .ok (.iconst 1, 1) := by decide +kernel
theorem dX9_addLead_35 : decode cX9_addLead 35 = .ok (.iadd, 1) := by decide +kernel
theorem dX9_addLead_36 : decode cX9_addLead 36 = .ok (.putfield 31, 3) := by decide +kernel
theorem dX9_addLead_39 : decode cX9_addLead 39 = .ok (.return_, 1) := by decide +kernel
theorem dX9_kindOfLead_0 : decode cX9_kindOfLead 0 = .ok (.iload_n 1, 1) := by decide +kernel
theorem dX9_kindOfLead_1 : decode cX9_kindOfLead 1 = .ok (.ifCond .lt 21, 3) := by decide +kernel
theorem dX9_kindOfLead_4 : decode cX9_kindOfLead 4 = .ok (.iload_n 1, 1) := by decide +kernel
theorem dX9_kindOfLead_5 : decode cX9_kindOfLead 5 = .ok (.aload_n 0, 1) := by decide +kernel
theorem dX9_kindOfLead_6 : decode cX9_kindOfLead 6 = .ok (.getfield 15, 3) := by decide +kernel
theorem dX9_kindOfLead_9 : decode cX9_kindOfLead 9 = .ok (.arraylength, 1) := by decide +kernel
theorem dX9_kindOfLead_10 : decode cX9_kindOfLead 10 = .ok (.if_icmp .ge 12, 3) := by decide +kernel
theorem dX9_kindOfLead_13 : decode cX9_kindOfLead 13 = .ok (.aload_n 0, 1) := by decide +kernel
theorem dX9_kindOfLead_14 : decode cX9_kindOfLead 14 = .ok (.getfield 15, 3) := by decide +kernel
theorem dX9_kindOfLead_17 : decode cX9_kindOfLead 17 = .ok (.iload_n 1, 1) := by decide +kernel
theorem dX9_kindOfLead_18 : decode cX9_kindOfLead 18 = .ok (.iaload, 1) := by decide +kernel
theorem dX9_kindOfLead_19 : decode cX9_kindOfLead 19 = .ok (.goto 4, 3) := by decide +kernel
theorem dX9_kindOfLead_22 : decode cX9_kindOfLead 22 = .ok (.iconst 0, 1) := by decide +kernel
theorem dX9_kindOfLead_23 : decode cX9_kindOfLead 23 = .ok (.ireturn, 1) := by decide +kernel
theorem dX9_lastRow_0 : decode cX9_lastRow 0 = .ok (.aload_n 0, 1) := by decide +kernel
theorem dX9_lastRow_1 : decode cX9_lastRow 1 = .ok (.getfield 31, 3) := by decide +kernel
theorem dX9_lastRow_4 : decode cX9_lastRow 4 = .ok (.aload_n 0, 1) := by decide +kernel
theorem dX9_lastRow_5 : decode cX9_lastRow 5 = .ok (.getfield 22, 3) := by decide +kernel
theorem dX9_lastRow_8 : decode cX9_lastRow 8 = .ok (.imul, 1) := by decide +kernel
theorem dX9_lastRow_9 : decode cX9_lastRow 9 = .ok (.ireturn, 1) := by decide +kernel
theorem dX9_placesMade_0 : decode cX9_placesMade 0 = .ok (.iload_n 2, 1) := by decide +kernel
theorem dX9_placesMade_1 : decode cX9_placesMade 1 = .ok (.aload_n 0, 1) := by decide +kernel
theorem dX9_placesMade_2 : decode cX9_placesMade 2 = .ok (.getfield 22, 3) := by decide +kernel
theorem dX9_placesMade_5 : decode cX9_placesMade 5 = .ok (.iconst 1, 1) := by decide +kernel
theorem dX9_placesMade_6 : decode cX9_placesMade 6 = .ok (.isub, 1) := by decide +kernel
theorem dX9_placesMade_7 : decode cX9_placesMade 7 = .ok (.if_icmp .ne 13, 3) := by decide +kernel
theorem dX9_placesMade_10 : decode cX9_placesMade 10 = .ok (.iload_n 1, 1) := by decide +kernel
theorem dX9_placesMade_11 : decode cX9_placesMade 11 = .ok (.iconst 1, 1) := by decide +kernel
theorem dX9_placesMade_12 : decode cX9_placesMade 12 = .ok (.if_icmp .ne 8, 3) := by decide +kernel
theorem dX9_placesMade_15 : decode cX9_placesMade 15 = .ok (.aload_n 0, 1) := by decide +kernel
theorem dX9_placesMade_16 : decode cX9_placesMade 16 = .ok (.getfield 25, 3) := by decide +kernel
theorem dX9_placesMade_19 : decode cX9_placesMade 19 = .ok (.ireturn, 1) := by decide +kernel
theorem dX9_placesMade_20 : decode cX9_placesMade 20 = .ok (.iload_n 2, 1) := by decide +kernel
theorem dX9_placesMade_21 : decode cX9_placesMade 21 = .ok (.aload_n 0, 1) := by decide +kernel
theorem dX9_placesMade_22 : decode cX9_placesMade 22 = .ok (.getfield 22, 3) := by decide +kernel
theorem dX9_placesMade_25 : decode cX9_placesMade 25 = .ok (.iconst 1, 1) := by decide +kernel
theorem dX9_placesMade_26 : decode cX9_placesMade 26 = .ok (.isub, 1) := by decide +kernel
theorem dX9_placesMade_27 : decode cX9_placesMade 27 = .ok (.if_icmp .ne 13, 3) := by decide +kernel
theorem dX9_placesMade_30 : decode cX9_placesMade 30 = .ok (.iload_n 1, 1) := by decide +kernel
theorem dX9_placesMade_31 : decode cX9_placesMade 31 = .ok (.iconst 2, 1) := by decide +kernel
theorem dX9_placesMade_32 : decode cX9_placesMade 32 = .ok (.if_icmp .ne 8, 3) := by decide +kernel
theorem dX9_placesMade_35 : decode cX9_placesMade 35 = .ok (.aload_n 0, 1) := by decide +kernel
theorem dX9_placesMade_36 : decode cX9_placesMade 36 = .ok (.getfield 28, 3) := by decide +kernel
theorem dX9_placesMade_39 : decode cX9_placesMade 39 = .ok (.ireturn, 1) := by decide +kernel
theorem dX9_placesMade_40 : decode cX9_placesMade 40 = .ok (.iload_n 2, 1) := by decide +kernel
theorem dX9_placesMade_41 : decode cX9_placesMade 41 = .ok (.ifCond .lt 21, 3) := by decide +kernel
theorem dX9_placesMade_44 : decode cX9_placesMade 44 = .ok (.iload_n 2, 1) := by decide +kernel
theorem dX9_placesMade_45 : decode cX9_placesMade 45 = .ok (.aload_n 0, 1) := by decide +kernel
theorem dX9_placesMade_46 : decode cX9_placesMade 46 = .ok (.getfield 9, 3) := by decide +kernel
theorem dX9_placesMade_49 : decode cX9_placesMade 49 = .ok (.arraylength, 1) := by decide +kernel
theorem dX9_placesMade_50 : decode cX9_placesMade 50 = .ok (.if_icmp .ge 12, 3) := by decide +kernel
theorem dX9_placesMade_53 : decode cX9_placesMade 53 = .ok (.aload_n 0, 1) := by decide +kernel
theorem dX9_placesMade_54 : decode cX9_placesMade 54 = .ok (.getfield 9, 3) := by decide +kernel
theorem dX9_placesMade_57 : decode cX9_placesMade 57 = .ok (.iload_n 2, 1) := by decide +kernel
theorem dX9_placesMade_58 : decode cX9_placesMade 58 = .ok (.iaload, 1) := by decide +kernel
theorem dX9_placesMade_59 : decode cX9_placesMade 59 = .ok (.goto 4, 3) := by decide +kernel
theorem dX9_placesMade_62 : decode cX9_placesMade 62 = .ok (.iconst 0, 1) := by decide +kernel
theorem dX9_placesMade_63 : decode cX9_placesMade 63 = .ok (.ireturn, 1) := by decide +kernel
theorem dX9_calledLeads_0 : decode cX9_calledLeads 0 = .ok (.iconst 0, 1) := by decide +kernel
theorem dX9_calledLeads_1 : decode cX9_calledLeads 1 = .ok (.istore_n 1, 1) := by decide +kernel
theorem dX9_calledLeads_2 : decode cX9_calledLeads 2 = .ok (.iconst 0, 1) := by decide +kernel
theorem dX9_calledLeads_3 : decode cX9_calledLeads 3 = .ok (.istore_n 2, 1) := by decide +kernel
theorem dX9_calledLeads_4 : decode cX9_calledLeads 4 = .ok (.iload_n 2, 1) := by decide +kernel
theorem dX9_calledLeads_5 : decode cX9_calledLeads 5 = .ok (.aload_n 0, 1) := by decide +kernel
theorem dX9_calledLeads_6 : decode cX9_calledLeads 6 = .ok (.getfield 31, 3) := by decide +kernel
theorem dX9_calledLeads_9 : decode cX9_calledLeads 9 = .ok (.if_icmp .ge 20, 3) := by decide +kernel
theorem dX9_calledLeads_12 : decode cX9_calledLeads 12 = .ok (.aload_n 0, 1) := by decide +kernel
theorem dX9_calledLeads_13 : decode cX9_calledLeads 13 = .ok (.iload_n 2, 1) := by decide +kernel
theorem dX9_calledLeads_14 : decode cX9_calledLeads 14 = .ok (.invokevirtual 44, 3) := by decide +kernel
theorem dX9_calledLeads_17 : decode cX9_calledLeads 17 = .ok (.ifCond .eq 6, 3) := by decide +kernel
theorem dX9_calledLeads_20 : decode cX9_calledLeads 20 = .ok (.iinc 1 1, 3) := by decide +kernel
theorem dX9_calledLeads_23 : decode cX9_calledLeads 23 = .ok (.iinc 2 1, 3) := by decide +kernel
theorem dX9_calledLeads_26 : decode cX9_calledLeads 26 = .ok (.goto (-22), 3) := by decide +kernel
theorem dX9_calledLeads_29 : decode cX9_calledLeads 29 = .ok (.iload_n 1, 1) := by decide +kernel
theorem dX9_calledLeads_30 : decode cX9_calledLeads 30 = .ok (.ireturn, 1) := by decide +kernel
theorem dX9_roundsBehindLead_0 : decode cX9_roundsBehindLead 0 = .ok (.aload_n 0, 1) := by decide +kernel
theorem dX9_roundsBehindLead_1 : decode cX9_roundsBehindLead 1 = .ok (.getfield 18, 3) := by decide +kernel
theorem dX9_roundsBehindLead_4 : decode cX9_roundsBehindLead 4 = .ok (.invokestatic 48, 3) := by decide +kernel
theorem dX9_roundsBehindLead_7 : decode cX9_roundsBehindLead 7 = .ok (.istore_n 2, 1) := by decide +kernel
theorem dX9_roundsBehindLead_8 : decode cX9_roundsBehindLead 8 = .ok (.iconst 0, 1) := by decide +kernel
theorem dX9_roundsBehindLead_9 : decode cX9_roundsBehindLead 9 = .ok (.istore_n 3, 1) := by decide +kernel
theorem dX9_roundsBehindLead_10 : decode cX9_roundsBehindLead 10 = .ok (.iload_n 3, 1) := by decide +kernel
theorem dX9_roundsBehindLead_11 : decode cX9_roundsBehindLead 11 = .ok (.aload_n 0, 1) := by decide +kernel
theorem dX9_roundsBehindLead_12 : decode cX9_roundsBehindLead 12 = .ok (.getfield 22, 3) := by decide +kernel
theorem dX9_roundsBehindLead_15 : decode cX9_roundsBehindLead 15 = .ok (.if_icmp .ge 24, 3) := by decide +kernel
theorem dX9_roundsBehindLead_18 : decode cX9_roundsBehindLead 18 = .ok (.iload_n 2, 1) := by decide +kernel
theorem dX9_roundsBehindLead_19 : decode cX9_roundsBehindLead 19 = .ok (.aload_n 0, 1) := by decide +kernel
theorem dX9_roundsBehindLead_20 : decode cX9_roundsBehindLead 20 = .ok (.iload_n 1, 1) := by decide +kernel
theorem dX9_roundsBehindLead_21 : decode cX9_roundsBehindLead 21 = .ok (.iload_n 3, 1) := by decide +kernel
theorem dX9_roundsBehindLead_22 : decode cX9_roundsBehindLead 22 = .ok (.invokevirtual 53, 3) := by decide +kernel
theorem dX9_roundsBehindLead_25 : decode cX9_roundsBehindLead 25 = .ok (.aload_n 0, 1) := by decide +kernel
theorem dX9_roundsBehindLead_26 : decode cX9_roundsBehindLead 26 = .ok (.getfield 18, 3) := by decide +kernel
theorem dX9_roundsBehindLead_29 : decode cX9_roundsBehindLead 29 = .ok (.invokestatic 57, 3) := by decide +kernel
theorem dX9_roundsBehindLead_32 : decode cX9_roundsBehindLead 32 = .ok (.istore_n 2, 1) := by decide +kernel
theorem dX9_roundsBehindLead_33 : decode cX9_roundsBehindLead 33 = .ok (.iinc 3 1, 3) := by decide +kernel
theorem dX9_roundsBehindLead_36 : decode cX9_roundsBehindLead 36 = .ok (.goto (-26), 3) := by decide +kernel
theorem dX9_roundsBehindLead_39 : decode cX9_roundsBehindLead 39 = .ok (.iload_n 2, 1) := by decide +kernel
theorem dX9_roundsBehindLead_40 : decode cX9_roundsBehindLead 40 = .ok (.ireturn, 1) := by decide +kernel
theorem dX9_plainCourse_0 : decode cX9_plainCourse 0 = .ok (.aload_n 0, 1) := by decide +kernel
theorem dX9_plainCourse_1 : decode cX9_plainCourse 1 = .ok (.getfield 18, 3) := by decide +kernel
theorem dX9_plainCourse_4 : decode cX9_plainCourse 4 = .ok (.invokestatic 48, 3) := by decide +kernel
theorem dX9_plainCourse_7 : decode cX9_plainCourse 7 = .ok (.istore_n 1, 1) := by decide +kernel
theorem dX9_plainCourse_8 : decode cX9_plainCourse 8 = .ok (.aload_n 0, 1) := by decide +kernel
theorem dX9_plainCourse_9 : decode cX9_plainCourse 9 = .ok (.iconst 0, 1) := by decide +kernel
theorem dX9_plainCourse_10 : decode cX9_plainCourse 10 = .ok (.invokevirtual 61, 3) := by decide +kernel
theorem dX9_plainCourse_13 : decode cX9_plainCourse 13 = .ok (.istore_n 2, 1) := by decide +kernel
theorem dX9_plainCourse_14 : decode cX9_plainCourse 14 = .ok (.iload_n 2, 1) := by decide +kernel
theorem dX9_plainCourse_15 : decode cX9_plainCourse 15 = .ok (.istore_n 3, 1) := by decide +kernel
theorem dX9_plainCourse_16 : decode cX9_plainCourse 16 = .ok (.iconst 1, 1) := by decide +kernel
theorem dX9_plainCourse_17 : decode cX9_plainCourse 17 = .ok (.istore 4, 2) := by decide +kernel
theorem dX9_plainCourse_19 : decode cX9_plainCourse 19 = .ok (.iload_n 3, 1) := by decide +kernel
theorem dX9_plainCourse_20 : decode cX9_plainCourse 20 = .ok (.iload_n 1, 1) := by decide +kernel
theorem dX9_plainCourse_21 : decode cX9_plainCourse 21 = .ok (.if_icmp .eq 27, 3) := by decide +kernel
theorem dX9_plainCourse_24 : decode cX9_plainCourse 24 = .ok (.iload 4, 2) := by decide +kernel
theorem dX9_plainCourse_26 : decode cX9_plainCourse 26 = .ok (.sipush 5040, 3) := by decide +kernel
theorem dX9_plainCourse_29 : decode cX9_plainCourse 29 = .ok (.if_icmp .ge 19, 3) := by decide +kernel
theorem dX9_plainCourse_32 : decode cX9_plainCourse 32 = .ok (.iload_n 3, 1) := by decide +kernel
theorem dX9_plainCourse_33 : decode cX9_plainCourse 33 = .ok (.iload_n 2, 1) := by decide +kernel
theorem dX9_plainCourse_34 : decode cX9_plainCourse 34 = .ok (.aload_n 0, 1) := by decide +kernel
theorem dX9_plainCourse_35 : decode cX9_plainCourse 35 = .ok (.getfield 18, 3) := by decide +kernel
theorem dX9_plainCourse_38 : decode cX9_plainCourse 38 = .ok (.invokestatic 64, 3) := by decide +kernel
theorem dX9_plainCourse_41 : decode cX9_plainCourse 41 = .ok (.istore_n 3, 1) := by decide +kernel
theorem dX9_plainCourse_42 : decode cX9_plainCourse 42 = .ok (.iinc 4 1, 3) := by decide +kernel
theorem dX9_plainCourse_45 : decode cX9_plainCourse 45 = .ok (.goto (-26), 3) := by decide +kernel
theorem dX9_plainCourse_48 : decode cX9_plainCourse 48 = .ok (.iload 4, 2) := by decide +kernel
theorem dX9_plainCourse_50 : decode cX9_plainCourse 50 = .ok (.ireturn, 1) := by decide +kernel
