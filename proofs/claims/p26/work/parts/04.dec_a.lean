theorem dX0_init_0 : decode cX0_init 0 = .ok (.aload_n 0, 1) := by decide +kernel
theorem dX0_init_1 : decode cX0_init 1 = .ok (.invokespecial 3, 3) := by decide +kernel
theorem dX0_init_4 : decode cX0_init 4 = .ok (.aload_n 0, 1) := by decide +kernel
theorem dX0_init_5 : decode cX0_init 5 = .ok (.iconst 4, 1) := by decide +kernel
theorem dX0_init_6 : decode cX0_init 6 = .ok (.anewarray 9, 3) := by decide +kernel
theorem dX0_init_9 : decode cX0_init 9 = .ok (.putfield 11, 3) := by decide +kernel
theorem dX0_init_12 : decode cX0_init 12 = .ok (.iconst 0, 1) := by decide +kernel
theorem dX0_init_13 : decode cX0_init 13 = .ok (.istore_n 1, 1) := by decide +kernel
theorem dX0_init_14 : decode cX0_init 14 = .ok (.iload_n 1, 1) := by decide +kernel
theorem dX0_init_15 : decode cX0_init 15 = .ok (.aload_n 0, 1) := by decide +kernel
theorem dX0_init_16 : decode cX0_init 16 = .ok (.getfield 11, 3) := by decide +kernel
theorem dX0_init_19 : decode cX0_init 19 = .ok (.arraylength, 1) := by decide +kernel
theorem dX0_init_20 : decode cX0_init 20 = .ok (.if_icmp .ge 22, 3) := by decide +kernel
theorem dX0_init_23 : decode cX0_init 23 = .ok (.aload_n 0, 1) := by decide +kernel
theorem dX0_init_24 : decode cX0_init 24 = .ok (.getfield 11, 3) := by decide +kernel
theorem dX0_init_27 : decode cX0_init 27 = .ok (.iload_n 1, 1) := by decide +kernel
theorem dX0_init_28 : decode cX0_init 28 = .ok (.new 9, 3) := by decide +kernel
theorem dX0_init_31 : decode cX0_init 31 = .ok (.dup, 1) := by decide +kernel
theorem dX0_init_32 : decode cX0_init 32 = .ok (.invokespecial 17, 3) := by decide +kernel
theorem dX0_init_35 : decode cX0_init 35 = .ok (.aastore, 1) := by decide +kernel
theorem dX0_init_36 : decode cX0_init 36 = .ok (.iinc 1 1, 3) := by decide +kernel
theorem dX0_init_39 : decode cX0_init 39 = .ok (.goto (-25), 3) := by decide +kernel
theorem dX0_init_42 : decode cX0_init 42 = .ok (.return_, 1) := by decide +kernel
theorem dX0_record_0 : decode cX0_record 0 = .ok (.aload_n 0, 1) := by decide +kernel
theorem dX0_record_1 : decode cX0_record 1 = .ok (.getfield 18, 3) := by decide +kernel
theorem dX0_record_4 : decode cX0_record 4 = .ok (.aload_n 0, 1) := by decide +kernel
theorem dX0_record_5 : decode cX0_record 5 = .ok (.getfield 11, 3) := by decide +kernel
theorem dX0_record_8 : decode cX0_record 8 = .ok (.arraylength, 1) := by decide +kernel
theorem dX0_record_9 : decode cX0_record 9 = .ok (.if_icmp .lt 7, 3) := by decide +kernel
theorem dX0_record_12 : decode cX0_record 12 = .ok (.aload_n 0, 1) := by decide +kernel
theorem dX0_record_13 : decode cX0_record 13 = .ok (.invokevirtual 22, 3) := by decide +kernel
theorem dX0_record_16 : decode cX0_record 16 = .ok (.aload_n 0, 1) := by decide +kernel
theorem dX0_record_17 : decode cX0_record 17 = .ok (.getfield 18, 3) := by decide +kernel
theorem dX0_record_20 : decode cX0_record 20 = .ok (.ifCond .lt 38, 3) := by decide +kernel
theorem dX0_record_23 : decode cX0_record 23 = .ok (.aload_n 0, 1) := by decide +kernel
theorem dX0_record_24 : decode cX0_record 24 = .ok (.getfield 18, 3) := by decide +kernel
theorem dX0_record_27 : decode cX0_record 27 = .ok (.aload_n 0, 1) := by decide +kernel
theorem dX0_record_28 : decode cX0_record 28 = .ok (.getfield 11, 3) := by decide +kernel
theorem dX0_record_31 : decode cX0_record 31 = .ok (.arraylength, 1) := by decide +kernel
theorem dX0_record_32 : decode cX0_record 32 = .ok (.if_icmp .ge 26, 3) := by decide +kernel
theorem dX0_record_35 : decode cX0_record 35 = .ok (.aload_n 0, 1) := by decide +kernel
theorem dX0_record_36 : decode cX0_record 36 = .ok (.getfield 11, 3) := by decide +kernel
theorem dX0_record_39 : decode cX0_record 39 = .ok (.aload_n 0, 1) := by decide +kernel
theorem dX0_record_40 : decode cX0_record 40 = .ok (.getfield 18, 3) := by decide +kernel
theorem dX0_record_43 : decode cX0_record 43 = .ok (.aaload, 1) := by decide +kernel
theorem dX0_record_44 : decode cX0_record 44 = .ok (.aload_n 1, 1) := by decide +kernel
theorem dX0_record_45 : decode cX0_record 45 = .ok (.invokevirtual 25, 3) := by decide +kernel
theorem dX0_record_48 : decode cX0_record 48 = .ok (.aload_n 0, 1) := by decide +kernel
theorem dX0_record_49 : decode cX0_record 49 = .ok (.dup, 1) := by decide +kernel
theorem dX0_record_50 : decode cX0_record 50 = .ok (.getfield 18, 3) := by decide +kernel
theorem dX0_record_53 : decode cX0_record 53 = .ok (.iconst 1, 1) := by decide +kernel
theorem dX0_record_54 : decode cX0_record 54 = .ok (.iadd, 1) := by decide +kernel
theorem dX0_record_55 : decode cX0_record 55 = .ok (.putfield 18, 3) := by decide +kernel
theorem dX0_record_58 : decode cX0_record 58 = .ok (.return_, 1) := by decide +kernel
theorem dX0_dropOldest_0 : decode cX0_dropOldest 0 = .ok (.aload_n 0, 1) := by decide +kernel
theorem dX0_dropOldest_1 : decode cX0_dropOldest 1 = .ok (.getfield 11, 3) := by decide +kernel
theorem dX0_dropOldest_4 : decode cX0_dropOldest 4 = .ok (.iconst 0, 1) := by decide +kernel
theorem dX0_dropOldest_5 : decode cX0_dropOldest 5 = .ok (.aaload, 1) := by decide +kernel
theorem dX0_dropOldest_6 : decode cX0_dropOldest 6 = .ok (.astore_n 1, 1) := by decide +kernel
theorem dX0_dropOldest_7 : decode cX0_dropOldest 7 = .ok (.iconst 1, 1) := by decide +kernel
theorem dX0_dropOldest_8 : decode cX0_dropOldest 8 = .ok (.istore_n 2, 1) := by decide +kernel
theorem dX0_dropOldest_9 : decode cX0_dropOldest 9 = .ok (.iload_n 2, 1) := by decide +kernel
theorem dX0_dropOldest_10 : decode cX0_dropOldest 10 = .ok (.aload_n 0, 1) := by decide +kernel
theorem dX0_dropOldest_11 : decode cX0_dropOldest 11 = .ok (.getfield 11, 3) := by decide +kernel
theorem dX0_dropOldest_14 : decode cX0_dropOldest 14 = .ok (.arraylength, 1) := by decide +kernel
theorem dX0_dropOldest_15 : decode cX0_dropOldest 15 = .ok (.if_icmp .ge 23, 3) := by decide +kernel
theorem dX0_dropOldest_18 : decode cX0_dropOldest 18 = .ok (.aload_n 0, 1) := by decide +kernel
theorem dX0_dropOldest_19 : decode cX0_dropOldest 19 = .ok (.getfield 11, 3) := by decide +kernel
theorem dX0_dropOldest_22 : decode cX0_dropOldest 22 = .ok (.iload_n 2, 1) := by decide +kernel
theorem dX0_dropOldest_23 : decode cX0_dropOldest 23 = .ok (.iconst 1, 1) := by decide +kernel
theorem dX0_dropOldest_24 : decode cX0_dropOldest 24 = .ok (.isub, 1) := by decide +kernel
theorem dX0_dropOldest_25 : decode cX0_dropOldest 25 = .ok (.aload_n 0, 1) := by decide +kernel
theorem dX0_dropOldest_26 : decode cX0_dropOldest 26 = .ok (.getfield 11, 3) := by decide +kernel
theorem dX0_dropOldest_29 : decode cX0_dropOldest 29 = .ok (.iload_n 2, 1) := by decide +kernel
theorem dX0_dropOldest_30 : decode cX0_dropOldest 30 = .ok (.aaload, 1) := by decide +kernel
theorem dX0_dropOldest_31 : decode cX0_dropOldest 31 = .ok (.aastore, 1) := by decide +kernel
theorem dX0_dropOldest_32 : decode cX0_dropOldest 32 = .ok (.iinc 2 1, 3) := by decide +kernel
theorem dX0_dropOldest_35 : decode cX0_dropOldest 35 = .ok (.goto (-26), 3) := by decide +kernel
theorem dX0_dropOldest_38 : decode cX0_dropOldest 38 = .ok (.aload_n 0, 1) := by decide +kernel
theorem dX0_dropOldest_39 : decode cX0_dropOldest 39 = .ok (.getfield 11, 3) := by decide +kernel
theorem dX0_dropOldest_42 : decode cX0_dropOldest 42 = .ok (.aload_n 0, 1) := by decide +kernel
theorem dX0_dropOldest_43 : decode cX0_dropOldest 43 = .ok (.getfield 11, 3) := by decide +kernel
theorem dX0_dropOldest_46 : decode cX0_dropOldest 46 = .ok (.arraylength, 1) := by decide +kernel
theorem dX0_dropOldest_47 : decode cX0_dropOldest 47 = .ok (.iconst 1, 1) := by decide +kernel
theorem dX0_dropOldest_48 : decode cX0_dropOldest 48 = .ok (.isub, 1) := by decide +kernel
theorem dX0_dropOldest_49 : decode cX0_dropOldest 49 = .ok (.aload_n 1, 1) := by decide +kernel
theorem dX0_dropOldest_50 : decode cX0_dropOldest 50 = .ok (.aastore, 1) := by decide +kernel
theorem dX0_dropOldest_51 : decode cX0_dropOldest 51 = .ok (.aload_n 0, 1) := by decide +kernel
theorem dX0_dropOldest_52 : decode cX0_dropOldest 52 = .ok (.aload_n 0, 1) := by decide +kernel
theorem dX0_dropOldest_53 : decode cX0_dropOldest 53 = .ok (.getfield 11, 3) := by decide +kernel
theorem dX0_dropOldest_56 : decode cX0_dropOldest 56 = .ok (.arraylength, 1) := by decide +kernel
theorem dX0_dropOldest_57 : decode cX0_dropOldest 57 = .ok (.iconst 1, 1) := by decide +kernel
theorem dX0_dropOldest_58 : decode cX0_dropOldest 58 = .ok (.isub, 1) := by decide +kernel
theorem dX0_dropOldest_59 : decode cX0_dropOldest 59 = .ok (.putfield 18, 3) := by decide +kernel
theorem dX0_dropOldest_62 : decode cX0_dropOldest 62 = .ok (.return_, 1) := by decide +kernel
theorem dX1_init_0 : decode cX1_init 0 = .ok (.aload_n 0, 1) := by decide +kernel
theorem dX1_init_1 : decode cX1_init 1 = .ok (.invokespecial 3, 3) := by decide +kernel
theorem dX1_init_4 : decode cX1_init 4 = .ok (.aload_n 0, 1) := by decide +kernel
theorem dX1_init_5 : decode cX1_init 5 = .ok (.new 9, 3) := by decide +kernel
theorem dX1_init_8 : decode cX1_init 8 = .ok (.dup, 1) := by decide +kernel
theorem dX1_init_9 : decode cX1_init 9 = .ok (.invokespecial 11, 3) := by decide +kernel
theorem dX1_init_12 : decode cX1_init 12 = .ok (.putfield 12, 3) := by decide +kernel
theorem dX1_init_15 : decode cX1_init 15 = .ok (.aload_n 0, 1) := by decide +kernel
theorem dX1_init_16 : decode cX1_init 16 = .ok (.new 9, 3) := by decide +kernel
theorem dX1_init_19 : decode cX1_init 19 = .ok (.dup, 1) := by decide +kernel
theorem dX1_init_20 : decode cX1_init 20 = .ok (.invokespecial 11, 3) := by decide +kernel
theorem dX1_init_23 : decode cX1_init 23 = .ok (.putfield 18, 3) := by decide +kernel
theorem dX1_init_26 : decode cX1_init 26 = .ok (.aload_n 0, 1) := by decide +kernel
theorem dX1_init_27 : decode cX1_init 27 = .ok (.iconst 3, 1) := by decide +kernel
theorem dX1_init_28 : decode cX1_init 28 = .ok (.newarray .int, 2) := by decide +kernel
theorem dX1_init_30 : decode cX1_init 30 = .ok (.putfield 21, 3) := by decide +kernel
theorem dX1_init_33 : decode cX1_init 33 = .ok (.aload_n 0, 1) := by decide +kernel
theorem dX1_init_34 : decode cX1_init 34 = .ok (.iconst 3, 1) := by decide +kernel
theorem dX1_init_35 : decode cX1_init 35 = .ok (.newarray .int, 2) := by decide +kernel
theorem dX1_init_37 : decode cX1_init 37 = .ok (.putfield 25, 3) := by decide +kernel
theorem dX1_init_40 : decode cX1_init 40 = .ok (.return_, 1) := by decide +kernel
theorem dX1_learn_0 : decode cX1_learn 0 = .ok (.aload_n 0, 1) := by decide +kernel
theorem dX1_learn_1 : decode cX1_learn 1 = .ok (.getfield 28, 3) := by decide +kernel
theorem dX1_learn_4 : decode cX1_learn 4 = .ok (.aload_n 1, 1) := by decide +kernel
theorem dX1_learn_5 : decode cX1_learn 5 = .ok (.getfield 32, 3) := by decide +kernel
theorem dX1_learn_8 : decode cX1_learn 8 = .ok (.if_icmp .ne 7, 3) := by decide +kernel
theorem dX1_learn_11 : decode cX1_learn 11 = .ok (.iconst 1, 1) := by decide +kernel
theorem dX1_learn_12 : decode cX1_learn 12 = .ok (.goto 4, 3) := by decide +kernel
theorem dX1_learn_15 : decode cX1_learn 15 = .ok (.iconst 0, 1) := by decide +kernel
theorem dX1_learn_16 : decode cX1_learn 16 = .ok (.istore_n 2, 1) := by decide +kernel
theorem dX1_learn_17 : decode cX1_learn 17 = .ok (.aload_n 0, 1) := by decide +kernel
theorem dX1_learn_18 : decode cX1_learn 18 = .ok (.aload_n 1, 1) := by decide +kernel
theorem dX1_learn_19 : decode cX1_learn 19 = .ok (.getfield 32, 3) := by decide +kernel
theorem dX1_learn_22 : decode cX1_learn 22 = .ok (.putfield 28, 3) := by decide +kernel
theorem dX1_learn_25 : decode cX1_learn 25 = .ok (.iconst 0, 1) := by decide +kernel
theorem dX1_learn_26 : decode cX1_learn 26 = .ok (.istore_n 3, 1) := by decide +kernel
theorem dX1_learn_27 : decode cX1_learn 27 = .ok (.iload_n 3, 1) := by decide +kernel
theorem dX1_learn_28 : decode cX1_learn 28 = .ok (.aload_n 0, 1) := by decide +kernel
theorem dX1_learn_29 : decode cX1_learn 29 = .ok (.getfield 21, 3) := by decide +kernel
theorem dX1_learn_32 : decode cX1_learn 32 = .ok (.arraylength, 1) := by decide +kernel
theorem dX1_learn_33 : decode cX1_learn 33 = .ok (.if_icmp .ge 69, 3) := by decide +kernel
theorem dX1_learn_36 : decode cX1_learn 36 = .ok (.iload_n 3, 1) := by decide +kernel
theorem dX1_learn_37 : decode cX1_learn 37 = .ok (.aload_n 0, 1) := by decide +kernel
theorem dX1_learn_38 : decode cX1_learn 38 = .ok (.getfield 25, 3) := by decide +kernel
theorem dX1_learn_41 : decode cX1_learn 41 = .ok (.arraylength, 1) := by decide +kernel
theorem dX1_learn_42 : decode cX1_learn 42 = .ok (.if_icmp .ge 60, 3) := by decide +kernel
theorem dX1_learn_45 : decode cX1_learn 45 = .ok (.aload_n 1, 1) := by decide +kernel
theorem dX1_learn_46 : decode cX1_learn 46 = .ok (.iload_n 3, 1) := by decide +kernel
theorem dX1_learn_47 : decode cX1_learn 47 = .ok (.invokevirtual 35, 3) := by decide +kernel
theorem dX1_learn_50 : decode cX1_learn 50 = .ok (.istore 4, 2) := by decide +kernel
theorem dX1_learn_52 : decode cX1_learn 52 = .ok (.iload_n 2, 1) := by decide +kernel
theorem dX1_learn_53 : decode cX1_learn 53 = .ok (.ifCond .eq 18, 3) := by decide +kernel
theorem dX1_learn_56 : decode cX1_learn 56 = .ok (.iload 4, 2) := by decide +kernel
theorem dX1_learn_58 : decode cX1_learn 58 = .ok (.aload_n 0, 1) := by decide +kernel
theorem dX1_learn_59 : decode cX1_learn 59 = .ok (.getfield 21, 3) := by decide +kernel
theorem dX1_learn_62 : decode cX1_learn 62 = .ok (.iload_n 3, 1) := by decide +kernel
theorem dX1_learn_63 : decode cX1_learn 63 = .ok (.iaload, 1) := by decide +kernel
theorem dX1_learn_64 : decode cX1_learn 64 = .ok (.if_icmp .ne 7, 3) := by decide +kernel
theorem dX1_learn_67 : decode cX1_learn 67 = .ok (.iconst 1, 1) := by decide +kernel
theorem dX1_learn_68 : decode cX1_learn 68 = .ok (.goto 4, 3) := by decide +kernel
theorem dX1_learn_71 : decode cX1_learn 71 = .ok (.iconst 0, 1) := by decide +kernel
theorem dX1_learn_72 : decode cX1_learn 72 = .ok (.istore_n 2, 1) := by decide +kernel
theorem dX1_learn_73 : decode cX1_learn 73 = .ok (.aload_n 0, 1) := by decide +kernel
theorem dX1_learn_74 : decode cX1_learn 74 = .ok (.getfield 21, 3) := by decide +kernel
theorem dX1_learn_77 : decode cX1_learn 77 = .ok (.iload_n 3, 1) := by decide +kernel
theorem dX1_learn_78 : decode cX1_learn 78 = .ok (.iload 4, 2) := by decide +kernel
theorem dX1_learn_80 : decode cX1_learn 80 = .ok (.iastore, 1) := by decide +kernel
theorem dX1_learn_81 : decode cX1_learn 81 = .ok (.aload_n 0, 1) := by decide +kernel
theorem dX1_learn_82 : decode cX1_learn 82 = .ok (.getfield 25, 3) := by decide +kernel
theorem dX1_learn_85 : decode cX1_learn 85 = .ok (.iload_n 3, 1) := by decide +kernel
theorem dX1_learn_86 : decode cX1_learn 86 = .ok (.iload 4, 2) := by decide +kernel
theorem dX1_learn_88 : decode cX1_learn 88 = .ok (.aload_n 0, 1) := by decide +kernel
theorem dX1_learn_89 : decode cX1_learn 89 = .ok (.getfield 28, 3) := by decide +kernel
theorem dX1_learn_92 : decode cX1_learn 92 = .ok (.invokestatic 39, 3) := by decide +kernel
theorem dX1_learn_95 : decode cX1_learn 95 = .ok (.iastore, 1) := by decide +kernel
theorem dX1_learn_96 : decode cX1_learn 96 = .ok (.iinc 3 1, 3) := by decide +kernel
theorem dX1_learn_99 : decode cX1_learn 99 = .ok (.goto (-72), 3) := by decide +kernel
theorem dX1_learn_102 : decode cX1_learn 102 = .ok (.iload_n 2, 1) := by decide +kernel
theorem dX1_learn_103 : decode cX1_learn 103 = .ok (.ifCond .ne 26, 3) := by decide +kernel
theorem dX1_learn_106 : decode cX1_learn 106 = .ok (.aload_n 0, 1) := by decide +kernel
theorem dX1_learn_107 : decode cX1_learn 107 = .ok (.getfield 12, 3) := by decide +kernel
theorem dX1_learn_110 : decode cX1_learn 110 = .ok (.aload_n 0, 1) := by decide +kernel
theorem dX1_learn_111 : decode cX1_learn 111 = .ok (.getfield 28, 3) := by decide +kernel
theorem dX1_learn_114 : decode cX1_learn 114 = .ok (.invokestatic 45, 3) := by decide +kernel
theorem dX1_learn_117 : decode cX1_learn 117 = .ok (.iconst 0, 1) := by decide +kernel
theorem dX1_learn_118 : decode cX1_learn 118 = .ok (.aload_n 0, 1) := by decide +kernel
theorem dX1_learn_119 : decode cX1_learn 119 = .ok (.getfield 25, 3) := by decide +kernel
theorem dX1_learn_122 : decode cX1_learn 122 = .ok (.aload_n 0, 1) := by decide +kernel
theorem dX1_learn_123 : decode cX1_learn 123 = .ok (.getfield 28, 3) := by decide +kernel
theorem dX1_learn_126 : decode cX1_learn 126 = .ok (.invokevirtual 48, 3) := by decide +kernel
theorem dX1_learn_129 : decode cX1_learn 129 = .ok (.return_, 1) := by decide +kernel
theorem dX1_leadsFrom_0 : decode cX1_leadsFrom 0 = .ok (.aload_n 0, 1) := by decide +kernel
theorem dX1_leadsFrom_1 : decode cX1_leadsFrom 1 = .ok (.getfield 12, 3) := by decide +kernel
theorem dX1_leadsFrom_4 : decode cX1_leadsFrom 4 = .ok (.iload_n 1, 1) := by decide +kernel
theorem dX1_leadsFrom_5 : decode cX1_leadsFrom 5 = .ok (.invokevirtual 52, 3) := by decide +kernel
theorem dX1_leadsFrom_8 : decode cX1_leadsFrom 8 = .ok (.ireturn, 1) := by decide +kernel
theorem dX2_init_0 : decode cX2_init 0 = .ok (.aload_n 0, 1) := by decide +kernel
theorem dX2_init_1 : decode cX2_init 1 = .ok (.invokespecial 3, 3) := by decide +kernel
theorem dX2_init_4 : decode cX2_init 4 = .ok (.aload_n 0, 1) := by decide +kernel
theorem dX2_init_5 : decode cX2_init 5 = .ok (.bipush 20, 2) := by decide +kernel
theorem dX2_init_7 : decode cX2_init 7 = .ok (.newarray .int, 2) := by decide +kernel
theorem dX2_init_9 : decode cX2_init 9 = .ok (.putfield 9, 3) := by decide +kernel
theorem dX2_init_12 : decode cX2_init 12 = .ok (.return_, 1) := by decide +kernel
theorem dX2_read_0 : decode cX2_read 0 = .ok (.aload_n 0, 1) := by decide +kernel
theorem dX2_read_1 : decode cX2_read 1 = .ok (.iconst 0, 1) := by decide +kernel
theorem dX2_read_2 : decode cX2_read 2 = .ok (.putfield 15, 3) := by decide +kernel
theorem dX2_read_5 : decode cX2_read 5 = .ok (.aload_n 0, 1) := by decide +kernel
theorem dX2_read_6 : decode cX2_read 6 = .ok (.invokevirtual 19, 3) := by decide +kernel
theorem dX2_read_9 : decode cX2_read 9 = .ok (.iconst 0, 1) := by decide +kernel
theorem dX2_read_10 : decode cX2_read 10 = .ok (.istore 4, 2) := by decide +kernel
theorem dX2_read_12 : decode cX2_read 12 = .ok (.iload 4, 2) := by decide +kernel
theorem dX2_read_14 : decode cX2_read 14 = .ok (.iload_n 2, 1) := by decide +kernel
theorem dX2_read_15 : decode cX2_read 15 = .ok (.if_icmp .ge 31, 3) := by decide +kernel
theorem dX2_read_18 : decode cX2_read 18 = .ok (.iload 4, 2) := by decide +kernel
theorem dX2_read_20 : decode cX2_read 20 = .ok (.aload_n 1, 1) := by decide +kernel
theorem dX2_read_21 : decode cX2_read 21 = .ok (.arraylength, 1) := by decide +kernel
theorem dX2_read_22 : decode cX2_read 22 = .ok (.if_icmp .ge 24, 3) := by decide +kernel
theorem dX2_read_25 : decode cX2_read 25 = .ok (.aload_n 0, 1) := by decide +kernel
theorem dX2_read_26 : decode cX2_read 26 = .ok (.aload_n 1, 1) := by decide +kernel
theorem dX2_read_27 : decode cX2_read 27 = .ok (.iload 4, 2) := by decide +kernel
theorem dX2_read_29 : decode cX2_read 29 = .ok (.caload, 1) := by decide +kernel
theorem dX2_read_30 : decode cX2_read 30 = .ok (.iload_n 3, 1) := by decide +kernel
theorem dX2_read_31 : decode cX2_read 31 = .ok (.invokevirtual 22, 3) := by decide +kernel
theorem dX2_read_34 : decode cX2_read 34 = .ok (.ifCond .ne 6, 3) := by decide +kernel
theorem dX2_read_37 : decode cX2_read 37 = .ok (.iload 4, 2) := by decide +kernel
theorem dX2_read_39 : decode cX2_read 39 = .ok (.ireturn, 1) := by decide +kernel
theorem dX2_read_40 : decode cX2_read 40 = .ok (.iinc 4 1, 3) := by decide +kernel
theorem dX2_read_43 : decode cX2_read 43 = .ok (.goto (-31), 3) := by decide +kernel
theorem dX2_read_46 : decode cX2_read 46 = .ok (.aload_n 0, 1) := by decide +kernel
theorem dX2_read_47 : decode cX2_read 47 = .ok (.iload_n 3, 1) := by decide +kernel
theorem dX2_read_48 : decode cX2_read 48 = .ok (.invokevirtual 26, 3) := by decide +kernel
theorem dX2_read_51 : decode cX2_read 51 = .ok (.ifCond .ne 5, 3) := by decide +kernel
theorem dX2_read_54 : decode cX2_read 54 = .ok (.iload_n 2, 1) := by decide +kernel
theorem dX2_read_55 : decode cX2_read 55 = .ok (.ireturn, 1) := by decide +kernel
theorem dX2_read_56 : decode cX2_read 56 = .ok (.aload_n 0, 1) := by decide +kernel
theorem dX2_read_57 : decode cX2_read 57 = .ok (.invokevirtual 30, 3) := by decide +kernel
theorem dX2_read_60 : decode cX2_read 60 = .ok (.bipush (-4), 2) := by decide +kernel
theorem dX2_read_62 : decode cX2_read 62 = .ok (.ireturn, 1) := by decide +kernel
theorem dX2_accepts_0 : decode cX2_accepts 0 = .ok (.iload_n 1, 1) := by decide +kernel
theorem dX2_accepts_1 : decode cX2_accepts 1 = .ok (.bipush 46, 2) := by decide +kernel
theorem dX2_accepts_3 : decode cX2_accepts 3 = .ok (.if_icmp .ne 9, 3) := by decide +kernel
theorem dX2_accepts_6 : decode cX2_accepts 6 = .ok (.aload_n 0, 1) := by decide +kernel
theorem dX2_accepts_7 : decode cX2_accepts 7 = .ok (.iload_n 2, 1) := by decide +kernel
theorem dX2_accepts_8 : decode cX2_accepts 8 = .ok (.invokevirtual 33, 3) := by decide +kernel
theorem dX2_accepts_11 : decode cX2_accepts 11 = .ok (.ireturn, 1) := by decide +kernel
theorem dX2_accepts_12 : decode cX2_accepts 12 = .ok (.iload_n 1, 1) := by decide +kernel
theorem dX2_accepts_13 : decode cX2_accepts 13 = .ok (.bipush 120, 2) := by decide +kernel
theorem dX2_accepts_15 : decode cX2_accepts 15 = .ok (.if_icmp .ne 9, 3) := by decide +kernel
theorem dX2_accepts_18 : decode cX2_accepts 18 = .ok (.aload_n 0, 1) := by decide +kernel
theorem dX2_accepts_19 : decode cX2_accepts 19 = .ok (.iload_n 2, 1) := by decide +kernel
theorem dX2_accepts_20 : decode cX2_accepts 20 = .ok (.invokevirtual 36, 3) := by decide +kernel
theorem dX2_accepts_23 : decode cX2_accepts 23 = .ok (.ireturn, 1) := by decide +kernel
theorem dX2_accepts_24 : decode cX2_accepts 24 = .ok (.aload_n 0, 1) := by decide +kernel
theorem dX2_accepts_25 : decode cX2_accepts 25 = .ok (.iload_n 1, 1) := by decide +kernel
theorem dX2_accepts_26 : decode cX2_accepts 26 = .ok (.bipush 48, 2) := by decide +kernel
theorem dX2_accepts_28 : decode cX2_accepts 28 = .ok (.isub, 1) := by decide +kernel
theorem dX2_accepts_29 : decode cX2_accepts 29 = .ok (.iload_n 2, 1) := by decide +kernel
theorem dX2_accepts_30 : decode cX2_accepts 30 = .ok (.invokevirtual 39, 3) := by decide +kernel
theorem dX2_accepts_33 : decode cX2_accepts 33 = .ok (.ireturn, 1) := by decide +kernel
theorem dX2_acceptsDot_0 : decode cX2_acceptsDot 0 = .ok (.aload_n 0, 1) := by decide +kernel
theorem dX2_acceptsDot_1 : decode cX2_acceptsDot 1 = .ok (.getfield 15, 3) := by decide +kernel
theorem dX2_acceptsDot_4 : decode cX2_acceptsDot 4 = .ok (.bipush 19, 2) := by decide +kernel
theorem dX2_acceptsDot_6 : decode cX2_acceptsDot 6 = .ok (.if_icmp .ge 11, 3) := by decide +kernel
theorem dX2_acceptsDot_9 : decode cX2_acceptsDot 9 = .ok (.aload_n 0, 1) := by decide +kernel
theorem dX2_acceptsDot_10 : decode cX2_acceptsDot 10 = .ok (.iload_n 1, 1) := by decide +kernel
theorem dX2_acceptsDot_11 : decode cX2_acceptsDot 11 = .ok (.invokevirtual 26, 3) := by decide +kernel
theorem dX2_acceptsDot_14 : decode cX2_acceptsDot 14 = .ok (.ifCond .ne 5, 3) := by decide +kernel
theorem dX2_acceptsDot_17 : decode cX2_acceptsDot 17 = .ok (.iconst 0, 1) := by decide +kernel
theorem dX2_acceptsDot_18 : decode cX2_acceptsDot 18 = .ok (.ireturn, 1) := by decide +kernel
theorem dX2_acceptsDot_19 : decode cX2_acceptsDot 19 = .ok (.aload_n 0, 1) := by decide +kernel
theorem dX2_acceptsDot_20 : decode cX2_acceptsDot 20 = .ok (.invokevirtual 30, 3) := by decide +kernel
theorem dX2_acceptsDot_23 : decode cX2_acceptsDot 23 = .ok (.iconst 1, 1) := by decide +kernel
theorem dX2_acceptsDot_24 : decode cX2_acceptsDot 24 = .ok (.ireturn, 1) := by decide +kernel
theorem dX2_acceptsCross_0 : decode cX2_acceptsCross 0 = .ok (.aload_n 0, 1) := by decide +kernel
theorem dX2_acceptsCross_1 : decode cX2_acceptsCross 1 = .ok (.getfield 43, 3) := by decide +kernel
theorem dX2_acceptsCross_4 : decode cX2_acceptsCross 4 = .ok (.ifCond .ne 16, 3) := by decide +kernel
theorem dX2_acceptsCross_7 : decode cX2_acceptsCross 7 = .ok (.aload_n 0, 1) := by decide +kernel
theorem dX2_acceptsCross_8 : decode cX2_acceptsCross 8 = .ok (.getfield 47, 3) := by decide +kernel
theorem dX2_acceptsCross_11 : decode cX2_acceptsCross 11 = .ok (.ifCond .gt 9, 3) := by decide +kernel
theorem dX2_acceptsCross_14 : decode cX2_acceptsCross 14 = .ok (.iload_n 1, 1) := by decide +kernel
theorem dX2_acceptsCross_15 : decode cX2_acceptsCross 15 = .ok (.iconst 2, 1) := by decide +kernel
theorem dX2_acceptsCross_16 : decode cX2_acceptsCross 16 = .ok (.irem, 1) := by decide +kernel
theorem dX2_acceptsCross_17 : decode cX2_acceptsCross 17 = .ok (.ifCond .eq 5, 3) := by decide +kernel
theorem dX2_acceptsCross_20 : decode cX2_acceptsCross 20 = .ok (.iconst 0, 1) := by decide +kernel
theorem dX2_acceptsCross_21 : decode cX2_acceptsCross 21 = .ok (.ireturn, 1) := by decide +kernel
theorem dX2_acceptsCross_22 : decode cX2_acceptsCross 22 = .ok (.aload_n 0, 1) := by decide +kernel
theorem dX2_acceptsCross_23 : decode cX2_acceptsCross 23 = .ok (.iconst 1, 1) := by decide +kernel
theorem dX2_acceptsCross_24 : decode cX2_acceptsCross 24 = .ok (.putfield 43, 3) := by decide +kernel
theorem dX2_acceptsCross_27 : decode cX2_acceptsCross 27 = .ok (.iconst 1, 1) := by decide +kernel
theorem dX2_acceptsCross_28 : decode cX2_acceptsCross 28 = .ok (.ireturn, 1) := by decide +kernel
theorem dX2_acceptsPlace_0 : decode cX2_acceptsPlace 0 = .ok (.aload_n 0, 1) := by decide +kernel
theorem dX2_acceptsPlace_1 : decode cX2_acceptsPlace 1 = .ok (.getfield 43, 3) := by decide +kernel
theorem dX2_acceptsPlace_4 : decode cX2_acceptsPlace 4 = .ok (.ifCond .ne 27, 3) := by decide +kernel
theorem dX2_acceptsPlace_7 : decode cX2_acceptsPlace 7 = .ok (.iload_n 1, 1) := by decide +kernel
theorem dX2_acceptsPlace_8 : decode cX2_acceptsPlace 8 = .ok (.aload_n 0, 1) := by decide +kernel
theorem dX2_acceptsPlace_9 : decode cX2_acceptsPlace 9 = .ok (.getfield 47, 3) := by decide +kernel
theorem dX2_acceptsPlace_12 : decode cX2_acceptsPlace 12 = .ok (.if_icmp .le 19, 3) := by decide +kernel
theorem dX2_acceptsPlace_15 : decode cX2_acceptsPlace 15 = .ok (.iload_n 1, 1) := by decide +kernel
theorem dX2_acceptsPlace_16 : decode cX2_acceptsPlace 16 = .ok (.iload_n 2, 1) := by decide +kernel
theorem dX2_acceptsPlace_17 : decode cX2_acceptsPlace 17 = .ok (.if_icmp .gt 14, 3) := by decide +kernel
theorem dX2_acceptsPlace_20 : decode cX2_acceptsPlace 20 = .ok (.iload_n 1, 1) := by decide +kernel
theorem dX2_acceptsPlace_21 : decode cX2_acceptsPlace 21 = .ok (.aload_n 0, 1) := by decide +kernel
theorem dX2_acceptsPlace_22 : decode cX2_acceptsPlace 22 = .ok (.getfield 47, 3) := by decide +kernel
theorem dX2_acceptsPlace_25 : decode cX2_acceptsPlace 25 = .ok (.isub, 1) := by decide +kernel
theorem dX2_acceptsPlace_26 : decode cX2_acceptsPlace 26 = .ok (.iconst 2, 1) := by decide +kernel
theorem dX2_acceptsPlace_27 : decode cX2_acceptsPlace 27 = .ok (.irem, 1) := by decide +kernel
theorem dX2_acceptsPlace_28 : decode cX2_acceptsPlace 28 = .ok (.ifCond .ne 5, 3) := by decide +kernel
theorem dX2_acceptsPlace_31 : decode cX2_acceptsPlace 31 = .ok (.iconst 0, 1) := by decide +kernel
theorem dX2_acceptsPlace_32 : decode cX2_acceptsPlace 32 = .ok (.ireturn, 1) := by decide +kernel
theorem dX2_acceptsPlace_33 : decode cX2_acceptsPlace 33 = .ok (.aload_n 0, 1) := by decide +kernel
theorem dX2_acceptsPlace_34 : decode cX2_acceptsPlace 34 = .ok (.getfield 50, 3) := by decide +kernel
theorem dX2_acceptsPlace_37 : decode cX2_acceptsPlace 37 = .ok (.iload_n 1, 1) := by decide +kernel
theorem dX2_acceptsPlace_38 : decode cX2_acceptsPlace 38 = .ok (.invokestatic 53, 3) := by decide +kernel
theorem dX2_acceptsPlace_41 : decode cX2_acceptsPlace 41 = .ok (.ior, 1) := by decide +kernel
theorem dX2_acceptsPlace_42 : decode cX2_acceptsPlace 42 = .ok (.istore_n 3, 1) := by decide +kernel
theorem dX2_acceptsPlace_43 : decode cX2_acceptsPlace 43 = .ok (.iload_n 3, 1) := by decide +kernel
theorem dX2_acceptsPlace_44 : decode cX2_acceptsPlace 44 = .ok (.iload_n 1, 1) := by decide +kernel
theorem dX2_acceptsPlace_45 : decode cX2_acceptsPlace 45 = .ok (.iconst 1, 1) := by decide +kernel
theorem dX2_acceptsPlace_46 : decode cX2_acceptsPlace 46 = .ok (.iadd, 1) := by decide +kernel
theorem dX2_acceptsPlace_47 : decode cX2_acceptsPlace 47 = .ok (.invokestatic 53, 3) := by decide +kernel
theorem dX2_acceptsPlace_50 : decode cX2_acceptsPlace 50 = .ok (.iconst 1, 1) := by decide +kernel
theorem dX2_acceptsPlace_51 : decode cX2_acceptsPlace 51 = .ok (.isub, 1) := by decide +kernel
theorem dX2_acceptsPlace_52 : decode cX2_acceptsPlace 52 = .ok (.if_icmp .ne 7, 3) := by decide +kernel
theorem dX2_acceptsPlace_55 : decode cX2_acceptsPlace 55 = .ok (.iconst 1, 1) := by decide +kernel
theorem dX2_acceptsPlace_56 : decode cX2_acceptsPlace 56 = .ok (.goto 4, 3) := by decide +kernel
theorem dX2_acceptsPlace_59 : decode cX2_acceptsPlace 59 = .ok (.iconst 0, 1) := by decide +kernel
theorem dX2_acceptsPlace_60 : decode cX2_acceptsPlace 60 = .ok (.istore 4, 2) := by decide +kernel
theorem dX2_acceptsPlace_62 : decode cX2_acceptsPlace 62 = .ok (.iload 4, 2) := by decide +kernel
theorem dX2_acceptsPlace_64 : decode cX2_acceptsPlace 64 = .ok (.ifCond .eq 12, 3) := by decide +kernel
theorem dX2_acceptsPlace_67 : decode cX2_acceptsPlace 67 = .ok (.iload_n 1, 1) := by decide +kernel
theorem dX2_acceptsPlace_68 : decode cX2_acceptsPlace 68 = .ok (.iload_n 2, 1) := by decide +kernel
theorem dX2_acceptsPlace_69 : decode cX2_acceptsPlace 69 = .ok (.iconst 1, 1) := by decide +kernel
theorem dX2_acceptsPlace_70 : decode cX2_acceptsPlace 70 = .ok (.isub, 1) := by decide +kernel
theorem dX2_acceptsPlace_71 : decode cX2_acceptsPlace 71 = .ok (.if_icmp .lt 5, 3) := by decide +kernel
theorem dX2_acceptsPlace_74 : decode cX2_acceptsPlace 74 = .ok (.iconst 0, 1) := by decide +kernel
theorem dX2_acceptsPlace_75 : decode cX2_acceptsPlace 75 = .ok (.ireturn, 1) := by decide +kernel
theorem dX2_acceptsPlace_76 : decode cX2_acceptsPlace 76 = .ok (.aload_n 0, 1) := by decide +kernel
theorem dX2_acceptsPlace_77 : decode cX2_acceptsPlace 77 = .ok (.iload_n 3, 1) := by decide +kernel
theorem dX2_acceptsPlace_78 : decode cX2_acceptsPlace 78 = .ok (.putfield 50, 3) := by decide +kernel
theorem dX2_acceptsPlace_81 : decode cX2_acceptsPlace 81 = .ok (.aload_n 0, 1) := by decide +kernel
theorem dX2_acceptsPlace_82 : decode cX2_acceptsPlace 82 = .ok (.iload_n 1, 1) := by decide +kernel
theorem dX2_acceptsPlace_83 : decode cX2_acceptsPlace 83 = .ok (.putfield 47, 3) := by decide +kernel
theorem dX2_acceptsPlace_86 : decode cX2_acceptsPlace 86 = .ok (.iconst 1, 1) := by decide +kernel
theorem dX2_acceptsPlace_87 : decode cX2_acceptsPlace 87 = .ok (.ireturn, 1) := by decide +kernel
theorem dX2_isChangeRight_0 : decode cX2_isChangeRight 0 = .ok (.aload_n 0, 1) := by decide +kernel
theorem dX2_isChangeRight_1 : decode cX2_isChangeRight 1 = .ok (.getfield 43, 3) := by decide +kernel
theorem dX2_isChangeRight_4 : decode cX2_isChangeRight 4 = .ok (.ifCond .ne 21, 3) := by decide +kernel
theorem dX2_isChangeRight_7 : decode cX2_isChangeRight 7 = .ok (.aload_n 0, 1) := by decide +kernel
theorem dX2_isChangeRight_8 : decode cX2_isChangeRight 8 = .ok (.getfield 47, 3) := by decide +kernel
theorem dX2_isChangeRight_11 : decode cX2_isChangeRight 11 = .ok (.ifCond .le 18, 3) := by decide +kernel
theorem dX2_isChangeRight_14 : decode cX2_isChangeRight 14 = .ok (.iload_n 1, 1) := by decide +kernel
theorem dX2_isChangeRight_15 : decode cX2_isChangeRight 15 = .ok (.aload_n 0, 1) := by decide +kernel
theorem dX2_isChangeRight_16 : decode cX2_isChangeRight 16 = .ok (.getfield 47, 3) := by decide +kernel
theorem dX2_isChangeRight_19 : decode cX2_isChangeRight 19 = .ok (.isub, 1) := by decide +kernel
theorem dX2_isChangeRight_20 : decode cX2_isChangeRight 20 = .ok (.iconst 2, 1) := by decide +kernel
theorem dX2_isChangeRight_21 : decode cX2_isChangeRight 21 = .ok (.irem, 1) := by decide +kernel
theorem dX2_isChangeRight_22 : decode cX2_isChangeRight 22 = .ok (.ifCond .ne 7, 3) := by decide +kernel
theorem dX2_isChangeRight_25 : decode cX2_isChangeRight 25 = .ok (.iconst 1, 1) := by decide +kernel
theorem dX2_isChangeRight_26 : decode cX2_isChangeRight 26 = .ok (.goto 4, 3) := by decide +kernel
theorem dX2_isChangeRight_29 : decode cX2_isChangeRight 29 = .ok (.iconst 0, 1) := by decide +kernel
theorem dX2_isChangeRight_30 : decode cX2_isChangeRight 30 = .ok (.ireturn, 1) := by decide +kernel
theorem dX2_keepChange_0 : decode cX2_keepChange 0 = .ok (.aload_n 0, 1) := by decide +kernel
theorem dX2_keepChange_1 : decode cX2_keepChange 1 = .ok (.getfield 15, 3) := by decide +kernel
theorem dX2_keepChange_4 : decode cX2_keepChange 4 = .ok (.ifCond .lt 38, 3) := by decide +kernel
theorem dX2_keepChange_7 : decode cX2_keepChange 7 = .ok (.aload_n 0, 1) := by decide +kernel
theorem dX2_keepChange_8 : decode cX2_keepChange 8 = .ok (.getfield 15, 3) := by decide +kernel
theorem dX2_keepChange_11 : decode cX2_keepChange 11 = .ok (.aload_n 0, 1) := by decide +kernel
theorem dX2_keepChange_12 : decode cX2_keepChange 12 = .ok (.getfield 9, 3) := by decide +kernel
theorem dX2_keepChange_15 : decode cX2_keepChange 15 = .ok (.arraylength, 1) := by decide +kernel
theorem dX2_keepChange_16 : decode cX2_keepChange 16 = .ok (.if_icmp .ge 26, 3) := by decide +kernel
theorem dX2_keepChange_19 : decode cX2_keepChange 19 = .ok (.aload_n 0, 1) := by decide +kernel
theorem dX2_keepChange_20 : decode cX2_keepChange 20 = .ok (.getfield 9, 3) := by decide +kernel
theorem dX2_keepChange_23 : decode cX2_keepChange 23 = .ok (.aload_n 0, 1) := by decide +kernel
theorem dX2_keepChange_24 : decode cX2_keepChange 24 = .ok (.getfield 15, 3) := by decide +kernel
theorem dX2_keepChange_27 : decode cX2_keepChange 27 = .ok (.aload_n 0, 1) := by decide +kernel
theorem dX2_keepChange_28 : decode cX2_keepChange 28 = .ok (.getfield 50, 3) := by decide +kernel
theorem dX2_keepChange_31 : decode cX2_keepChange 31 = .ok (.iastore, 1) := by decide +kernel
theorem dX2_keepChange_32 : decode cX2_keepChange 32 = .ok (.aload_n 0, 1) := by decide +kernel
theorem dX2_keepChange_33 : decode cX2_keepChange 33 = .ok (.dup, 1) := by decide +kernel
theorem dX2_keepChange_34 : decode cX2_keepChange 34 = .ok (.getfield 15, 3) := by decide +kernel
theorem dX2_keepChange_37 : decode cX2_keepChange 37 = .ok (.iconst 1, 1) := by decide +kernel
theorem dX2_keepChange_38 : decode cX2_keepChange 38 = .ok (.iadd, 1) := by decide +kernel
theorem dX2_keepChange_39 : decode cX2_keepChange 39 = .ok (.putfield 15, 3) := by decide +kernel
theorem dX2_keepChange_42 : decode cX2_keepChange 42 = .ok (.aload_n 0, 1) := by decide +kernel
theorem dX2_keepChange_43 : decode cX2_keepChange 43 = .ok (.invokevirtual 19, 3) := by decide +kernel
theorem dX2_keepChange_46 : decode cX2_keepChange 46 = .ok (.return_, 1) := by decide +kernel
theorem dX2_beginChange_0 : decode cX2_beginChange 0 = .ok (.aload_n 0, 1) := by decide +kernel
theorem dX2_beginChange_1 : decode cX2_beginChange 1 = .ok (.iconst 0, 1) := by decide +kernel
theorem dX2_beginChange_2 : decode cX2_beginChange 2 = .ok (.putfield 50, 3) := by decide +kernel
theorem dX2_beginChange_5 : decode cX2_beginChange 5 = .ok (.aload_n 0, 1) := by decide +kernel
theorem dX2_beginChange_6 : decode cX2_beginChange 6 = .ok (.iconst 0, 1) := by decide +kernel
theorem dX2_beginChange_7 : decode cX2_beginChange 7 = .ok (.putfield 47, 3) := by decide +kernel
theorem dX2_beginChange_10 : decode cX2_beginChange 10 = .ok (.aload_n 0, 1) := by decide +kernel
theorem dX2_beginChange_11 : decode cX2_beginChange 11 = .ok (.iconst 0, 1) := by decide +kernel
theorem dX2_beginChange_12 : decode cX2_beginChange 12 = .ok (.putfield 43, 3) := by decide +kernel
theorem dX2_beginChange_15 : decode cX2_beginChange 15 = .ok (.return_, 1) := by decide +kernel
theorem dX3_init_0 : decode cX3_init 0 = .ok (.aload_n 0, 1) := by decide +kernel
theorem dX3_init_1 : decode cX3_init 1 = .ok (.invokespecial 3, 3) := by decide +kernel
theorem dX3_init_4 : decode cX3_init 4 = .ok (.aload_n 0, 1) := by decide +kernel
theorem dX3_init_5 : decode cX3_init 5 = .ok (.bipush 80, 2) := by decide +kernel
theorem dX3_init_7 : decode cX3_init 7 = .ok (.newarray .char, 2) := by decide +kernel
theorem dX3_init_9 : decode cX3_init 9 = .ok (.putfield 9, 3) := by decide +kernel
theorem dX3_init_12 : decode cX3_init 12 = .ok (.return_, 1) := by decide +kernel
theorem dX3_put_0 : decode cX3_put 0 = .ok (.aload_n 0, 1) := by decide +kernel
theorem dX3_put_1 : decode cX3_put 1 = .ok (.getfield 15, 3) := by decide +kernel
theorem dX3_put_4 : decode cX3_put 4 = .ok (.ifCond .lt 35, 3) := by decide +kernel
theorem dX3_put_7 : decode cX3_put 7 = .ok (.aload_n 0, 1) := by decide +kernel
theorem dX3_put_8 : decode cX3_put 8 = .ok (.getfield 15, 3) := by decide +kernel
theorem dX3_put_11 : decode cX3_put 11 = .ok (.aload_n 0, 1) := by decide +kernel
theorem dX3_put_12 : decode cX3_put 12 = .ok (.getfield 9, 3) := by decide +kernel
theorem dX3_put_15 : decode cX3_put 15 = .ok (.arraylength, 1) := by decide +kernel
theorem dX3_put_16 : decode cX3_put 16 = .ok (.if_icmp .ge 23, 3) := by decide +kernel
theorem dX3_put_19 : decode cX3_put 19 = .ok (.aload_n 0, 1) := by decide +kernel
theorem dX3_put_20 : decode cX3_put 20 = .ok (.getfield 9, 3) := by decide +kernel
theorem dX3_put_23 : decode cX3_put 23 = .ok (.aload_n 0, 1) := by decide +kernel
theorem dX3_put_24 : decode cX3_put 24 = .ok (.getfield 15, 3) := by decide +kernel
theorem dX3_put_27 : decode cX3_put 27 = .ok (.iload_n 1, 1) := by decide +kernel
theorem dX3_put_28 : decode cX3_put 28 = .ok (.castore, 1) := by decide +kernel
theorem dX3_put_29 : decode cX3_put 29 = .ok (.aload_n 0, 1) := by decide +kernel
theorem dX3_put_30 : decode cX3_put 30 = .ok (.dup, 1) := by decide +kernel
theorem dX3_put_31 : decode cX3_put 31 = .ok (.getfield 15, 3) := by decide +kernel
theorem dX3_put_34 : decode cX3_put 34 = .ok (.iconst 1, 1) := by decide +kernel
theorem dX3_put_35 : decode cX3_put 35 = .ok (.iadd, 1) := by decide +kernel
theorem dX3_put_36 : decode cX3_put 36 = .ok (.putfield 15, 3) := by decide +kernel
theorem dX3_put_39 : decode cX3_put 39 = .ok (.return_, 1) := by decide +kernel
theorem dX3_faultAsTouch_0 : decode cX3_faultAsTouch 0 = .ok (.iconst 0, 1) := by decide +kernel
theorem dX3_faultAsTouch_1 : decode cX3_faultAsTouch 1 = .ok (.istore_n 1, 1) := by decide +kernel
theorem dX3_faultAsTouch_2 : decode cX3_faultAsTouch 2 = .ok (.iload_n 1, 1) := by decide +kernel
theorem dX3_faultAsTouch_3 : decode cX3_faultAsTouch 3 = .ok (.aload_n 0, 1) := by decide +kernel
theorem dX3_faultAsTouch_4 : decode cX3_faultAsTouch 4 = .ok (.getfield 15, 3) := by decide +kernel
theorem dX3_faultAsTouch_7 : decode cX3_faultAsTouch 7 = .ok (.if_icmp .ge 40, 3) := by decide +kernel
theorem dX3_faultAsTouch_10 : decode cX3_faultAsTouch 10 = .ok (.iload_n 1, 1) := by decide +kernel
theorem dX3_faultAsTouch_11 : decode cX3_faultAsTouch 11 = .ok (.aload_n 0, 1) := by decide +kernel
theorem dX3_faultAsTouch_12 : decode cX3_faultAsTouch 12 = .ok (.getfield 9, 3) := by decide +kernel
theorem dX3_faultAsTouch_15 : decode cX3_faultAsTouch 15 = .ok (.arraylength, 1) := by decide +kernel
theorem dX3_faultAsTouch_16 : decode cX3_faultAsTouch 16 = .ok (.if_icmp .ge 31, 3) := by decide +kernel
theorem dX3_faultAsTouch_19 : decode cX3_faultAsTouch 19 = .ok (.iload_n 1, 1) := by decide +kernel
theorem dX3_faultAsTouch_20 : decode cX3_faultAsTouch 20 = .ok (.bipush 16, 2) := by decide +kernel
theorem dX3_faultAsTouch_22 : decode cX3_faultAsTouch 22 = .ok (.if_icmp .ge 17, 3) := by decide +kernel
theorem dX3_faultAsTouch_25 : decode cX3_faultAsTouch 25 = .ok (.aload_n 0, 1) := by decide +kernel
theorem dX3_faultAsTouch_26 : decode cX3_faultAsTouch 26 = .ok (.getfield 9, 3) := by decide +kernel
theorem dX3_faultAsTouch_29 : decode cX3_faultAsTouch 29 = .ok (.iload_n 1, 1) := by decide +kernel
theorem dX3_faultAsTouch_30 : decode cX3_faultAsTouch 30 = .ok (.caload, 1) := by decide +kernel
theorem dX3_faultAsTouch_31 : decode cX3_faultAsTouch 31 = .ok (.invokestatic 19, 3) := by decide +kernel
theorem dX3_faultAsTouch_34 : decode cX3_faultAsTouch 34 = .ok (.bipush (-4), 2) := by decide +kernel
theorem dX3_faultAsTouch_36 : decode cX3_faultAsTouch 36 = .ok (.if_icmp .ne 5, 3) := by decide +kernel
theorem dX3_faultAsTouch_39 : decode cX3_faultAsTouch 39 = .ok (.iload_n 1, 1) := by decide +kernel
theorem dX3_faultAsTouch_40 : decode cX3_faultAsTouch 40 = .ok (.ireturn, 1) := by decide +kernel
theorem dX3_faultAsTouch_41 : decode cX3_faultAsTouch 41 = .ok (.iinc 1 1, 3) := by decide +kernel
theorem dX3_faultAsTouch_44 : decode cX3_faultAsTouch 44 = .ok (.goto (-42), 3) := by decide +kernel
theorem dX3_faultAsTouch_47 : decode cX3_faultAsTouch 47 = .ok (.aload_n 0, 1) := by decide +kernel
theorem dX3_faultAsTouch_48 : decode cX3_faultAsTouch 48 = .ok (.getfield 15, 3) := by decide +kernel
theorem dX3_faultAsTouch_51 : decode cX3_faultAsTouch 51 = .ok (.ifCond .ne 10, 3) := by decide +kernel
theorem dX3_faultAsTouch_54 : decode cX3_faultAsTouch 54 = .ok (.aload_n 0, 1) := by decide +kernel
theorem dX3_faultAsTouch_55 : decode cX3_faultAsTouch 55 = .ok (.getfield 15, 3) := by decide +kernel
theorem dX3_faultAsTouch_58 : decode cX3_faultAsTouch 58 = .ok (.goto 5, 3) := by decide +kernel
theorem dX3_faultAsTouch_61 : decode cX3_faultAsTouch 61 = .ok (.bipush (-4), 2) := by decide +kernel
theorem dX3_faultAsTouch_63 : decode cX3_faultAsTouch 63 = .ok (.ireturn, 1) := by decide +kernel
theorem dX3_kindOf_0 : decode cX3_kindOf 0 = .ok (.iload_n 0, 1) := by decide +kernel
theorem dX3_kindOf_1 : decode cX3_kindOf 1 = .ok (.lookupswitch 41 #[(98, 37), (112, 35), (115, 39)], 35) := by decide +kernel
theorem dX3_kindOf_36 : decode cX3_kindOf 36 = .ok (.iconst 0, 1) := by decide +kernel
theorem dX3_kindOf_37 : decode cX3_kindOf 37 = .ok (.ireturn, 1) := by decide +kernel
theorem dX3_kindOf_38 : decode cX3_kindOf 38 = .ok (.iconst 1, 1) := by decide +kernel
theorem dX3_kindOf_39 : decode cX3_kindOf 39 = .ok (.ireturn, 1) := by decide +kernel
theorem dX3_kindOf_40 : decode cX3_kindOf 40 = .ok (.iconst 2, 1) := by decide +kernel
theorem dX3_kindOf_41 : decode cX3_kindOf 41 = .ok (.ireturn, 1) := by decide +kernel
theorem dX3_kindOf_42 : decode cX3_kindOf 42 = .ok (.bipush (-4), 2) := by decide +kernel
theorem dX3_kindOf_44 : decode cX3_kindOf 44 = .ok (.ireturn, 1) := by decide +kernel
theorem dX4_bit_0 : decode cX4_bit 0 = .ok (.iconst 1, 1) := by decide +kernel
theorem dX4_bit_1 : decode cX4_bit 1 = .ok (.iload_n 0, 1) := by decide +kernel
theorem dX4_bit_2 : decode cX4_bit 2 = .ok (.iconst 1, 1) := by decide +kernel
theorem dX4_bit_3 : decode cX4_bit 3 = .ok (.isub, 1) := by decide +kernel
theorem dX4_bit_4 : decode cX4_bit 4 = .ok (.ishl, 1) := by decide +kernel
theorem dX4_bit_5 : decode cX4_bit 5 = .ok (.ireturn, 1) := by decide +kernel
theorem dX4_has_0 : decode cX4_has 0 = .ok (.iload_n 0, 1) := by decide +kernel
theorem dX4_has_1 : decode cX4_has 1 = .ok (.iload_n 1, 1) := by decide +kernel
theorem dX4_has_2 : decode cX4_has 2 = .ok (.invokestatic 7, 3) := by decide +kernel
theorem dX4_has_5 : decode cX4_has 5 = .ok (.iand, 1) := by decide +kernel
theorem dX4_has_6 : decode cX4_has 6 = .ok (.ifCond .eq 7, 3) := by decide +kernel
theorem dX4_has_9 : decode cX4_has 9 = .ok (.iconst 1, 1) := by decide +kernel
theorem dX4_has_10 : decode cX4_has 10 = .ok (.goto 4, 3) := by decide +kernel
theorem dX4_has_13 : decode cX4_has 13 = .ok (.iconst 0, 1) := by decide +kernel
theorem dX4_has_14 : decode cX4_has 14 = .ok (.ireturn, 1) := by decide +kernel
theorem dX4_areRight_0 : decode cX4_areRight 0 = .ok (.iload_n 1, 1) := by decide +kernel
theorem dX4_areRight_1 : decode cX4_areRight 1 = .ok (.iconst 1, 1) := by decide +kernel
theorem dX4_areRight_2 : decode cX4_areRight 2 = .ok (.iadd, 1) := by decide +kernel
theorem dX4_areRight_3 : decode cX4_areRight 3 = .ok (.invokestatic 7, 3) := by decide +kernel
theorem dX4_areRight_6 : decode cX4_areRight 6 = .ok (.iconst 1, 1) := by decide +kernel
theorem dX4_areRight_7 : decode cX4_areRight 7 = .ok (.isub, 1) := by decide +kernel
theorem dX4_areRight_8 : decode cX4_areRight 8 = .ok (.istore_n 2, 1) := by decide +kernel
theorem dX4_areRight_9 : decode cX4_areRight 9 = .ok (.iload_n 0, 1) := by decide +kernel
theorem dX4_areRight_10 : decode cX4_areRight 10 = .ok (.ifCond .lt 8, 3) := by decide +kernel
theorem dX4_areRight_13 : decode cX4_areRight 13 = .ok (.iload_n 0, 1) := by decide +kernel
theorem dX4_areRight_14 : decode cX4_areRight 14 = .ok (.iload_n 2, 1) := by decide +kernel
theorem dX4_areRight_15 : decode cX4_areRight 15 = .ok (.if_icmp .lt 5, 3) := by decide +kernel
theorem dX4_areRight_18 : decode cX4_areRight 18 = .ok (.iconst 0, 1) := by decide +kernel
theorem dX4_areRight_19 : decode cX4_areRight 19 = .ok (.ireturn, 1) := by decide +kernel
theorem dX4_areRight_20 : decode cX4_areRight 20 = .ok (.iconst 0, 1) := by decide +kernel
theorem dX4_areRight_21 : decode cX4_areRight 21 = .ok (.istore_n 3, 1) := by decide +kernel
theorem dX4_areRight_22 : decode cX4_areRight 22 = .ok (.iconst 1, 1) := by decide +kernel
theorem dX4_areRight_23 : decode cX4_areRight 23 = .ok (.istore 4, 2) := by decide +kernel
theorem dX4_areRight_25 : decode cX4_areRight 25 = .ok (.iload 4, 2) := by decide +kernel
theorem dX4_areRight_27 : decode cX4_areRight 27 = .ok (.iload_n 1, 1) := by decide +kernel
theorem dX4_areRight_28 : decode cX4_areRight 28 = .ok (.if_icmp .gt 32, 3) := by decide +kernel
theorem dX4_areRight_31 : decode cX4_areRight 31 = .ok (.iload_n 0, 1) := by decide +kernel
theorem dX4_areRight_32 : decode cX4_areRight 32 = .ok (.iload 4, 2) := by decide +kernel
theorem dX4_areRight_34 : decode cX4_areRight 34 = .ok (.invokestatic 13, 3) := by decide +kernel
theorem dX4_areRight_37 : decode cX4_areRight 37 = .ok (.ifCond .ne 9, 3) := by decide +kernel
theorem dX4_areRight_40 : decode cX4_areRight 40 = .ok (.iinc 3 1, 3) := by decide +kernel
theorem dX4_areRight_43 : decode cX4_areRight 43 = .ok (.goto 11, 3) := by decide +kernel
theorem dX4_areRight_46 : decode cX4_areRight 46 = .ok (.iload_n 3, 1) := by decide +kernel
theorem dX4_areRight_47 : decode cX4_areRight 47 = .ok (.iconst 2, 1) := by decide +kernel
theorem dX4_areRight_48 : decode cX4_areRight 48 = .ok (.irem, 1) := by decide +kernel
theorem dX4_areRight_49 : decode cX4_areRight 49 = .ok (.ifCond .eq 5, 3) := by decide +kernel
theorem dX4_areRight_52 : decode cX4_areRight 52 = .ok (.iconst 0, 1) := by decide +kernel
theorem dX4_areRight_53 : decode cX4_areRight 53 = .ok (.ireturn, 1) := by decide +kernel
theorem dX4_areRight_54 : decode cX4_areRight 54 = .ok (.iinc 4 1, 3) := by decide +kernel
theorem dX4_areRight_57 : decode cX4_areRight 57 = .ok (.goto (-32), 3) := by decide +kernel
theorem dX4_areRight_60 : decode cX4_areRight 60 = .ok (.iload_n 3, 1) := by decide +kernel
theorem dX4_areRight_61 : decode cX4_areRight 61 = .ok (.iconst 2, 1) := by decide +kernel
theorem dX4_areRight_62 : decode cX4_areRight 62 = .ok (.irem, 1) := by decide +kernel
theorem dX4_areRight_63 : decode cX4_areRight 63 = .ok (.ifCond .ne 7, 3) := by decide +kernel
theorem dX4_areRight_66 : decode cX4_areRight 66 = .ok (.iconst 1, 1) := by decide +kernel
theorem dX4_areRight_67 : decode cX4_areRight 67 = .ok (.goto 4, 3) := by decide +kernel
theorem dX4_areRight_70 : decode cX4_areRight 70 = .ok (.iconst 0, 1) := by decide +kernel
theorem dX4_areRight_71 : decode cX4_areRight 71 = .ok (.ireturn, 1) := by decide +kernel
