theorem dX10_init_0 : decode cX10_init 0 = .ok (.aload_n 0, 1) := by decide +kernel
theorem dX10_init_1 : decode cX10_init 1 = .ok (.invokespecial 3, 3) := by decide +kernel
theorem dX10_init_4 : decode cX10_init 4 = .ok (.aload_n 0, 1) := by decide +kernel
theorem dX10_init_5 : decode cX10_init 5 = .ok (.new 9, 3) := by decide +kernel
theorem dX10_init_8 : decode cX10_init 8 = .ok (.dup, 1) := by decide +kernel
theorem dX10_init_9 : decode cX10_init 9 = .ok (.invokespecial 11, 3) := by decide +kernel
theorem dX10_init_12 : decode cX10_init 12 = .ok (.putfield 12, 3) := by decide +kernel
theorem dX10_init_15 : decode cX10_init 15 = .ok (.aload_n 0, 1) := by decide +kernel
theorem dX10_init_16 : decode cX10_init 16 = .ok (.new 9, 3) := by decide +kernel
theorem dX10_init_19 : decode cX10_init 19 = .ok (.dup, 1) := by decide +kernel
theorem dX10_init_20 : decode cX10_init 20 = .ok (.invokespecial 11, 3) := by decide +kernel
theorem dX10_init_23 : decode cX10_init 23 = .ok (.putfield 16, 3) := by decide +kernel
theorem dX10_init_26 : decode cX10_init 26 = .ok (.aload_n 0, 1) := by decide +kernel
theorem dX10_init_27 : decode cX10_init 27 = .ok (.new 9, 3) := by decide +kernel
theorem dX10_init_30 : decode cX10_init 30 = .ok (.dup, 1) := by decide +kernel
theorem dX10_init_31 : decode cX10_init 31 = .ok (.invokespecial 11, 3) := by decide +kernel
theorem dX10_init_34 : decode cX10_init 34 = .ok (.putfield 19, 3) := by decide +kernel
theorem dX10_init_37 : decode cX10_init 37 = .ok (.aload_n 0, 1) := by decide +kernel
theorem dX10_init_38 : decode cX10_init 38 = .ok (.new 22, 3) := by decide +kernel
theorem dX10_init_41 : decode cX10_init 41 = .ok (.dup, 1) := by decide +kernel
theorem dX10_init_42 : decode cX10_init 42 = .ok (.invokespecial 24, 3) := by decide +kernel
theorem dX10_init_45 : decode cX10_init 45 = .ok (.putfield 25, 3) := by decide +kernel
theorem dX10_init_48 : decode cX10_init 48 = .ok (.aload_n 0, 1) := by decide +kernel
theorem dX10_init_49 : decode cX10_init 49 = .ok (.new 29, 3) := by decide +kernel
theorem dX10_init_52 : decode cX10_init 52 = .ok (.dup, 1) := by decide +kernel
theorem dX10_init_53 : decode cX10_init 53 = .ok (.invokespecial 31, 3) := by decide +kernel
theorem dX10_init_56 : decode cX10_init 56 = .ok (.putfield 32, 3) := by decide +kernel
theorem dX10_init_59 : decode cX10_init 59 = .ok (.aload_n 0, 1) := by decide +kernel
theorem dX10_init_60 : decode cX10_init 60 = .ok (.new 36, 3) := by decide +kernel
theorem dX10_init_63 : decode cX10_init 63 = .ok (.dup, 1) := by decide +kernel
theorem dX10_init_64 : decode cX10_init 64 = .ok (.invokespecial 38, 3) := by decide +kernel
theorem dX10_init_67 : decode cX10_init 67 = .ok (.putfield 39, 3) := by decide +kernel
theorem dX10_init_70 : decode cX10_init 70 = .ok (.aload_n 0, 1) := by decide +kernel
theorem dX10_init_71 : decode cX10_init 71 = .ok (.new 43, 3) := by decide +kernel
theorem dX10_init_74 : decode cX10_init 74 = .ok (.dup, 1) := by decide +kernel
theorem dX10_init_75 : decode cX10_init 75 = .ok (.invokespecial 45, 3) := by decide +kernel
theorem dX10_init_78 : decode cX10_init 78 = .ok (.putfield 46, 3) := by decide +kernel
theorem dX10_init_81 : decode cX10_init 81 = .ok (.aload_n 0, 1) := by decide +kernel
theorem dX10_init_82 : decode cX10_init 82 = .ok (.new 50, 3) := by decide +kernel
theorem dX10_init_85 : decode cX10_init 85 = .ok (.dup, 1) := by decide +kernel
theorem dX10_init_86 : decode cX10_init 86 = .ok (.invokespecial 52, 3) := by decide +kernel
theorem dX10_init_89 : decode cX10_init 89 = .ok (.putfield 53, 3) := by decide +kernel
theorem dX10_init_92 : decode cX10_init 92 = .ok (.aload_n 0, 1) := by decide +kernel
theorem dX10_init_93 : decode cX10_init 93 = .ok (.bipush 6, 2) := by decide +kernel
theorem dX10_init_95 : decode cX10_init 95 = .ok (.invokevirtual 57, 3) := by decide +kernel
theorem dX10_init_98 : decode cX10_init 98 = .ok (.return_, 1) := by decide +kernel
theorem dX10_bells_0 : decode cX10_bells 0 = .ok (.iload_n 1, 1) := by decide +kernel
theorem dX10_bells_1 : decode cX10_bells 1 = .ok (.iconst 4, 1) := by decide +kernel
theorem dX10_bells_2 : decode cX10_bells 2 = .ok (.bipush 7, 2) := by decide +kernel
theorem dX10_bells_4 : decode cX10_bells 4 = .ok (.invokestatic 61, 3) := by decide +kernel
theorem dX10_bells_7 : decode cX10_bells 7 = .ok (.ifCond .ne 5, 3) := by decide +kernel
theorem dX10_bells_10 : decode cX10_bells 10 = .ok (.iconst (-1), 1) := by decide +kernel
theorem dX10_bells_11 : decode cX10_bells 11 = .ok (.ireturn, 1) := by decide +kernel
theorem dX10_bells_12 : decode cX10_bells 12 = .ok (.aload_n 0, 1) := by decide +kernel
theorem dX10_bells_13 : decode cX10_bells 13 = .ok (.getfield 12, 3) := by decide +kernel
theorem dX10_bells_16 : decode cX10_bells 16 = .ok (.getfield 65, 3) := by decide +kernel
theorem dX10_bells_19 : decode cX10_bells 19 = .ok (.istore_n 2, 1) := by decide +kernel
theorem dX10_bells_20 : decode cX10_bells 20 = .ok (.aload_n 0, 1) := by decide +kernel
theorem dX10_bells_21 : decode cX10_bells 21 = .ok (.getfield 25, 3) := by decide +kernel
theorem dX10_bells_24 : decode cX10_bells 24 = .ok (.aload_n 0, 1) := by decide +kernel
theorem dX10_bells_25 : decode cX10_bells 25 = .ok (.getfield 12, 3) := by decide +kernel
theorem dX10_bells_28 : decode cX10_bells 28 = .ok (.invokevirtual 69, 3) := by decide +kernel
theorem dX10_bells_31 : decode cX10_bells 31 = .ok (.aload_n 0, 1) := by decide +kernel
theorem dX10_bells_32 : decode cX10_bells 32 = .ok (.iload_n 1, 1) := by decide +kernel
theorem dX10_bells_33 : decode cX10_bells 33 = .ok (.invokevirtual 57, 3) := by decide +kernel
theorem dX10_bells_36 : decode cX10_bells 36 = .ok (.iload_n 2, 1) := by decide +kernel
theorem dX10_bells_37 : decode cX10_bells 37 = .ok (.ireturn, 1) := by decide +kernel
theorem dX10_method_0 : decode cX10_method 0 = .ok (.aload_n 0, 1) := by decide +kernel
theorem dX10_method_1 : decode cX10_method 1 = .ok (.getfield 39, 3) := by decide +kernel
theorem dX10_method_4 : decode cX10_method 4 = .ok (.aload_n 0, 1) := by decide +kernel
theorem dX10_method_5 : decode cX10_method 5 = .ok (.getfield 32, 3) := by decide +kernel
theorem dX10_method_8 : decode cX10_method 8 = .ok (.getfield 73, 3) := by decide +kernel
theorem dX10_method_11 : decode cX10_method 11 = .ok (.aload_n 0, 1) := by decide +kernel
theorem dX10_method_12 : decode cX10_method 12 = .ok (.getfield 32, 3) := by decide +kernel
theorem dX10_method_15 : decode cX10_method 15 = .ok (.getfield 77, 3) := by decide +kernel
theorem dX10_method_18 : decode cX10_method 18 = .ok (.aload_n 0, 1) := by decide +kernel
theorem dX10_method_19 : decode cX10_method 19 = .ok (.getfield 12, 3) := by decide +kernel
theorem dX10_method_22 : decode cX10_method 22 = .ok (.getfield 65, 3) := by decide +kernel
theorem dX10_method_25 : decode cX10_method 25 = .ok (.invokevirtual 80, 3) := by decide +kernel
theorem dX10_method_28 : decode cX10_method 28 = .ok (.bipush (-4), 2) := by decide +kernel
theorem dX10_method_30 : decode cX10_method 30 = .ok (.if_icmp .eq 6, 3) := by decide +kernel
theorem dX10_method_33 : decode cX10_method 33 = .ok (.bipush (-2), 2) := by decide +kernel
theorem dX10_method_35 : decode cX10_method 35 = .ok (.ireturn, 1) := by decide +kernel
theorem dX10_method_36 : decode cX10_method 36 = .ok (.aload_n 0, 1) := by decide +kernel
theorem dX10_method_37 : decode cX10_method 37 = .ok (.getfield 25, 3) := by decide +kernel
theorem dX10_method_40 : decode cX10_method 40 = .ok (.aload_n 0, 1) := by decide +kernel
theorem dX10_method_41 : decode cX10_method 41 = .ok (.getfield 12, 3) := by decide +kernel
theorem dX10_method_44 : decode cX10_method 44 = .ok (.invokevirtual 69, 3) := by decide +kernel
theorem dX10_method_47 : decode cX10_method 47 = .ok (.aload_n 0, 1) := by decide +kernel
theorem dX10_method_48 : decode cX10_method 48 = .ok (.getfield 12, 3) := by decide +kernel
theorem dX10_method_51 : decode cX10_method 51 = .ok (.aload_n 0, 1) := by decide +kernel
theorem dX10_method_52 : decode cX10_method 52 = .ok (.getfield 39, 3) := by decide +kernel
theorem dX10_method_55 : decode cX10_method 55 = .ok (.invokevirtual 84, 3) := by decide +kernel
theorem dX10_method_58 : decode cX10_method 58 = .ok (.aload_n 0, 1) := by decide +kernel
theorem dX10_method_59 : decode cX10_method 59 = .ok (.getfield 32, 3) := by decide +kernel
theorem dX10_method_62 : decode cX10_method 62 = .ok (.iconst 0, 1) := by decide +kernel
theorem dX10_method_63 : decode cX10_method 63 = .ok (.putfield 77, 3) := by decide +kernel
theorem dX10_method_66 : decode cX10_method 66 = .ok (.aload_n 0, 1) := by decide +kernel
theorem dX10_method_67 : decode cX10_method 67 = .ok (.getfield 12, 3) := by decide +kernel
theorem dX10_method_70 : decode cX10_method 70 = .ok (.getfield 88, 3) := by decide +kernel
theorem dX10_method_73 : decode cX10_method 73 = .ok (.ireturn, 1) := by decide +kernel
theorem dX10_call_0 : decode cX10_call 0 = .ok (.iload_n 1, 1) := by decide +kernel
theorem dX10_call_1 : decode cX10_call 1 = .ok (.iconst 1, 1) := by decide +kernel
theorem dX10_call_2 : decode cX10_call 2 = .ok (.iconst 2, 1) := by decide +kernel
theorem dX10_call_3 : decode cX10_call 3 = .ok (.invokestatic 61, 3) := by decide +kernel
theorem dX10_call_6 : decode cX10_call 6 = .ok (.ifCond .eq 17, 3) := by decide +kernel
theorem dX10_call_9 : decode cX10_call 9 = .ok (.iload_n 2, 1) := by decide +kernel
theorem dX10_call_10 : decode cX10_call 10 = .ok (.aload_n 0, 1) := by decide +kernel
theorem dX10_call_11 : decode cX10_call 11 = .ok (.getfield 12, 3) := by decide +kernel
theorem dX10_call_14 : decode cX10_call 14 = .ok (.getfield 65, 3) := by decide +kernel
theorem dX10_call_17 : decode cX10_call 17 = .ok (.invokestatic 91, 3) := by decide +kernel
theorem dX10_call_20 : decode cX10_call 20 = .ok (.ifCond .ne 5, 3) := by decide +kernel
theorem dX10_call_23 : decode cX10_call 23 = .ok (.iconst (-1), 1) := by decide +kernel
theorem dX10_call_24 : decode cX10_call 24 = .ok (.ireturn, 1) := by decide +kernel
theorem dX10_call_25 : decode cX10_call 25 = .ok (.aload_n 0, 1) := by decide +kernel
theorem dX10_call_26 : decode cX10_call 26 = .ok (.getfield 25, 3) := by decide +kernel
theorem dX10_call_29 : decode cX10_call 29 = .ok (.aload_n 0, 1) := by decide +kernel
theorem dX10_call_30 : decode cX10_call 30 = .ok (.getfield 12, 3) := by decide +kernel
theorem dX10_call_33 : decode cX10_call 33 = .ok (.invokevirtual 69, 3) := by decide +kernel
theorem dX10_call_36 : decode cX10_call 36 = .ok (.iload_n 1, 1) := by decide +kernel
theorem dX10_call_37 : decode cX10_call 37 = .ok (.iconst 1, 1) := by decide +kernel
theorem dX10_call_38 : decode cX10_call 38 = .ok (.if_icmp .ne 22, 3) := by decide +kernel
theorem dX10_call_41 : decode cX10_call 41 = .ok (.aload_n 0, 1) := by decide +kernel
theorem dX10_call_42 : decode cX10_call 42 = .ok (.getfield 12, 3) := by decide +kernel
theorem dX10_call_45 : decode cX10_call 45 = .ok (.getfield 97, 3) := by decide +kernel
theorem dX10_call_48 : decode cX10_call 48 = .ok (.istore_n 3, 1) := by decide +kernel
theorem dX10_call_49 : decode cX10_call 49 = .ok (.aload_n 0, 1) := by decide +kernel
theorem dX10_call_50 : decode cX10_call 50 = .ok (.getfield 12, 3) := by decide +kernel
theorem dX10_call_53 : decode cX10_call 53 = .ok (.iload_n 2, 1) := by decide +kernel
theorem dX10_call_54 : decode cX10_call 54 = .ok (.putfield 97, 3) := by decide +kernel
theorem dX10_call_57 : decode cX10_call 57 = .ok (.goto 19, 3) := by decide +kernel
theorem dX10_call_60 : decode cX10_call 60 = .ok (.aload_n 0, 1) := by decide +kernel
theorem dX10_call_61 : decode cX10_call 61 = .ok (.getfield 12, 3) := by decide +kernel
theorem dX10_call_64 : decode cX10_call 64 = .ok (.getfield 100, 3) := by decide +kernel
theorem dX10_call_67 : decode cX10_call 67 = .ok (.istore_n 3, 1) := by decide +kernel
theorem dX10_call_68 : decode cX10_call 68 = .ok (.aload_n 0, 1) := by decide +kernel
theorem dX10_call_69 : decode cX10_call 69 = .ok (.getfield 12, 3) := by decide +kernel
theorem dX10_call_72 : decode cX10_call 72 = .ok (.iload_n 2, 1) := by decide +kernel
theorem dX10_call_73 : decode cX10_call 73 = .ok (.putfield 100, 3) := by decide +kernel
theorem dX10_call_76 : decode cX10_call 76 = .ok (.iload_n 3, 1) := by decide +kernel
theorem dX10_call_77 : decode cX10_call 77 = .ok (.ireturn, 1) := by decide +kernel
theorem dX10_add_0 : decode cX10_add 0 = .ok (.iload_n 1, 1) := by decide +kernel
theorem dX10_add_1 : decode cX10_add 1 = .ok (.iconst 0, 1) := by decide +kernel
theorem dX10_add_2 : decode cX10_add 2 = .ok (.iconst 2, 1) := by decide +kernel
theorem dX10_add_3 : decode cX10_add 3 = .ok (.invokestatic 61, 3) := by decide +kernel
theorem dX10_add_6 : decode cX10_add 6 = .ok (.ifCond .ne 5, 3) := by decide +kernel
theorem dX10_add_9 : decode cX10_add 9 = .ok (.iconst (-1), 1) := by decide +kernel
theorem dX10_add_10 : decode cX10_add 10 = .ok (.ireturn, 1) := by decide +kernel
theorem dX10_add_11 : decode cX10_add 11 = .ok (.aload_n 0, 1) := by decide +kernel
theorem dX10_add_12 : decode cX10_add 12 = .ok (.getfield 12, 3) := by decide +kernel
theorem dX10_add_15 : decode cX10_add 15 = .ok (.getfield 107, 3) := by decide +kernel
theorem dX10_add_18 : decode cX10_add 18 = .ok (.bipush 16, 2) := by decide +kernel
theorem dX10_add_20 : decode cX10_add 20 = .ok (.if_icmp .lt 6, 3) := by decide +kernel
theorem dX10_add_23 : decode cX10_add 23 = .ok (.bipush (-3), 2) := by decide +kernel
theorem dX10_add_25 : decode cX10_add 25 = .ok (.ireturn, 1) := by decide +kernel
theorem dX10_add_26 : decode cX10_add 26 = .ok (.aload_n 0, 1) := by decide +kernel
theorem dX10_add_27 : decode cX10_add 27 = .ok (.getfield 25, 3) := by decide +kernel
theorem dX10_add_30 : decode cX10_add 30 = .ok (.aload_n 0, 1) := by decide +kernel
theorem dX10_add_31 : decode cX10_add 31 = .ok (.getfield 12, 3) := by decide +kernel
theorem dX10_add_34 : decode cX10_add 34 = .ok (.invokevirtual 69, 3) := by decide +kernel
theorem dX10_add_37 : decode cX10_add 37 = .ok (.aload_n 0, 1) := by decide +kernel
theorem dX10_add_38 : decode cX10_add 38 = .ok (.getfield 12, 3) := by decide +kernel
theorem dX10_add_41 : decode cX10_add 41 = .ok (.iload_n 1, 1) := by decide +kernel
theorem dX10_add_42 : decode cX10_add 42 = .ok (.invokevirtual 114, 3) := by decide +kernel
theorem dX10_add_45 : decode cX10_add 45 = .ok (.aload_n 0, 1) := by decide +kernel
theorem dX10_add_46 : decode cX10_add 46 = .ok (.getfield 12, 3) := by decide +kernel
theorem dX10_add_49 : decode cX10_add 49 = .ok (.getfield 107, 3) := by decide +kernel
theorem dX10_add_52 : decode cX10_add 52 = .ok (.ireturn, 1) := by decide +kernel
theorem dX10_cut_0 : decode cX10_cut 0 = .ok (.iload_n 1, 1) := by decide +kernel
theorem dX10_cut_1 : decode cX10_cut 1 = .ok (.iconst 0, 1) := by decide +kernel
theorem dX10_cut_2 : decode cX10_cut 2 = .ok (.aload_n 0, 1) := by decide +kernel
theorem dX10_cut_3 : decode cX10_cut 3 = .ok (.getfield 12, 3) := by decide +kernel
theorem dX10_cut_6 : decode cX10_cut 6 = .ok (.getfield 107, 3) := by decide +kernel
theorem dX10_cut_9 : decode cX10_cut 9 = .ok (.invokestatic 61, 3) := by decide +kernel
theorem dX10_cut_12 : decode cX10_cut 12 = .ok (.ifCond .ne 5, 3) := by decide +kernel
theorem dX10_cut_15 : decode cX10_cut 15 = .ok (.iconst (-1), 1) := by decide +kernel
theorem dX10_cut_16 : decode cX10_cut 16 = .ok (.ireturn, 1) := by decide +kernel
theorem dX10_cut_17 : decode cX10_cut 17 = .ok (.aload_n 0, 1) := by decide +kernel
theorem dX10_cut_18 : decode cX10_cut 18 = .ok (.getfield 12, 3) := by decide +kernel
theorem dX10_cut_21 : decode cX10_cut 21 = .ok (.getfield 107, 3) := by decide +kernel
theorem dX10_cut_24 : decode cX10_cut 24 = .ok (.istore_n 2, 1) := by decide +kernel
theorem dX10_cut_25 : decode cX10_cut 25 = .ok (.aload_n 0, 1) := by decide +kernel
theorem dX10_cut_26 : decode cX10_cut 26 = .ok (.getfield 25, 3) := by decide +kernel
theorem dX10_cut_29 : decode cX10_cut 29 = .ok (.aload_n 0, 1) := by decide +kernel
theorem dX10_cut_30 : decode cX10_cut 30 = .ok (.getfield 12, 3) := by decide +kernel
theorem dX10_cut_33 : decode cX10_cut 33 = .ok (.invokevirtual 69, 3) := by decide +kernel
theorem dX10_cut_36 : decode cX10_cut 36 = .ok (.aload_n 0, 1) := by decide +kernel
theorem dX10_cut_37 : decode cX10_cut 37 = .ok (.getfield 12, 3) := by decide +kernel
theorem dX10_cut_40 : decode cX10_cut 40 = .ok (.iload_n 1, 1) := by decide +kernel
theorem dX10_cut_41 : decode cX10_cut 41 = .ok (.putfield 107, 3) := by decide +kernel
theorem dX10_cut_44 : decode cX10_cut 44 = .ok (.iload_n 2, 1) := by decide +kernel
theorem dX10_cut_45 : decode cX10_cut 45 = .ok (.ireturn, 1) := by decide +kernel
theorem dX10_append_0 : decode cX10_append 0 = .ok (.iload_n 1, 1) := by decide +kernel
theorem dX10_append_1 : decode cX10_append 1 = .ok (.bipush 33, 2) := by decide +kernel
theorem dX10_append_3 : decode cX10_append 3 = .ok (.bipush 126, 2) := by decide +kernel
theorem dX10_append_5 : decode cX10_append 5 = .ok (.invokestatic 61, 3) := by decide +kernel
theorem dX10_append_8 : decode cX10_append 8 = .ok (.ifCond .ne 5, 3) := by decide +kernel
theorem dX10_append_11 : decode cX10_append 11 = .ok (.iconst (-1), 1) := by decide +kernel
theorem dX10_append_12 : decode cX10_append 12 = .ok (.ireturn, 1) := by decide +kernel
theorem dX10_append_13 : decode cX10_append 13 = .ok (.aload_n 0, 1) := by decide +kernel
theorem dX10_append_14 : decode cX10_append 14 = .ok (.getfield 32, 3) := by decide +kernel
theorem dX10_append_17 : decode cX10_append 17 = .ok (.getfield 77, 3) := by decide +kernel
theorem dX10_append_20 : decode cX10_append 20 = .ok (.aload_n 0, 1) := by decide +kernel
theorem dX10_append_21 : decode cX10_append 21 = .ok (.getfield 32, 3) := by decide +kernel
theorem dX10_append_24 : decode cX10_append 24 = .ok (.getfield 73, 3) := by decide +kernel
theorem dX10_append_27 : decode cX10_append 27 = .ok (.arraylength, 1) := by decide +kernel
theorem dX10_append_28 : decode cX10_append 28 = .ok (.if_icmp .lt 6, 3) := by decide +kernel
theorem dX10_append_31 : decode cX10_append 31 = .ok (.bipush (-3), 2) := by decide +kernel
theorem dX10_append_33 : decode cX10_append 33 = .ok (.ireturn, 1) := by decide +kernel
theorem dX10_append_34 : decode cX10_append 34 = .ok (.aload_n 0, 1) := by decide +kernel
theorem dX10_append_35 : decode cX10_append 35 = .ok (.getfield 32, 3) := by decide +kernel
theorem dX10_append_38 : decode cX10_append 38 = .ok (.iload_n 1, 1) := by decide +kernel
theorem dX10_append_39 : decode cX10_append 39 = .ok (.i2c, 1) := by decide +kernel
theorem dX10_append_40 : decode cX10_append 40 = .ok (.invokevirtual 117, 3) := by decide +kernel
theorem dX10_append_43 : decode cX10_append 43 = .ok (.aload_n 0, 1) := by decide +kernel
theorem dX10_append_44 : decode cX10_append 44 = .ok (.getfield 32, 3) := by decide +kernel
theorem dX10_append_47 : decode cX10_append 47 = .ok (.getfield 77, 3) := by decide +kernel
theorem dX10_append_50 : decode cX10_append 50 = .ok (.ireturn, 1) := by decide +kernel
theorem dX10_clear_0 : decode cX10_clear 0 = .ok (.aload_n 0, 1) := by decide +kernel
theorem dX10_clear_1 : decode cX10_clear 1 = .ok (.getfield 32, 3) := by decide +kernel
theorem dX10_clear_4 : decode cX10_clear 4 = .ok (.getfield 77, 3) := by decide +kernel
theorem dX10_clear_7 : decode cX10_clear 7 = .ok (.istore_n 1, 1) := by decide +kernel
theorem dX10_clear_8 : decode cX10_clear 8 = .ok (.aload_n 0, 1) := by decide +kernel
theorem dX10_clear_9 : decode cX10_clear 9 = .ok (.getfield 32, 3) := by decide +kernel
theorem dX10_clear_12 : decode cX10_clear 12 = .ok (.iconst 0, 1) := by decide +kernel
theorem dX10_clear_13 : decode cX10_clear 13 = .ok (.putfield 77, 3) := by decide +kernel
theorem dX10_clear_16 : decode cX10_clear 16 = .ok (.iload_n 1, 1) := by decide +kernel
theorem dX10_clear_17 : decode cX10_clear 17 = .ok (.ireturn, 1) := by decide +kernel
theorem dX10_fault_0 : decode cX10_fault 0 = .ok (.iload_n 1, 1) := by decide +kernel
theorem dX10_fault_1 : decode cX10_fault 1 = .ok (.ifCond .ne 32, 3) := by decide +kernel
theorem dX10_fault_4 : decode cX10_fault 4 = .ok (.aload_n 0, 1) := by decide +kernel
theorem dX10_fault_5 : decode cX10_fault 5 = .ok (.getfield 39, 3) := by decide +kernel
theorem dX10_fault_8 : decode cX10_fault 8 = .ok (.aload_n 0, 1) := by decide +kernel
theorem dX10_fault_9 : decode cX10_fault 9 = .ok (.getfield 32, 3) := by decide +kernel
theorem dX10_fault_12 : decode cX10_fault 12 = .ok (.getfield 73, 3) := by decide +kernel
theorem dX10_fault_15 : decode cX10_fault 15 = .ok (.aload_n 0, 1) := by decide +kernel
theorem dX10_fault_16 : decode cX10_fault 16 = .ok (.getfield 32, 3) := by decide +kernel
theorem dX10_fault_19 : decode cX10_fault 19 = .ok (.getfield 77, 3) := by decide +kernel
theorem dX10_fault_22 : decode cX10_fault 22 = .ok (.aload_n 0, 1) := by decide +kernel
theorem dX10_fault_23 : decode cX10_fault 23 = .ok (.getfield 12, 3) := by decide +kernel
theorem dX10_fault_26 : decode cX10_fault 26 = .ok (.getfield 65, 3) := by decide +kernel
theorem dX10_fault_29 : decode cX10_fault 29 = .ok (.invokevirtual 80, 3) := by decide +kernel
theorem dX10_fault_32 : decode cX10_fault 32 = .ok (.ireturn, 1) := by decide +kernel
theorem dX10_fault_33 : decode cX10_fault 33 = .ok (.iload_n 1, 1) := by decide +kernel
theorem dX10_fault_34 : decode cX10_fault 34 = .ok (.iconst 1, 1) := by decide +kernel
theorem dX10_fault_35 : decode cX10_fault 35 = .ok (.if_icmp .ne 11, 3) := by decide +kernel
theorem dX10_fault_38 : decode cX10_fault 38 = .ok (.aload_n 0, 1) := by decide +kernel
theorem dX10_fault_39 : decode cX10_fault 39 = .ok (.getfield 32, 3) := by decide +kernel
theorem dX10_fault_42 : decode cX10_fault 42 = .ok (.invokevirtual 103, 3) := by decide +kernel
theorem dX10_fault_45 : decode cX10_fault 45 = .ok (.ireturn, 1) := by decide +kernel
theorem dX10_fault_46 : decode cX10_fault 46 = .ok (.iconst (-1), 1) := by decide +kernel
theorem dX10_fault_47 : decode cX10_fault 47 = .ok (.ireturn, 1) := by decide +kernel
theorem dX10_bell_0 : decode cX10_bell 0 = .ok (.iload_n 1, 1) := by decide +kernel
theorem dX10_bell_1 : decode cX10_bell 1 = .ok (.iconst 0, 1) := by decide +kernel
theorem dX10_bell_2 : decode cX10_bell 2 = .ok (.aload_n 0, 1) := by decide +kernel
theorem dX10_bell_3 : decode cX10_bell 3 = .ok (.getfield 12, 3) := by decide +kernel
theorem dX10_bell_6 : decode cX10_bell 6 = .ok (.invokevirtual 121, 3) := by decide +kernel
theorem dX10_bell_9 : decode cX10_bell 9 = .ok (.invokestatic 61, 3) := by decide +kernel
theorem dX10_bell_12 : decode cX10_bell 12 = .ok (.ifCond .eq 11, 3) := by decide +kernel
theorem dX10_bell_15 : decode cX10_bell 15 = .ok (.aload_n 0, 1) := by decide +kernel
theorem dX10_bell_16 : decode cX10_bell 16 = .ok (.iload_n 2, 1) := by decide +kernel
theorem dX10_bell_17 : decode cX10_bell 17 = .ok (.invokevirtual 124, 3) := by decide +kernel
theorem dX10_bell_20 : decode cX10_bell 20 = .ok (.ifCond .ne 5, 3) := by decide +kernel
theorem dX10_bell_23 : decode cX10_bell 23 = .ok (.iconst (-1), 1) := by decide +kernel
theorem dX10_bell_24 : decode cX10_bell 24 = .ok (.ireturn, 1) := by decide +kernel
theorem dX10_bell_25 : decode cX10_bell 25 = .ok (.aload_n 0, 1) := by decide +kernel
theorem dX10_bell_26 : decode cX10_bell 26 = .ok (.getfield 46, 3) := by decide +kernel
theorem dX10_bell_29 : decode cX10_bell 29 = .ok (.aload_n 0, 1) := by decide +kernel
theorem dX10_bell_30 : decode cX10_bell 30 = .ok (.getfield 12, 3) := by decide +kernel
theorem dX10_bell_33 : decode cX10_bell 33 = .ok (.invokevirtual 128, 3) := by decide +kernel
theorem dX10_bell_36 : decode cX10_bell 36 = .ok (.aload_n 0, 1) := by decide +kernel
theorem dX10_bell_37 : decode cX10_bell 37 = .ok (.getfield 46, 3) := by decide +kernel
theorem dX10_bell_40 : decode cX10_bell 40 = .ok (.iload_n 1, 1) := by decide +kernel
theorem dX10_bell_41 : decode cX10_bell 41 = .ok (.invokevirtual 131, 3) := by decide +kernel
theorem dX10_bell_44 : decode cX10_bell 44 = .ok (.iload_n 2, 1) := by decide +kernel
theorem dX10_bell_45 : decode cX10_bell 45 = .ok (.invokestatic 135, 3) := by decide +kernel
theorem dX10_bell_48 : decode cX10_bell 48 = .ok (.ireturn, 1) := by decide +kernel
theorem dX10_change_0 : decode cX10_change 0 = .ok (.iload_n 1, 1) := by decide +kernel
theorem dX10_change_1 : decode cX10_change 1 = .ok (.iconst (-1), 1) := by decide +kernel
theorem dX10_change_2 : decode cX10_change 2 = .ok (.aload_n 0, 1) := by decide +kernel
theorem dX10_change_3 : decode cX10_change 3 = .ok (.getfield 12, 3) := by decide +kernel
theorem dX10_change_6 : decode cX10_change 6 = .ok (.getfield 107, 3) := by decide +kernel
theorem dX10_change_9 : decode cX10_change 9 = .ok (.iconst 1, 1) := by decide +kernel
theorem dX10_change_10 : decode cX10_change 10 = .ok (.isub, 1) := by decide +kernel
theorem dX10_change_11 : decode cX10_change 11 = .ok (.invokestatic 61, 3) := by decide +kernel
theorem dX10_change_14 : decode cX10_change 14 = .ok (.ifCond .eq 7, 3) := by decide +kernel
theorem dX10_change_17 : decode cX10_change 17 = .ok (.iload_n 2, 1) := by decide +kernel
theorem dX10_change_18 : decode cX10_change 18 = .ok (.ifCond .ge 5, 3) := by decide +kernel
theorem dX10_change_21 : decode cX10_change 21 = .ok (.iconst (-1), 1) := by decide +kernel
theorem dX10_change_22 : decode cX10_change 22 = .ok (.ireturn, 1) := by decide +kernel
theorem dX10_change_23 : decode cX10_change 23 = .ok (.iload_n 2, 1) := by decide +kernel
theorem dX10_change_24 : decode cX10_change 24 = .ok (.aload_n 0, 1) := by decide +kernel
theorem dX10_change_25 : decode cX10_change 25 = .ok (.getfield 12, 3) := by decide +kernel
theorem dX10_change_28 : decode cX10_change 28 = .ok (.getfield 88, 3) := by decide +kernel
theorem dX10_change_31 : decode cX10_change 31 = .ok (.if_icmp .lt 6, 3) := by decide +kernel
theorem dX10_change_34 : decode cX10_change 34 = .ok (.bipush (-4), 2) := by decide +kernel
theorem dX10_change_36 : decode cX10_change 36 = .ok (.ireturn, 1) := by decide +kernel
theorem dX10_change_37 : decode cX10_change 37 = .ok (.aload_n 0, 1) := by decide +kernel
theorem dX10_change_38 : decode cX10_change 38 = .ok (.getfield 12, 3) := by decide +kernel
theorem dX10_change_41 : decode cX10_change 41 = .ok (.aload_n 0, 1) := by decide +kernel
theorem dX10_change_42 : decode cX10_change 42 = .ok (.getfield 12, 3) := by decide +kernel
theorem dX10_change_45 : decode cX10_change 45 = .ok (.iload_n 1, 1) := by decide +kernel
theorem dX10_change_46 : decode cX10_change 46 = .ok (.invokevirtual 141, 3) := by decide +kernel
theorem dX10_change_49 : decode cX10_change 49 = .ok (.iload_n 2, 1) := by decide +kernel
theorem dX10_change_50 : decode cX10_change 50 = .ok (.invokevirtual 144, 3) := by decide +kernel
theorem dX10_change_53 : decode cX10_change 53 = .ok (.ireturn, 1) := by decide +kernel
theorem dX10_row_0 : decode cX10_row 0 = .ok (.iload_n 1, 1) := by decide +kernel
theorem dX10_row_1 : decode cX10_row 1 = .ok (.iconst 0, 1) := by decide +kernel
theorem dX10_row_2 : decode cX10_row 2 = .ok (.aload_n 0, 1) := by decide +kernel
theorem dX10_row_3 : decode cX10_row 3 = .ok (.getfield 12, 3) := by decide +kernel
theorem dX10_row_6 : decode cX10_row 6 = .ok (.invokevirtual 121, 3) := by decide +kernel
theorem dX10_row_9 : decode cX10_row 9 = .ok (.invokestatic 61, 3) := by decide +kernel
theorem dX10_row_12 : decode cX10_row 12 = .ok (.ifCond .eq 12, 3) := by decide +kernel
theorem dX10_row_15 : decode cX10_row 15 = .ok (.iload_n 2, 1) := by decide +kernel
theorem dX10_row_16 : decode cX10_row 16 = .ok (.iconst 0, 1) := by decide +kernel
theorem dX10_row_17 : decode cX10_row 17 = .ok (.iconst 5, 1) := by decide +kernel
theorem dX10_row_18 : decode cX10_row 18 = .ok (.invokestatic 61, 3) := by decide +kernel
theorem dX10_row_21 : decode cX10_row 21 = .ok (.ifCond .ne 5, 3) := by decide +kernel
theorem dX10_row_24 : decode cX10_row 24 = .ok (.iconst (-1), 1) := by decide +kernel
theorem dX10_row_25 : decode cX10_row 25 = .ok (.ireturn, 1) := by decide +kernel
theorem dX10_row_26 : decode cX10_row 26 = .ok (.aload_n 0, 1) := by decide +kernel
theorem dX10_row_27 : decode cX10_row 27 = .ok (.getfield 46, 3) := by decide +kernel
theorem dX10_row_30 : decode cX10_row 30 = .ok (.aload_n 0, 1) := by decide +kernel
theorem dX10_row_31 : decode cX10_row 31 = .ok (.getfield 12, 3) := by decide +kernel
theorem dX10_row_34 : decode cX10_row 34 = .ok (.invokevirtual 128, 3) := by decide +kernel
theorem dX10_row_37 : decode cX10_row 37 = .ok (.aload_n 0, 1) := by decide +kernel
theorem dX10_row_38 : decode cX10_row 38 = .ok (.getfield 46, 3) := by decide +kernel
theorem dX10_row_41 : decode cX10_row 41 = .ok (.iload_n 1, 1) := by decide +kernel
theorem dX10_row_42 : decode cX10_row 42 = .ok (.invokevirtual 131, 3) := by decide +kernel
theorem dX10_row_45 : decode cX10_row 45 = .ok (.istore_n 3, 1) := by decide +kernel
theorem dX10_row_46 : decode cX10_row 46 = .ok (.iload_n 2, 1) := by decide +kernel
theorem dX10_row_47 : decode cX10_row 47 = .ok (.tableswitch 98 0 4 #[33, 45, 57, 77, 89], 33) := by decide +kernel
theorem dX10_row_80 : decode cX10_row 80 = .ok (.iload_n 3, 1) := by decide +kernel
theorem dX10_row_81 : decode cX10_row 81 = .ok (.aload_n 0, 1) := by decide +kernel
theorem dX10_row_82 : decode cX10_row 82 = .ok (.getfield 12, 3) := by decide +kernel
theorem dX10_row_85 : decode cX10_row 85 = .ok (.getfield 65, 3) := by decide +kernel
theorem dX10_row_88 : decode cX10_row 88 = .ok (.invokestatic 147, 3) := by decide +kernel
theorem dX10_row_91 : decode cX10_row 91 = .ok (.ireturn, 1) := by decide +kernel
theorem dX10_row_92 : decode cX10_row 92 = .ok (.iload_n 3, 1) := by decide +kernel
theorem dX10_row_93 : decode cX10_row 93 = .ok (.aload_n 0, 1) := by decide +kernel
theorem dX10_row_94 : decode cX10_row 94 = .ok (.getfield 12, 3) := by decide +kernel
theorem dX10_row_97 : decode cX10_row 97 = .ok (.getfield 65, 3) := by decide +kernel
theorem dX10_row_100 : decode cX10_row 100 = .ok (.invokestatic 150, 3) := by decide +kernel
theorem dX10_row_103 : decode cX10_row 103 = .ok (.ireturn, 1) := by decide +kernel
theorem dX10_row_104 : decode cX10_row 104 = .ok (.iload_n 3, 1) := by decide +kernel
theorem dX10_row_105 : decode cX10_row 105 = .ok (.aload_n 0, 1) := by decide +kernel
theorem dX10_row_106 : decode cX10_row 106 = .ok (.getfield 12, 3) := by decide +kernel
theorem dX10_row_109 : decode cX10_row 109 = .ok (.getfield 65, 3) := by decide +kernel
theorem dX10_row_112 : decode cX10_row 112 = .ok (.invokestatic 153, 3) := by decide +kernel
theorem dX10_row_115 : decode cX10_row 115 = .ok (.ifCond .eq 7, 3) := by decide +kernel
theorem dX10_row_118 : decode cX10_row 118 = .ok (.iconst 1, 1) := by decide +kernel
theorem dX10_row_119 : decode cX10_row 119 = .ok (.goto 4, 3) := by decide +kernel
theorem dX10_row_122 : decode cX10_row 122 = .ok (.iconst 0, 1) := by decide +kernel
theorem dX10_row_123 : decode cX10_row 123 = .ok (.ireturn, 1) := by decide +kernel
theorem dX10_row_124 : decode cX10_row 124 = .ok (.iload_n 3, 1) := by decide +kernel
theorem dX10_row_125 : decode cX10_row 125 = .ok (.aload_n 0, 1) := by decide +kernel
theorem dX10_row_126 : decode cX10_row 126 = .ok (.getfield 12, 3) := by decide +kernel
theorem dX10_row_129 : decode cX10_row 129 = .ok (.getfield 65, 3) := by decide +kernel
theorem dX10_row_132 : decode cX10_row 132 = .ok (.invokestatic 156, 3) := by decide +kernel
theorem dX10_row_135 : decode cX10_row 135 = .ok (.ireturn, 1) := by decide +kernel
theorem dX10_row_136 : decode cX10_row 136 = .ok (.aload_n 0, 1) := by decide +kernel
theorem dX10_row_137 : decode cX10_row 137 = .ok (.getfield 46, 3) := by decide +kernel
theorem dX10_row_140 : decode cX10_row 140 = .ok (.iload_n 1, 1) := by decide +kernel
theorem dX10_row_141 : decode cX10_row 141 = .ok (.invokevirtual 159, 3) := by decide +kernel
theorem dX10_row_144 : decode cX10_row 144 = .ok (.ireturn, 1) := by decide +kernel
theorem dX10_row_145 : decode cX10_row 145 = .ok (.aload_n 0, 1) := by decide +kernel
theorem dX10_row_146 : decode cX10_row 146 = .ok (.getfield 53, 3) := by decide +kernel
theorem dX10_row_149 : decode cX10_row 149 = .ok (.aload_n 0, 1) := by decide +kernel
theorem dX10_row_150 : decode cX10_row 150 = .ok (.getfield 12, 3) := by decide +kernel
theorem dX10_row_153 : decode cX10_row 153 = .ok (.invokevirtual 162, 3) := by decide +kernel
theorem dX10_row_156 : decode cX10_row 156 = .ok (.aload_n 0, 1) := by decide +kernel
theorem dX10_row_157 : decode cX10_row 157 = .ok (.getfield 53, 3) := by decide +kernel
theorem dX10_row_160 : decode cX10_row 160 = .ok (.iload_n 3, 1) := by decide +kernel
theorem dX10_row_161 : decode cX10_row 161 = .ok (.invokevirtual 165, 3) := by decide +kernel
theorem dX10_row_164 : decode cX10_row 164 = .ok (.ireturn, 1) := by decide +kernel
theorem dX10_path_0 : decode cX10_path 0 = .ok (.aload_n 0, 1) := by decide +kernel
theorem dX10_path_1 : decode cX10_path 1 = .ok (.iload_n 1, 1) := by decide +kernel
theorem dX10_path_2 : decode cX10_path 2 = .ok (.invokevirtual 124, 3) := by decide +kernel
theorem dX10_path_5 : decode cX10_path 5 = .ok (.ifCond .eq 12, 3) := by decide +kernel
theorem dX10_path_8 : decode cX10_path 8 = .ok (.iload_n 2, 1) := by decide +kernel
theorem dX10_path_9 : decode cX10_path 9 = .ok (.iconst 0, 1) := by decide +kernel
theorem dX10_path_10 : decode cX10_path 10 = .ok (.iconst 4, 1) := by decide +kernel
theorem dX10_path_11 : decode cX10_path 11 = .ok (.invokestatic 61, 3) := by decide +kernel
theorem dX10_path_14 : decode cX10_path 14 = .ok (.ifCond .ne 5, 3) := by decide +kernel
theorem dX10_path_17 : decode cX10_path 17 = .ok (.iconst (-1), 1) := by decide +kernel
theorem dX10_path_18 : decode cX10_path 18 = .ok (.ireturn, 1) := by decide +kernel
theorem dX10_path_19 : decode cX10_path 19 = .ok (.aload_n 0, 1) := by decide +kernel
theorem dX10_path_20 : decode cX10_path 20 = .ok (.getfield 46, 3) := by decide +kernel
theorem dX10_path_23 : decode cX10_path 23 = .ok (.aload_n 0, 1) := by decide +kernel
theorem dX10_path_24 : decode cX10_path 24 = .ok (.getfield 12, 3) := by decide +kernel
theorem dX10_path_27 : decode cX10_path 27 = .ok (.invokevirtual 128, 3) := by decide +kernel
theorem dX10_path_30 : decode cX10_path 30 = .ok (.iload_n 2, 1) := by decide +kernel
theorem dX10_path_31 : decode cX10_path 31 = .ok (.tableswitch 66 0 3 #[29, 38, 47, 57], 29) := by decide +kernel
theorem dX10_path_60 : decode cX10_path 60 = .ok (.aload_n 0, 1) := by decide +kernel
theorem dX10_path_61 : decode cX10_path 61 = .ok (.getfield 46, 3) := by decide +kernel
theorem dX10_path_64 : decode cX10_path 64 = .ok (.iload_n 1, 1) := by decide +kernel
theorem dX10_path_65 : decode cX10_path 65 = .ok (.invokevirtual 168, 3) := by decide +kernel
theorem dX10_path_68 : decode cX10_path 68 = .ok (.ireturn, 1) := by decide +kernel
theorem dX10_path_69 : decode cX10_path 69 = .ok (.aload_n 0, 1) := by decide +kernel
theorem dX10_path_70 : decode cX10_path 70 = .ok (.getfield 46, 3) := by decide +kernel
theorem dX10_path_73 : decode cX10_path 73 = .ok (.iload_n 1, 1) := by decide +kernel
theorem dX10_path_74 : decode cX10_path 74 = .ok (.invokevirtual 171, 3) := by decide +kernel
theorem dX10_path_77 : decode cX10_path 77 = .ok (.ireturn, 1) := by decide +kernel
theorem dX10_path_78 : decode cX10_path 78 = .ok (.aload_n 0, 1) := by decide +kernel
theorem dX10_path_79 : decode cX10_path 79 = .ok (.getfield 46, 3) := by decide +kernel
theorem dX10_path_82 : decode cX10_path 82 = .ok (.iload_n 1, 1) := by decide +kernel
theorem dX10_path_83 : decode cX10_path 83 = .ok (.iconst 1, 1) := by decide +kernel
theorem dX10_path_84 : decode cX10_path 84 = .ok (.invokevirtual 174, 3) := by decide +kernel
theorem dX10_path_87 : decode cX10_path 87 = .ok (.ireturn, 1) := by decide +kernel
theorem dX10_path_88 : decode cX10_path 88 = .ok (.aload_n 0, 1) := by decide +kernel
theorem dX10_path_89 : decode cX10_path 89 = .ok (.getfield 46, 3) := by decide +kernel
theorem dX10_path_92 : decode cX10_path 92 = .ok (.iload_n 1, 1) := by decide +kernel
theorem dX10_path_93 : decode cX10_path 93 = .ok (.invokevirtual 177, 3) := by decide +kernel
theorem dX10_path_96 : decode cX10_path 96 = .ok (.ireturn, 1) := by decide +kernel
theorem dX10_path_97 : decode cX10_path 97 = .ok (.aload_n 0, 1) := by decide +kernel
theorem dX10_path_98 : decode cX10_path 98 = .ok (.getfield 46, 3) := by decide +kernel
theorem dX10_path_101 : decode cX10_path 101 = .ok (.aload_n 0, 1) := by decide +kernel
theorem dX10_path_102 : decode cX10_path 102 = .ok (.getfield 46, 3) := by decide +kernel
theorem dX10_path_105 : decode cX10_path 105 = .ok (.getfield 180, 3) := by decide +kernel
theorem dX10_path_108 : decode cX10_path 108 = .ok (.iload_n 1, 1) := by decide +kernel
theorem dX10_path_109 : decode cX10_path 109 = .ok (.invokevirtual 183, 3) := by decide +kernel
theorem dX10_path_112 : decode cX10_path 112 = .ok (.ireturn, 1) := by decide +kernel
theorem dX10_blows_0 : decode cX10_blows 0 = .ok (.aload_n 0, 1) := by decide +kernel
theorem dX10_blows_1 : decode cX10_blows 1 = .ok (.iload_n 1, 1) := by decide +kernel
theorem dX10_blows_2 : decode cX10_blows 2 = .ok (.invokevirtual 124, 3) := by decide +kernel
theorem dX10_blows_5 : decode cX10_blows 5 = .ok (.ifCond .eq 11, 3) := by decide +kernel
theorem dX10_blows_8 : decode cX10_blows 8 = .ok (.aload_n 0, 1) := by decide +kernel
theorem dX10_blows_9 : decode cX10_blows 9 = .ok (.iload_n 2, 1) := by decide +kernel
theorem dX10_blows_10 : decode cX10_blows 10 = .ok (.invokevirtual 124, 3) := by decide +kernel
theorem dX10_blows_13 : decode cX10_blows 13 = .ok (.ifCond .ne 5, 3) := by decide +kernel
theorem dX10_blows_16 : decode cX10_blows 16 = .ok (.iconst (-1), 1) := by decide +kernel
theorem dX10_blows_17 : decode cX10_blows 17 = .ok (.ireturn, 1) := by decide +kernel
theorem dX10_blows_18 : decode cX10_blows 18 = .ok (.aload_n 0, 1) := by decide +kernel
theorem dX10_blows_19 : decode cX10_blows 19 = .ok (.getfield 46, 3) := by decide +kernel
theorem dX10_blows_22 : decode cX10_blows 22 = .ok (.aload_n 0, 1) := by decide +kernel
theorem dX10_blows_23 : decode cX10_blows 23 = .ok (.getfield 12, 3) := by decide +kernel
theorem dX10_blows_26 : decode cX10_blows 26 = .ok (.invokevirtual 128, 3) := by decide +kernel
theorem dX10_blows_29 : decode cX10_blows 29 = .ok (.aload_n 0, 1) := by decide +kernel
theorem dX10_blows_30 : decode cX10_blows 30 = .ok (.getfield 46, 3) := by decide +kernel
theorem dX10_blows_33 : decode cX10_blows 33 = .ok (.iload_n 1, 1) := by decide +kernel
theorem dX10_blows_34 : decode cX10_blows 34 = .ok (.iload_n 2, 1) := by decide +kernel
theorem dX10_blows_35 : decode cX10_blows 35 = .ok (.invokevirtual 174, 3) := by decide +kernel
theorem dX10_blows_38 : decode cX10_blows 38 = .ok (.ireturn, 1) := by decide +kernel
theorem dX10_count_0 : decode cX10_count 0 = .ok (.iload_n 1, 1) := by decide +kernel
theorem dX10_count_1 : decode cX10_count 1 = .ok (.tableswitch 159 0 15 #[79, 87, 95, 103, 159, 159, 159, 159, 159, 159, 111, 119, 127, 135, 143, 151], 79) := by decide +kernel
theorem dX10_count_80 : decode cX10_count 80 = .ok (.aload_n 0, 1) := by decide +kernel
theorem dX10_count_81 : decode cX10_count 81 = .ok (.getfield 12, 3) := by decide +kernel
theorem dX10_count_84 : decode cX10_count 84 = .ok (.getfield 65, 3) := by decide +kernel
theorem dX10_count_87 : decode cX10_count 87 = .ok (.ireturn, 1) := by decide +kernel
theorem dX10_count_88 : decode cX10_count 88 = .ok (.aload_n 0, 1) := by decide +kernel
theorem dX10_count_89 : decode cX10_count 89 = .ok (.getfield 12, 3) := by decide +kernel
theorem dX10_count_92 : decode cX10_count 92 = .ok (.getfield 88, 3) := by decide +kernel
theorem dX10_count_95 : decode cX10_count 95 = .ok (.ireturn, 1) := by decide +kernel
theorem dX10_count_96 : decode cX10_count 96 = .ok (.aload_n 0, 1) := by decide +kernel
theorem dX10_count_97 : decode cX10_count 97 = .ok (.getfield 12, 3) := by decide +kernel
theorem dX10_count_100 : decode cX10_count 100 = .ok (.getfield 107, 3) := by decide +kernel
theorem dX10_count_103 : decode cX10_count 103 = .ok (.ireturn, 1) := by decide +kernel
theorem dX10_count_104 : decode cX10_count 104 = .ok (.aload_n 0, 1) := by decide +kernel
theorem dX10_count_105 : decode cX10_count 105 = .ok (.getfield 12, 3) := by decide +kernel
theorem dX10_count_108 : decode cX10_count 108 = .ok (.invokevirtual 121, 3) := by decide +kernel
theorem dX10_count_111 : decode cX10_count 111 = .ok (.ireturn, 1) := by decide +kernel
theorem dX10_count_112 : decode cX10_count 112 = .ok (.aload_n 0, 1) := by decide +kernel
theorem dX10_count_113 : decode cX10_count 113 = .ok (.getfield 12, 3) := by decide +kernel
theorem dX10_count_116 : decode cX10_count 116 = .ok (.invokevirtual 186, 3) := by decide +kernel
theorem dX10_count_119 : decode cX10_count 119 = .ok (.ireturn, 1) := by decide +kernel
theorem dX10_count_120 : decode cX10_count 120 = .ok (.aload_n 0, 1) := by decide +kernel
theorem dX10_count_121 : decode cX10_count 121 = .ok (.getfield 12, 3) := by decide +kernel
theorem dX10_count_124 : decode cX10_count 124 = .ok (.invokevirtual 189, 3) := by decide +kernel
theorem dX10_count_127 : decode cX10_count 127 = .ok (.ireturn, 1) := by decide +kernel
theorem dX10_count_128 : decode cX10_count 128 = .ok (.aload_n 0, 1) := by decide +kernel
theorem dX10_count_129 : decode cX10_count 129 = .ok (.getfield 12, 3) := by decide +kernel
theorem dX10_count_132 : decode cX10_count 132 = .ok (.getfield 97, 3) := by decide +kernel
theorem dX10_count_135 : decode cX10_count 135 = .ok (.ireturn, 1) := by decide +kernel
theorem dX10_count_136 : decode cX10_count 136 = .ok (.aload_n 0, 1) := by decide +kernel
theorem dX10_count_137 : decode cX10_count 137 = .ok (.getfield 12, 3) := by decide +kernel
theorem dX10_count_140 : decode cX10_count 140 = .ok (.getfield 100, 3) := by decide +kernel
theorem dX10_count_143 : decode cX10_count 143 = .ok (.ireturn, 1) := by decide +kernel
theorem dX10_count_144 : decode cX10_count 144 = .ok (.aload_n 0, 1) := by decide +kernel
theorem dX10_count_145 : decode cX10_count 145 = .ok (.getfield 32, 3) := by decide +kernel
theorem dX10_count_148 : decode cX10_count 148 = .ok (.getfield 77, 3) := by decide +kernel
theorem dX10_count_151 : decode cX10_count 151 = .ok (.ireturn, 1) := by decide +kernel
theorem dX10_count_152 : decode cX10_count 152 = .ok (.aload_n 0, 1) := by decide +kernel
theorem dX10_count_153 : decode cX10_count 153 = .ok (.getfield 25, 3) := by decide +kernel
theorem dX10_count_156 : decode cX10_count 156 = .ok (.getfield 192, 3) := by decide +kernel
theorem dX10_count_159 : decode cX10_count 159 = .ok (.ireturn, 1) := by decide +kernel
theorem dX10_count_160 : decode cX10_count 160 = .ok (.iload_n 1, 1) := by decide +kernel
theorem dX10_count_161 : decode cX10_count 161 = .ok (.iconst 4, 1) := by decide +kernel
theorem dX10_count_162 : decode cX10_count 162 = .ok (.bipush 9, 2) := by decide +kernel
theorem dX10_count_164 : decode cX10_count 164 = .ok (.invokestatic 61, 3) := by decide +kernel
theorem dX10_count_167 : decode cX10_count 167 = .ok (.ifCond .eq 11, 3) := by decide +kernel
theorem dX10_count_170 : decode cX10_count 170 = .ok (.aload_n 0, 1) := by decide +kernel
theorem dX10_count_171 : decode cX10_count 171 = .ok (.iload_n 1, 1) := by decide +kernel
theorem dX10_count_172 : decode cX10_count 172 = .ok (.invokevirtual 195, 3) := by decide +kernel
theorem dX10_count_175 : decode cX10_count 175 = .ok (.goto 4, 3) := by decide +kernel
theorem dX10_count_178 : decode cX10_count 178 = .ok (.iconst (-1), 1) := by decide +kernel
theorem dX10_count_179 : decode cX10_count 179 = .ok (.ireturn, 1) := by decide +kernel
theorem dX10_music_0 : decode cX10_music 0 = .ok (.aload_n 0, 1) := by decide +kernel
theorem dX10_music_1 : decode cX10_music 1 = .ok (.getfield 46, 3) := by decide +kernel
theorem dX10_music_4 : decode cX10_music 4 = .ok (.aload_n 0, 1) := by decide +kernel
theorem dX10_music_5 : decode cX10_music 5 = .ok (.getfield 12, 3) := by decide +kernel
theorem dX10_music_8 : decode cX10_music 8 = .ok (.invokevirtual 128, 3) := by decide +kernel
theorem dX10_music_11 : decode cX10_music 11 = .ok (.aload_n 0, 1) := by decide +kernel
theorem dX10_music_12 : decode cX10_music 12 = .ok (.getfield 46, 3) := by decide +kernel
theorem dX10_music_15 : decode cX10_music 15 = .ok (.getfield 180, 3) := by decide +kernel
theorem dX10_music_18 : decode cX10_music 18 = .ok (.ifCond .gt 5, 3) := by decide +kernel
theorem dX10_music_21 : decode cX10_music 21 = .ok (.dconst 0, 1) := by decide +kernel
theorem dX10_music_22 : decode cX10_music 22 = .ok (.dreturn, 1) := by decide +kernel
theorem dX10_music_23 : decode cX10_music 23 = .ok (.aload_n 0, 1) := by decide +kernel
theorem dX10_music_24 : decode cX10_music 24 = .ok (.getfield 46, 3) := by decide +kernel
theorem dX10_music_27 : decode cX10_music 27 = .ok (.invokevirtual 198, 3) := by decide +kernel
theorem dX10_music_30 : decode cX10_music 30 = .ok (.i2d, 1) := by decide +kernel
theorem dX10_music_31 : decode cX10_music 31 = .ok (.aload_n 0, 1) := by decide +kernel
theorem dX10_music_32 : decode cX10_music 32 = .ok (.getfield 46, 3) := by decide +kernel
theorem dX10_music_35 : decode cX10_music 35 = .ok (.getfield 180, 3) := by decide +kernel
theorem dX10_music_38 : decode cX10_music 38 = .ok (.i2d, 1) := by decide +kernel
theorem dX10_music_39 : decode cX10_music 39 = .ok (.ddiv, 1) := by decide +kernel
theorem dX10_music_40 : decode cX10_music 40 = .ok (.dreturn, 1) := by decide +kernel
theorem dX10_begin_0 : decode cX10_begin 0 = .ok (.aload_n 0, 1) := by decide +kernel
theorem dX10_begin_1 : decode cX10_begin 1 = .ok (.getfield 12, 3) := by decide +kernel
theorem dX10_begin_4 : decode cX10_begin 4 = .ok (.iload_n 1, 1) := by decide +kernel
theorem dX10_begin_5 : decode cX10_begin 5 = .ok (.putfield 65, 3) := by decide +kernel
theorem dX10_begin_8 : decode cX10_begin 8 = .ok (.aload_n 0, 1) := by decide +kernel
theorem dX10_begin_9 : decode cX10_begin 9 = .ok (.getfield 12, 3) := by decide +kernel
theorem dX10_begin_12 : decode cX10_begin 12 = .ok (.iconst 0, 1) := by decide +kernel
theorem dX10_begin_13 : decode cX10_begin 13 = .ok (.putfield 107, 3) := by decide +kernel
theorem dX10_begin_16 : decode cX10_begin 16 = .ok (.iload_n 1, 1) := by decide +kernel
theorem dX10_begin_17 : decode cX10_begin 17 = .ok (.invokestatic 234, 3) := by decide +kernel
theorem dX10_begin_20 : decode cX10_begin 20 = .ok (.invokevirtual 239, 3) := by decide +kernel
theorem dX10_begin_23 : decode cX10_begin 23 = .ok (.astore_n 2, 1) := by decide +kernel
theorem dX10_begin_24 : decode cX10_begin 24 = .ok (.iload_n 1, 1) := by decide +kernel
theorem dX10_begin_25 : decode cX10_begin 25 = .ok (.invokestatic 245, 3) := by decide +kernel
theorem dX10_begin_28 : decode cX10_begin 28 = .ok (.invokevirtual 239, 3) := by decide +kernel
theorem dX10_begin_31 : decode cX10_begin 31 = .ok (.astore_n 3, 1) := by decide +kernel
theorem dX10_begin_32 : decode cX10_begin 32 = .ok (.iload_n 1, 1) := by decide +kernel
theorem dX10_begin_33 : decode cX10_begin 33 = .ok (.invokestatic 247, 3) := by decide +kernel
theorem dX10_begin_36 : decode cX10_begin 36 = .ok (.invokevirtual 239, 3) := by decide +kernel
theorem dX10_begin_39 : decode cX10_begin 39 = .ok (.astore 4, 2) := by decide +kernel
theorem dX10_begin_41 : decode cX10_begin 41 = .ok (.aload_n 0, 1) := by decide +kernel
theorem dX10_begin_42 : decode cX10_begin 42 = .ok (.getfield 39, 3) := by decide +kernel
theorem dX10_begin_45 : decode cX10_begin 45 = .ok (.aload_n 2, 1) := by decide +kernel
theorem dX10_begin_46 : decode cX10_begin 46 = .ok (.aload_n 2, 1) := by decide +kernel
theorem dX10_begin_47 : decode cX10_begin 47 = .ok (.arraylength, 1) := by decide +kernel
theorem dX10_begin_48 : decode cX10_begin 48 = .ok (.iload_n 1, 1) := by decide +kernel
theorem dX10_begin_49 : decode cX10_begin 49 = .ok (.invokevirtual 80, 3) := by decide +kernel
theorem dX10_begin_52 : decode cX10_begin 52 = .ok (.pop, 1) := by decide +kernel
theorem dX10_begin_53 : decode cX10_begin 53 = .ok (.aload_n 0, 1) := by decide +kernel
theorem dX10_begin_54 : decode cX10_begin 54 = .ok (.getfield 12, 3) := by decide +kernel
theorem dX10_begin_57 : decode cX10_begin 57 = .ok (.aload_n 0, 1) := by decide +kernel
theorem dX10_begin_58 : decode cX10_begin 58 = .ok (.getfield 39, 3) := by decide +kernel
theorem dX10_begin_61 : decode cX10_begin 61 = .ok (.getfield 250, 3) := by decide +kernel
theorem dX10_begin_64 : decode cX10_begin 64 = .ok (.iconst 0, 1) := by decide +kernel
theorem dX10_begin_65 : decode cX10_begin 65 = .ok (.iaload, 1) := by decide +kernel
theorem dX10_begin_66 : decode cX10_begin 66 = .ok (.putfield 97, 3) := by decide +kernel
theorem dX10_begin_69 : decode cX10_begin 69 = .ok (.aload_n 0, 1) := by decide +kernel
theorem dX10_begin_70 : decode cX10_begin 70 = .ok (.getfield 39, 3) := by decide +kernel
theorem dX10_begin_73 : decode cX10_begin 73 = .ok (.aload_n 3, 1) := by decide +kernel
theorem dX10_begin_74 : decode cX10_begin 74 = .ok (.aload_n 3, 1) := by decide +kernel
theorem dX10_begin_75 : decode cX10_begin 75 = .ok (.arraylength, 1) := by decide +kernel
theorem dX10_begin_76 : decode cX10_begin 76 = .ok (.iload_n 1, 1) := by decide +kernel
theorem dX10_begin_77 : decode cX10_begin 77 = .ok (.invokevirtual 80, 3) := by decide +kernel
theorem dX10_begin_80 : decode cX10_begin 80 = .ok (.pop, 1) := by decide +kernel
theorem dX10_begin_81 : decode cX10_begin 81 = .ok (.aload_n 0, 1) := by decide +kernel
theorem dX10_begin_82 : decode cX10_begin 82 = .ok (.getfield 12, 3) := by decide +kernel
theorem dX10_begin_85 : decode cX10_begin 85 = .ok (.aload_n 0, 1) := by decide +kernel
theorem dX10_begin_86 : decode cX10_begin 86 = .ok (.getfield 39, 3) := by decide +kernel
theorem dX10_begin_89 : decode cX10_begin 89 = .ok (.getfield 250, 3) := by decide +kernel
theorem dX10_begin_92 : decode cX10_begin 92 = .ok (.iconst 0, 1) := by decide +kernel
theorem dX10_begin_93 : decode cX10_begin 93 = .ok (.iaload, 1) := by decide +kernel
theorem dX10_begin_94 : decode cX10_begin 94 = .ok (.putfield 100, 3) := by decide +kernel
theorem dX10_begin_97 : decode cX10_begin 97 = .ok (.aload_n 0, 1) := by decide +kernel
theorem dX10_begin_98 : decode cX10_begin 98 = .ok (.getfield 39, 3) := by decide +kernel
theorem dX10_begin_101 : decode cX10_begin 101 = .ok (.aload 4, 2) := by decide +kernel
theorem dX10_begin_103 : decode cX10_begin 103 = .ok (.aload 4, 2) := by decide +kernel
theorem dX10_begin_105 : decode cX10_begin 105 = .ok (.arraylength, 1) := by decide +kernel
theorem dX10_begin_106 : decode cX10_begin 106 = .ok (.iload_n 1, 1) := by decide +kernel
theorem dX10_begin_107 : decode cX10_begin 107 = .ok (.invokevirtual 80, 3) := by decide +kernel
theorem dX10_begin_110 : decode cX10_begin 110 = .ok (.pop, 1) := by decide +kernel
theorem dX10_begin_111 : decode cX10_begin 111 = .ok (.aload_n 0, 1) := by decide +kernel
theorem dX10_begin_112 : decode cX10_begin 112 = .ok (.getfield 12, 3) := by decide +kernel
theorem dX10_begin_115 : decode cX10_begin 115 = .ok (.aload_n 0, 1) := by decide +kernel
theorem dX10_begin_116 : decode cX10_begin 116 = .ok (.getfield 39, 3) := by decide +kernel
theorem dX10_begin_119 : decode cX10_begin 119 = .ok (.invokevirtual 84, 3) := by decide +kernel
theorem dX10_begin_122 : decode cX10_begin 122 = .ok (.return_, 1) := by decide +kernel
theorem dX10_countRows_0 : decode cX10_countRows 0 = .ok (.aload_n 0, 1) := by decide +kernel
theorem dX10_countRows_1 : decode cX10_countRows 1 = .ok (.getfield 46, 3) := by decide +kernel
theorem dX10_countRows_4 : decode cX10_countRows 4 = .ok (.aload_n 0, 1) := by decide +kernel
theorem dX10_countRows_5 : decode cX10_countRows 5 = .ok (.getfield 12, 3) := by decide +kernel
theorem dX10_countRows_8 : decode cX10_countRows 8 = .ok (.invokevirtual 128, 3) := by decide +kernel
theorem dX10_countRows_11 : decode cX10_countRows 11 = .ok (.iload_n 1, 1) := by decide +kernel
theorem dX10_countRows_12 : decode cX10_countRows 12 = .ok (.tableswitch 84 4 8 #[36, 44, 60, 68, 76], 36) := by decide +kernel
theorem dX10_countRows_48 : decode cX10_countRows 48 = .ok (.aload_n 0, 1) := by decide +kernel
theorem dX10_countRows_49 : decode cX10_countRows 49 = .ok (.getfield 46, 3) := by decide +kernel
theorem dX10_countRows_52 : decode cX10_countRows 52 = .ok (.invokevirtual 221, 3) := by decide +kernel
theorem dX10_countRows_55 : decode cX10_countRows 55 = .ok (.ireturn, 1) := by decide +kernel
theorem dX10_countRows_56 : decode cX10_countRows 56 = .ok (.aload_n 0, 1) := by decide +kernel
theorem dX10_countRows_57 : decode cX10_countRows 57 = .ok (.getfield 46, 3) := by decide +kernel
theorem dX10_countRows_60 : decode cX10_countRows 60 = .ok (.invokevirtual 217, 3) := by decide +kernel
theorem dX10_countRows_63 : decode cX10_countRows 63 = .ok (.ifCond .eq 7, 3) := by decide +kernel
theorem dX10_countRows_66 : decode cX10_countRows 66 = .ok (.iconst 1, 1) := by decide +kernel
theorem dX10_countRows_67 : decode cX10_countRows 67 = .ok (.goto 4, 3) := by decide +kernel
theorem dX10_countRows_70 : decode cX10_countRows 70 = .ok (.iconst 0, 1) := by decide +kernel
theorem dX10_countRows_71 : decode cX10_countRows 71 = .ok (.ireturn, 1) := by decide +kernel
theorem dX10_countRows_72 : decode cX10_countRows 72 = .ok (.aload_n 0, 1) := by decide +kernel
theorem dX10_countRows_73 : decode cX10_countRows 73 = .ok (.getfield 46, 3) := by decide +kernel
theorem dX10_countRows_76 : decode cX10_countRows 76 = .ok (.invokevirtual 254, 3) := by decide +kernel
theorem dX10_countRows_79 : decode cX10_countRows 79 = .ok (.ireturn, 1) := by decide +kernel
theorem dX10_countRows_80 : decode cX10_countRows 80 = .ok (.aload_n 0, 1) := by decide +kernel
theorem dX10_countRows_81 : decode cX10_countRows 81 = .ok (.getfield 46, 3) := by decide +kernel
theorem dX10_countRows_84 : decode cX10_countRows 84 = .ok (.invokevirtual 224, 3) := by decide +kernel
theorem dX10_countRows_87 : decode cX10_countRows 87 = .ok (.ireturn, 1) := by decide +kernel
theorem dX10_countRows_88 : decode cX10_countRows 88 = .ok (.aload_n 0, 1) := by decide +kernel
theorem dX10_countRows_89 : decode cX10_countRows 89 = .ok (.getfield 46, 3) := by decide +kernel
theorem dX10_countRows_92 : decode cX10_countRows 92 = .ok (.invokevirtual 257, 3) := by decide +kernel
theorem dX10_countRows_95 : decode cX10_countRows 95 = .ok (.ireturn, 1) := by decide +kernel
theorem dX10_countRows_96 : decode cX10_countRows 96 = .ok (.aload_n 0, 1) := by decide +kernel
theorem dX10_countRows_97 : decode cX10_countRows 97 = .ok (.getfield 46, 3) := by decide +kernel
theorem dX10_countRows_100 : decode cX10_countRows 100 = .ok (.invokevirtual 198, 3) := by decide +kernel
theorem dX10_countRows_103 : decode cX10_countRows 103 = .ok (.ireturn, 1) := by decide +kernel
theorem dX10_isBell_0 : decode cX10_isBell 0 = .ok (.iload_n 1, 1) := by decide +kernel
theorem dX10_isBell_1 : decode cX10_isBell 1 = .ok (.iconst 1, 1) := by decide +kernel
theorem dX10_isBell_2 : decode cX10_isBell 2 = .ok (.aload_n 0, 1) := by decide +kernel
theorem dX10_isBell_3 : decode cX10_isBell 3 = .ok (.getfield 12, 3) := by decide +kernel
theorem dX10_isBell_6 : decode cX10_isBell 6 = .ok (.getfield 65, 3) := by decide +kernel
theorem dX10_isBell_9 : decode cX10_isBell 9 = .ok (.invokestatic 61, 3) := by decide +kernel
theorem dX10_isBell_12 : decode cX10_isBell 12 = .ok (.ireturn, 1) := by decide +kernel
theorem dX10_isWithin_0 : decode cX10_isWithin 0 = .ok (.iload_n 0, 1) := by decide +kernel
theorem dX10_isWithin_1 : decode cX10_isWithin 1 = .ok (.iload_n 1, 1) := by decide +kernel
theorem dX10_isWithin_2 : decode cX10_isWithin 2 = .ok (.if_icmp .lt 12, 3) := by decide +kernel
theorem dX10_isWithin_5 : decode cX10_isWithin 5 = .ok (.iload_n 0, 1) := by decide +kernel
theorem dX10_isWithin_6 : decode cX10_isWithin 6 = .ok (.iload_n 2, 1) := by decide +kernel
theorem dX10_isWithin_7 : decode cX10_isWithin 7 = .ok (.if_icmp .gt 7, 3) := by decide +kernel
theorem dX10_isWithin_10 : decode cX10_isWithin 10 = .ok (.iconst 1, 1) := by decide +kernel
theorem dX10_isWithin_11 : decode cX10_isWithin 11 = .ok (.goto 4, 3) := by decide +kernel
theorem dX10_isWithin_14 : decode cX10_isWithin 14 = .ok (.iconst 0, 1) := by decide +kernel
theorem dX10_isWithin_15 : decode cX10_isWithin 15 = .ok (.ireturn, 1) := by decide +kernel
theorem dJ0_toCharArray_70df3_0 : decode cJ0_toCharArray_70df3 0 = .ok (.aload_n 0, 1) := by decide +kernel
theorem dJ0_toCharArray_70df3_1 : decode cJ0_toCharArray_70df3 1 = .ok (.invokevirtual 492, 3) := by decide +kernel
theorem dJ0_toCharArray_70df3_4 : decode cJ0_toCharArray_70df3 4 = .ok (.ifCond .eq 13, 3) := by decide +kernel
theorem dJ0_toCharArray_70df3_7 : decode cJ0_toCharArray_70df3 7 = .ok (.aload_n 0, 1) := by decide +kernel
theorem dJ0_toCharArray_70df3_8 : decode cJ0_toCharArray_70df3 8 = .ok (.getfield 9, 3) := by decide +kernel
theorem dJ0_toCharArray_70df3_11 : decode cJ0_toCharArray_70df3 11 = .ok (.invokestatic 299, 3) := by decide +kernel
theorem dJ0_toCharArray_70df3_14 : decode cJ0_toCharArray_70df3 14 = .ok (.goto 10, 3) := by decide +kernel
theorem dJ0_toCharArray_70df3_17 : decode cJ0_toCharArray_70df3 17 = .ok (.aload_n 0, 1) := by decide +kernel
theorem dJ0_toCharArray_70df3_18 : decode cJ0_toCharArray_70df3 18 = .ok (.getfield 9, 3) := by decide +kernel
theorem dJ0_toCharArray_70df3_21 : decode cJ0_toCharArray_70df3 21 = .ok (.invokestatic 303, 3) := by decide +kernel
theorem dJ0_toCharArray_70df3_24 : decode cJ0_toCharArray_70df3 24 = .ok (.areturn, 1) := by decide +kernel
theorem dJ0_isLatin1_aae02_0 : decode cJ0_isLatin1_aae02 0 = .ok (.getstatic 38, 3) := by decide +kernel
theorem dJ0_isLatin1_aae02_3 : decode cJ0_isLatin1_aae02 3 = .ok (.ifCond .eq 14, 3) := by decide +kernel
theorem dJ0_isLatin1_aae02_6 : decode cJ0_isLatin1_aae02 6 = .ok (.aload_n 0, 1) := by decide +kernel
theorem dJ0_isLatin1_aae02_7 : decode cJ0_isLatin1_aae02 7 = .ok (.getfield 15, 3) := by decide +kernel
theorem dJ0_isLatin1_aae02_10 : decode cJ0_isLatin1_aae02 10 = .ok (.ifCond .ne 7, 3) := by decide +kernel
theorem dJ0_isLatin1_aae02_13 : decode cJ0_isLatin1_aae02 13 = .ok (.iconst 1, 1) := by decide +kernel
theorem dJ0_isLatin1_aae02_14 : decode cJ0_isLatin1_aae02 14 = .ok (.goto 4, 3) := by decide +kernel
theorem dJ0_isLatin1_aae02_17 : decode cJ0_isLatin1_aae02 17 = .ok (.iconst 0, 1) := by decide +kernel
theorem dJ0_isLatin1_aae02_18 : decode cJ0_isLatin1_aae02 18 = .ok (.ireturn, 1) := by decide +kernel
theorem dJ0_checkBoundsOffCount_cabcc_0 : decode cJ0_checkBoundsOffCount_cabcc 0 = .ok (.iload_n 0, 1) := by decide +kernel
theorem dJ0_checkBoundsOffCount_cabcc_1 : decode cJ0_checkBoundsOffCount_cabcc 1 = .ok (.iload_n 1, 1) := by decide +kernel
theorem dJ0_checkBoundsOffCount_cabcc_2 : decode cJ0_checkBoundsOffCount_cabcc 2 = .ok (.iload_n 2, 1) := by decide +kernel
theorem dJ0_checkBoundsOffCount_cabcc_3 : decode cJ0_checkBoundsOffCount_cabcc 3 = .ok (.getstatic 1053, 3) := by decide +kernel
theorem dJ0_checkBoundsOffCount_cabcc_6 : decode cJ0_checkBoundsOffCount_cabcc 6 = .ok (.invokestatic 1065, 3) := by decide +kernel
theorem dJ0_checkBoundsOffCount_cabcc_9 : decode cJ0_checkBoundsOffCount_cabcc 9 = .ok (.ireturn, 1) := by decide +kernel
theorem dJ1_toChars_9d188_0 : decode cJ1_toChars_9d188 0 = .ok (.aload_n 0, 1) := by decide +kernel
theorem dJ1_toChars_9d188_1 : decode cJ1_toChars_9d188 1 = .ok (.arraylength, 1) := by decide +kernel
theorem dJ1_toChars_9d188_2 : decode cJ1_toChars_9d188 2 = .ok (.newarray .char, 2) := by decide +kernel
theorem dJ1_toChars_9d188_4 : decode cJ1_toChars_9d188 4 = .ok (.astore_n 1, 1) := by decide +kernel
theorem dJ1_toChars_9d188_5 : decode cJ1_toChars_9d188 5 = .ok (.aload_n 0, 1) := by decide +kernel
theorem dJ1_toChars_9d188_6 : decode cJ1_toChars_9d188 6 = .ok (.iconst 0, 1) := by decide +kernel
theorem dJ1_toChars_9d188_7 : decode cJ1_toChars_9d188 7 = .ok (.aload_n 1, 1) := by decide +kernel
theorem dJ1_toChars_9d188_8 : decode cJ1_toChars_9d188 8 = .ok (.iconst 0, 1) := by decide +kernel
theorem dJ1_toChars_9d188_9 : decode cJ1_toChars_9d188 9 = .ok (.aload_n 0, 1) := by decide +kernel
theorem dJ1_toChars_9d188_10 : decode cJ1_toChars_9d188 10 = .ok (.arraylength, 1) := by decide +kernel
theorem dJ1_toChars_9d188_11 : decode cJ1_toChars_9d188 11 = .ok (.invokestatic 13, 3) := by decide +kernel
theorem dJ1_toChars_9d188_14 : decode cJ1_toChars_9d188 14 = .ok (.aload_n 1, 1) := by decide +kernel
theorem dJ1_toChars_9d188_15 : decode cJ1_toChars_9d188 15 = .ok (.areturn, 1) := by decide +kernel
theorem dJ1_inflate_03870_0 : decode cJ1_inflate_03870 0 = .ok (.iconst 0, 1) := by decide +kernel
theorem dJ1_inflate_03870_1 : decode cJ1_inflate_03870 1 = .ok (.istore 5, 2) := by decide +kernel
theorem dJ1_inflate_03870_3 : decode cJ1_inflate_03870 3 = .ok (.iload 5, 2) := by decide +kernel
theorem dJ1_inflate_03870_5 : decode cJ1_inflate_03870 5 = .ok (.iload 4, 2) := by decide +kernel
theorem dJ1_inflate_03870_7 : decode cJ1_inflate_03870 7 = .ok (.if_icmp .ge 26, 3) := by decide +kernel
theorem dJ1_inflate_03870_10 : decode cJ1_inflate_03870 10 = .ok (.aload_n 2, 1) := by decide +kernel
theorem dJ1_inflate_03870_11 : decode cJ1_inflate_03870 11 = .ok (.iload_n 3, 1) := by decide +kernel
theorem dJ1_inflate_03870_12 : decode cJ1_inflate_03870 12 = .ok (.iinc 3 1, 3) := by decide +kernel
theorem dJ1_inflate_03870_15 : decode cJ1_inflate_03870 15 = .ok (.aload_n 0, 1) := by decide +kernel
theorem dJ1_inflate_03870_16 : decode cJ1_inflate_03870 16 = .ok (.iload_n 1, 1) := by decide +kernel
theorem dJ1_inflate_03870_17 : decode cJ1_inflate_03870 17 = .ok (.iinc 1 1, 3) := by decide +kernel
theorem dJ1_inflate_03870_20 : decode cJ1_inflate_03870 20 = .ok (.baload, 1) := by decide +kernel
theorem dJ1_inflate_03870_21 : decode cJ1_inflate_03870 21 = .ok (.sipush 255, 3) := by decide +kernel
theorem dJ1_inflate_03870_24 : decode cJ1_inflate_03870 24 = .ok (.iand, 1) := by decide +kernel
theorem dJ1_inflate_03870_25 : decode cJ1_inflate_03870 25 = .ok (.i2c, 1) := by decide +kernel
theorem dJ1_inflate_03870_26 : decode cJ1_inflate_03870 26 = .ok (.castore, 1) := by decide +kernel
theorem dJ1_inflate_03870_27 : decode cJ1_inflate_03870 27 = .ok (.iinc 5 1, 3) := by decide +kernel
theorem dJ1_inflate_03870_30 : decode cJ1_inflate_03870 30 = .ok (.goto (-27), 3) := by decide +kernel
theorem dJ1_inflate_03870_33 : decode cJ1_inflate_03870 33 = .ok (.return_, 1) := by decide +kernel
theorem dJ6_bitCount_0f7a4_0 : decode cJ6_bitCount_0f7a4 0 = .ok (.iload_n 0, 1) := by decide +kernel
theorem dJ6_bitCount_0f7a4_1 : decode cJ6_bitCount_0f7a4 1 = .ok (.iload_n 0, 1) := by decide +kernel
theorem dJ6_bitCount_0f7a4_2 : decode cJ6_bitCount_0f7a4 2 = .ok (.iconst 1, 1) := by decide +kernel
theorem dJ6_bitCount_0f7a4_3 : decode cJ6_bitCount_0f7a4 3 = .ok (.iushr, 1) := by decide +kernel
theorem dJ6_bitCount_0f7a4_4 : decode cJ6_bitCount_0f7a4 4 = .ok (.ldc_w 265, 3) := by decide +kernel
theorem dJ6_bitCount_0f7a4_7 : decode cJ6_bitCount_0f7a4 7 = .ok (.iand, 1) := by decide +kernel
theorem dJ6_bitCount_0f7a4_8 : decode cJ6_bitCount_0f7a4 8 = .ok (.isub, 1) := by decide +kernel
theorem dJ6_bitCount_0f7a4_9 : decode cJ6_bitCount_0f7a4 9 = .ok (.istore_n 0, 1) := by decide +kernel
theorem dJ6_bitCount_0f7a4_10 : decode cJ6_bitCount_0f7a4 10 = .ok (.iload_n 0, 1) := by decide +kernel
theorem dJ6_bitCount_0f7a4_11 : decode cJ6_bitCount_0f7a4 11 = .ok (.ldc_w 266, 3) := by decide +kernel
theorem dJ6_bitCount_0f7a4_14 : decode cJ6_bitCount_0f7a4 14 = .ok (.iand, 1) := by decide +kernel
theorem dJ6_bitCount_0f7a4_15 : decode cJ6_bitCount_0f7a4 15 = .ok (.iload_n 0, 1) := by decide +kernel
theorem dJ6_bitCount_0f7a4_16 : decode cJ6_bitCount_0f7a4 16 = .ok (.iconst 2, 1) := by decide +kernel
theorem dJ6_bitCount_0f7a4_17 : decode cJ6_bitCount_0f7a4 17 = .ok (.iushr, 1) := by decide +kernel
theorem dJ6_bitCount_0f7a4_18 : decode cJ6_bitCount_0f7a4 18 = .ok (.ldc_w 266, 3) := by decide +kernel
theorem dJ6_bitCount_0f7a4_21 : decode cJ6_bitCount_0f7a4 21 = .ok (.iand, 1) := by decide +kernel
theorem dJ6_bitCount_0f7a4_22 : decode cJ6_bitCount_0f7a4 22 = .ok (.iadd, 1) := by decide +kernel
theorem dJ6_bitCount_0f7a4_23 : decode cJ6_bitCount_0f7a4 23 = .ok (.istore_n 0, 1) := by decide +kernel
theorem dJ6_bitCount_0f7a4_24 : decode cJ6_bitCount_0f7a4 24 = .ok (.iload_n 0, 1) := by decide +kernel
theorem dJ6_bitCount_0f7a4_25 : decode cJ6_bitCount_0f7a4 25 = .ok (.iload_n 0, 1) := by decide +kernel
theorem dJ6_bitCount_0f7a4_26 : decode cJ6_bitCount_0f7a4 26 = .ok (.iconst 4, 1) := by decide +kernel
theorem dJ6_bitCount_0f7a4_27 : decode cJ6_bitCount_0f7a4 27 = .ok (.iushr, 1) := by decide +kernel
theorem dJ6_bitCount_0f7a4_28 : decode cJ6_bitCount_0f7a4 28 = .ok (.iadd, 1) := by decide +kernel
theorem dJ6_bitCount_0f7a4_29 : decode cJ6_bitCount_0f7a4 29 = .ok (.ldc_w 267, 3) := by decide +kernel
theorem dJ6_bitCount_0f7a4_32 : decode cJ6_bitCount_0f7a4 32 = .ok (.iand, 1) := by decide +kernel
theorem dJ6_bitCount_0f7a4_33 : decode cJ6_bitCount_0f7a4 33 = .ok (.istore_n 0, 1) := by decide +kernel
theorem dJ6_bitCount_0f7a4_34 : decode cJ6_bitCount_0f7a4 34 = .ok (.iload_n 0, 1) := by decide +kernel
theorem dJ6_bitCount_0f7a4_35 : decode cJ6_bitCount_0f7a4 35 = .ok (.iload_n 0, 1) := by decide +kernel
theorem dJ6_bitCount_0f7a4_36 : decode cJ6_bitCount_0f7a4 36 = .ok (.bipush 8, 2) := by decide +kernel
theorem dJ6_bitCount_0f7a4_38 : decode cJ6_bitCount_0f7a4 38 = .ok (.iushr, 1) := by decide +kernel
theorem dJ6_bitCount_0f7a4_39 : decode cJ6_bitCount_0f7a4 39 = .ok (.iadd, 1) := by decide +kernel
theorem dJ6_bitCount_0f7a4_40 : decode cJ6_bitCount_0f7a4 40 = .ok (.istore_n 0, 1) := by decide +kernel
theorem dJ6_bitCount_0f7a4_41 : decode cJ6_bitCount_0f7a4 41 = .ok (.iload_n 0, 1) := by decide +kernel
theorem dJ6_bitCount_0f7a4_42 : decode cJ6_bitCount_0f7a4 42 = .ok (.iload_n 0, 1) := by decide +kernel
theorem dJ6_bitCount_0f7a4_43 : decode cJ6_bitCount_0f7a4 43 = .ok (.bipush 16, 2) := by decide +kernel
theorem dJ6_bitCount_0f7a4_45 : decode cJ6_bitCount_0f7a4 45 = .ok (.iushr, 1) := by decide +kernel
theorem dJ6_bitCount_0f7a4_46 : decode cJ6_bitCount_0f7a4 46 = .ok (.iadd, 1) := by decide +kernel
theorem dJ6_bitCount_0f7a4_47 : decode cJ6_bitCount_0f7a4 47 = .ok (.istore_n 0, 1) := by decide +kernel
theorem dJ6_bitCount_0f7a4_48 : decode cJ6_bitCount_0f7a4 48 = .ok (.iload_n 0, 1) := by decide +kernel
theorem dJ6_bitCount_0f7a4_49 : decode cJ6_bitCount_0f7a4 49 = .ok (.bipush 63, 2) := by decide +kernel
theorem dJ6_bitCount_0f7a4_51 : decode cJ6_bitCount_0f7a4 51 = .ok (.iand, 1) := by decide +kernel
theorem dJ6_bitCount_0f7a4_52 : decode cJ6_bitCount_0f7a4 52 = .ok (.ireturn, 1) := by decide +kernel
theorem dJ7_fill_53178_0 : decode cJ7_fill_53178 0 = .ok (.iconst 0, 1) := by decide +kernel
theorem dJ7_fill_53178_1 : decode cJ7_fill_53178 1 = .ok (.istore_n 2, 1) := by decide +kernel
theorem dJ7_fill_53178_2 : decode cJ7_fill_53178 2 = .ok (.aload_n 0, 1) := by decide +kernel
theorem dJ7_fill_53178_3 : decode cJ7_fill_53178 3 = .ok (.arraylength, 1) := by decide +kernel
theorem dJ7_fill_53178_4 : decode cJ7_fill_53178 4 = .ok (.istore_n 3, 1) := by decide +kernel
theorem dJ7_fill_53178_5 : decode cJ7_fill_53178 5 = .ok (.iload_n 2, 1) := by decide +kernel
theorem dJ7_fill_53178_6 : decode cJ7_fill_53178 6 = .ok (.iload_n 3, 1) := by decide +kernel
theorem dJ7_fill_53178_7 : decode cJ7_fill_53178 7 = .ok (.if_icmp .ge 13, 3) := by decide +kernel
theorem dJ7_fill_53178_10 : decode cJ7_fill_53178 10 = .ok (.aload_n 0, 1) := by decide +kernel
theorem dJ7_fill_53178_11 : decode cJ7_fill_53178 11 = .ok (.iload_n 2, 1) := by decide +kernel
theorem dJ7_fill_53178_12 : decode cJ7_fill_53178 12 = .ok (.iload_n 1, 1) := by decide +kernel
theorem dJ7_fill_53178_13 : decode cJ7_fill_53178 13 = .ok (.iastore, 1) := by decide +kernel
theorem dJ7_fill_53178_14 : decode cJ7_fill_53178 14 = .ok (.iinc 2 1, 3) := by decide +kernel
theorem dJ7_fill_53178_17 : decode cJ7_fill_53178 17 = .ok (.goto (-12), 3) := by decide +kernel
theorem dJ7_fill_53178_20 : decode cJ7_fill_53178 20 = .ok (.return_, 1) := by decide +kernel
