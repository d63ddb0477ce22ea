theorem dX0_init_0 : decode cX0_init 0 = .ok (.aload_n 0, 1) := by decide +kernel
theorem dX0_init_1 : decode cX0_init 1 = .ok (.invokespecial 3, 3) := by decide +kernel
theorem dX0_init_4 : decode cX0_init 4 = .ok (.aload_n 0, 1) := by decide +kernel
theorem dX0_init_5 : decode cX0_init 5 = .ok (.iconst 0, 1) := by decide +kernel
theorem dX0_init_6 : decode cX0_init 6 = .ok (.putfield 9, 3) := by decide +kernel
theorem dX0_init_9 : decode cX0_init 9 = .ok (.aload_n 0, 1) := by decide +kernel
theorem dX0_init_10 : decode cX0_init 10 = .ok (.ldc 15, 2) := by decide +kernel
theorem dX0_init_12 : decode cX0_init 12 = .ok (.putfield 16, 3) := by decide +kernel
theorem dX0_init_15 : decode cX0_init 15 = .ok (.aload_n 0, 1) := by decide +kernel
theorem dX0_init_16 : decode cX0_init 16 = .ok (.bipush 20, 2) := by decide +kernel
theorem dX0_init_18 : decode cX0_init 18 = .ok (.newarray .int, 2) := by decide +kernel
theorem dX0_init_20 : decode cX0_init 20 = .ok (.putfield 19, 3) := by decide +kernel
theorem dX0_init_23 : decode cX0_init 23 = .ok (.aload_n 0, 1) := by decide +kernel
theorem dX0_init_24 : decode cX0_init 24 = .ok (.bipush 20, 2) := by decide +kernel
theorem dX0_init_26 : decode cX0_init 26 = .ok (.newarray .int, 2) := by decide +kernel
theorem dX0_init_28 : decode cX0_init 28 = .ok (.putfield 23, 3) := by decide +kernel
theorem dX0_init_31 : decode cX0_init 31 = .ok (.return_, 1) := by decide +kernel
theorem dX0_reset_0 : decode cX0_reset 0 = .ok (.aload_n 0, 1) := by decide +kernel
theorem dX0_reset_1 : decode cX0_reset 1 = .ok (.iconst 0, 1) := by decide +kernel
theorem dX0_reset_2 : decode cX0_reset 2 = .ok (.putfield 9, 3) := by decide +kernel
theorem dX0_reset_5 : decode cX0_reset 5 = .ok (.aload_n 0, 1) := by decide +kernel
theorem dX0_reset_6 : decode cX0_reset 6 = .ok (.ldc 15, 2) := by decide +kernel
theorem dX0_reset_8 : decode cX0_reset 8 = .ok (.putfield 16, 3) := by decide +kernel
theorem dX0_reset_11 : decode cX0_reset 11 = .ok (.aload_n 0, 1) := by decide +kernel
theorem dX0_reset_12 : decode cX0_reset 12 = .ok (.getfield 19, 3) := by decide +kernel
theorem dX0_reset_15 : decode cX0_reset 15 = .ok (.iconst 1, 1) := by decide +kernel
theorem dX0_reset_16 : decode cX0_reset 16 = .ok (.invokestatic 26, 3) := by decide +kernel
theorem dX0_reset_19 : decode cX0_reset 19 = .ok (.aload_n 0, 1) := by decide +kernel
theorem dX0_reset_20 : decode cX0_reset 20 = .ok (.getfield 23, 3) := by decide +kernel
theorem dX0_reset_23 : decode cX0_reset 23 = .ok (.iconst 1, 1) := by decide +kernel
theorem dX0_reset_24 : decode cX0_reset 24 = .ok (.invokestatic 26, 3) := by decide +kernel
theorem dX0_reset_27 : decode cX0_reset 27 = .ok (.return_, 1) := by decide +kernel
theorem dX0_code_0 : decode cX0_code 0 = .ok (.aload_n 0, 1) := by decide +kernel
theorem dX0_code_1 : decode cX0_code 1 = .ok (.iload_n 2, 1) := by decide +kernel
theorem dX0_code_2 : decode cX0_code 2 = .ok (.invokevirtual 32, 3) := by decide +kernel
theorem dX0_code_5 : decode cX0_code 5 = .ok (.istore_n 3, 1) := by decide +kernel
theorem dX0_code_6 : decode cX0_code 6 = .ok (.aload_n 0, 1) := by decide +kernel
theorem dX0_code_7 : decode cX0_code 7 = .ok (.iload_n 1, 1) := by decide +kernel
theorem dX0_code_8 : decode cX0_code 8 = .ok (.iload_n 3, 1) := by decide +kernel
theorem dX0_code_9 : decode cX0_code 9 = .ok (.invokevirtual 36, 3) := by decide +kernel
theorem dX0_code_12 : decode cX0_code 12 = .ok (.istore 4, 2) := by decide +kernel
theorem dX0_code_14 : decode cX0_code 14 = .ok (.iload 4, 2) := by decide +kernel
theorem dX0_code_16 : decode cX0_code 16 = .ok (.ifCond .ne 11, 3) := by decide +kernel
theorem dX0_code_19 : decode cX0_code 19 = .ok (.aload_n 0, 1) := by decide +kernel
theorem dX0_code_20 : decode cX0_code 20 = .ok (.iload_n 3, 1) := by decide +kernel
theorem dX0_code_21 : decode cX0_code 21 = .ok (.putfield 16, 3) := by decide +kernel
theorem dX0_code_24 : decode cX0_code 24 = .ok (.goto 10, 3) := by decide +kernel
theorem dX0_code_27 : decode cX0_code 27 = .ok (.aload_n 0, 1) := by decide +kernel
theorem dX0_code_28 : decode cX0_code 28 = .ok (.iload_n 3, 1) := by decide +kernel
theorem dX0_code_29 : decode cX0_code 29 = .ok (.iconst 1, 1) := by decide +kernel
theorem dX0_code_30 : decode cX0_code 30 = .ok (.iadd, 1) := by decide +kernel
theorem dX0_code_31 : decode cX0_code 31 = .ok (.putfield 9, 3) := by decide +kernel
theorem dX0_code_34 : decode cX0_code 34 = .ok (.aload_n 0, 1) := by decide +kernel
theorem dX0_code_35 : decode cX0_code 35 = .ok (.iload 4, 2) := by decide +kernel
theorem dX0_code_37 : decode cX0_code 37 = .ok (.iload_n 2, 1) := by decide +kernel
theorem dX0_code_38 : decode cX0_code 38 = .ok (.invokevirtual 40, 3) := by decide +kernel
theorem dX0_code_41 : decode cX0_code 41 = .ok (.aload_n 0, 1) := by decide +kernel
theorem dX0_code_42 : decode cX0_code 42 = .ok (.invokevirtual 44, 3) := by decide +kernel
theorem dX0_code_45 : decode cX0_code 45 = .ok (.istore 5, 2) := by decide +kernel
theorem dX0_code_47 : decode cX0_code 47 = .ok (.iconst 0, 1) := by decide +kernel
theorem dX0_code_48 : decode cX0_code 48 = .ok (.istore 6, 2) := by decide +kernel
theorem dX0_code_50 : decode cX0_code 50 = .ok (.iload 6, 2) := by decide +kernel
theorem dX0_code_52 : decode cX0_code 52 = .ok (.bipush 17, 2) := by decide +kernel
theorem dX0_code_54 : decode cX0_code 54 = .ok (.if_icmp .ge 55, 3) := by decide +kernel
theorem dX0_code_57 : decode cX0_code 57 = .ok (.iload 5, 2) := by decide +kernel
theorem dX0_code_59 : decode cX0_code 59 = .ok (.iconst (-1), 1) := by decide +kernel
theorem dX0_code_60 : decode cX0_code 60 = .ok (.if_icmp .eq 49, 3) := by decide +kernel
theorem dX0_code_63 : decode cX0_code 63 = .ok (.aload_n 0, 1) := by decide +kernel
theorem dX0_code_64 : decode cX0_code 64 = .ok (.iload 5, 2) := by decide +kernel
theorem dX0_code_66 : decode cX0_code 66 = .ok (.invokevirtual 48, 3) := by decide +kernel
theorem dX0_code_69 : decode cX0_code 69 = .ok (.aload_n 0, 1) := by decide +kernel
theorem dX0_code_70 : decode cX0_code 70 = .ok (.aload_n 0, 1) := by decide +kernel
theorem dX0_code_71 : decode cX0_code 71 = .ok (.getfield 9, 3) := by decide +kernel
theorem dX0_code_74 : decode cX0_code 74 = .ok (.iload 5, 2) := by decide +kernel
theorem dX0_code_76 : decode cX0_code 76 = .ok (.isub, 1) := by decide +kernel
theorem dX0_code_77 : decode cX0_code 77 = .ok (.iconst 2, 1) := by decide +kernel
theorem dX0_code_78 : decode cX0_code 78 = .ok (.imul, 1) := by decide +kernel
theorem dX0_code_79 : decode cX0_code 79 = .ok (.putfield 9, 3) := by decide +kernel
theorem dX0_code_82 : decode cX0_code 82 = .ok (.aload_n 0, 1) := by decide +kernel
theorem dX0_code_83 : decode cX0_code 83 = .ok (.aload_n 0, 1) := by decide +kernel
theorem dX0_code_84 : decode cX0_code 84 = .ok (.getfield 16, 3) := by decide +kernel
theorem dX0_code_87 : decode cX0_code 87 = .ok (.iload 5, 2) := by decide +kernel
theorem dX0_code_89 : decode cX0_code 89 = .ok (.isub, 1) := by decide +kernel
theorem dX0_code_90 : decode cX0_code 90 = .ok (.iconst 2, 1) := by decide +kernel
theorem dX0_code_91 : decode cX0_code 91 = .ok (.imul, 1) := by decide +kernel
theorem dX0_code_92 : decode cX0_code 92 = .ok (.iconst 1, 1) := by decide +kernel
theorem dX0_code_93 : decode cX0_code 93 = .ok (.iadd, 1) := by decide +kernel
theorem dX0_code_94 : decode cX0_code 94 = .ok (.putfield 16, 3) := by decide +kernel
theorem dX0_code_97 : decode cX0_code 97 = .ok (.aload_n 0, 1) := by decide +kernel
theorem dX0_code_98 : decode cX0_code 98 = .ok (.invokevirtual 44, 3) := by decide +kernel
theorem dX0_code_101 : decode cX0_code 101 = .ok (.istore 5, 2) := by decide +kernel
theorem dX0_code_103 : decode cX0_code 103 = .ok (.iinc 6 1, 3) := by decide +kernel
theorem dX0_code_106 : decode cX0_code 106 = .ok (.goto (-56), 3) := by decide +kernel
theorem dX0_code_109 : decode cX0_code 109 = .ok (.iload 4, 2) := by decide +kernel
theorem dX0_code_111 : decode cX0_code 111 = .ok (.ireturn, 1) := by decide +kernel
theorem dX0_splitFor_0 : decode cX0_splitFor 0 = .ok (.aload_n 0, 1) := by decide +kernel
theorem dX0_splitFor_1 : decode cX0_splitFor 1 = .ok (.getfield 16, 3) := by decide +kernel
theorem dX0_splitFor_4 : decode cX0_splitFor 4 = .ok (.aload_n 0, 1) := by decide +kernel
theorem dX0_splitFor_5 : decode cX0_splitFor 5 = .ok (.getfield 9, 3) := by decide +kernel
theorem dX0_splitFor_8 : decode cX0_splitFor 8 = .ok (.isub, 1) := by decide +kernel
theorem dX0_splitFor_9 : decode cX0_splitFor 9 = .ok (.iconst 1, 1) := by decide +kernel
theorem dX0_splitFor_10 : decode cX0_splitFor 10 = .ok (.iadd, 1) := by decide +kernel
theorem dX0_splitFor_11 : decode cX0_splitFor 11 = .ok (.istore_n 2, 1) := by decide +kernel
theorem dX0_splitFor_12 : decode cX0_splitFor 12 = .ok (.iconst 1, 1) := by decide +kernel
theorem dX0_splitFor_13 : decode cX0_splitFor 13 = .ok (.istore_n 3, 1) := by decide +kernel
theorem dX0_splitFor_14 : decode cX0_splitFor 14 = .ok (.iconst 1, 1) := by decide +kernel
theorem dX0_splitFor_15 : decode cX0_splitFor 15 = .ok (.istore 4, 2) := by decide +kernel
theorem dX0_splitFor_17 : decode cX0_splitFor 17 = .ok (.iload_n 1, 1) := by decide +kernel
theorem dX0_splitFor_18 : decode cX0_splitFor 18 = .ok (.ifCond .lt 24, 3) := by decide +kernel
theorem dX0_splitFor_21 : decode cX0_splitFor 21 = .ok (.iload_n 1, 1) := by decide +kernel
theorem dX0_splitFor_22 : decode cX0_splitFor 22 = .ok (.bipush 20, 2) := by decide +kernel
theorem dX0_splitFor_24 : decode cX0_splitFor 24 = .ok (.if_icmp .ge 18, 3) := by decide +kernel
theorem dX0_splitFor_27 : decode cX0_splitFor 27 = .ok (.aload_n 0, 1) := by decide +kernel
theorem dX0_splitFor_28 : decode cX0_splitFor 28 = .ok (.getfield 19, 3) := by decide +kernel
theorem dX0_splitFor_31 : decode cX0_splitFor 31 = .ok (.iload_n 1, 1) := by decide +kernel
theorem dX0_splitFor_32 : decode cX0_splitFor 32 = .ok (.iaload, 1) := by decide +kernel
theorem dX0_splitFor_33 : decode cX0_splitFor 33 = .ok (.istore_n 3, 1) := by decide +kernel
theorem dX0_splitFor_34 : decode cX0_splitFor 34 = .ok (.aload_n 0, 1) := by decide +kernel
theorem dX0_splitFor_35 : decode cX0_splitFor 35 = .ok (.getfield 23, 3) := by decide +kernel
theorem dX0_splitFor_38 : decode cX0_splitFor 38 = .ok (.iload_n 1, 1) := by decide +kernel
theorem dX0_splitFor_39 : decode cX0_splitFor 39 = .ok (.iaload, 1) := by decide +kernel
theorem dX0_splitFor_40 : decode cX0_splitFor 40 = .ok (.istore 4, 2) := by decide +kernel
theorem dX0_splitFor_42 : decode cX0_splitFor 42 = .ok (.iload_n 3, 1) := by decide +kernel
theorem dX0_splitFor_43 : decode cX0_splitFor 43 = .ok (.iload 4, 2) := by decide +kernel
theorem dX0_splitFor_45 : decode cX0_splitFor 45 = .ok (.iadd, 1) := by decide +kernel
theorem dX0_splitFor_46 : decode cX0_splitFor 46 = .ok (.ifCond .le 21, 3) := by decide +kernel
theorem dX0_splitFor_49 : decode cX0_splitFor 49 = .ok (.aload_n 0, 1) := by decide +kernel
theorem dX0_splitFor_50 : decode cX0_splitFor 50 = .ok (.getfield 9, 3) := by decide +kernel
theorem dX0_splitFor_53 : decode cX0_splitFor 53 = .ok (.iconst 1, 1) := by decide +kernel
theorem dX0_splitFor_54 : decode cX0_splitFor 54 = .ok (.isub, 1) := by decide +kernel
theorem dX0_splitFor_55 : decode cX0_splitFor 55 = .ok (.iload_n 2, 1) := by decide +kernel
theorem dX0_splitFor_56 : decode cX0_splitFor 56 = .ok (.iload_n 3, 1) := by decide +kernel
theorem dX0_splitFor_57 : decode cX0_splitFor 57 = .ok (.imul, 1) := by decide +kernel
theorem dX0_splitFor_58 : decode cX0_splitFor 58 = .ok (.iload_n 3, 1) := by decide +kernel
theorem dX0_splitFor_59 : decode cX0_splitFor 59 = .ok (.iload 4, 2) := by decide +kernel
theorem dX0_splitFor_61 : decode cX0_splitFor 61 = .ok (.iadd, 1) := by decide +kernel
theorem dX0_splitFor_62 : decode cX0_splitFor 62 = .ok (.idiv, 1) := by decide +kernel
theorem dX0_splitFor_63 : decode cX0_splitFor 63 = .ok (.iadd, 1) := by decide +kernel
theorem dX0_splitFor_64 : decode cX0_splitFor 64 = .ok (.goto 7, 3) := by decide +kernel
theorem dX0_splitFor_67 : decode cX0_splitFor 67 = .ok (.aload_n 0, 1) := by decide +kernel
theorem dX0_splitFor_68 : decode cX0_splitFor 68 = .ok (.getfield 9, 3) := by decide +kernel
theorem dX0_splitFor_71 : decode cX0_splitFor 71 = .ok (.ireturn, 1) := by decide +kernel
theorem dX0_count_0 : decode cX0_count 0 = .ok (.iload_n 2, 1) := by decide +kernel
theorem dX0_count_1 : decode cX0_count 1 = .ok (.ifCond .lt 9, 3) := by decide +kernel
theorem dX0_count_4 : decode cX0_count 4 = .ok (.iload_n 2, 1) := by decide +kernel
theorem dX0_count_5 : decode cX0_count 5 = .ok (.bipush 20, 2) := by decide +kernel
theorem dX0_count_7 : decode cX0_count 7 = .ok (.if_icmp .lt 4, 3) := by decide +kernel
theorem dX0_count_10 : decode cX0_count 10 = .ok (.return_, 1) := by decide +kernel
theorem dX0_count_11 : decode cX0_count 11 = .ok (.iload_n 1, 1) := by decide +kernel
theorem dX0_count_12 : decode cX0_count 12 = .ok (.ifCond .ne 16, 3) := by decide +kernel
theorem dX0_count_15 : decode cX0_count 15 = .ok (.aload_n 0, 1) := by decide +kernel
theorem dX0_count_16 : decode cX0_count 16 = .ok (.getfield 19, 3) := by decide +kernel
theorem dX0_count_19 : decode cX0_count 19 = .ok (.iload_n 2, 1) := by decide +kernel
theorem dX0_count_20 : decode cX0_count 20 = .ok (.dup2, 1) := by decide +kernel
theorem dX0_count_21 : decode cX0_count 21 = .ok (.iaload, 1) := by decide +kernel
theorem dX0_count_22 : decode cX0_count 22 = .ok (.iconst 1, 1) := by decide +kernel
theorem dX0_count_23 : decode cX0_count 23 = .ok (.iadd, 1) := by decide +kernel
theorem dX0_count_24 : decode cX0_count 24 = .ok (.iastore, 1) := by decide +kernel
theorem dX0_count_25 : decode cX0_count 25 = .ok (.goto 13, 3) := by decide +kernel
theorem dX0_count_28 : decode cX0_count 28 = .ok (.aload_n 0, 1) := by decide +kernel
theorem dX0_count_29 : decode cX0_count 29 = .ok (.getfield 23, 3) := by decide +kernel
theorem dX0_count_32 : decode cX0_count 32 = .ok (.iload_n 2, 1) := by decide +kernel
theorem dX0_count_33 : decode cX0_count 33 = .ok (.dup2, 1) := by decide +kernel
theorem dX0_count_34 : decode cX0_count 34 = .ok (.iaload, 1) := by decide +kernel
theorem dX0_count_35 : decode cX0_count 35 = .ok (.iconst 1, 1) := by decide +kernel
theorem dX0_count_36 : decode cX0_count 36 = .ok (.iadd, 1) := by decide +kernel
theorem dX0_count_37 : decode cX0_count 37 = .ok (.iastore, 1) := by decide +kernel
theorem dX0_count_38 : decode cX0_count 38 = .ok (.aload_n 0, 1) := by decide +kernel
theorem dX0_count_39 : decode cX0_count 39 = .ok (.getfield 19, 3) := by decide +kernel
theorem dX0_count_42 : decode cX0_count 42 = .ok (.iload_n 2, 1) := by decide +kernel
theorem dX0_count_43 : decode cX0_count 43 = .ok (.iaload, 1) := by decide +kernel
theorem dX0_count_44 : decode cX0_count 44 = .ok (.aload_n 0, 1) := by decide +kernel
theorem dX0_count_45 : decode cX0_count 45 = .ok (.getfield 23, 3) := by decide +kernel
theorem dX0_count_48 : decode cX0_count 48 = .ok (.iload_n 2, 1) := by decide +kernel
theorem dX0_count_49 : decode cX0_count 49 = .ok (.iaload, 1) := by decide +kernel
theorem dX0_count_50 : decode cX0_count 50 = .ok (.iadd, 1) := by decide +kernel
theorem dX0_count_51 : decode cX0_count 51 = .ok (.bipush 64, 2) := by decide +kernel
theorem dX0_count_53 : decode cX0_count 53 = .ok (.if_icmp .le 35, 3) := by decide +kernel
theorem dX0_count_56 : decode cX0_count 56 = .ok (.aload_n 0, 1) := by decide +kernel
theorem dX0_count_57 : decode cX0_count 57 = .ok (.getfield 19, 3) := by decide +kernel
theorem dX0_count_60 : decode cX0_count 60 = .ok (.iload_n 2, 1) := by decide +kernel
theorem dX0_count_61 : decode cX0_count 61 = .ok (.aload_n 0, 1) := by decide +kernel
theorem dX0_count_62 : decode cX0_count 62 = .ok (.getfield 19, 3) := by decide +kernel
theorem dX0_count_65 : decode cX0_count 65 = .ok (.iload_n 2, 1) := by decide +kernel
theorem dX0_count_66 : decode cX0_count 66 = .ok (.iaload, 1) := by decide +kernel
theorem dX0_count_67 : decode cX0_count 67 = .ok (.iconst 1, 1) := by decide +kernel
theorem dX0_count_68 : decode cX0_count 68 = .ok (.iadd, 1) := by decide +kernel
theorem dX0_count_69 : decode cX0_count 69 = .ok (.iconst 2, 1) := by decide +kernel
theorem dX0_count_70 : decode cX0_count 70 = .ok (.idiv, 1) := by decide +kernel
theorem dX0_count_71 : decode cX0_count 71 = .ok (.iastore, 1) := by decide +kernel
theorem dX0_count_72 : decode cX0_count 72 = .ok (.aload_n 0, 1) := by decide +kernel
theorem dX0_count_73 : decode cX0_count 73 = .ok (.getfield 23, 3) := by decide +kernel
theorem dX0_count_76 : decode cX0_count 76 = .ok (.iload_n 2, 1) := by decide +kernel
theorem dX0_count_77 : decode cX0_count 77 = .ok (.aload_n 0, 1) := by decide +kernel
theorem dX0_count_78 : decode cX0_count 78 = .ok (.getfield 23, 3) := by decide +kernel
theorem dX0_count_81 : decode cX0_count 81 = .ok (.iload_n 2, 1) := by decide +kernel
theorem dX0_count_82 : decode cX0_count 82 = .ok (.iaload, 1) := by decide +kernel
theorem dX0_count_83 : decode cX0_count 83 = .ok (.iconst 1, 1) := by decide +kernel
theorem dX0_count_84 : decode cX0_count 84 = .ok (.iadd, 1) := by decide +kernel
theorem dX0_count_85 : decode cX0_count 85 = .ok (.iconst 2, 1) := by decide +kernel
theorem dX0_count_86 : decode cX0_count 86 = .ok (.idiv, 1) := by decide +kernel
theorem dX0_count_87 : decode cX0_count 87 = .ok (.iastore, 1) := by decide +kernel
theorem dX0_count_88 : decode cX0_count 88 = .ok (.return_, 1) := by decide +kernel
theorem dX0_nextOffset_0 : decode cX0_nextOffset 0 = .ok (.aload_n 0, 1) := by decide +kernel
theorem dX0_nextOffset_1 : decode cX0_nextOffset 1 = .ok (.getfield 16, 3) := by decide +kernel
theorem dX0_nextOffset_4 : decode cX0_nextOffset 4 = .ok (.ldc 52, 2) := by decide +kernel
theorem dX0_nextOffset_6 : decode cX0_nextOffset 6 = .ok (.if_icmp .ge 5, 3) := by decide +kernel
theorem dX0_nextOffset_9 : decode cX0_nextOffset 9 = .ok (.iconst 0, 1) := by decide +kernel
theorem dX0_nextOffset_10 : decode cX0_nextOffset 10 = .ok (.ireturn, 1) := by decide +kernel
theorem dX0_nextOffset_11 : decode cX0_nextOffset 11 = .ok (.aload_n 0, 1) := by decide +kernel
theorem dX0_nextOffset_12 : decode cX0_nextOffset 12 = .ok (.getfield 9, 3) := by decide +kernel
theorem dX0_nextOffset_15 : decode cX0_nextOffset 15 = .ok (.ldc 52, 2) := by decide +kernel
theorem dX0_nextOffset_17 : decode cX0_nextOffset 17 = .ok (.if_icmp .lt 6, 3) := by decide +kernel
theorem dX0_nextOffset_20 : decode cX0_nextOffset 20 = .ok (.ldc 52, 2) := by decide +kernel
theorem dX0_nextOffset_22 : decode cX0_nextOffset 22 = .ok (.ireturn, 1) := by decide +kernel
theorem dX0_nextOffset_23 : decode cX0_nextOffset 23 = .ok (.aload_n 0, 1) := by decide +kernel
theorem dX0_nextOffset_24 : decode cX0_nextOffset 24 = .ok (.getfield 9, 3) := by decide +kernel
theorem dX0_nextOffset_27 : decode cX0_nextOffset 27 = .ok (.sipush 16384, 3) := by decide +kernel
theorem dX0_nextOffset_30 : decode cX0_nextOffset 30 = .ok (.if_icmp .lt 18, 3) := by decide +kernel
theorem dX0_nextOffset_33 : decode cX0_nextOffset 33 = .ok (.aload_n 0, 1) := by decide +kernel
theorem dX0_nextOffset_34 : decode cX0_nextOffset 34 = .ok (.getfield 16, 3) := by decide +kernel
theorem dX0_nextOffset_37 : decode cX0_nextOffset 37 = .ok (.ldc 53, 2) := by decide +kernel
theorem dX0_nextOffset_39 : decode cX0_nextOffset 39 = .ok (.if_icmp .ge 9, 3) := by decide +kernel
theorem dX0_nextOffset_42 : decode cX0_nextOffset 42 = .ok (.sipush 16384, 3) := by decide +kernel
theorem dX0_nextOffset_45 : decode cX0_nextOffset 45 = .ok (.goto 4, 3) := by decide +kernel
theorem dX0_nextOffset_48 : decode cX0_nextOffset 48 = .ok (.iconst (-1), 1) := by decide +kernel
theorem dX0_nextOffset_49 : decode cX0_nextOffset 49 = .ok (.ireturn, 1) := by decide +kernel
theorem dX1_init_0 : decode cX1_init 0 = .ok (.aload_n 0, 1) := by decide +kernel
theorem dX1_init_1 : decode cX1_init 1 = .ok (.invokespecial 1, 3) := by decide +kernel
theorem dX1_init_4 : decode cX1_init 4 = .ok (.aload_n 0, 1) := by decide +kernel
theorem dX1_init_5 : decode cX1_init 5 = .ok (.iconst 0, 1) := by decide +kernel
theorem dX1_init_6 : decode cX1_init 6 = .ok (.newarray .int, 2) := by decide +kernel
theorem dX1_init_8 : decode cX1_init 8 = .ok (.putfield 7, 3) := by decide +kernel
theorem dX1_init_11 : decode cX1_init 11 = .ok (.aload_n 0, 1) := by decide +kernel
theorem dX1_init_12 : decode cX1_init 12 = .ok (.iconst 0, 1) := by decide +kernel
theorem dX1_init_13 : decode cX1_init 13 = .ok (.putfield 13, 3) := by decide +kernel
theorem dX1_init_16 : decode cX1_init 16 = .ok (.aload_n 0, 1) := by decide +kernel
theorem dX1_init_17 : decode cX1_init 17 = .ok (.iconst 0, 1) := by decide +kernel
theorem dX1_init_18 : decode cX1_init 18 = .ok (.putfield 17, 3) := by decide +kernel
theorem dX1_init_21 : decode cX1_init 21 = .ok (.aload_n 0, 1) := by decide +kernel
theorem dX1_init_22 : decode cX1_init 22 = .ok (.iconst 0, 1) := by decide +kernel
theorem dX1_init_23 : decode cX1_init 23 = .ok (.putfield 20, 3) := by decide +kernel
theorem dX1_init_26 : decode cX1_init 26 = .ok (.return_, 1) := by decide +kernel
theorem dX1_start_0 : decode cX1_start 0 = .ok (.aload_n 0, 1) := by decide +kernel
theorem dX1_start_1 : decode cX1_start 1 = .ok (.invokevirtual 23, 3) := by decide +kernel
theorem dX1_start_4 : decode cX1_start 4 = .ok (.aload_n 0, 1) := by decide +kernel
theorem dX1_start_5 : decode cX1_start 5 = .ok (.aload_n 1, 1) := by decide +kernel
theorem dX1_start_6 : decode cX1_start 6 = .ok (.putfield 7, 3) := by decide +kernel
theorem dX1_start_9 : decode cX1_start 9 = .ok (.aload_n 0, 1) := by decide +kernel
theorem dX1_start_10 : decode cX1_start 10 = .ok (.iload_n 2, 1) := by decide +kernel
theorem dX1_start_11 : decode cX1_start 11 = .ok (.bipush 8, 2) := by decide +kernel
theorem dX1_start_13 : decode cX1_start 13 = .ok (.imul, 1) := by decide +kernel
theorem dX1_start_14 : decode cX1_start 14 = .ok (.putfield 13, 3) := by decide +kernel
theorem dX1_start_17 : decode cX1_start 17 = .ok (.aload_n 0, 1) := by decide +kernel
theorem dX1_start_18 : decode cX1_start 18 = .ok (.iload_n 2, 1) := by decide +kernel
theorem dX1_start_19 : decode cX1_start 19 = .ok (.iload_n 3, 1) := by decide +kernel
theorem dX1_start_20 : decode cX1_start 20 = .ok (.iadd, 1) := by decide +kernel
theorem dX1_start_21 : decode cX1_start 21 = .ok (.aload_n 1, 1) := by decide +kernel
theorem dX1_start_22 : decode cX1_start 22 = .ok (.arraylength, 1) := by decide +kernel
theorem dX1_start_23 : decode cX1_start 23 = .ok (.invokestatic 26, 3) := by decide +kernel
theorem dX1_start_26 : decode cX1_start 26 = .ok (.bipush 8, 2) := by decide +kernel
theorem dX1_start_28 : decode cX1_start 28 = .ok (.imul, 1) := by decide +kernel
theorem dX1_start_29 : decode cX1_start 29 = .ok (.putfield 17, 3) := by decide +kernel
theorem dX1_start_32 : decode cX1_start 32 = .ok (.aload_n 0, 1) := by decide +kernel
theorem dX1_start_33 : decode cX1_start 33 = .ok (.iconst 0, 1) := by decide +kernel
theorem dX1_start_34 : decode cX1_start 34 = .ok (.putfield 20, 3) := by decide +kernel
theorem dX1_start_37 : decode cX1_start 37 = .ok (.iconst 0, 1) := by decide +kernel
theorem dX1_start_38 : decode cX1_start 38 = .ok (.istore 4, 2) := by decide +kernel
theorem dX1_start_40 : decode cX1_start 40 = .ok (.iload 4, 2) := by decide +kernel
theorem dX1_start_42 : decode cX1_start 42 = .ok (.bipush 16, 2) := by decide +kernel
theorem dX1_start_44 : decode cX1_start 44 = .ok (.if_icmp .ge 14, 3) := by decide +kernel
theorem dX1_start_47 : decode cX1_start 47 = .ok (.aload_n 0, 1) := by decide +kernel
theorem dX1_start_48 : decode cX1_start 48 = .ok (.iconst 0, 1) := by decide +kernel
theorem dX1_start_49 : decode cX1_start 49 = .ok (.invokevirtual 32, 3) := by decide +kernel
theorem dX1_start_52 : decode cX1_start 52 = .ok (.iinc 4 1, 3) := by decide +kernel
theorem dX1_start_55 : decode cX1_start 55 = .ok (.goto (-15), 3) := by decide +kernel
theorem dX1_start_58 : decode cX1_start 58 = .ok (.return_, 1) := by decide +kernel
theorem dX1_choose_0 : decode cX1_choose 0 = .ok (.aload_n 0, 1) := by decide +kernel
theorem dX1_choose_1 : decode cX1_choose 1 = .ok (.getfield 20, 3) := by decide +kernel
theorem dX1_choose_4 : decode cX1_choose 4 = .ok (.iload_n 2, 1) := by decide +kernel
theorem dX1_choose_5 : decode cX1_choose 5 = .ok (.if_icmp .gt 7, 3) := by decide +kernel
theorem dX1_choose_8 : decode cX1_choose 8 = .ok (.iconst 0, 1) := by decide +kernel
theorem dX1_choose_9 : decode cX1_choose 9 = .ok (.goto 4, 3) := by decide +kernel
theorem dX1_choose_12 : decode cX1_choose 12 = .ok (.iconst 1, 1) := by decide +kernel
theorem dX1_choose_13 : decode cX1_choose 13 = .ok (.ireturn, 1) := by decide +kernel
theorem dX1_take_0 : decode cX1_take 0 = .ok (.iconst 0, 1) := by decide +kernel
theorem dX1_take_1 : decode cX1_take 1 = .ok (.istore_n 2, 1) := by decide +kernel
theorem dX1_take_2 : decode cX1_take 2 = .ok (.aload_n 0, 1) := by decide +kernel
theorem dX1_take_3 : decode cX1_take 3 = .ok (.getfield 13, 3) := by decide +kernel
theorem dX1_take_6 : decode cX1_take 6 = .ok (.aload_n 0, 1) := by decide +kernel
theorem dX1_take_7 : decode cX1_take 7 = .ok (.getfield 17, 3) := by decide +kernel
theorem dX1_take_10 : decode cX1_take 10 = .ok (.if_icmp .ge 39, 3) := by decide +kernel
theorem dX1_take_13 : decode cX1_take 13 = .ok (.aload_n 0, 1) := by decide +kernel
theorem dX1_take_14 : decode cX1_take 14 = .ok (.getfield 7, 3) := by decide +kernel
theorem dX1_take_17 : decode cX1_take 17 = .ok (.aload_n 0, 1) := by decide +kernel
theorem dX1_take_18 : decode cX1_take 18 = .ok (.getfield 13, 3) := by decide +kernel
theorem dX1_take_21 : decode cX1_take 21 = .ok (.bipush 8, 2) := by decide +kernel
theorem dX1_take_23 : decode cX1_take 23 = .ok (.idiv, 1) := by decide +kernel
theorem dX1_take_24 : decode cX1_take 24 = .ok (.iaload, 1) := by decide +kernel
theorem dX1_take_25 : decode cX1_take 25 = .ok (.bipush 7, 2) := by decide +kernel
theorem dX1_take_27 : decode cX1_take 27 = .ok (.aload_n 0, 1) := by decide +kernel
theorem dX1_take_28 : decode cX1_take 28 = .ok (.getfield 13, 3) := by decide +kernel
theorem dX1_take_31 : decode cX1_take 31 = .ok (.bipush 8, 2) := by decide +kernel
theorem dX1_take_33 : decode cX1_take 33 = .ok (.irem, 1) := by decide +kernel
theorem dX1_take_34 : decode cX1_take 34 = .ok (.isub, 1) := by decide +kernel
theorem dX1_take_35 : decode cX1_take 35 = .ok (.ishr, 1) := by decide +kernel
theorem dX1_take_36 : decode cX1_take 36 = .ok (.iconst 1, 1) := by decide +kernel
theorem dX1_take_37 : decode cX1_take 37 = .ok (.iand, 1) := by decide +kernel
theorem dX1_take_38 : decode cX1_take 38 = .ok (.istore_n 2, 1) := by decide +kernel
theorem dX1_take_39 : decode cX1_take 39 = .ok (.aload_n 0, 1) := by decide +kernel
theorem dX1_take_40 : decode cX1_take 40 = .ok (.dup, 1) := by decide +kernel
theorem dX1_take_41 : decode cX1_take 41 = .ok (.getfield 13, 3) := by decide +kernel
theorem dX1_take_44 : decode cX1_take 44 = .ok (.iconst 1, 1) := by decide +kernel
theorem dX1_take_45 : decode cX1_take 45 = .ok (.iadd, 1) := by decide +kernel
theorem dX1_take_46 : decode cX1_take 46 = .ok (.putfield 13, 3) := by decide +kernel
theorem dX1_take_49 : decode cX1_take 49 = .ok (.aload_n 0, 1) := by decide +kernel
theorem dX1_take_50 : decode cX1_take 50 = .ok (.aload_n 0, 1) := by decide +kernel
theorem dX1_take_51 : decode cX1_take 51 = .ok (.getfield 20, 3) := by decide +kernel
theorem dX1_take_54 : decode cX1_take 54 = .ok (.iload_n 1, 1) := by decide +kernel
theorem dX1_take_55 : decode cX1_take 55 = .ok (.isub, 1) := by decide +kernel
theorem dX1_take_56 : decode cX1_take 56 = .ok (.iconst 2, 1) := by decide +kernel
theorem dX1_take_57 : decode cX1_take 57 = .ok (.imul, 1) := by decide +kernel
theorem dX1_take_58 : decode cX1_take 58 = .ok (.iload_n 2, 1) := by decide +kernel
theorem dX1_take_59 : decode cX1_take 59 = .ok (.iadd, 1) := by decide +kernel
theorem dX1_take_60 : decode cX1_take 60 = .ok (.putfield 20, 3) := by decide +kernel
theorem dX1_take_63 : decode cX1_take 63 = .ok (.return_, 1) := by decide +kernel
theorem dX2_init_0 : decode cX2_init 0 = .ok (.aload_n 0, 1) := by decide +kernel
theorem dX2_init_1 : decode cX2_init 1 = .ok (.invokespecial 1, 3) := by decide +kernel
theorem dX2_init_4 : decode cX2_init 4 = .ok (.aload_n 0, 1) := by decide +kernel
theorem dX2_init_5 : decode cX2_init 5 = .ok (.sipush 2048, 3) := by decide +kernel
theorem dX2_init_8 : decode cX2_init 8 = .ok (.newarray .int, 2) := by decide +kernel
theorem dX2_init_10 : decode cX2_init 10 = .ok (.putfield 7, 3) := by decide +kernel
theorem dX2_init_13 : decode cX2_init 13 = .ok (.aload_n 0, 1) := by decide +kernel
theorem dX2_init_14 : decode cX2_init 14 = .ok (.iconst 0, 1) := by decide +kernel
theorem dX2_init_15 : decode cX2_init 15 = .ok (.putfield 13, 3) := by decide +kernel
theorem dX2_init_18 : decode cX2_init 18 = .ok (.aload_n 0, 1) := by decide +kernel
theorem dX2_init_19 : decode cX2_init 19 = .ok (.iconst 0, 1) := by decide +kernel
theorem dX2_init_20 : decode cX2_init 20 = .ok (.putfield 17, 3) := by decide +kernel
theorem dX2_init_23 : decode cX2_init 23 = .ok (.return_, 1) := by decide +kernel
theorem dX2_start_0 : decode cX2_start 0 = .ok (.aload_n 0, 1) := by decide +kernel
theorem dX2_start_1 : decode cX2_start 1 = .ok (.invokevirtual 20, 3) := by decide +kernel
theorem dX2_start_4 : decode cX2_start 4 = .ok (.aload_n 0, 1) := by decide +kernel
theorem dX2_start_5 : decode cX2_start 5 = .ok (.iconst 0, 1) := by decide +kernel
theorem dX2_start_6 : decode cX2_start 6 = .ok (.putfield 13, 3) := by decide +kernel
theorem dX2_start_9 : decode cX2_start 9 = .ok (.aload_n 0, 1) := by decide +kernel
theorem dX2_start_10 : decode cX2_start 10 = .ok (.iconst 0, 1) := by decide +kernel
theorem dX2_start_11 : decode cX2_start 11 = .ok (.putfield 17, 3) := by decide +kernel
theorem dX2_start_14 : decode cX2_start 14 = .ok (.return_, 1) := by decide +kernel
theorem dX2_finish_0 : decode cX2_finish 0 = .ok (.aload_n 0, 1) := by decide +kernel
theorem dX2_finish_1 : decode cX2_finish 1 = .ok (.dup, 1) := by decide +kernel
theorem dX2_finish_2 : decode cX2_finish 2 = .ok (.getfield 17, 3) := by decide +kernel
theorem dX2_finish_5 : decode cX2_finish 5 = .ok (.iconst 1, 1) := by decide +kernel
theorem dX2_finish_6 : decode cX2_finish 6 = .ok (.iadd, 1) := by decide +kernel
theorem dX2_finish_7 : decode cX2_finish 7 = .ok (.putfield 17, 3) := by decide +kernel
theorem dX2_finish_10 : decode cX2_finish 10 = .ok (.aload_n 0, 1) := by decide +kernel
theorem dX2_finish_11 : decode cX2_finish 11 = .ok (.aload_n 0, 1) := by decide +kernel
theorem dX2_finish_12 : decode cX2_finish 12 = .ok (.getfield 23, 3) := by decide +kernel
theorem dX2_finish_15 : decode cX2_finish 15 = .ok (.sipush 16384, 3) := by decide +kernel
theorem dX2_finish_18 : decode cX2_finish 18 = .ok (.if_icmp .ge 7, 3) := by decide +kernel
theorem dX2_finish_21 : decode cX2_finish 21 = .ok (.iconst 0, 1) := by decide +kernel
theorem dX2_finish_22 : decode cX2_finish 22 = .ok (.goto 5, 3) := by decide +kernel
theorem dX2_finish_25 : decode cX2_finish 25 = .ok (.ldc 26, 2) := by decide +kernel
theorem dX2_finish_27 : decode cX2_finish 27 = .ok (.invokevirtual 27, 3) := by decide +kernel
theorem dX2_finish_30 : decode cX2_finish 30 = .ok (.return_, 1) := by decide +kernel
theorem dX2_byteCount_0 : decode cX2_byteCount 0 = .ok (.aload_n 0, 1) := by decide +kernel
theorem dX2_byteCount_1 : decode cX2_byteCount 1 = .ok (.getfield 13, 3) := by decide +kernel
theorem dX2_byteCount_4 : decode cX2_byteCount 4 = .ok (.bipush 7, 2) := by decide +kernel
theorem dX2_byteCount_6 : decode cX2_byteCount 6 = .ok (.iadd, 1) := by decide +kernel
theorem dX2_byteCount_7 : decode cX2_byteCount 7 = .ok (.bipush 8, 2) := by decide +kernel
theorem dX2_byteCount_9 : decode cX2_byteCount 9 = .ok (.idiv, 1) := by decide +kernel
theorem dX2_byteCount_10 : decode cX2_byteCount 10 = .ok (.ireturn, 1) := by decide +kernel
theorem dX2_choose_0 : decode cX2_choose 0 = .ok (.iload_n 1, 1) := by decide +kernel
theorem dX2_choose_1 : decode cX2_choose 1 = .ok (.ireturn, 1) := by decide +kernel
theorem dX2_take_0 : decode cX2_take 0 = .ok (.iload_n 1, 1) := by decide +kernel
theorem dX2_take_1 : decode cX2_take 1 = .ok (.sipush 16384, 3) := by decide +kernel
theorem dX2_take_4 : decode cX2_take 4 = .ok (.if_icmp .ne 14, 3) := by decide +kernel
theorem dX2_take_7 : decode cX2_take 7 = .ok (.aload_n 0, 1) := by decide +kernel
theorem dX2_take_8 : decode cX2_take 8 = .ok (.dup, 1) := by decide +kernel
theorem dX2_take_9 : decode cX2_take 9 = .ok (.getfield 17, 3) := by decide +kernel
theorem dX2_take_12 : decode cX2_take 12 = .ok (.iconst 1, 1) := by decide +kernel
theorem dX2_take_13 : decode cX2_take 13 = .ok (.iadd, 1) := by decide +kernel
theorem dX2_take_14 : decode cX2_take 14 = .ok (.putfield 17, 3) := by decide +kernel
theorem dX2_take_17 : decode cX2_take 17 = .ok (.return_, 1) := by decide +kernel
theorem dX2_take_18 : decode cX2_take 18 = .ok (.iload_n 1, 1) := by decide +kernel
theorem dX2_take_19 : decode cX2_take 19 = .ok (.ldc 26, 2) := by decide +kernel
theorem dX2_take_21 : decode cX2_take 21 = .ok (.if_icmp .ne 7, 3) := by decide +kernel
theorem dX2_take_24 : decode cX2_take 24 = .ok (.iconst 1, 1) := by decide +kernel
theorem dX2_take_25 : decode cX2_take 25 = .ok (.goto 4, 3) := by decide +kernel
theorem dX2_take_28 : decode cX2_take 28 = .ok (.iconst 0, 1) := by decide +kernel
theorem dX2_take_29 : decode cX2_take 29 = .ok (.istore_n 2, 1) := by decide +kernel
theorem dX2_take_30 : decode cX2_take 30 = .ok (.iconst 1, 1) := by decide +kernel
theorem dX2_take_31 : decode cX2_take 31 = .ok (.aload_n 0, 1) := by decide +kernel
theorem dX2_take_32 : decode cX2_take 32 = .ok (.getfield 17, 3) := by decide +kernel
theorem dX2_take_35 : decode cX2_take 35 = .ok (.iadd, 1) := by decide +kernel
theorem dX2_take_36 : decode cX2_take 36 = .ok (.istore_n 3, 1) := by decide +kernel
theorem dX2_take_37 : decode cX2_take 37 = .ok (.aload_n 0, 1) := by decide +kernel
theorem dX2_take_38 : decode cX2_take 38 = .ok (.iconst 0, 1) := by decide +kernel
theorem dX2_take_39 : decode cX2_take 39 = .ok (.putfield 17, 3) := by decide +kernel
theorem dX2_take_42 : decode cX2_take 42 = .ok (.iconst 0, 1) := by decide +kernel
theorem dX2_take_43 : decode cX2_take 43 = .ok (.istore 4, 2) := by decide +kernel
theorem dX2_take_45 : decode cX2_take 45 = .ok (.iload 4, 2) := by decide +kernel
theorem dX2_take_47 : decode cX2_take 47 = .ok (.iload_n 3, 1) := by decide +kernel
theorem dX2_take_48 : decode cX2_take 48 = .ok (.if_icmp .ge 103, 3) := by decide +kernel
theorem dX2_take_51 : decode cX2_take 51 = .ok (.aload_n 0, 1) := by decide +kernel
theorem dX2_take_52 : decode cX2_take 52 = .ok (.getfield 13, 3) := by decide +kernel
theorem dX2_take_55 : decode cX2_take 55 = .ok (.bipush 8, 2) := by decide +kernel
theorem dX2_take_57 : decode cX2_take 57 = .ok (.idiv, 1) := by decide +kernel
theorem dX2_take_58 : decode cX2_take 58 = .ok (.aload_n 0, 1) := by decide +kernel
theorem dX2_take_59 : decode cX2_take 59 = .ok (.getfield 7, 3) := by decide +kernel
theorem dX2_take_62 : decode cX2_take 62 = .ok (.arraylength, 1) := by decide +kernel
theorem dX2_take_63 : decode cX2_take 63 = .ok (.if_icmp .ge 88, 3) := by decide +kernel
theorem dX2_take_66 : decode cX2_take 66 = .ok (.iload 4, 2) := by decide +kernel
theorem dX2_take_68 : decode cX2_take 68 = .ok (.ifCond .ne 7, 3) := by decide +kernel
theorem dX2_take_71 : decode cX2_take 71 = .ok (.iload_n 2, 1) := by decide +kernel
theorem dX2_take_72 : decode cX2_take 72 = .ok (.goto 6, 3) := by decide +kernel
theorem dX2_take_75 : decode cX2_take 75 = .ok (.iconst 1, 1) := by decide +kernel
theorem dX2_take_76 : decode cX2_take 76 = .ok (.iload_n 2, 1) := by decide +kernel
theorem dX2_take_77 : decode cX2_take 77 = .ok (.isub, 1) := by decide +kernel
theorem dX2_take_78 : decode cX2_take 78 = .ok (.istore 5, 2) := by decide +kernel
theorem dX2_take_80 : decode cX2_take 80 = .ok (.aload_n 0, 1) := by decide +kernel
theorem dX2_take_81 : decode cX2_take 81 = .ok (.getfield 13, 3) := by decide +kernel
theorem dX2_take_84 : decode cX2_take 84 = .ok (.bipush 8, 2) := by decide +kernel
theorem dX2_take_86 : decode cX2_take 86 = .ok (.idiv, 1) := by decide +kernel
theorem dX2_take_87 : decode cX2_take 87 = .ok (.istore 6, 2) := by decide +kernel
theorem dX2_take_89 : decode cX2_take 89 = .ok (.aload_n 0, 1) := by decide +kernel
theorem dX2_take_90 : decode cX2_take 90 = .ok (.getfield 13, 3) := by decide +kernel
theorem dX2_take_93 : decode cX2_take 93 = .ok (.bipush 8, 2) := by decide +kernel
theorem dX2_take_95 : decode cX2_take 95 = .ok (.irem, 1) := by decide +kernel
theorem dX2_take_96 : decode cX2_take 96 = .ok (.ifCond .ne 7, 3) := by decide +kernel
theorem dX2_take_99 : decode cX2_take 99 = .ok (.iconst 0, 1) := by decide +kernel
theorem dX2_take_100 : decode cX2_take 100 = .ok (.goto 10, 3) := by decide +kernel
theorem dX2_take_103 : decode cX2_take 103 = .ok (.aload_n 0, 1) := by decide +kernel
theorem dX2_take_104 : decode cX2_take 104 = .ok (.getfield 7, 3) := by decide +kernel
theorem dX2_take_107 : decode cX2_take 107 = .ok (.iload 6, 2) := by decide +kernel
theorem dX2_take_109 : decode cX2_take 109 = .ok (.iaload, 1) := by decide +kernel
theorem dX2_take_110 : decode cX2_take 110 = .ok (.istore 7, 2) := by decide +kernel
theorem dX2_take_112 : decode cX2_take 112 = .ok (.aload_n 0, 1) := by decide +kernel
theorem dX2_take_113 : decode cX2_take 113 = .ok (.getfield 7, 3) := by decide +kernel
theorem dX2_take_116 : decode cX2_take 116 = .ok (.iload 6, 2) := by decide +kernel
theorem dX2_take_118 : decode cX2_take 118 = .ok (.iload 7, 2) := by decide +kernel
theorem dX2_take_120 : decode cX2_take 120 = .ok (.iload 5, 2) := by decide +kernel
theorem dX2_take_122 : decode cX2_take 122 = .ok (.bipush 7, 2) := by decide +kernel
theorem dX2_take_124 : decode cX2_take 124 = .ok (.aload_n 0, 1) := by decide +kernel
theorem dX2_take_125 : decode cX2_take 125 = .ok (.getfield 13, 3) := by decide +kernel
theorem dX2_take_128 : decode cX2_take 128 = .ok (.bipush 8, 2) := by decide +kernel
theorem dX2_take_130 : decode cX2_take 130 = .ok (.irem, 1) := by decide +kernel
theorem dX2_take_131 : decode cX2_take 131 = .ok (.isub, 1) := by decide +kernel
theorem dX2_take_132 : decode cX2_take 132 = .ok (.ishl, 1) := by decide +kernel
theorem dX2_take_133 : decode cX2_take 133 = .ok (.ior, 1) := by decide +kernel
theorem dX2_take_134 : decode cX2_take 134 = .ok (.iastore, 1) := by decide +kernel
theorem dX2_take_135 : decode cX2_take 135 = .ok (.aload_n 0, 1) := by decide +kernel
theorem dX2_take_136 : decode cX2_take 136 = .ok (.dup, 1) := by decide +kernel
theorem dX2_take_137 : decode cX2_take 137 = .ok (.getfield 13, 3) := by decide +kernel
theorem dX2_take_140 : decode cX2_take 140 = .ok (.iconst 1, 1) := by decide +kernel
theorem dX2_take_141 : decode cX2_take 141 = .ok (.iadd, 1) := by decide +kernel
theorem dX2_take_142 : decode cX2_take 142 = .ok (.putfield 13, 3) := by decide +kernel
theorem dX2_take_145 : decode cX2_take 145 = .ok (.iinc 4 1, 3) := by decide +kernel
theorem dX2_take_148 : decode cX2_take 148 = .ok (.goto (-103), 3) := by decide +kernel
theorem dX2_take_151 : decode cX2_take 151 = .ok (.return_, 1) := by decide +kernel
theorem dX3_init_0 : decode cX3_init 0 = .ok (.aload_n 0, 1) := by decide +kernel
theorem dX3_init_1 : decode cX3_init 1 = .ok (.invokespecial 1, 3) := by decide +kernel
theorem dX3_init_4 : decode cX3_init 4 = .ok (.aload_n 0, 1) := by decide +kernel
theorem dX3_init_5 : decode cX3_init 5 = .ok (.sipush 512, 3) := by decide +kernel
theorem dX3_init_8 : decode cX3_init 8 = .ok (.newarray .int, 2) := by decide +kernel
theorem dX3_init_10 : decode cX3_init 10 = .ok (.putfield 7, 3) := by decide +kernel
theorem dX3_init_13 : decode cX3_init 13 = .ok (.aload_n 0, 1) := by decide +kernel
theorem dX3_init_14 : decode cX3_init 14 = .ok (.iconst 0, 1) := by decide +kernel
theorem dX3_init_15 : decode cX3_init 15 = .ok (.putfield 13, 3) := by decide +kernel
theorem dX3_init_18 : decode cX3_init 18 = .ok (.return_, 1) := by decide +kernel
theorem dX3_clear_0 : decode cX3_clear 0 = .ok (.aload_n 0, 1) := by decide +kernel
theorem dX3_clear_1 : decode cX3_clear 1 = .ok (.iconst 0, 1) := by decide +kernel
theorem dX3_clear_2 : decode cX3_clear 2 = .ok (.putfield 13, 3) := by decide +kernel
theorem dX3_clear_5 : decode cX3_clear 5 = .ok (.return_, 1) := by decide +kernel
theorem dX3_append_0 : decode cX3_append 0 = .ok (.aload_n 0, 1) := by decide +kernel
theorem dX3_append_1 : decode cX3_append 1 = .ok (.getfield 13, 3) := by decide +kernel
theorem dX3_append_4 : decode cX3_append 4 = .ok (.aload_n 0, 1) := by decide +kernel
theorem dX3_append_5 : decode cX3_append 5 = .ok (.getfield 7, 3) := by decide +kernel
theorem dX3_append_8 : decode cX3_append 8 = .ok (.arraylength, 1) := by decide +kernel
theorem dX3_append_9 : decode cX3_append 9 = .ok (.if_icmp .lt 21, 3) := by decide +kernel
theorem dX3_append_12 : decode cX3_append 12 = .ok (.aload_n 0, 1) := by decide +kernel
theorem dX3_append_13 : decode cX3_append 13 = .ok (.aload_n 0, 1) := by decide +kernel
theorem dX3_append_14 : decode cX3_append 14 = .ok (.getfield 7, 3) := by decide +kernel
theorem dX3_append_17 : decode cX3_append 17 = .ok (.aload_n 0, 1) := by decide +kernel
theorem dX3_append_18 : decode cX3_append 18 = .ok (.getfield 7, 3) := by decide +kernel
theorem dX3_append_21 : decode cX3_append 21 = .ok (.arraylength, 1) := by decide +kernel
theorem dX3_append_22 : decode cX3_append 22 = .ok (.iconst 2, 1) := by decide +kernel
theorem dX3_append_23 : decode cX3_append 23 = .ok (.imul, 1) := by decide +kernel
theorem dX3_append_24 : decode cX3_append 24 = .ok (.invokestatic 17, 3) := by decide +kernel
theorem dX3_append_27 : decode cX3_append 27 = .ok (.putfield 7, 3) := by decide +kernel
theorem dX3_append_30 : decode cX3_append 30 = .ok (.aload_n 0, 1) := by decide +kernel
theorem dX3_append_31 : decode cX3_append 31 = .ok (.getfield 7, 3) := by decide +kernel
theorem dX3_append_34 : decode cX3_append 34 = .ok (.aload_n 0, 1) := by decide +kernel
theorem dX3_append_35 : decode cX3_append 35 = .ok (.getfield 13, 3) := by decide +kernel
theorem dX3_append_38 : decode cX3_append 38 = .ok (.iload_n 1, 1) := by decide +kernel
theorem dX3_append_39 : decode cX3_append 39 = .ok (.iastore, 1) := by decide +kernel
theorem dX3_append_40 : decode cX3_append 40 = .ok (.aload_n 0, 1) := by decide +kernel
theorem dX3_append_41 : decode cX3_append 41 = .ok (.dup, 1) := by decide +kernel
theorem dX3_append_42 : decode cX3_append 42 = .ok (.getfield 13, 3) := by decide +kernel
theorem dX3_append_45 : decode cX3_append 45 = .ok (.iconst 1, 1) := by decide +kernel
theorem dX3_append_46 : decode cX3_append 46 = .ok (.iadd, 1) := by decide +kernel
theorem dX3_append_47 : decode cX3_append 47 = .ok (.putfield 13, 3) := by decide +kernel
theorem dX3_append_50 : decode cX3_append 50 = .ok (.return_, 1) := by decide +kernel
theorem dX3_at_0 : decode cX3_at 0 = .ok (.iload_n 1, 1) := by decide +kernel
theorem dX3_at_1 : decode cX3_at 1 = .ok (.ifCond .lt 20, 3) := by decide +kernel
theorem dX3_at_4 : decode cX3_at 4 = .ok (.iload_n 1, 1) := by decide +kernel
theorem dX3_at_5 : decode cX3_at 5 = .ok (.aload_n 0, 1) := by decide +kernel
theorem dX3_at_6 : decode cX3_at 6 = .ok (.getfield 13, 3) := by decide +kernel
theorem dX3_at_9 : decode cX3_at 9 = .ok (.if_icmp .ge 12, 3) := by decide +kernel
theorem dX3_at_12 : decode cX3_at 12 = .ok (.aload_n 0, 1) := by decide +kernel
theorem dX3_at_13 : decode cX3_at 13 = .ok (.getfield 7, 3) := by decide +kernel
theorem dX3_at_16 : decode cX3_at 16 = .ok (.iload_n 1, 1) := by decide +kernel
theorem dX3_at_17 : decode cX3_at 17 = .ok (.iaload, 1) := by decide +kernel
theorem dX3_at_18 : decode cX3_at 18 = .ok (.goto 4, 3) := by decide +kernel
theorem dX3_at_21 : decode cX3_at 21 = .ok (.iconst (-1), 1) := by decide +kernel
theorem dX3_at_22 : decode cX3_at 22 = .ok (.ireturn, 1) := by decide +kernel
theorem dX3_put_0 : decode cX3_put 0 = .ok (.iload_n 1, 1) := by decide +kernel
theorem dX3_put_1 : decode cX3_put 1 = .ok (.ifCond .lt 18, 3) := by decide +kernel
theorem dX3_put_4 : decode cX3_put 4 = .ok (.iload_n 1, 1) := by decide +kernel
theorem dX3_put_5 : decode cX3_put 5 = .ok (.aload_n 0, 1) := by decide +kernel
theorem dX3_put_6 : decode cX3_put 6 = .ok (.getfield 13, 3) := by decide +kernel
theorem dX3_put_9 : decode cX3_put 9 = .ok (.if_icmp .ge 10, 3) := by decide +kernel
theorem dX3_put_12 : decode cX3_put 12 = .ok (.aload_n 0, 1) := by decide +kernel
theorem dX3_put_13 : decode cX3_put 13 = .ok (.getfield 7, 3) := by decide +kernel
theorem dX3_put_16 : decode cX3_put 16 = .ok (.iload_n 1, 1) := by decide +kernel
theorem dX3_put_17 : decode cX3_put 17 = .ok (.iload_n 2, 1) := by decide +kernel
theorem dX3_put_18 : decode cX3_put 18 = .ok (.iastore, 1) := by decide +kernel
theorem dX3_put_19 : decode cX3_put 19 = .ok (.return_, 1) := by decide +kernel
theorem dX4_init_0 : decode cX4_init 0 = .ok (.aload_n 0, 1) := by decide +kernel
theorem dX4_init_1 : decode cX4_init 1 = .ok (.invokespecial 3, 3) := by decide +kernel
theorem dX4_init_4 : decode cX4_init 4 = .ok (.aload_n 0, 1) := by decide +kernel
theorem dX4_init_5 : decode cX4_init 5 = .ok (.iconst 1, 1) := by decide +kernel
theorem dX4_init_6 : decode cX4_init 6 = .ok (.putfield 9, 3) := by decide +kernel
theorem dX4_init_9 : decode cX4_init 9 = .ok (.aload_n 0, 1) := by decide +kernel
theorem dX4_init_10 : decode cX4_init 10 = .ok (.iconst 0, 1) := by decide +kernel
theorem dX4_init_11 : decode cX4_init 11 = .ok (.putfield 15, 3) := by decide +kernel
theorem dX4_init_14 : decode cX4_init 14 = .ok (.aload_n 0, 1) := by decide +kernel
theorem dX4_init_15 : decode cX4_init 15 = .ok (.iconst 3, 1) := by decide +kernel
theorem dX4_init_16 : decode cX4_init 16 = .ok (.newarray .int, 2) := by decide +kernel
theorem dX4_init_18 : decode cX4_init 18 = .ok (.putfield 18, 3) := by decide +kernel
theorem dX4_init_21 : decode cX4_init 21 = .ok (.aload_n 0, 1) := by decide +kernel
theorem dX4_init_22 : decode cX4_init 22 = .ok (.bipush 6, 2) := by decide +kernel
theorem dX4_init_24 : decode cX4_init 24 = .ok (.newarray .int, 2) := by decide +kernel
theorem dX4_init_26 : decode cX4_init 26 = .ok (.putfield 22, 3) := by decide +kernel
theorem dX4_init_29 : decode cX4_init 29 = .ok (.aload_n 0, 1) := by decide +kernel
theorem dX4_init_30 : decode cX4_init 30 = .ok (.bipush 24, 2) := by decide +kernel
theorem dX4_init_32 : decode cX4_init 32 = .ok (.newarray .int, 2) := by decide +kernel
theorem dX4_init_34 : decode cX4_init 34 = .ok (.putfield 25, 3) := by decide +kernel
theorem dX4_init_37 : decode cX4_init 37 = .ok (.aload_n 0, 1) := by decide +kernel
theorem dX4_init_38 : decode cX4_init 38 = .ok (.bipush 24, 2) := by decide +kernel
theorem dX4_init_40 : decode cX4_init 40 = .ok (.newarray .int, 2) := by decide +kernel
theorem dX4_init_42 : decode cX4_init 42 = .ok (.putfield 28, 3) := by decide +kernel
theorem dX4_init_45 : decode cX4_init 45 = .ok (.aload_n 0, 1) := by decide +kernel
theorem dX4_init_46 : decode cX4_init 46 = .ok (.sipush 384, 3) := by decide +kernel
theorem dX4_init_49 : decode cX4_init 49 = .ok (.newarray .int, 2) := by decide +kernel
theorem dX4_init_51 : decode cX4_init 51 = .ok (.putfield 31, 3) := by decide +kernel
theorem dX4_init_54 : decode cX4_init 54 = .ok (.aload_n 0, 1) := by decide +kernel
theorem dX4_init_55 : decode cX4_init 55 = .ok (.sipush 384, 3) := by decide +kernel
theorem dX4_init_58 : decode cX4_init 58 = .ok (.newarray .int, 2) := by decide +kernel
theorem dX4_init_60 : decode cX4_init 60 = .ok (.putfield 34, 3) := by decide +kernel
theorem dX4_init_63 : decode cX4_init 63 = .ok (.aload_n 0, 1) := by decide +kernel
theorem dX4_init_64 : decode cX4_init 64 = .ok (.new 37, 3) := by decide +kernel
theorem dX4_init_67 : decode cX4_init 67 = .ok (.dup, 1) := by decide +kernel
theorem dX4_init_68 : decode cX4_init 68 = .ok (.invokespecial 39, 3) := by decide +kernel
theorem dX4_init_71 : decode cX4_init 71 = .ok (.putfield 40, 3) := by decide +kernel
theorem dX4_init_74 : decode cX4_init 74 = .ok (.aload_n 0, 1) := by decide +kernel
theorem dX4_init_75 : decode cX4_init 75 = .ok (.new 44, 3) := by decide +kernel
theorem dX4_init_78 : decode cX4_init 78 = .ok (.dup, 1) := by decide +kernel
theorem dX4_init_79 : decode cX4_init 79 = .ok (.invokespecial 46, 3) := by decide +kernel
theorem dX4_init_82 : decode cX4_init 82 = .ok (.putfield 47, 3) := by decide +kernel
theorem dX4_init_85 : decode cX4_init 85 = .ok (.return_, 1) := by decide +kernel
theorem dX4_sizeAt_0 : decode cX4_sizeAt 0 = .ok (.aload_n 0, 1) := by decide +kernel
theorem dX4_sizeAt_1 : decode cX4_sizeAt 1 = .ok (.getfield 22, 3) := by decide +kernel
theorem dX4_sizeAt_4 : decode cX4_sizeAt 4 = .ok (.iload_n 2, 1) := by decide +kernel
theorem dX4_sizeAt_5 : decode cX4_sizeAt 5 = .ok (.bipush 8, 2) := by decide +kernel
theorem dX4_sizeAt_7 : decode cX4_sizeAt 7 = .ok (.idiv, 1) := by decide +kernel
theorem dX4_sizeAt_8 : decode cX4_sizeAt 8 = .ok (.iconst 2, 1) := by decide +kernel
theorem dX4_sizeAt_9 : decode cX4_sizeAt 9 = .ok (.imul, 1) := by decide +kernel
theorem dX4_sizeAt_10 : decode cX4_sizeAt 10 = .ok (.iload_n 1, 1) := by decide +kernel
theorem dX4_sizeAt_11 : decode cX4_sizeAt 11 = .ok (.bipush 8, 2) := by decide +kernel
theorem dX4_sizeAt_13 : decode cX4_sizeAt 13 = .ok (.idiv, 1) := by decide +kernel
theorem dX4_sizeAt_14 : decode cX4_sizeAt 14 = .ok (.iadd, 1) := by decide +kernel
theorem dX4_sizeAt_15 : decode cX4_sizeAt 15 = .ok (.iaload, 1) := by decide +kernel
theorem dX4_sizeAt_16 : decode cX4_sizeAt 16 = .ok (.iconst 4, 1) := by decide +kernel
theorem dX4_sizeAt_17 : decode cX4_sizeAt 17 = .ok (.if_icmp .ne 7, 3) := by decide +kernel
theorem dX4_sizeAt_20 : decode cX4_sizeAt 20 = .ok (.iconst 4, 1) := by decide +kernel
theorem dX4_sizeAt_21 : decode cX4_sizeAt 21 = .ok (.goto 5, 3) := by decide +kernel
theorem dX4_sizeAt_24 : decode cX4_sizeAt 24 = .ok (.bipush 8, 2) := by decide +kernel
theorem dX4_sizeAt_26 : decode cX4_sizeAt 26 = .ok (.ireturn, 1) := by decide +kernel
theorem dX4_setSizeAt_0 : decode cX4_setSizeAt 0 = .ok (.aload_n 0, 1) := by decide +kernel
theorem dX4_setSizeAt_1 : decode cX4_setSizeAt 1 = .ok (.getfield 22, 3) := by decide +kernel
theorem dX4_setSizeAt_4 : decode cX4_setSizeAt 4 = .ok (.iload_n 2, 1) := by decide +kernel
theorem dX4_setSizeAt_5 : decode cX4_setSizeAt 5 = .ok (.bipush 8, 2) := by decide +kernel
theorem dX4_setSizeAt_7 : decode cX4_setSizeAt 7 = .ok (.idiv, 1) := by decide +kernel
theorem dX4_setSizeAt_8 : decode cX4_setSizeAt 8 = .ok (.iconst 2, 1) := by decide +kernel
theorem dX4_setSizeAt_9 : decode cX4_setSizeAt 9 = .ok (.imul, 1) := by decide +kernel
theorem dX4_setSizeAt_10 : decode cX4_setSizeAt 10 = .ok (.iload_n 1, 1) := by decide +kernel
theorem dX4_setSizeAt_11 : decode cX4_setSizeAt 11 = .ok (.bipush 8, 2) := by decide +kernel
theorem dX4_setSizeAt_13 : decode cX4_setSizeAt 13 = .ok (.idiv, 1) := by decide +kernel
theorem dX4_setSizeAt_14 : decode cX4_setSizeAt 14 = .ok (.iadd, 1) := by decide +kernel
theorem dX4_setSizeAt_15 : decode cX4_setSizeAt 15 = .ok (.iload_n 3, 1) := by decide +kernel
theorem dX4_setSizeAt_16 : decode cX4_setSizeAt 16 = .ok (.iastore, 1) := by decide +kernel
theorem dX4_setSizeAt_17 : decode cX4_setSizeAt 17 = .ok (.return_, 1) := by decide +kernel
theorem dX4_firstCell_0 : decode cX4_firstCell 0 = .ok (.aload_n 0, 1) := by decide +kernel
theorem dX4_firstCell_1 : decode cX4_firstCell 1 = .ok (.iload_n 1, 1) := by decide +kernel
theorem dX4_firstCell_2 : decode cX4_firstCell 2 = .ok (.iload_n 2, 1) := by decide +kernel
theorem dX4_firstCell_3 : decode cX4_firstCell 3 = .ok (.invokevirtual 51, 3) := by decide +kernel
theorem dX4_firstCell_6 : decode cX4_firstCell 6 = .ok (.iconst 4, 1) := by decide +kernel
theorem dX4_firstCell_7 : decode cX4_firstCell 7 = .ok (.idiv, 1) := by decide +kernel
theorem dX4_firstCell_8 : decode cX4_firstCell 8 = .ok (.istore_n 3, 1) := by decide +kernel
theorem dX4_firstCell_9 : decode cX4_firstCell 9 = .ok (.iload_n 2, 1) := by decide +kernel
theorem dX4_firstCell_10 : decode cX4_firstCell 10 = .ok (.iconst 4, 1) := by decide +kernel
theorem dX4_firstCell_11 : decode cX4_firstCell 11 = .ok (.idiv, 1) := by decide +kernel
theorem dX4_firstCell_12 : decode cX4_firstCell 12 = .ok (.istore 4, 2) := by decide +kernel
theorem dX4_firstCell_14 : decode cX4_firstCell 14 = .ok (.iload_n 1, 1) := by decide +kernel
theorem dX4_firstCell_15 : decode cX4_firstCell 15 = .ok (.iconst 4, 1) := by decide +kernel
theorem dX4_firstCell_16 : decode cX4_firstCell 16 = .ok (.idiv, 1) := by decide +kernel
theorem dX4_firstCell_17 : decode cX4_firstCell 17 = .ok (.istore 5, 2) := by decide +kernel
theorem dX4_firstCell_19 : decode cX4_firstCell 19 = .ok (.iload 4, 2) := by decide +kernel
theorem dX4_firstCell_21 : decode cX4_firstCell 21 = .ok (.iload 4, 2) := by decide +kernel
theorem dX4_firstCell_23 : decode cX4_firstCell 23 = .ok (.iload_n 3, 1) := by decide +kernel
theorem dX4_firstCell_24 : decode cX4_firstCell 24 = .ok (.irem, 1) := by decide +kernel
theorem dX4_firstCell_25 : decode cX4_firstCell 25 = .ok (.isub, 1) := by decide +kernel
theorem dX4_firstCell_26 : decode cX4_firstCell 26 = .ok (.iconst 4, 1) := by decide +kernel
theorem dX4_firstCell_27 : decode cX4_firstCell 27 = .ok (.imul, 1) := by decide +kernel
theorem dX4_firstCell_28 : decode cX4_firstCell 28 = .ok (.iload 5, 2) := by decide +kernel
theorem dX4_firstCell_30 : decode cX4_firstCell 30 = .ok (.iadd, 1) := by decide +kernel
theorem dX4_firstCell_31 : decode cX4_firstCell 31 = .ok (.iload 5, 2) := by decide +kernel
theorem dX4_firstCell_33 : decode cX4_firstCell 33 = .ok (.iload_n 3, 1) := by decide +kernel
theorem dX4_firstCell_34 : decode cX4_firstCell 34 = .ok (.irem, 1) := by decide +kernel
theorem dX4_firstCell_35 : decode cX4_firstCell 35 = .ok (.isub, 1) := by decide +kernel
theorem dX4_firstCell_36 : decode cX4_firstCell 36 = .ok (.ireturn, 1) := by decide +kernel
theorem dX4_makeTile_0 : decode cX4_makeTile 0 = .ok (.aload_n 0, 1) := by decide +kernel
theorem dX4_makeTile_1 : decode cX4_makeTile 1 = .ok (.aload_n 1, 1) := by decide +kernel
theorem dX4_makeTile_2 : decode cX4_makeTile 2 = .ok (.iload_n 2, 1) := by decide +kernel
theorem dX4_makeTile_3 : decode cX4_makeTile 3 = .ok (.iload_n 3, 1) := by decide +kernel
theorem dX4_makeTile_4 : decode cX4_makeTile 4 = .ok (.iconst 1, 1) := by decide +kernel
theorem dX4_makeTile_5 : decode cX4_makeTile 5 = .ok (.invokevirtual 55, 3) := by decide +kernel
theorem dX4_makeTile_8 : decode cX4_makeTile 8 = .ok (.istore 4, 2) := by decide +kernel
theorem dX4_makeTile_10 : decode cX4_makeTile 10 = .ok (.aload_n 0, 1) := by decide +kernel
theorem dX4_makeTile_11 : decode cX4_makeTile 11 = .ok (.aload_n 1, 1) := by decide +kernel
theorem dX4_makeTile_12 : decode cX4_makeTile 12 = .ok (.iload_n 2, 1) := by decide +kernel
theorem dX4_makeTile_13 : decode cX4_makeTile 13 = .ok (.iload_n 3, 1) := by decide +kernel
theorem dX4_makeTile_14 : decode cX4_makeTile 14 = .ok (.iconst 0, 1) := by decide +kernel
theorem dX4_makeTile_15 : decode cX4_makeTile 15 = .ok (.invokevirtual 55, 3) := by decide +kernel
theorem dX4_makeTile_18 : decode cX4_makeTile 18 = .ok (.istore 5, 2) := by decide +kernel
theorem dX4_makeTile_20 : decode cX4_makeTile 20 = .ok (.iload 4, 2) := by decide +kernel
theorem dX4_makeTile_22 : decode cX4_makeTile 22 = .ok (.iload 5, 2) := by decide +kernel
theorem dX4_makeTile_24 : decode cX4_makeTile 24 = .ok (.if_icmp .ge 25, 3) := by decide +kernel
theorem dX4_makeTile_27 : decode cX4_makeTile 27 = .ok (.aload_n 0, 1) := by decide +kernel
theorem dX4_makeTile_28 : decode cX4_makeTile 28 = .ok (.aload_n 1, 1) := by decide +kernel
theorem dX4_makeTile_29 : decode cX4_makeTile 29 = .ok (.iload_n 2, 1) := by decide +kernel
theorem dX4_makeTile_30 : decode cX4_makeTile 30 = .ok (.iload_n 3, 1) := by decide +kernel
theorem dX4_makeTile_31 : decode cX4_makeTile 31 = .ok (.iconst 1, 1) := by decide +kernel
theorem dX4_makeTile_32 : decode cX4_makeTile 32 = .ok (.invokevirtual 55, 3) := by decide +kernel
theorem dX4_makeTile_35 : decode cX4_makeTile 35 = .ok (.pop, 1) := by decide +kernel
theorem dX4_makeTile_36 : decode cX4_makeTile 36 = .ok (.aload_n 0, 1) := by decide +kernel
theorem dX4_makeTile_37 : decode cX4_makeTile 37 = .ok (.dup, 1) := by decide +kernel
theorem dX4_makeTile_38 : decode cX4_makeTile 38 = .ok (.getfield 15, 3) := by decide +kernel
theorem dX4_makeTile_41 : decode cX4_makeTile 41 = .ok (.iconst 4, 1) := by decide +kernel
theorem dX4_makeTile_42 : decode cX4_makeTile 42 = .ok (.iadd, 1) := by decide +kernel
theorem dX4_makeTile_43 : decode cX4_makeTile 43 = .ok (.putfield 15, 3) := by decide +kernel
theorem dX4_makeTile_46 : decode cX4_makeTile 46 = .ok (.goto 13, 3) := by decide +kernel
theorem dX4_makeTile_49 : decode cX4_makeTile 49 = .ok (.aload_n 0, 1) := by decide +kernel
theorem dX4_makeTile_50 : decode cX4_makeTile 50 = .ok (.dup, 1) := by decide +kernel
theorem dX4_makeTile_51 : decode cX4_makeTile 51 = .ok (.getfield 15, 3) := by decide +kernel
theorem dX4_makeTile_54 : decode cX4_makeTile 54 = .ok (.iconst 1, 1) := by decide +kernel
theorem dX4_makeTile_55 : decode cX4_makeTile 55 = .ok (.iadd, 1) := by decide +kernel
theorem dX4_makeTile_56 : decode cX4_makeTile 56 = .ok (.putfield 15, 3) := by decide +kernel
theorem dX4_makeTile_59 : decode cX4_makeTile 59 = .ok (.return_, 1) := by decide +kernel
theorem dX4_makeBlocks_0 : decode cX4_makeBlocks 0 = .ok (.iload 4, 2) := by decide +kernel
theorem dX4_makeBlocks_2 : decode cX4_makeBlocks 2 = .ok (.ifCond .eq 7, 3) := by decide +kernel
theorem dX4_makeBlocks_5 : decode cX4_makeBlocks 5 = .ok (.iconst 4, 1) := by decide +kernel
theorem dX4_makeBlocks_6 : decode cX4_makeBlocks 6 = .ok (.goto 5, 3) := by decide +kernel
theorem dX4_makeBlocks_9 : decode cX4_makeBlocks 9 = .ok (.bipush 8, 2) := by decide +kernel
theorem dX4_makeBlocks_11 : decode cX4_makeBlocks 11 = .ok (.istore 5, 2) := by decide +kernel
theorem dX4_makeBlocks_13 : decode cX4_makeBlocks 13 = .ok (.iconst 0, 1) := by decide +kernel
theorem dX4_makeBlocks_14 : decode cX4_makeBlocks 14 = .ok (.istore 6, 2) := by decide +kernel
theorem dX4_makeBlocks_16 : decode cX4_makeBlocks 16 = .ok (.aload_n 0, 1) := by decide +kernel
theorem dX4_makeBlocks_17 : decode cX4_makeBlocks 17 = .ok (.iload_n 2, 1) := by decide +kernel
theorem dX4_makeBlocks_18 : decode cX4_makeBlocks 18 = .ok (.iload_n 3, 1) := by decide +kernel
theorem dX4_makeBlocks_19 : decode cX4_makeBlocks 19 = .ok (.iload 5, 2) := by decide +kernel
theorem dX4_makeBlocks_21 : decode cX4_makeBlocks 21 = .ok (.invokevirtual 59, 3) := by decide +kernel
theorem dX4_makeBlocks_24 : decode cX4_makeBlocks 24 = .ok (.iconst 0, 1) := by decide +kernel
theorem dX4_makeBlocks_25 : decode cX4_makeBlocks 25 = .ok (.istore 7, 2) := by decide +kernel
theorem dX4_makeBlocks_27 : decode cX4_makeBlocks 27 = .ok (.iload 7, 2) := by decide +kernel
theorem dX4_makeBlocks_29 : decode cX4_makeBlocks 29 = .ok (.bipush 8, 2) := by decide +kernel
theorem dX4_makeBlocks_31 : decode cX4_makeBlocks 31 = .ok (.if_icmp .ge 67, 3) := by decide +kernel
theorem dX4_makeBlocks_34 : decode cX4_makeBlocks 34 = .ok (.iconst 0, 1) := by decide +kernel
theorem dX4_makeBlocks_35 : decode cX4_makeBlocks 35 = .ok (.istore 8, 2) := by decide +kernel
theorem dX4_makeBlocks_37 : decode cX4_makeBlocks 37 = .ok (.iload 8, 2) := by decide +kernel
theorem dX4_makeBlocks_39 : decode cX4_makeBlocks 39 = .ok (.bipush 8, 2) := by decide +kernel
theorem dX4_makeBlocks_41 : decode cX4_makeBlocks 41 = .ok (.if_icmp .ge 47, 3) := by decide +kernel
theorem dX4_makeBlocks_44 : decode cX4_makeBlocks 44 = .ok (.iload 6, 2) := by decide +kernel
theorem dX4_makeBlocks_46 : decode cX4_makeBlocks 46 = .ok (.aload_n 0, 1) := by decide +kernel
theorem dX4_makeBlocks_47 : decode cX4_makeBlocks 47 = .ok (.aload_n 1, 1) := by decide +kernel
theorem dX4_makeBlocks_48 : decode cX4_makeBlocks 48 = .ok (.iload_n 2, 1) := by decide +kernel
theorem dX4_makeBlocks_49 : decode cX4_makeBlocks 49 = .ok (.iload 8, 2) := by decide +kernel
theorem dX4_makeBlocks_51 : decode cX4_makeBlocks 51 = .ok (.iadd, 1) := by decide +kernel
theorem dX4_makeBlocks_52 : decode cX4_makeBlocks 52 = .ok (.iload_n 3, 1) := by decide +kernel
theorem dX4_makeBlocks_53 : decode cX4_makeBlocks 53 = .ok (.iload 7, 2) := by decide +kernel
theorem dX4_makeBlocks_55 : decode cX4_makeBlocks 55 = .ok (.iadd, 1) := by decide +kernel
theorem dX4_makeBlocks_56 : decode cX4_makeBlocks 56 = .ok (.iload 5, 2) := by decide +kernel
theorem dX4_makeBlocks_58 : decode cX4_makeBlocks 58 = .ok (.invokevirtual 63, 3) := by decide +kernel
theorem dX4_makeBlocks_61 : decode cX4_makeBlocks 61 = .ok (.iadd, 1) := by decide +kernel
theorem dX4_makeBlocks_62 : decode cX4_makeBlocks 62 = .ok (.istore 6, 2) := by decide +kernel
theorem dX4_makeBlocks_64 : decode cX4_makeBlocks 64 = .ok (.aload_n 0, 1) := by decide +kernel
theorem dX4_makeBlocks_65 : decode cX4_makeBlocks 65 = .ok (.iload_n 2, 1) := by decide +kernel
theorem dX4_makeBlocks_66 : decode cX4_makeBlocks 66 = .ok (.iload 8, 2) := by decide +kernel
theorem dX4_makeBlocks_68 : decode cX4_makeBlocks 68 = .ok (.iadd, 1) := by decide +kernel
theorem dX4_makeBlocks_69 : decode cX4_makeBlocks 69 = .ok (.iload_n 3, 1) := by decide +kernel
theorem dX4_makeBlocks_70 : decode cX4_makeBlocks 70 = .ok (.iload 7, 2) := by decide +kernel
theorem dX4_makeBlocks_72 : decode cX4_makeBlocks 72 = .ok (.iadd, 1) := by decide +kernel
theorem dX4_makeBlocks_73 : decode cX4_makeBlocks 73 = .ok (.iload 5, 2) := by decide +kernel
theorem dX4_makeBlocks_75 : decode cX4_makeBlocks 75 = .ok (.invokevirtual 67, 3) := by decide +kernel
theorem dX4_makeBlocks_78 : decode cX4_makeBlocks 78 = .ok (.iload 8, 2) := by decide +kernel
theorem dX4_makeBlocks_80 : decode cX4_makeBlocks 80 = .ok (.iload 5, 2) := by decide +kernel
theorem dX4_makeBlocks_82 : decode cX4_makeBlocks 82 = .ok (.iadd, 1) := by decide +kernel
theorem dX4_makeBlocks_83 : decode cX4_makeBlocks 83 = .ok (.istore 8, 2) := by decide +kernel
theorem dX4_makeBlocks_85 : decode cX4_makeBlocks 85 = .ok (.goto (-48), 3) := by decide +kernel
theorem dX4_makeBlocks_88 : decode cX4_makeBlocks 88 = .ok (.iload 7, 2) := by decide +kernel
theorem dX4_makeBlocks_90 : decode cX4_makeBlocks 90 = .ok (.iload 5, 2) := by decide +kernel
theorem dX4_makeBlocks_92 : decode cX4_makeBlocks 92 = .ok (.iadd, 1) := by decide +kernel
theorem dX4_makeBlocks_93 : decode cX4_makeBlocks 93 = .ok (.istore 7, 2) := by decide +kernel
theorem dX4_makeBlocks_95 : decode cX4_makeBlocks 95 = .ok (.goto (-68), 3) := by decide +kernel
theorem dX4_makeBlocks_98 : decode cX4_makeBlocks 98 = .ok (.iload 6, 2) := by decide +kernel
theorem dX4_makeBlocks_100 : decode cX4_makeBlocks 100 = .ok (.ireturn, 1) := by decide +kernel
theorem dX4_fitBlock_0 : decode cX4_fitBlock 0 = .ok (.aload_n 0, 1) := by decide +kernel
theorem dX4_fitBlock_1 : decode cX4_fitBlock 1 = .ok (.getfield 40, 3) := by decide +kernel
theorem dX4_fitBlock_4 : decode cX4_fitBlock 4 = .ok (.aload_n 0, 1) := by decide +kernel
theorem dX4_fitBlock_5 : decode cX4_fitBlock 5 = .ok (.getfield 34, 3) := by decide +kernel
theorem dX4_fitBlock_8 : decode cX4_fitBlock 8 = .ok (.iload_n 2, 1) := by decide +kernel
theorem dX4_fitBlock_9 : decode cX4_fitBlock 9 = .ok (.iload_n 3, 1) := by decide +kernel
theorem dX4_fitBlock_10 : decode cX4_fitBlock 10 = .ok (.iload 4, 2) := by decide +kernel
theorem dX4_fitBlock_12 : decode cX4_fitBlock 12 = .ok (.invokevirtual 70, 3) := by decide +kernel
theorem dX4_fitBlock_15 : decode cX4_fitBlock 15 = .ok (.aload_n 0, 1) := by decide +kernel
theorem dX4_fitBlock_16 : decode cX4_fitBlock 16 = .ok (.getfield 40, 3) := by decide +kernel
theorem dX4_fitBlock_19 : decode cX4_fitBlock 19 = .ok (.aload_n 1, 1) := by decide +kernel
theorem dX4_fitBlock_20 : decode cX4_fitBlock 20 = .ok (.iload_n 2, 1) := by decide +kernel
theorem dX4_fitBlock_21 : decode cX4_fitBlock 21 = .ok (.iload_n 3, 1) := by decide +kernel
theorem dX4_fitBlock_22 : decode cX4_fitBlock 22 = .ok (.invokevirtual 74, 3) := by decide +kernel
theorem dX4_fitBlock_25 : decode cX4_fitBlock 25 = .ok (.istore 5, 2) := by decide +kernel
theorem dX4_fitBlock_27 : decode cX4_fitBlock 27 = .ok (.iconst 0, 1) := by decide +kernel
theorem dX4_fitBlock_28 : decode cX4_fitBlock 28 = .ok (.istore 6, 2) := by decide +kernel
theorem dX4_fitBlock_30 : decode cX4_fitBlock 30 = .ok (.iload 6, 2) := by decide +kernel
theorem dX4_fitBlock_32 : decode cX4_fitBlock 32 = .ok (.iload 4, 2) := by decide +kernel
theorem dX4_fitBlock_34 : decode cX4_fitBlock 34 = .ok (.if_icmp .ge 73, 3) := by decide +kernel
theorem dX4_fitBlock_37 : decode cX4_fitBlock 37 = .ok (.iconst 0, 1) := by decide +kernel
theorem dX4_fitBlock_38 : decode cX4_fitBlock 38 = .ok (.istore 7, 2) := by decide +kernel
theorem dX4_fitBlock_40 : decode cX4_fitBlock 40 = .ok (.iload 7, 2) := by decide +kernel
theorem dX4_fitBlock_42 : decode cX4_fitBlock 42 = .ok (.iload 4, 2) := by decide +kernel
theorem dX4_fitBlock_44 : decode cX4_fitBlock 44 = .ok (.if_icmp .ge 57, 3) := by decide +kernel
theorem dX4_fitBlock_47 : decode cX4_fitBlock 47 = .ok (.aload_n 1, 1) := by decide +kernel
theorem dX4_fitBlock_48 : decode cX4_fitBlock 48 = .ok (.iload_n 3, 1) := by decide +kernel
theorem dX4_fitBlock_49 : decode cX4_fitBlock 49 = .ok (.iload 6, 2) := by decide +kernel
theorem dX4_fitBlock_51 : decode cX4_fitBlock 51 = .ok (.iadd, 1) := by decide +kernel
theorem dX4_fitBlock_52 : decode cX4_fitBlock 52 = .ok (.bipush 16, 2) := by decide +kernel
theorem dX4_fitBlock_54 : decode cX4_fitBlock 54 = .ok (.imul, 1) := by decide +kernel
theorem dX4_fitBlock_55 : decode cX4_fitBlock 55 = .ok (.iload_n 2, 1) := by decide +kernel
theorem dX4_fitBlock_56 : decode cX4_fitBlock 56 = .ok (.iadd, 1) := by decide +kernel
theorem dX4_fitBlock_57 : decode cX4_fitBlock 57 = .ok (.iload 7, 2) := by decide +kernel
theorem dX4_fitBlock_59 : decode cX4_fitBlock 59 = .ok (.iadd, 1) := by decide +kernel
theorem dX4_fitBlock_60 : decode cX4_fitBlock 60 = .ok (.iaload, 1) := by decide +kernel
theorem dX4_fitBlock_61 : decode cX4_fitBlock 61 = .ok (.istore 8, 2) := by decide +kernel
theorem dX4_fitBlock_63 : decode cX4_fitBlock 63 = .ok (.aload_n 0, 1) := by decide +kernel
theorem dX4_fitBlock_64 : decode cX4_fitBlock 64 = .ok (.getfield 47, 3) := by decide +kernel
theorem dX4_fitBlock_67 : decode cX4_fitBlock 67 = .ok (.getfield 78, 3) := by decide +kernel
theorem dX4_fitBlock_70 : decode cX4_fitBlock 70 = .ok (.iload 6, 2) := by decide +kernel
theorem dX4_fitBlock_72 : decode cX4_fitBlock 72 = .ok (.bipush 8, 2) := by decide +kernel
theorem dX4_fitBlock_74 : decode cX4_fitBlock 74 = .ok (.imul, 1) := by decide +kernel
theorem dX4_fitBlock_75 : decode cX4_fitBlock 75 = .ok (.iload 7, 2) := by decide +kernel
theorem dX4_fitBlock_77 : decode cX4_fitBlock 77 = .ok (.iadd, 1) := by decide +kernel
theorem dX4_fitBlock_78 : decode cX4_fitBlock 78 = .ok (.iload 8, 2) := by decide +kernel
theorem dX4_fitBlock_80 : decode cX4_fitBlock 80 = .ok (.aload_n 0, 1) := by decide +kernel
theorem dX4_fitBlock_81 : decode cX4_fitBlock 81 = .ok (.getfield 40, 3) := by decide +kernel
theorem dX4_fitBlock_84 : decode cX4_fitBlock 84 = .ok (.iload 5, 2) := by decide +kernel
theorem dX4_fitBlock_86 : decode cX4_fitBlock 86 = .ok (.iload 6, 2) := by decide +kernel
theorem dX4_fitBlock_88 : decode cX4_fitBlock 88 = .ok (.iload 7, 2) := by decide +kernel
theorem dX4_fitBlock_90 : decode cX4_fitBlock 90 = .ok (.invokevirtual 81, 3) := by decide +kernel
theorem dX4_fitBlock_93 : decode cX4_fitBlock 93 = .ok (.isub, 1) := by decide +kernel
theorem dX4_fitBlock_94 : decode cX4_fitBlock 94 = .ok (.iastore, 1) := by decide +kernel
theorem dX4_fitBlock_95 : decode cX4_fitBlock 95 = .ok (.iinc 7 1, 3) := by decide +kernel
theorem dX4_fitBlock_98 : decode cX4_fitBlock 98 = .ok (.goto (-58), 3) := by decide +kernel
theorem dX4_fitBlock_101 : decode cX4_fitBlock 101 = .ok (.iinc 6 1, 3) := by decide +kernel
theorem dX4_fitBlock_104 : decode cX4_fitBlock 104 = .ok (.goto (-74), 3) := by decide +kernel
theorem dX4_fitBlock_107 : decode cX4_fitBlock 107 = .ok (.aload_n 0, 1) := by decide +kernel
theorem dX4_fitBlock_108 : decode cX4_fitBlock 108 = .ok (.getfield 47, 3) := by decide +kernel
theorem dX4_fitBlock_111 : decode cX4_fitBlock 111 = .ok (.iload 4, 2) := by decide +kernel
theorem dX4_fitBlock_113 : decode cX4_fitBlock 113 = .ok (.invokevirtual 85, 3) := by decide +kernel
theorem dX4_fitBlock_116 : decode cX4_fitBlock 116 = .ok (.iconst 1, 1) := by decide +kernel
theorem dX4_fitBlock_117 : decode cX4_fitBlock 117 = .ok (.aload_n 0, 1) := by decide +kernel
theorem dX4_fitBlock_118 : decode cX4_fitBlock 118 = .ok (.getfield 9, 3) := by decide +kernel
theorem dX4_fitBlock_121 : decode cX4_fitBlock 121 = .ok (.invokestatic 89, 3) := by decide +kernel
theorem dX4_fitBlock_124 : decode cX4_fitBlock 124 = .ok (.istore 6, 2) := by decide +kernel
theorem dX4_fitBlock_126 : decode cX4_fitBlock 126 = .ok (.iconst 4, 1) := by decide +kernel
theorem dX4_fitBlock_127 : decode cX4_fitBlock 127 = .ok (.istore 7, 2) := by decide +kernel
theorem dX4_fitBlock_129 : decode cX4_fitBlock 129 = .ok (.iconst 0, 1) := by decide +kernel
theorem dX4_fitBlock_130 : decode cX4_fitBlock 130 = .ok (.istore 8, 2) := by decide +kernel
theorem dX4_fitBlock_132 : decode cX4_fitBlock 132 = .ok (.iload 8, 2) := by decide +kernel
theorem dX4_fitBlock_134 : decode cX4_fitBlock 134 = .ok (.iload 4, 2) := by decide +kernel
theorem dX4_fitBlock_136 : decode cX4_fitBlock 136 = .ok (.if_icmp .ge 88, 3) := by decide +kernel
theorem dX4_fitBlock_139 : decode cX4_fitBlock 139 = .ok (.iconst 0, 1) := by decide +kernel
theorem dX4_fitBlock_140 : decode cX4_fitBlock 140 = .ok (.istore 9, 2) := by decide +kernel
theorem dX4_fitBlock_142 : decode cX4_fitBlock 142 = .ok (.iload 9, 2) := by decide +kernel
theorem dX4_fitBlock_144 : decode cX4_fitBlock 144 = .ok (.iload 4, 2) := by decide +kernel
theorem dX4_fitBlock_146 : decode cX4_fitBlock 146 = .ok (.if_icmp .ge 72, 3) := by decide +kernel
theorem dX4_fitBlock_149 : decode cX4_fitBlock 149 = .ok (.aload_n 0, 1) := by decide +kernel
theorem dX4_fitBlock_150 : decode cX4_fitBlock 150 = .ok (.getfield 47, 3) := by decide +kernel
theorem dX4_fitBlock_153 : decode cX4_fitBlock 153 = .ok (.getfield 78, 3) := by decide +kernel
theorem dX4_fitBlock_156 : decode cX4_fitBlock 156 = .ok (.iload 8, 2) := by decide +kernel
theorem dX4_fitBlock_158 : decode cX4_fitBlock 158 = .ok (.bipush 8, 2) := by decide +kernel
theorem dX4_fitBlock_160 : decode cX4_fitBlock 160 = .ok (.imul, 1) := by decide +kernel
theorem dX4_fitBlock_161 : decode cX4_fitBlock 161 = .ok (.iload 9, 2) := by decide +kernel
theorem dX4_fitBlock_163 : decode cX4_fitBlock 163 = .ok (.iadd, 1) := by decide +kernel
theorem dX4_fitBlock_164 : decode cX4_fitBlock 164 = .ok (.iaload, 1) := by decide +kernel
theorem dX4_fitBlock_165 : decode cX4_fitBlock 165 = .ok (.iload 6, 2) := by decide +kernel
theorem dX4_fitBlock_167 : decode cX4_fitBlock 167 = .ok (.idiv, 1) := by decide +kernel
theorem dX4_fitBlock_168 : decode cX4_fitBlock 168 = .ok (.istore 10, 2) := by decide +kernel
theorem dX4_fitBlock_170 : decode cX4_fitBlock 170 = .ok (.aload_n 0, 1) := by decide +kernel
theorem dX4_fitBlock_171 : decode cX4_fitBlock 171 = .ok (.getfield 31, 3) := by decide +kernel
theorem dX4_fitBlock_174 : decode cX4_fitBlock 174 = .ok (.iload_n 3, 1) := by decide +kernel
theorem dX4_fitBlock_175 : decode cX4_fitBlock 175 = .ok (.iload 8, 2) := by decide +kernel
theorem dX4_fitBlock_177 : decode cX4_fitBlock 177 = .ok (.iadd, 1) := by decide +kernel
theorem dX4_fitBlock_178 : decode cX4_fitBlock 178 = .ok (.bipush 16, 2) := by decide +kernel
theorem dX4_fitBlock_180 : decode cX4_fitBlock 180 = .ok (.imul, 1) := by decide +kernel
theorem dX4_fitBlock_181 : decode cX4_fitBlock 181 = .ok (.iload_n 2, 1) := by decide +kernel
theorem dX4_fitBlock_182 : decode cX4_fitBlock 182 = .ok (.iadd, 1) := by decide +kernel
theorem dX4_fitBlock_183 : decode cX4_fitBlock 183 = .ok (.iload 9, 2) := by decide +kernel
theorem dX4_fitBlock_185 : decode cX4_fitBlock 185 = .ok (.iadd, 1) := by decide +kernel
theorem dX4_fitBlock_186 : decode cX4_fitBlock 186 = .ok (.iload 10, 2) := by decide +kernel
theorem dX4_fitBlock_188 : decode cX4_fitBlock 188 = .ok (.iastore, 1) := by decide +kernel
theorem dX4_fitBlock_189 : decode cX4_fitBlock 189 = .ok (.iload 7, 2) := by decide +kernel
theorem dX4_fitBlock_191 : decode cX4_fitBlock 191 = .ok (.iconst 2, 1) := by decide +kernel
theorem dX4_fitBlock_192 : decode cX4_fitBlock 192 = .ok (.iload 10, 2) := by decide +kernel
theorem dX4_fitBlock_194 : decode cX4_fitBlock 194 = .ok (.ifCond .ge 9, 3) := by decide +kernel
theorem dX4_fitBlock_197 : decode cX4_fitBlock 197 = .ok (.iload 10, 2) := by decide +kernel
theorem dX4_fitBlock_199 : decode cX4_fitBlock 199 = .ok (.ineg, 1) := by decide +kernel
theorem dX4_fitBlock_200 : decode cX4_fitBlock 200 = .ok (.goto 5, 3) := by decide +kernel
theorem dX4_fitBlock_203 : decode cX4_fitBlock 203 = .ok (.iload 10, 2) := by decide +kernel
theorem dX4_fitBlock_205 : decode cX4_fitBlock 205 = .ok (.invokestatic 94, 3) := by decide +kernel
theorem dX4_fitBlock_208 : decode cX4_fitBlock 208 = .ok (.imul, 1) := by decide +kernel
theorem dX4_fitBlock_209 : decode cX4_fitBlock 209 = .ok (.iadd, 1) := by decide +kernel
theorem dX4_fitBlock_210 : decode cX4_fitBlock 210 = .ok (.istore 7, 2) := by decide +kernel
theorem dX4_fitBlock_212 : decode cX4_fitBlock 212 = .ok (.iinc 9 1, 3) := by decide +kernel
theorem dX4_fitBlock_215 : decode cX4_fitBlock 215 = .ok (.goto (-73), 3) := by decide +kernel
theorem dX4_fitBlock_218 : decode cX4_fitBlock 218 = .ok (.iinc 8 1, 3) := by decide +kernel
theorem dX4_fitBlock_221 : decode cX4_fitBlock 221 = .ok (.goto (-89), 3) := by decide +kernel
theorem dX4_fitBlock_224 : decode cX4_fitBlock 224 = .ok (.aload_n 0, 1) := by decide +kernel
theorem dX4_fitBlock_225 : decode cX4_fitBlock 225 = .ok (.getfield 25, 3) := by decide +kernel
theorem dX4_fitBlock_228 : decode cX4_fitBlock 228 = .ok (.aload_n 0, 1) := by decide +kernel
theorem dX4_fitBlock_229 : decode cX4_fitBlock 229 = .ok (.iload_n 2, 1) := by decide +kernel
theorem dX4_fitBlock_230 : decode cX4_fitBlock 230 = .ok (.iload_n 3, 1) := by decide +kernel
theorem dX4_fitBlock_231 : decode cX4_fitBlock 231 = .ok (.invokevirtual 98, 3) := by decide +kernel
theorem dX4_fitBlock_234 : decode cX4_fitBlock 234 = .ok (.iload 5, 2) := by decide +kernel
theorem dX4_fitBlock_236 : decode cX4_fitBlock 236 = .ok (.iastore, 1) := by decide +kernel
theorem dX4_fitBlock_237 : decode cX4_fitBlock 237 = .ok (.aload_n 0, 1) := by decide +kernel
theorem dX4_fitBlock_238 : decode cX4_fitBlock 238 = .ok (.getfield 28, 3) := by decide +kernel
theorem dX4_fitBlock_241 : decode cX4_fitBlock 241 = .ok (.aload_n 0, 1) := by decide +kernel
theorem dX4_fitBlock_242 : decode cX4_fitBlock 242 = .ok (.iload_n 2, 1) := by decide +kernel
theorem dX4_fitBlock_243 : decode cX4_fitBlock 243 = .ok (.iload_n 3, 1) := by decide +kernel
theorem dX4_fitBlock_244 : decode cX4_fitBlock 244 = .ok (.invokevirtual 98, 3) := by decide +kernel
theorem dX4_fitBlock_247 : decode cX4_fitBlock 247 = .ok (.iload 7, 2) := by decide +kernel
theorem dX4_fitBlock_249 : decode cX4_fitBlock 249 = .ok (.iastore, 1) := by decide +kernel
theorem dX4_fitBlock_250 : decode cX4_fitBlock 250 = .ok (.iload 7, 2) := by decide +kernel
theorem dX4_fitBlock_252 : decode cX4_fitBlock 252 = .ok (.ireturn, 1) := by decide +kernel
theorem dX4_restoreBlock_0 : decode cX4_restoreBlock 0 = .ok (.aload_n 0, 1) := by decide +kernel
theorem dX4_restoreBlock_1 : decode cX4_restoreBlock 1 = .ok (.getfield 25, 3) := by decide +kernel
theorem dX4_restoreBlock_4 : decode cX4_restoreBlock 4 = .ok (.aload_n 0, 1) := by decide +kernel
theorem dX4_restoreBlock_5 : decode cX4_restoreBlock 5 = .ok (.iload_n 1, 1) := by decide +kernel
theorem dX4_restoreBlock_6 : decode cX4_restoreBlock 6 = .ok (.iload_n 2, 1) := by decide +kernel
theorem dX4_restoreBlock_7 : decode cX4_restoreBlock 7 = .ok (.invokevirtual 98, 3) := by decide +kernel
theorem dX4_restoreBlock_10 : decode cX4_restoreBlock 10 = .ok (.iaload, 1) := by decide +kernel
theorem dX4_restoreBlock_11 : decode cX4_restoreBlock 11 = .ok (.istore 4, 2) := by decide +kernel
theorem dX4_restoreBlock_13 : decode cX4_restoreBlock 13 = .ok (.aload_n 0, 1) := by decide +kernel
theorem dX4_restoreBlock_14 : decode cX4_restoreBlock 14 = .ok (.getfield 40, 3) := by decide +kernel
theorem dX4_restoreBlock_17 : decode cX4_restoreBlock 17 = .ok (.aload_n 0, 1) := by decide +kernel
theorem dX4_restoreBlock_18 : decode cX4_restoreBlock 18 = .ok (.getfield 34, 3) := by decide +kernel
theorem dX4_restoreBlock_21 : decode cX4_restoreBlock 21 = .ok (.iload_n 1, 1) := by decide +kernel
theorem dX4_restoreBlock_22 : decode cX4_restoreBlock 22 = .ok (.iload_n 2, 1) := by decide +kernel
theorem dX4_restoreBlock_23 : decode cX4_restoreBlock 23 = .ok (.iload_n 3, 1) := by decide +kernel
theorem dX4_restoreBlock_24 : decode cX4_restoreBlock 24 = .ok (.invokevirtual 70, 3) := by decide +kernel
theorem dX4_restoreBlock_27 : decode cX4_restoreBlock 27 = .ok (.iconst 0, 1) := by decide +kernel
theorem dX4_restoreBlock_28 : decode cX4_restoreBlock 28 = .ok (.istore 5, 2) := by decide +kernel
theorem dX4_restoreBlock_30 : decode cX4_restoreBlock 30 = .ok (.iload 5, 2) := by decide +kernel
theorem dX4_restoreBlock_32 : decode cX4_restoreBlock 32 = .ok (.iload_n 3, 1) := by decide +kernel
theorem dX4_restoreBlock_33 : decode cX4_restoreBlock 33 = .ok (.if_icmp .ge 62, 3) := by decide +kernel
theorem dX4_restoreBlock_36 : decode cX4_restoreBlock 36 = .ok (.iconst 0, 1) := by decide +kernel
theorem dX4_restoreBlock_37 : decode cX4_restoreBlock 37 = .ok (.istore 6, 2) := by decide +kernel
theorem dX4_restoreBlock_39 : decode cX4_restoreBlock 39 = .ok (.iload 6, 2) := by decide +kernel
theorem dX4_restoreBlock_41 : decode cX4_restoreBlock 41 = .ok (.iload_n 3, 1) := by decide +kernel
theorem dX4_restoreBlock_42 : decode cX4_restoreBlock 42 = .ok (.if_icmp .ge 47, 3) := by decide +kernel
theorem dX4_restoreBlock_45 : decode cX4_restoreBlock 45 = .ok (.aload_n 0, 1) := by decide +kernel
theorem dX4_restoreBlock_46 : decode cX4_restoreBlock 46 = .ok (.getfield 47, 3) := by decide +kernel
theorem dX4_restoreBlock_49 : decode cX4_restoreBlock 49 = .ok (.getfield 78, 3) := by decide +kernel
theorem dX4_restoreBlock_52 : decode cX4_restoreBlock 52 = .ok (.iload 5, 2) := by decide +kernel
theorem dX4_restoreBlock_54 : decode cX4_restoreBlock 54 = .ok (.bipush 8, 2) := by decide +kernel
theorem dX4_restoreBlock_56 : decode cX4_restoreBlock 56 = .ok (.imul, 1) := by decide +kernel
theorem dX4_restoreBlock_57 : decode cX4_restoreBlock 57 = .ok (.iload 6, 2) := by decide +kernel
theorem dX4_restoreBlock_59 : decode cX4_restoreBlock 59 = .ok (.iadd, 1) := by decide +kernel
theorem dX4_restoreBlock_60 : decode cX4_restoreBlock 60 = .ok (.aload_n 0, 1) := by decide +kernel
theorem dX4_restoreBlock_61 : decode cX4_restoreBlock 61 = .ok (.getfield 31, 3) := by decide +kernel
theorem dX4_restoreBlock_64 : decode cX4_restoreBlock 64 = .ok (.iload_n 2, 1) := by decide +kernel
theorem dX4_restoreBlock_65 : decode cX4_restoreBlock 65 = .ok (.iload 5, 2) := by decide +kernel
theorem dX4_restoreBlock_67 : decode cX4_restoreBlock 67 = .ok (.iadd, 1) := by decide +kernel
theorem dX4_restoreBlock_68 : decode cX4_restoreBlock 68 = .ok (.bipush 16, 2) := by decide +kernel
theorem dX4_restoreBlock_70 : decode cX4_restoreBlock 70 = .ok (.imul, 1) := by decide +kernel
theorem dX4_restoreBlock_71 : decode cX4_restoreBlock 71 = .ok (.iload_n 1, 1) := by decide +kernel
theorem dX4_restoreBlock_72 : decode cX4_restoreBlock 72 = .ok (.iadd, 1) := by decide +kernel
theorem dX4_restoreBlock_73 : decode cX4_restoreBlock 73 = .ok (.iload 6, 2) := by decide +kernel
theorem dX4_restoreBlock_75 : decode cX4_restoreBlock 75 = .ok (.iadd, 1) := by decide +kernel
theorem dX4_restoreBlock_76 : decode cX4_restoreBlock 76 = .ok (.iaload, 1) := by decide +kernel
theorem dX4_restoreBlock_77 : decode cX4_restoreBlock 77 = .ok (.aload_n 0, 1) := by decide +kernel
theorem dX4_restoreBlock_78 : decode cX4_restoreBlock 78 = .ok (.getfield 9, 3) := by decide +kernel
theorem dX4_restoreBlock_81 : decode cX4_restoreBlock 81 = .ok (.imul, 1) := by decide +kernel
theorem dX4_restoreBlock_82 : decode cX4_restoreBlock 82 = .ok (.iastore, 1) := by decide +kernel
theorem dX4_restoreBlock_83 : decode cX4_restoreBlock 83 = .ok (.iinc 6 1, 3) := by decide +kernel
theorem dX4_restoreBlock_86 : decode cX4_restoreBlock 86 = .ok (.goto (-47), 3) := by decide +kernel
theorem dX4_restoreBlock_89 : decode cX4_restoreBlock 89 = .ok (.iinc 5 1, 3) := by decide +kernel
theorem dX4_restoreBlock_92 : decode cX4_restoreBlock 92 = .ok (.goto (-62), 3) := by decide +kernel
theorem dX4_restoreBlock_95 : decode cX4_restoreBlock 95 = .ok (.aload_n 0, 1) := by decide +kernel
theorem dX4_restoreBlock_96 : decode cX4_restoreBlock 96 = .ok (.getfield 47, 3) := by decide +kernel
theorem dX4_restoreBlock_99 : decode cX4_restoreBlock 99 = .ok (.iload_n 3, 1) := by decide +kernel
theorem dX4_restoreBlock_100 : decode cX4_restoreBlock 100 = .ok (.invokevirtual 101, 3) := by decide +kernel
theorem dX4_restoreBlock_103 : decode cX4_restoreBlock 103 = .ok (.iconst 0, 1) := by decide +kernel
theorem dX4_restoreBlock_104 : decode cX4_restoreBlock 104 = .ok (.istore 5, 2) := by decide +kernel
theorem dX4_restoreBlock_106 : decode cX4_restoreBlock 106 = .ok (.iload 5, 2) := by decide +kernel
theorem dX4_restoreBlock_108 : decode cX4_restoreBlock 108 = .ok (.iload_n 3, 1) := by decide +kernel
theorem dX4_restoreBlock_109 : decode cX4_restoreBlock 109 = .ok (.if_icmp .ge 71, 3) := by decide +kernel
theorem dX4_restoreBlock_112 : decode cX4_restoreBlock 112 = .ok (.iconst 0, 1) := by decide +kernel
theorem dX4_restoreBlock_113 : decode cX4_restoreBlock 113 = .ok (.istore 6, 2) := by decide +kernel
theorem dX4_restoreBlock_115 : decode cX4_restoreBlock 115 = .ok (.iload 6, 2) := by decide +kernel
theorem dX4_restoreBlock_117 : decode cX4_restoreBlock 117 = .ok (.iload_n 3, 1) := by decide +kernel
theorem dX4_restoreBlock_118 : decode cX4_restoreBlock 118 = .ok (.if_icmp .ge 56, 3) := by decide +kernel
theorem dX4_restoreBlock_121 : decode cX4_restoreBlock 121 = .ok (.aload_n 0, 1) := by decide +kernel
theorem dX4_restoreBlock_122 : decode cX4_restoreBlock 122 = .ok (.getfield 34, 3) := by decide +kernel
theorem dX4_restoreBlock_125 : decode cX4_restoreBlock 125 = .ok (.iload_n 2, 1) := by decide +kernel
theorem dX4_restoreBlock_126 : decode cX4_restoreBlock 126 = .ok (.iload 5, 2) := by decide +kernel
theorem dX4_restoreBlock_128 : decode cX4_restoreBlock 128 = .ok (.iadd, 1) := by decide +kernel
theorem dX4_restoreBlock_129 : decode cX4_restoreBlock 129 = .ok (.bipush 16, 2) := by decide +kernel
theorem dX4_restoreBlock_131 : decode cX4_restoreBlock 131 = .ok (.imul, 1) := by decide +kernel
theorem dX4_restoreBlock_132 : decode cX4_restoreBlock 132 = .ok (.iload_n 1, 1) := by decide +kernel
theorem dX4_restoreBlock_133 : decode cX4_restoreBlock 133 = .ok (.iadd, 1) := by decide +kernel
theorem dX4_restoreBlock_134 : decode cX4_restoreBlock 134 = .ok (.iload 6, 2) := by decide +kernel
theorem dX4_restoreBlock_136 : decode cX4_restoreBlock 136 = .ok (.iadd, 1) := by decide +kernel
theorem dX4_restoreBlock_137 : decode cX4_restoreBlock 137 = .ok (.aload_n 0, 1) := by decide +kernel
theorem dX4_restoreBlock_138 : decode cX4_restoreBlock 138 = .ok (.getfield 47, 3) := by decide +kernel
theorem dX4_restoreBlock_141 : decode cX4_restoreBlock 141 = .ok (.getfield 78, 3) := by decide +kernel
theorem dX4_restoreBlock_144 : decode cX4_restoreBlock 144 = .ok (.iload 5, 2) := by decide +kernel
theorem dX4_restoreBlock_146 : decode cX4_restoreBlock 146 = .ok (.bipush 8, 2) := by decide +kernel
theorem dX4_restoreBlock_148 : decode cX4_restoreBlock 148 = .ok (.imul, 1) := by decide +kernel
theorem dX4_restoreBlock_149 : decode cX4_restoreBlock 149 = .ok (.iload 6, 2) := by decide +kernel
theorem dX4_restoreBlock_151 : decode cX4_restoreBlock 151 = .ok (.iadd, 1) := by decide +kernel
theorem dX4_restoreBlock_152 : decode cX4_restoreBlock 152 = .ok (.iaload, 1) := by decide +kernel
theorem dX4_restoreBlock_153 : decode cX4_restoreBlock 153 = .ok (.aload_n 0, 1) := by decide +kernel
theorem dX4_restoreBlock_154 : decode cX4_restoreBlock 154 = .ok (.getfield 40, 3) := by decide +kernel
theorem dX4_restoreBlock_157 : decode cX4_restoreBlock 157 = .ok (.iload 4, 2) := by decide +kernel
theorem dX4_restoreBlock_159 : decode cX4_restoreBlock 159 = .ok (.iload 5, 2) := by decide +kernel
theorem dX4_restoreBlock_161 : decode cX4_restoreBlock 161 = .ok (.iload 6, 2) := by decide +kernel
theorem dX4_restoreBlock_163 : decode cX4_restoreBlock 163 = .ok (.invokevirtual 81, 3) := by decide +kernel
theorem dX4_restoreBlock_166 : decode cX4_restoreBlock 166 = .ok (.iadd, 1) := by decide +kernel
theorem dX4_restoreBlock_167 : decode cX4_restoreBlock 167 = .ok (.iastore, 1) := by decide +kernel
theorem dX4_restoreBlock_168 : decode cX4_restoreBlock 168 = .ok (.iinc 6 1, 3) := by decide +kernel
theorem dX4_restoreBlock_171 : decode cX4_restoreBlock 171 = .ok (.goto (-56), 3) := by decide +kernel
theorem dX4_restoreBlock_174 : decode cX4_restoreBlock 174 = .ok (.iinc 5 1, 3) := by decide +kernel
theorem dX4_restoreBlock_177 : decode cX4_restoreBlock 177 = .ok (.goto (-71), 3) := by decide +kernel
theorem dX4_restoreBlock_180 : decode cX4_restoreBlock 180 = .ok (.return_, 1) := by decide +kernel
theorem dX4_restoreSlice_0 : decode cX4_restoreSlice 0 = .ok (.iload_n 1, 1) := by decide +kernel
theorem dX4_restoreSlice_1 : decode cX4_restoreSlice 1 = .ok (.bipush 8, 2) := by decide +kernel
theorem dX4_restoreSlice_3 : decode cX4_restoreSlice 3 = .ok (.imul, 1) := by decide +kernel
theorem dX4_restoreSlice_4 : decode cX4_restoreSlice 4 = .ok (.istore_n 3, 1) := by decide +kernel
theorem dX4_restoreSlice_5 : decode cX4_restoreSlice 5 = .ok (.iconst 0, 1) := by decide +kernel
theorem dX4_restoreSlice_6 : decode cX4_restoreSlice 6 = .ok (.istore 4, 2) := by decide +kernel
theorem dX4_restoreSlice_8 : decode cX4_restoreSlice 8 = .ok (.iload 4, 2) := by decide +kernel
theorem dX4_restoreSlice_10 : decode cX4_restoreSlice 10 = .ok (.iload_n 2, 1) := by decide +kernel
theorem dX4_restoreSlice_11 : decode cX4_restoreSlice 11 = .ok (.if_icmp .ge 80, 3) := by decide +kernel
theorem dX4_restoreSlice_14 : decode cX4_restoreSlice 14 = .ok (.iload 4, 2) := by decide +kernel
theorem dX4_restoreSlice_16 : decode cX4_restoreSlice 16 = .ok (.bipush 8, 2) := by decide +kernel
theorem dX4_restoreSlice_18 : decode cX4_restoreSlice 18 = .ok (.imul, 1) := by decide +kernel
theorem dX4_restoreSlice_19 : decode cX4_restoreSlice 19 = .ok (.istore 5, 2) := by decide +kernel
theorem dX4_restoreSlice_21 : decode cX4_restoreSlice 21 = .ok (.aload_n 0, 1) := by decide +kernel
theorem dX4_restoreSlice_22 : decode cX4_restoreSlice 22 = .ok (.iload 5, 2) := by decide +kernel
theorem dX4_restoreSlice_24 : decode cX4_restoreSlice 24 = .ok (.iload_n 3, 1) := by decide +kernel
theorem dX4_restoreSlice_25 : decode cX4_restoreSlice 25 = .ok (.invokevirtual 51, 3) := by decide +kernel
theorem dX4_restoreSlice_28 : decode cX4_restoreSlice 28 = .ok (.istore 6, 2) := by decide +kernel
theorem dX4_restoreSlice_30 : decode cX4_restoreSlice 30 = .ok (.iconst 0, 1) := by decide +kernel
theorem dX4_restoreSlice_31 : decode cX4_restoreSlice 31 = .ok (.istore 7, 2) := by decide +kernel
theorem dX4_restoreSlice_33 : decode cX4_restoreSlice 33 = .ok (.iload 7, 2) := by decide +kernel
theorem dX4_restoreSlice_35 : decode cX4_restoreSlice 35 = .ok (.bipush 8, 2) := by decide +kernel
theorem dX4_restoreSlice_37 : decode cX4_restoreSlice 37 = .ok (.if_icmp .ge 48, 3) := by decide +kernel
theorem dX4_restoreSlice_40 : decode cX4_restoreSlice 40 = .ok (.iconst 0, 1) := by decide +kernel
theorem dX4_restoreSlice_41 : decode cX4_restoreSlice 41 = .ok (.istore 8, 2) := by decide +kernel
theorem dX4_restoreSlice_43 : decode cX4_restoreSlice 43 = .ok (.iload 8, 2) := by decide +kernel
theorem dX4_restoreSlice_45 : decode cX4_restoreSlice 45 = .ok (.bipush 8, 2) := by decide +kernel
theorem dX4_restoreSlice_47 : decode cX4_restoreSlice 47 = .ok (.if_icmp .ge 28, 3) := by decide +kernel
theorem dX4_restoreSlice_50 : decode cX4_restoreSlice 50 = .ok (.aload_n 0, 1) := by decide +kernel
theorem dX4_restoreSlice_51 : decode cX4_restoreSlice 51 = .ok (.iload 5, 2) := by decide +kernel
theorem dX4_restoreSlice_53 : decode cX4_restoreSlice 53 = .ok (.iload 8, 2) := by decide +kernel
theorem dX4_restoreSlice_55 : decode cX4_restoreSlice 55 = .ok (.iadd, 1) := by decide +kernel
theorem dX4_restoreSlice_56 : decode cX4_restoreSlice 56 = .ok (.iload_n 3, 1) := by decide +kernel
theorem dX4_restoreSlice_57 : decode cX4_restoreSlice 57 = .ok (.iload 7, 2) := by decide +kernel
theorem dX4_restoreSlice_59 : decode cX4_restoreSlice 59 = .ok (.iadd, 1) := by decide +kernel
theorem dX4_restoreSlice_60 : decode cX4_restoreSlice 60 = .ok (.iload 6, 2) := by decide +kernel
theorem dX4_restoreSlice_62 : decode cX4_restoreSlice 62 = .ok (.invokevirtual 67, 3) := by decide +kernel
theorem dX4_restoreSlice_65 : decode cX4_restoreSlice 65 = .ok (.iload 8, 2) := by decide +kernel
theorem dX4_restoreSlice_67 : decode cX4_restoreSlice 67 = .ok (.iload 6, 2) := by decide +kernel
theorem dX4_restoreSlice_69 : decode cX4_restoreSlice 69 = .ok (.iadd, 1) := by decide +kernel
theorem dX4_restoreSlice_70 : decode cX4_restoreSlice 70 = .ok (.istore 8, 2) := by decide +kernel
theorem dX4_restoreSlice_72 : decode cX4_restoreSlice 72 = .ok (.goto (-29), 3) := by decide +kernel
theorem dX4_restoreSlice_75 : decode cX4_restoreSlice 75 = .ok (.iload 7, 2) := by decide +kernel
theorem dX4_restoreSlice_77 : decode cX4_restoreSlice 77 = .ok (.iload 6, 2) := by decide +kernel
theorem dX4_restoreSlice_79 : decode cX4_restoreSlice 79 = .ok (.iadd, 1) := by decide +kernel
theorem dX4_restoreSlice_80 : decode cX4_restoreSlice 80 = .ok (.istore 7, 2) := by decide +kernel
theorem dX4_restoreSlice_82 : decode cX4_restoreSlice 82 = .ok (.goto (-49), 3) := by decide +kernel
theorem dX4_restoreSlice_85 : decode cX4_restoreSlice 85 = .ok (.iinc 4 1, 3) := by decide +kernel
theorem dX4_restoreSlice_88 : decode cX4_restoreSlice 88 = .ok (.goto (-80), 3) := by decide +kernel
theorem dX4_restoreSlice_91 : decode cX4_restoreSlice 91 = .ok (.return_, 1) := by decide +kernel
theorem dX5_init_0 : decode cX5_init 0 = .ok (.aload_n 0, 1) := by decide +kernel
theorem dX5_init_1 : decode cX5_init 1 = .ok (.invokespecial 3, 3) := by decide +kernel
theorem dX5_init_4 : decode cX5_init 4 = .ok (.aload_n 0, 1) := by decide +kernel
theorem dX5_init_5 : decode cX5_init 5 = .ok (.bipush 8, 2) := by decide +kernel
theorem dX5_init_7 : decode cX5_init 7 = .ok (.putfield 9, 3) := by decide +kernel
theorem dX5_init_10 : decode cX5_init 10 = .ok (.aload_n 0, 1) := by decide +kernel
theorem dX5_init_11 : decode cX5_init 11 = .ok (.bipush 8, 2) := by decide +kernel
theorem dX5_init_13 : decode cX5_init 13 = .ok (.putfield 15, 3) := by decide +kernel
theorem dX5_init_16 : decode cX5_init 16 = .ok (.aload_n 0, 1) := by decide +kernel
theorem dX5_init_17 : decode cX5_init 17 = .ok (.sipush 384, 3) := by decide +kernel
theorem dX5_init_20 : decode cX5_init 20 = .ok (.newarray .int, 2) := by decide +kernel
theorem dX5_init_22 : decode cX5_init 22 = .ok (.putfield 18, 3) := by decide +kernel
theorem dX5_init_25 : decode cX5_init 25 = .ok (.return_, 1) := by decide +kernel
theorem dX5_clear_0 : decode cX5_clear 0 = .ok (.aload_n 0, 1) := by decide +kernel
theorem dX5_clear_1 : decode cX5_clear 1 = .ok (.iload_n 1, 1) := by decide +kernel
theorem dX5_clear_2 : decode cX5_clear 2 = .ok (.putfield 9, 3) := by decide +kernel
theorem dX5_clear_5 : decode cX5_clear 5 = .ok (.aload_n 0, 1) := by decide +kernel
theorem dX5_clear_6 : decode cX5_clear 6 = .ok (.iload_n 2, 1) := by decide +kernel
theorem dX5_clear_7 : decode cX5_clear 7 = .ok (.putfield 15, 3) := by decide +kernel
theorem dX5_clear_10 : decode cX5_clear 10 = .ok (.aload_n 0, 1) := by decide +kernel
theorem dX5_clear_11 : decode cX5_clear 11 = .ok (.getfield 18, 3) := by decide +kernel
theorem dX5_clear_14 : decode cX5_clear 14 = .ok (.iconst 0, 1) := by decide +kernel
theorem dX5_clear_15 : decode cX5_clear 15 = .ok (.invokestatic 22, 3) := by decide +kernel
theorem dX5_clear_18 : decode cX5_clear 18 = .ok (.return_, 1) := by decide +kernel
theorem dX5_has_0 : decode cX5_has 0 = .ok (.iload_n 1, 1) := by decide +kernel
theorem dX5_has_1 : decode cX5_has 1 = .ok (.ifCond .lt 27, 3) := by decide +kernel
theorem dX5_has_4 : decode cX5_has 4 = .ok (.iload_n 1, 1) := by decide +kernel
theorem dX5_has_5 : decode cX5_has 5 = .ok (.aload_n 0, 1) := by decide +kernel
theorem dX5_has_6 : decode cX5_has 6 = .ok (.getfield 9, 3) := by decide +kernel
theorem dX5_has_9 : decode cX5_has 9 = .ok (.if_icmp .ge 19, 3) := by decide +kernel
theorem dX5_has_12 : decode cX5_has 12 = .ok (.iload_n 2, 1) := by decide +kernel
theorem dX5_has_13 : decode cX5_has 13 = .ok (.ifCond .lt 15, 3) := by decide +kernel
theorem dX5_has_16 : decode cX5_has 16 = .ok (.iload_n 2, 1) := by decide +kernel
theorem dX5_has_17 : decode cX5_has 17 = .ok (.aload_n 0, 1) := by decide +kernel
theorem dX5_has_18 : decode cX5_has 18 = .ok (.getfield 15, 3) := by decide +kernel
theorem dX5_has_21 : decode cX5_has 21 = .ok (.if_icmp .ge 7, 3) := by decide +kernel
theorem dX5_has_24 : decode cX5_has 24 = .ok (.iconst 1, 1) := by decide +kernel
theorem dX5_has_25 : decode cX5_has 25 = .ok (.goto 4, 3) := by decide +kernel
theorem dX5_has_28 : decode cX5_has 28 = .ok (.iconst 0, 1) := by decide +kernel
theorem dX5_has_29 : decode cX5_has 29 = .ok (.ireturn, 1) := by decide +kernel
theorem dX5_at_0 : decode cX5_at 0 = .ok (.aload_n 0, 1) := by decide +kernel
theorem dX5_at_1 : decode cX5_at 1 = .ok (.iload_n 1, 1) := by decide +kernel
theorem dX5_at_2 : decode cX5_at 2 = .ok (.iload_n 2, 1) := by decide +kernel
theorem dX5_at_3 : decode cX5_at 3 = .ok (.invokevirtual 28, 3) := by decide +kernel
theorem dX5_at_6 : decode cX5_at 6 = .ok (.ifCond .eq 17, 3) := by decide +kernel
theorem dX5_at_9 : decode cX5_at 9 = .ok (.aload_n 0, 1) := by decide +kernel
theorem dX5_at_10 : decode cX5_at 10 = .ok (.getfield 18, 3) := by decide +kernel
theorem dX5_at_13 : decode cX5_at 13 = .ok (.iload_n 2, 1) := by decide +kernel
theorem dX5_at_14 : decode cX5_at 14 = .ok (.bipush 16, 2) := by decide +kernel
theorem dX5_at_16 : decode cX5_at 16 = .ok (.imul, 1) := by decide +kernel
theorem dX5_at_17 : decode cX5_at 17 = .ok (.iload_n 1, 1) := by decide +kernel
theorem dX5_at_18 : decode cX5_at 18 = .ok (.iadd, 1) := by decide +kernel
theorem dX5_at_19 : decode cX5_at 19 = .ok (.iaload, 1) := by decide +kernel
theorem dX5_at_20 : decode cX5_at 20 = .ok (.goto 4, 3) := by decide +kernel
theorem dX5_at_23 : decode cX5_at 23 = .ok (.iconst 0, 1) := by decide +kernel
theorem dX5_at_24 : decode cX5_at 24 = .ok (.ireturn, 1) := by decide +kernel
theorem dX5_put_0 : decode cX5_put 0 = .ok (.aload_n 0, 1) := by decide +kernel
theorem dX5_put_1 : decode cX5_put 1 = .ok (.iload_n 1, 1) := by decide +kernel
theorem dX5_put_2 : decode cX5_put 2 = .ok (.iload_n 2, 1) := by decide +kernel
theorem dX5_put_3 : decode cX5_put 3 = .ok (.invokevirtual 28, 3) := by decide +kernel
theorem dX5_put_6 : decode cX5_put 6 = .ok (.ifCond .eq 15, 3) := by decide +kernel
theorem dX5_put_9 : decode cX5_put 9 = .ok (.aload_n 0, 1) := by decide +kernel
theorem dX5_put_10 : decode cX5_put 10 = .ok (.getfield 18, 3) := by decide +kernel
theorem dX5_put_13 : decode cX5_put 13 = .ok (.iload_n 2, 1) := by decide +kernel
theorem dX5_put_14 : decode cX5_put 14 = .ok (.bipush 16, 2) := by decide +kernel
theorem dX5_put_16 : decode cX5_put 16 = .ok (.imul, 1) := by decide +kernel
theorem dX5_put_17 : decode cX5_put 17 = .ok (.iload_n 1, 1) := by decide +kernel
theorem dX5_put_18 : decode cX5_put 18 = .ok (.iadd, 1) := by decide +kernel
theorem dX5_put_19 : decode cX5_put 19 = .ok (.iload_n 3, 1) := by decide +kernel
theorem dX5_put_20 : decode cX5_put 20 = .ok (.iastore, 1) := by decide +kernel
theorem dX5_put_21 : decode cX5_put 21 = .ok (.return_, 1) := by decide +kernel
theorem dX5_isAsLargeAs_0 : decode cX5_isAsLargeAs 0 = .ok (.aload_n 0, 1) := by decide +kernel
theorem dX5_isAsLargeAs_1 : decode cX5_isAsLargeAs 1 = .ok (.getfield 9, 3) := by decide +kernel
theorem dX5_isAsLargeAs_4 : decode cX5_isAsLargeAs 4 = .ok (.aload_n 1, 1) := by decide +kernel
theorem dX5_isAsLargeAs_5 : decode cX5_isAsLargeAs 5 = .ok (.getfield 9, 3) := by decide +kernel
theorem dX5_isAsLargeAs_8 : decode cX5_isAsLargeAs 8 = .ok (.if_icmp .ne 18, 3) := by decide +kernel
theorem dX5_isAsLargeAs_11 : decode cX5_isAsLargeAs 11 = .ok (.aload_n 0, 1) := by decide +kernel
theorem dX5_isAsLargeAs_12 : decode cX5_isAsLargeAs 12 = .ok (.getfield 15, 3) := by decide +kernel
theorem dX5_isAsLargeAs_15 : decode cX5_isAsLargeAs 15 = .ok (.aload_n 1, 1) := by decide +kernel
theorem dX5_isAsLargeAs_16 : decode cX5_isAsLargeAs 16 = .ok (.getfield 15, 3) := by decide +kernel
theorem dX5_isAsLargeAs_19 : decode cX5_isAsLargeAs 19 = .ok (.if_icmp .ne 7, 3) := by decide +kernel
theorem dX5_isAsLargeAs_22 : decode cX5_isAsLargeAs 22 = .ok (.iconst 1, 1) := by decide +kernel
theorem dX5_isAsLargeAs_23 : decode cX5_isAsLargeAs 23 = .ok (.goto 4, 3) := by decide +kernel
theorem dX5_isAsLargeAs_26 : decode cX5_isAsLargeAs 26 = .ok (.iconst 0, 1) := by decide +kernel
theorem dX5_isAsLargeAs_27 : decode cX5_isAsLargeAs 27 = .ok (.ireturn, 1) := by decide +kernel
theorem dX5_addRows_0 : decode cX5_addRows 0 = .ok (.iload_n 2, 1) := by decide +kernel
theorem dX5_addRows_1 : decode cX5_addRows 1 = .ok (.bipush 8, 2) := by decide +kernel
theorem dX5_addRows_3 : decode cX5_addRows 3 = .ok (.iadd, 1) := by decide +kernel
theorem dX5_addRows_4 : decode cX5_addRows 4 = .ok (.aload_n 0, 1) := by decide +kernel
theorem dX5_addRows_5 : decode cX5_addRows 5 = .ok (.getfield 15, 3) := by decide +kernel
theorem dX5_addRows_8 : decode cX5_addRows 8 = .ok (.invokestatic 32, 3) := by decide +kernel
theorem dX5_addRows_11 : decode cX5_addRows 11 = .ok (.istore_n 3, 1) := by decide +kernel
theorem dX5_addRows_12 : decode cX5_addRows 12 = .ok (.iload_n 2, 1) := by decide +kernel
theorem dX5_addRows_13 : decode cX5_addRows 13 = .ok (.istore 4, 2) := by decide +kernel
theorem dX5_addRows_15 : decode cX5_addRows 15 = .ok (.iload 4, 2) := by decide +kernel
theorem dX5_addRows_17 : decode cX5_addRows 17 = .ok (.iload_n 3, 1) := by decide +kernel
theorem dX5_addRows_18 : decode cX5_addRows 18 = .ok (.if_icmp .ge 53, 3) := by decide +kernel
theorem dX5_addRows_21 : decode cX5_addRows 21 = .ok (.iconst 0, 1) := by decide +kernel
theorem dX5_addRows_22 : decode cX5_addRows 22 = .ok (.istore 5, 2) := by decide +kernel
theorem dX5_addRows_24 : decode cX5_addRows 24 = .ok (.iload 5, 2) := by decide +kernel
theorem dX5_addRows_26 : decode cX5_addRows 26 = .ok (.aload_n 0, 1) := by decide +kernel
theorem dX5_addRows_27 : decode cX5_addRows 27 = .ok (.getfield 9, 3) := by decide +kernel
theorem dX5_addRows_30 : decode cX5_addRows 30 = .ok (.if_icmp .ge 35, 3) := by decide +kernel
theorem dX5_addRows_33 : decode cX5_addRows 33 = .ok (.aload_n 0, 1) := by decide +kernel
theorem dX5_addRows_34 : decode cX5_addRows 34 = .ok (.getfield 18, 3) := by decide +kernel
theorem dX5_addRows_37 : decode cX5_addRows 37 = .ok (.iload 4, 2) := by decide +kernel
theorem dX5_addRows_39 : decode cX5_addRows 39 = .ok (.bipush 16, 2) := by decide +kernel
theorem dX5_addRows_41 : decode cX5_addRows 41 = .ok (.imul, 1) := by decide +kernel
theorem dX5_addRows_42 : decode cX5_addRows 42 = .ok (.iload 5, 2) := by decide +kernel
theorem dX5_addRows_44 : decode cX5_addRows 44 = .ok (.iadd, 1) := by decide +kernel
theorem dX5_addRows_45 : decode cX5_addRows 45 = .ok (.dup2, 1) := by decide +kernel
theorem dX5_addRows_46 : decode cX5_addRows 46 = .ok (.iaload, 1) := by decide +kernel
theorem dX5_addRows_47 : decode cX5_addRows 47 = .ok (.aload_n 1, 1) := by decide +kernel
theorem dX5_addRows_48 : decode cX5_addRows 48 = .ok (.iload 4, 2) := by decide +kernel
theorem dX5_addRows_50 : decode cX5_addRows 50 = .ok (.bipush 16, 2) := by decide +kernel
theorem dX5_addRows_52 : decode cX5_addRows 52 = .ok (.imul, 1) := by decide +kernel
theorem dX5_addRows_53 : decode cX5_addRows 53 = .ok (.iload 5, 2) := by decide +kernel
theorem dX5_addRows_55 : decode cX5_addRows 55 = .ok (.iadd, 1) := by decide +kernel
theorem dX5_addRows_56 : decode cX5_addRows 56 = .ok (.iaload, 1) := by decide +kernel
theorem dX5_addRows_57 : decode cX5_addRows 57 = .ok (.iadd, 1) := by decide +kernel
theorem dX5_addRows_58 : decode cX5_addRows 58 = .ok (.iastore, 1) := by decide +kernel
theorem dX5_addRows_59 : decode cX5_addRows 59 = .ok (.iinc 5 1, 3) := by decide +kernel
theorem dX5_addRows_62 : decode cX5_addRows 62 = .ok (.goto (-38), 3) := by decide +kernel
theorem dX5_addRows_65 : decode cX5_addRows 65 = .ok (.iinc 4 1, 3) := by decide +kernel
theorem dX5_addRows_68 : decode cX5_addRows 68 = .ok (.goto (-53), 3) := by decide +kernel
theorem dX5_addRows_71 : decode cX5_addRows 71 = .ok (.return_, 1) := by decide +kernel
theorem dX5_clamp_0 : decode cX5_clamp 0 = .ok (.iconst 0, 1) := by decide +kernel
theorem dX5_clamp_1 : decode cX5_clamp 1 = .ok (.istore_n 1, 1) := by decide +kernel
theorem dX5_clamp_2 : decode cX5_clamp 2 = .ok (.iload_n 1, 1) := by decide +kernel
theorem dX5_clamp_3 : decode cX5_clamp 3 = .ok (.sipush 384, 3) := by decide +kernel
theorem dX5_clamp_6 : decode cX5_clamp 6 = .ok (.if_icmp .ge 31, 3) := by decide +kernel
theorem dX5_clamp_9 : decode cX5_clamp 9 = .ok (.aload_n 0, 1) := by decide +kernel
theorem dX5_clamp_10 : decode cX5_clamp 10 = .ok (.getfield 18, 3) := by decide +kernel
theorem dX5_clamp_13 : decode cX5_clamp 13 = .ok (.iload_n 1, 1) := by decide +kernel
theorem dX5_clamp_14 : decode cX5_clamp 14 = .ok (.iconst 0, 1) := by decide +kernel
theorem dX5_clamp_15 : decode cX5_clamp 15 = .ok (.sipush 255, 3) := by decide +kernel
theorem dX5_clamp_18 : decode cX5_clamp 18 = .ok (.aload_n 0, 1) := by decide +kernel
theorem dX5_clamp_19 : decode cX5_clamp 19 = .ok (.getfield 18, 3) := by decide +kernel
theorem dX5_clamp_22 : decode cX5_clamp 22 = .ok (.iload_n 1, 1) := by decide +kernel
theorem dX5_clamp_23 : decode cX5_clamp 23 = .ok (.iaload, 1) := by decide +kernel
theorem dX5_clamp_24 : decode cX5_clamp 24 = .ok (.invokestatic 32, 3) := by decide +kernel
theorem dX5_clamp_27 : decode cX5_clamp 27 = .ok (.invokestatic 38, 3) := by decide +kernel
theorem dX5_clamp_30 : decode cX5_clamp 30 = .ok (.iastore, 1) := by decide +kernel
theorem dX5_clamp_31 : decode cX5_clamp 31 = .ok (.iinc 1 1, 3) := by decide +kernel
theorem dX5_clamp_34 : decode cX5_clamp 34 = .ok (.goto (-32), 3) := by decide +kernel
theorem dX5_clamp_37 : decode cX5_clamp 37 = .ok (.return_, 1) := by decide +kernel
theorem dX6_init_0 : decode cX6_init 0 = .ok (.aload_n 0, 1) := by decide +kernel
theorem dX6_init_1 : decode cX6_init 1 = .ok (.invokespecial 3, 3) := by decide +kernel
theorem dX6_init_4 : decode cX6_init 4 = .ok (.aload_n 0, 1) := by decide +kernel
theorem dX6_init_5 : decode cX6_init 5 = .ok (.bipush 8, 2) := by decide +kernel
theorem dX6_init_7 : decode cX6_init 7 = .ok (.putfield 9, 3) := by decide +kernel
theorem dX6_init_10 : decode cX6_init 10 = .ok (.aload_n 0, 1) := by decide +kernel
theorem dX6_init_11 : decode cX6_init 11 = .ok (.iconst 0, 1) := by decide +kernel
theorem dX6_init_12 : decode cX6_init 12 = .ok (.putfield 15, 3) := by decide +kernel
theorem dX6_init_15 : decode cX6_init 15 = .ok (.aload_n 0, 1) := by decide +kernel
theorem dX6_init_16 : decode cX6_init 16 = .ok (.bipush 8, 2) := by decide +kernel
theorem dX6_init_18 : decode cX6_init 18 = .ok (.newarray .int, 2) := by decide +kernel
theorem dX6_init_20 : decode cX6_init 20 = .ok (.putfield 18, 3) := by decide +kernel
theorem dX6_init_23 : decode cX6_init 23 = .ok (.aload_n 0, 1) := by decide +kernel
theorem dX6_init_24 : decode cX6_init 24 = .ok (.bipush 8, 2) := by decide +kernel
theorem dX6_init_26 : decode cX6_init 26 = .ok (.newarray .int, 2) := by decide +kernel
theorem dX6_init_28 : decode cX6_init 28 = .ok (.putfield 22, 3) := by decide +kernel
theorem dX6_init_31 : decode cX6_init 31 = .ok (.return_, 1) := by decide +kernel
theorem dX6_look_0 : decode cX6_look 0 = .ok (.aload_n 0, 1) := by decide +kernel
theorem dX6_look_1 : decode cX6_look 1 = .ok (.iload 4, 2) := by decide +kernel
theorem dX6_look_3 : decode cX6_look 3 = .ok (.putfield 9, 3) := by decide +kernel
theorem dX6_look_6 : decode cX6_look 6 = .ok (.iconst 0, 1) := by decide +kernel
theorem dX6_look_7 : decode cX6_look 7 = .ok (.istore 5, 2) := by decide +kernel
theorem dX6_look_9 : decode cX6_look 9 = .ok (.iconst 0, 1) := by decide +kernel
theorem dX6_look_10 : decode cX6_look 10 = .ok (.istore 6, 2) := by decide +kernel
theorem dX6_look_12 : decode cX6_look 12 = .ok (.iload 6, 2) := by decide +kernel
theorem dX6_look_14 : decode cX6_look 14 = .ok (.aload_n 0, 1) := by decide +kernel
theorem dX6_look_15 : decode cX6_look 15 = .ok (.getfield 9, 3) := by decide +kernel
theorem dX6_look_18 : decode cX6_look 18 = .ok (.if_icmp .ge 88, 3) := by decide +kernel
theorem dX6_look_21 : decode cX6_look 21 = .ok (.aload_n 0, 1) := by decide +kernel
theorem dX6_look_22 : decode cX6_look 22 = .ok (.getfield 18, 3) := by decide +kernel
theorem dX6_look_25 : decode cX6_look 25 = .ok (.iload 6, 2) := by decide +kernel
theorem dX6_look_27 : decode cX6_look 27 = .ok (.iload_n 2, 1) := by decide +kernel
theorem dX6_look_28 : decode cX6_look 28 = .ok (.ifCond .le 19, 3) := by decide +kernel
theorem dX6_look_31 : decode cX6_look 31 = .ok (.aload_n 1, 1) := by decide +kernel
theorem dX6_look_32 : decode cX6_look 32 = .ok (.iload_n 3, 1) := by decide +kernel
theorem dX6_look_33 : decode cX6_look 33 = .ok (.iload 6, 2) := by decide +kernel
theorem dX6_look_35 : decode cX6_look 35 = .ok (.iadd, 1) := by decide +kernel
theorem dX6_look_36 : decode cX6_look 36 = .ok (.bipush 16, 2) := by decide +kernel
theorem dX6_look_38 : decode cX6_look 38 = .ok (.imul, 1) := by decide +kernel
theorem dX6_look_39 : decode cX6_look 39 = .ok (.iload_n 2, 1) := by decide +kernel
theorem dX6_look_40 : decode cX6_look 40 = .ok (.iadd, 1) := by decide +kernel
theorem dX6_look_41 : decode cX6_look 41 = .ok (.iconst 1, 1) := by decide +kernel
theorem dX6_look_42 : decode cX6_look 42 = .ok (.isub, 1) := by decide +kernel
theorem dX6_look_43 : decode cX6_look 43 = .ok (.iaload, 1) := by decide +kernel
theorem dX6_look_44 : decode cX6_look 44 = .ok (.goto 4, 3) := by decide +kernel
theorem dX6_look_47 : decode cX6_look 47 = .ok (.iconst 0, 1) := by decide +kernel
theorem dX6_look_48 : decode cX6_look 48 = .ok (.iastore, 1) := by decide +kernel
theorem dX6_look_49 : decode cX6_look 49 = .ok (.aload_n 0, 1) := by decide +kernel
theorem dX6_look_50 : decode cX6_look 50 = .ok (.getfield 22, 3) := by decide +kernel
theorem dX6_look_53 : decode cX6_look 53 = .ok (.iload 6, 2) := by decide +kernel
theorem dX6_look_55 : decode cX6_look 55 = .ok (.iload_n 3, 1) := by decide +kernel
theorem dX6_look_56 : decode cX6_look 56 = .ok (.bipush 8, 2) := by decide +kernel
theorem dX6_look_58 : decode cX6_look 58 = .ok (.irem, 1) := by decide +kernel
theorem dX6_look_59 : decode cX6_look 59 = .ok (.ifCond .le 19, 3) := by decide +kernel
theorem dX6_look_62 : decode cX6_look 62 = .ok (.aload_n 1, 1) := by decide +kernel
theorem dX6_look_63 : decode cX6_look 63 = .ok (.iload_n 3, 1) := by decide +kernel
theorem dX6_look_64 : decode cX6_look 64 = .ok (.iconst 1, 1) := by decide +kernel
theorem dX6_look_65 : decode cX6_look 65 = .ok (.isub, 1) := by decide +kernel
theorem dX6_look_66 : decode cX6_look 66 = .ok (.bipush 16, 2) := by decide +kernel
theorem dX6_look_68 : decode cX6_look 68 = .ok (.imul, 1) := by decide +kernel
theorem dX6_look_69 : decode cX6_look 69 = .ok (.iload_n 2, 1) := by decide +kernel
theorem dX6_look_70 : decode cX6_look 70 = .ok (.iadd, 1) := by decide +kernel
theorem dX6_look_71 : decode cX6_look 71 = .ok (.iload 6, 2) := by decide +kernel
theorem dX6_look_73 : decode cX6_look 73 = .ok (.iadd, 1) := by decide +kernel
theorem dX6_look_74 : decode cX6_look 74 = .ok (.iaload, 1) := by decide +kernel
theorem dX6_look_75 : decode cX6_look 75 = .ok (.goto 4, 3) := by decide +kernel
theorem dX6_look_78 : decode cX6_look 78 = .ok (.iconst 0, 1) := by decide +kernel
theorem dX6_look_79 : decode cX6_look 79 = .ok (.iastore, 1) := by decide +kernel
theorem dX6_look_80 : decode cX6_look 80 = .ok (.iload 5, 2) := by decide +kernel
theorem dX6_look_82 : decode cX6_look 82 = .ok (.aload_n 0, 1) := by decide +kernel
theorem dX6_look_83 : decode cX6_look 83 = .ok (.getfield 18, 3) := by decide +kernel
theorem dX6_look_86 : decode cX6_look 86 = .ok (.iload 6, 2) := by decide +kernel
theorem dX6_look_88 : decode cX6_look 88 = .ok (.iaload, 1) := by decide +kernel
theorem dX6_look_89 : decode cX6_look 89 = .ok (.aload_n 0, 1) := by decide +kernel
theorem dX6_look_90 : decode cX6_look 90 = .ok (.getfield 22, 3) := by decide +kernel
theorem dX6_look_93 : decode cX6_look 93 = .ok (.iload 6, 2) := by decide +kernel
theorem dX6_look_95 : decode cX6_look 95 = .ok (.iaload, 1) := by decide +kernel
theorem dX6_look_96 : decode cX6_look 96 = .ok (.iadd, 1) := by decide +kernel
theorem dX6_look_97 : decode cX6_look 97 = .ok (.iadd, 1) := by decide +kernel
theorem dX6_look_98 : decode cX6_look 98 = .ok (.istore 5, 2) := by decide +kernel
theorem dX6_look_100 : decode cX6_look 100 = .ok (.iinc 6 1, 3) := by decide +kernel
theorem dX6_look_103 : decode cX6_look 103 = .ok (.goto (-91), 3) := by decide +kernel
theorem dX6_look_106 : decode cX6_look 106 = .ok (.aload_n 0, 1) := by decide +kernel
theorem dX6_look_107 : decode cX6_look 107 = .ok (.iload 5, 2) := by decide +kernel
theorem dX6_look_109 : decode cX6_look 109 = .ok (.aload_n 0, 1) := by decide +kernel
theorem dX6_look_110 : decode cX6_look 110 = .ok (.getfield 9, 3) := by decide +kernel
theorem dX6_look_113 : decode cX6_look 113 = .ok (.iconst 4, 1) := by decide +kernel
theorem dX6_look_114 : decode cX6_look 114 = .ok (.if_icmp .ne 8, 3) := by decide +kernel
theorem dX6_look_117 : decode cX6_look 117 = .ok (.bipush 8, 2) := by decide +kernel
theorem dX6_look_119 : decode cX6_look 119 = .ok (.goto 5, 3) := by decide +kernel
theorem dX6_look_122 : decode cX6_look 122 = .ok (.bipush 16, 2) := by decide +kernel
theorem dX6_look_124 : decode cX6_look 124 = .ok (.invokestatic 25, 3) := by decide +kernel
theorem dX6_look_127 : decode cX6_look 127 = .ok (.putfield 15, 3) := by decide +kernel
theorem dX6_look_130 : decode cX6_look 130 = .ok (.return_, 1) := by decide +kernel
theorem dX6_of_0 : decode cX6_of 0 = .ok (.iload_n 1, 1) := by decide +kernel
theorem dX6_of_1 : decode cX6_of 1 = .ok (.ifCond .ne 8, 3) := by decide +kernel
theorem dX6_of_4 : decode cX6_of 4 = .ok (.aload_n 0, 1) := by decide +kernel
theorem dX6_of_5 : decode cX6_of 5 = .ok (.getfield 15, 3) := by decide +kernel
theorem dX6_of_8 : decode cX6_of 8 = .ok (.ireturn, 1) := by decide +kernel
theorem dX6_of_9 : decode cX6_of 9 = .ok (.iload_n 1, 1) := by decide +kernel
theorem dX6_of_10 : decode cX6_of 10 = .ok (.iconst 1, 1) := by decide +kernel
theorem dX6_of_11 : decode cX6_of 11 = .ok (.if_icmp .ne 10, 3) := by decide +kernel
theorem dX6_of_14 : decode cX6_of 14 = .ok (.aload_n 0, 1) := by decide +kernel
theorem dX6_of_15 : decode cX6_of 15 = .ok (.getfield 18, 3) := by decide +kernel
theorem dX6_of_18 : decode cX6_of 18 = .ok (.iload_n 2, 1) := by decide +kernel
theorem dX6_of_19 : decode cX6_of 19 = .ok (.iaload, 1) := by decide +kernel
theorem dX6_of_20 : decode cX6_of 20 = .ok (.ireturn, 1) := by decide +kernel
theorem dX6_of_21 : decode cX6_of 21 = .ok (.iload_n 1, 1) := by decide +kernel
theorem dX6_of_22 : decode cX6_of 22 = .ok (.iconst 2, 1) := by decide +kernel
theorem dX6_of_23 : decode cX6_of 23 = .ok (.if_icmp .ne 10, 3) := by decide +kernel
theorem dX6_of_26 : decode cX6_of 26 = .ok (.aload_n 0, 1) := by decide +kernel
theorem dX6_of_27 : decode cX6_of 27 = .ok (.getfield 22, 3) := by decide +kernel
theorem dX6_of_30 : decode cX6_of 30 = .ok (.iload_n 3, 1) := by decide +kernel
theorem dX6_of_31 : decode cX6_of 31 = .ok (.iaload, 1) := by decide +kernel
theorem dX6_of_32 : decode cX6_of 32 = .ok (.ireturn, 1) := by decide +kernel
theorem dX6_of_33 : decode cX6_of 33 = .ok (.aload_n 0, 1) := by decide +kernel
theorem dX6_of_34 : decode cX6_of 34 = .ok (.getfield 18, 3) := by decide +kernel
theorem dX6_of_37 : decode cX6_of 37 = .ok (.iload_n 2, 1) := by decide +kernel
theorem dX6_of_38 : decode cX6_of 38 = .ok (.iaload, 1) := by decide +kernel
theorem dX6_of_39 : decode cX6_of 39 = .ok (.aload_n 0, 1) := by decide +kernel
theorem dX6_of_40 : decode cX6_of 40 = .ok (.getfield 22, 3) := by decide +kernel
theorem dX6_of_43 : decode cX6_of 43 = .ok (.iload_n 3, 1) := by decide +kernel
theorem dX6_of_44 : decode cX6_of 44 = .ok (.iaload, 1) := by decide +kernel
theorem dX6_of_45 : decode cX6_of 45 = .ok (.iadd, 1) := by decide +kernel
theorem dX6_of_46 : decode cX6_of 46 = .ok (.iconst 2, 1) := by decide +kernel
theorem dX6_of_47 : decode cX6_of 47 = .ok (.invokestatic 25, 3) := by decide +kernel
theorem dX6_of_50 : decode cX6_of 50 = .ok (.ireturn, 1) := by decide +kernel
theorem dX6_bestMode_0 : decode cX6_bestMode 0 = .ok (.iconst 0, 1) := by decide +kernel
theorem dX6_bestMode_1 : decode cX6_bestMode 1 = .ok (.istore 4, 2) := by decide +kernel
theorem dX6_bestMode_3 : decode cX6_bestMode 3 = .ok (.iconst 0, 1) := by decide +kernel
theorem dX6_bestMode_4 : decode cX6_bestMode 4 = .ok (.istore 5, 2) := by decide +kernel
theorem dX6_bestMode_6 : decode cX6_bestMode 6 = .ok (.iconst 0, 1) := by decide +kernel
theorem dX6_bestMode_7 : decode cX6_bestMode 7 = .ok (.istore 6, 2) := by decide +kernel
theorem dX6_bestMode_9 : decode cX6_bestMode 9 = .ok (.iload 6, 2) := by decide +kernel
theorem dX6_bestMode_11 : decode cX6_bestMode 11 = .ok (.iconst 4, 1) := by decide +kernel
theorem dX6_bestMode_12 : decode cX6_bestMode 12 = .ok (.if_icmp .ge 101, 3) := by decide +kernel
theorem dX6_bestMode_15 : decode cX6_bestMode 15 = .ok (.iconst 0, 1) := by decide +kernel
theorem dX6_bestMode_16 : decode cX6_bestMode 16 = .ok (.istore 7, 2) := by decide +kernel
theorem dX6_bestMode_18 : decode cX6_bestMode 18 = .ok (.iconst 0, 1) := by decide +kernel
theorem dX6_bestMode_19 : decode cX6_bestMode 19 = .ok (.istore 8, 2) := by decide +kernel
theorem dX6_bestMode_21 : decode cX6_bestMode 21 = .ok (.iload 8, 2) := by decide +kernel
theorem dX6_bestMode_23 : decode cX6_bestMode 23 = .ok (.aload_n 0, 1) := by decide +kernel
theorem dX6_bestMode_24 : decode cX6_bestMode 24 = .ok (.getfield 9, 3) := by decide +kernel
theorem dX6_bestMode_27 : decode cX6_bestMode 27 = .ok (.if_icmp .ge 60, 3) := by decide +kernel
theorem dX6_bestMode_30 : decode cX6_bestMode 30 = .ok (.iconst 0, 1) := by decide +kernel
theorem dX6_bestMode_31 : decode cX6_bestMode 31 = .ok (.istore 9, 2) := by decide +kernel
theorem dX6_bestMode_33 : decode cX6_bestMode 33 = .ok (.iload 9, 2) := by decide +kernel
theorem dX6_bestMode_35 : decode cX6_bestMode 35 = .ok (.aload_n 0, 1) := by decide +kernel
theorem dX6_bestMode_36 : decode cX6_bestMode 36 = .ok (.getfield 9, 3) := by decide +kernel
theorem dX6_bestMode_39 : decode cX6_bestMode 39 = .ok (.if_icmp .ge 42, 3) := by decide +kernel
theorem dX6_bestMode_42 : decode cX6_bestMode 42 = .ok (.iload 7, 2) := by decide +kernel
theorem dX6_bestMode_44 : decode cX6_bestMode 44 = .ok (.aload_n 1, 1) := by decide +kernel
theorem dX6_bestMode_45 : decode cX6_bestMode 45 = .ok (.iload_n 3, 1) := by decide +kernel
theorem dX6_bestMode_46 : decode cX6_bestMode 46 = .ok (.iload 8, 2) := by decide +kernel
theorem dX6_bestMode_48 : decode cX6_bestMode 48 = .ok (.iadd, 1) := by decide +kernel
theorem dX6_bestMode_49 : decode cX6_bestMode 49 = .ok (.bipush 16, 2) := by decide +kernel
theorem dX6_bestMode_51 : decode cX6_bestMode 51 = .ok (.imul, 1) := by decide +kernel
theorem dX6_bestMode_52 : decode cX6_bestMode 52 = .ok (.iload_n 2, 1) := by decide +kernel
theorem dX6_bestMode_53 : decode cX6_bestMode 53 = .ok (.iadd, 1) := by decide +kernel
theorem dX6_bestMode_54 : decode cX6_bestMode 54 = .ok (.iload 9, 2) := by decide +kernel
theorem dX6_bestMode_56 : decode cX6_bestMode 56 = .ok (.iadd, 1) := by decide +kernel
theorem dX6_bestMode_57 : decode cX6_bestMode 57 = .ok (.iaload, 1) := by decide +kernel
theorem dX6_bestMode_58 : decode cX6_bestMode 58 = .ok (.aload_n 0, 1) := by decide +kernel
theorem dX6_bestMode_59 : decode cX6_bestMode 59 = .ok (.iload 6, 2) := by decide +kernel
theorem dX6_bestMode_61 : decode cX6_bestMode 61 = .ok (.iload 8, 2) := by decide +kernel
theorem dX6_bestMode_63 : decode cX6_bestMode 63 = .ok (.iload 9, 2) := by decide +kernel
theorem dX6_bestMode_65 : decode cX6_bestMode 65 = .ok (.invokevirtual 31, 3) := by decide +kernel
theorem dX6_bestMode_68 : decode cX6_bestMode 68 = .ok (.isub, 1) := by decide +kernel
theorem dX6_bestMode_69 : decode cX6_bestMode 69 = .ok (.invokestatic 35, 3) := by decide +kernel
theorem dX6_bestMode_72 : decode cX6_bestMode 72 = .ok (.iadd, 1) := by decide +kernel
theorem dX6_bestMode_73 : decode cX6_bestMode 73 = .ok (.istore 7, 2) := by decide +kernel
theorem dX6_bestMode_75 : decode cX6_bestMode 75 = .ok (.iinc 9 1, 3) := by decide +kernel
theorem dX6_bestMode_78 : decode cX6_bestMode 78 = .ok (.goto (-45), 3) := by decide +kernel
theorem dX6_bestMode_81 : decode cX6_bestMode 81 = .ok (.iinc 8 1, 3) := by decide +kernel
theorem dX6_bestMode_84 : decode cX6_bestMode 84 = .ok (.goto (-63), 3) := by decide +kernel
theorem dX6_bestMode_87 : decode cX6_bestMode 87 = .ok (.iload 6, 2) := by decide +kernel
theorem dX6_bestMode_89 : decode cX6_bestMode 89 = .ok (.ifCond .eq 10, 3) := by decide +kernel
theorem dX6_bestMode_92 : decode cX6_bestMode 92 = .ok (.iload 7, 2) := by decide +kernel
theorem dX6_bestMode_94 : decode cX6_bestMode 94 = .ok (.iload 5, 2) := by decide +kernel
theorem dX6_bestMode_96 : decode cX6_bestMode 96 = .ok (.if_icmp .ge 11, 3) := by decide +kernel
theorem dX6_bestMode_99 : decode cX6_bestMode 99 = .ok (.iload 6, 2) := by decide +kernel
theorem dX6_bestMode_101 : decode cX6_bestMode 101 = .ok (.istore 4, 2) := by decide +kernel
theorem dX6_bestMode_103 : decode cX6_bestMode 103 = .ok (.iload 7, 2) := by decide +kernel
theorem dX6_bestMode_105 : decode cX6_bestMode 105 = .ok (.istore 5, 2) := by decide +kernel
theorem dX6_bestMode_107 : decode cX6_bestMode 107 = .ok (.iinc 6 1, 3) := by decide +kernel
theorem dX6_bestMode_110 : decode cX6_bestMode 110 = .ok (.goto (-101), 3) := by decide +kernel
theorem dX6_bestMode_113 : decode cX6_bestMode 113 = .ok (.iload 4, 2) := by decide +kernel
theorem dX6_bestMode_115 : decode cX6_bestMode 115 = .ok (.ireturn, 1) := by decide +kernel
theorem dX7_init_0 : decode cX7_init 0 = .ok (.aload_n 0, 1) := by decide +kernel
theorem dX7_init_1 : decode cX7_init 1 = .ok (.invokespecial 3, 3) := by decide +kernel
theorem dX7_init_4 : decode cX7_init 4 = .ok (.aload_n 0, 1) := by decide +kernel
theorem dX7_init_5 : decode cX7_init 5 = .ok (.bipush 64, 2) := by decide +kernel
theorem dX7_init_7 : decode cX7_init 7 = .ok (.newarray .int, 2) := by decide +kernel
theorem dX7_init_9 : decode cX7_init 9 = .ok (.putfield 9, 3) := by decide +kernel
theorem dX7_init_12 : decode cX7_init 12 = .ok (.aload_n 0, 1) := by decide +kernel
theorem dX7_init_13 : decode cX7_init 13 = .ok (.bipush 8, 2) := by decide +kernel
theorem dX7_init_15 : decode cX7_init 15 = .ok (.newarray .int, 2) := by decide +kernel
theorem dX7_init_17 : decode cX7_init 17 = .ok (.putfield 15, 3) := by decide +kernel
theorem dX7_init_20 : decode cX7_init 20 = .ok (.return_, 1) := by decide +kernel
theorem dX7_split_0 : decode cX7_split 0 = .ok (.iload_n 1, 1) := by decide +kernel
theorem dX7_split_1 : decode cX7_split 1 = .ok (.istore_n 2, 1) := by decide +kernel
theorem dX7_split_2 : decode cX7_split 2 = .ok (.iload_n 2, 1) := by decide +kernel
theorem dX7_split_3 : decode cX7_split 3 = .ok (.iconst 2, 1) := by decide +kernel
theorem dX7_split_4 : decode cX7_split 4 = .ok (.if_icmp .lt 54, 3) := by decide +kernel
theorem dX7_split_7 : decode cX7_split 7 = .ok (.iconst 0, 1) := by decide +kernel
theorem dX7_split_8 : decode cX7_split 8 = .ok (.istore_n 3, 1) := by decide +kernel
theorem dX7_split_9 : decode cX7_split 9 = .ok (.iload_n 3, 1) := by decide +kernel
theorem dX7_split_10 : decode cX7_split 10 = .ok (.iload_n 2, 1) := by decide +kernel
theorem dX7_split_11 : decode cX7_split 11 = .ok (.if_icmp .ge 19, 3) := by decide +kernel
theorem dX7_split_14 : decode cX7_split 14 = .ok (.aload_n 0, 1) := by decide +kernel
theorem dX7_split_15 : decode cX7_split 15 = .ok (.iload_n 3, 1) := by decide +kernel
theorem dX7_split_16 : decode cX7_split 16 = .ok (.bipush 8, 2) := by decide +kernel
theorem dX7_split_18 : decode cX7_split 18 = .ok (.imul, 1) := by decide +kernel
theorem dX7_split_19 : decode cX7_split 19 = .ok (.iconst 1, 1) := by decide +kernel
theorem dX7_split_20 : decode cX7_split 20 = .ok (.iload_n 2, 1) := by decide +kernel
theorem dX7_split_21 : decode cX7_split 21 = .ok (.invokevirtual 18, 3) := by decide +kernel
theorem dX7_split_24 : decode cX7_split 24 = .ok (.iinc 3 1, 3) := by decide +kernel
theorem dX7_split_27 : decode cX7_split 27 = .ok (.goto (-18), 3) := by decide +kernel
theorem dX7_split_30 : decode cX7_split 30 = .ok (.iconst 0, 1) := by decide +kernel
theorem dX7_split_31 : decode cX7_split 31 = .ok (.istore_n 3, 1) := by decide +kernel
theorem dX7_split_32 : decode cX7_split 32 = .ok (.iload_n 3, 1) := by decide +kernel
theorem dX7_split_33 : decode cX7_split 33 = .ok (.iload_n 2, 1) := by decide +kernel
theorem dX7_split_34 : decode cX7_split 34 = .ok (.if_icmp .ge 17, 3) := by decide +kernel
theorem dX7_split_37 : decode cX7_split 37 = .ok (.aload_n 0, 1) := by decide +kernel
theorem dX7_split_38 : decode cX7_split 38 = .ok (.iload_n 3, 1) := by decide +kernel
theorem dX7_split_39 : decode cX7_split 39 = .ok (.bipush 8, 2) := by decide +kernel
theorem dX7_split_41 : decode cX7_split 41 = .ok (.iload_n 2, 1) := by decide +kernel
theorem dX7_split_42 : decode cX7_split 42 = .ok (.invokevirtual 18, 3) := by decide +kernel
theorem dX7_split_45 : decode cX7_split 45 = .ok (.iinc 3 1, 3) := by decide +kernel
theorem dX7_split_48 : decode cX7_split 48 = .ok (.goto (-16), 3) := by decide +kernel
theorem dX7_split_51 : decode cX7_split 51 = .ok (.iload_n 2, 1) := by decide +kernel
theorem dX7_split_52 : decode cX7_split 52 = .ok (.iconst 2, 1) := by decide +kernel
theorem dX7_split_53 : decode cX7_split 53 = .ok (.idiv, 1) := by decide +kernel
theorem dX7_split_54 : decode cX7_split 54 = .ok (.istore_n 2, 1) := by decide +kernel
theorem dX7_split_55 : decode cX7_split 55 = .ok (.goto (-53), 3) := by decide +kernel
theorem dX7_split_58 : decode cX7_split 58 = .ok (.return_, 1) := by decide +kernel
theorem dX7_join_0 : decode cX7_join 0 = .ok (.iconst 2, 1) := by decide +kernel
theorem dX7_join_1 : decode cX7_join 1 = .ok (.istore_n 2, 1) := by decide +kernel
theorem dX7_join_2 : decode cX7_join 2 = .ok (.iload_n 2, 1) := by decide +kernel
theorem dX7_join_3 : decode cX7_join 3 = .ok (.iload_n 1, 1) := by decide +kernel
theorem dX7_join_4 : decode cX7_join 4 = .ok (.if_icmp .gt 54, 3) := by decide +kernel
theorem dX7_join_7 : decode cX7_join 7 = .ok (.iconst 0, 1) := by decide +kernel
theorem dX7_join_8 : decode cX7_join 8 = .ok (.istore_n 3, 1) := by decide +kernel
theorem dX7_join_9 : decode cX7_join 9 = .ok (.iload_n 3, 1) := by decide +kernel
theorem dX7_join_10 : decode cX7_join 10 = .ok (.iload_n 2, 1) := by decide +kernel
theorem dX7_join_11 : decode cX7_join 11 = .ok (.if_icmp .ge 17, 3) := by decide +kernel
theorem dX7_join_14 : decode cX7_join 14 = .ok (.aload_n 0, 1) := by decide +kernel
theorem dX7_join_15 : decode cX7_join 15 = .ok (.iload_n 3, 1) := by decide +kernel
theorem dX7_join_16 : decode cX7_join 16 = .ok (.bipush 8, 2) := by decide +kernel
theorem dX7_join_18 : decode cX7_join 18 = .ok (.iload_n 2, 1) := by decide +kernel
theorem dX7_join_19 : decode cX7_join 19 = .ok (.invokevirtual 22, 3) := by decide +kernel
theorem dX7_join_22 : decode cX7_join 22 = .ok (.iinc 3 1, 3) := by decide +kernel
theorem dX7_join_25 : decode cX7_join 25 = .ok (.goto (-16), 3) := by decide +kernel
theorem dX7_join_28 : decode cX7_join 28 = .ok (.iconst 0, 1) := by decide +kernel
theorem dX7_join_29 : decode cX7_join 29 = .ok (.istore_n 3, 1) := by decide +kernel
theorem dX7_join_30 : decode cX7_join 30 = .ok (.iload_n 3, 1) := by decide +kernel
theorem dX7_join_31 : decode cX7_join 31 = .ok (.iload_n 2, 1) := by decide +kernel
theorem dX7_join_32 : decode cX7_join 32 = .ok (.if_icmp .ge 19, 3) := by decide +kernel
theorem dX7_join_35 : decode cX7_join 35 = .ok (.aload_n 0, 1) := by decide +kernel
theorem dX7_join_36 : decode cX7_join 36 = .ok (.iload_n 3, 1) := by decide +kernel
theorem dX7_join_37 : decode cX7_join 37 = .ok (.bipush 8, 2) := by decide +kernel
theorem dX7_join_39 : decode cX7_join 39 = .ok (.imul, 1) := by decide +kernel
theorem dX7_join_40 : decode cX7_join 40 = .ok (.iconst 1, 1) := by decide +kernel
theorem dX7_join_41 : decode cX7_join 41 = .ok (.iload_n 2, 1) := by decide +kernel
theorem dX7_join_42 : decode cX7_join 42 = .ok (.invokevirtual 22, 3) := by decide +kernel
theorem dX7_join_45 : decode cX7_join 45 = .ok (.iinc 3 1, 3) := by decide +kernel
theorem dX7_join_48 : decode cX7_join 48 = .ok (.goto (-18), 3) := by decide +kernel
theorem dX7_join_51 : decode cX7_join 51 = .ok (.iload_n 2, 1) := by decide +kernel
theorem dX7_join_52 : decode cX7_join 52 = .ok (.iconst 2, 1) := by decide +kernel
theorem dX7_join_53 : decode cX7_join 53 = .ok (.imul, 1) := by decide +kernel
theorem dX7_join_54 : decode cX7_join 54 = .ok (.istore_n 2, 1) := by decide +kernel
theorem dX7_join_55 : decode cX7_join 55 = .ok (.goto (-53), 3) := by decide +kernel
theorem dX7_join_58 : decode cX7_join 58 = .ok (.return_, 1) := by decide +kernel
theorem dX7_splitLine_0 : decode cX7_splitLine 0 = .ok (.iload_n 3, 1) := by decide +kernel
theorem dX7_splitLine_1 : decode cX7_splitLine 1 = .ok (.iconst 2, 1) := by decide +kernel
theorem dX7_splitLine_2 : decode cX7_splitLine 2 = .ok (.idiv, 1) := by decide +kernel
theorem dX7_splitLine_3 : decode cX7_splitLine 3 = .ok (.istore 4, 2) := by decide +kernel
theorem dX7_splitLine_5 : decode cX7_splitLine 5 = .ok (.iconst 0, 1) := by decide +kernel
theorem dX7_splitLine_6 : decode cX7_splitLine 6 = .ok (.istore 5, 2) := by decide +kernel
theorem dX7_splitLine_8 : decode cX7_splitLine 8 = .ok (.iload 5, 2) := by decide +kernel
theorem dX7_splitLine_10 : decode cX7_splitLine 10 = .ok (.iload 4, 2) := by decide +kernel
theorem dX7_splitLine_12 : decode cX7_splitLine 12 = .ok (.if_icmp .ge 70, 3) := by decide +kernel
theorem dX7_splitLine_15 : decode cX7_splitLine 15 = .ok (.aload_n 0, 1) := by decide +kernel
theorem dX7_splitLine_16 : decode cX7_splitLine 16 = .ok (.getfield 9, 3) := by decide +kernel
theorem dX7_splitLine_19 : decode cX7_splitLine 19 = .ok (.iload_n 1, 1) := by decide +kernel
theorem dX7_splitLine_20 : decode cX7_splitLine 20 = .ok (.iconst 2, 1) := by decide +kernel
theorem dX7_splitLine_21 : decode cX7_splitLine 21 = .ok (.iload 5, 2) := by decide +kernel
theorem dX7_splitLine_23 : decode cX7_splitLine 23 = .ok (.imul, 1) := by decide +kernel
theorem dX7_splitLine_24 : decode cX7_splitLine 24 = .ok (.iload_n 2, 1) := by decide +kernel
theorem dX7_splitLine_25 : decode cX7_splitLine 25 = .ok (.imul, 1) := by decide +kernel
theorem dX7_splitLine_26 : decode cX7_splitLine 26 = .ok (.iadd, 1) := by decide +kernel
theorem dX7_splitLine_27 : decode cX7_splitLine 27 = .ok (.iaload, 1) := by decide +kernel
theorem dX7_splitLine_28 : decode cX7_splitLine 28 = .ok (.istore 6, 2) := by decide +kernel
theorem dX7_splitLine_30 : decode cX7_splitLine 30 = .ok (.aload_n 0, 1) := by decide +kernel
theorem dX7_splitLine_31 : decode cX7_splitLine 31 = .ok (.getfield 9, 3) := by decide +kernel
theorem dX7_splitLine_34 : decode cX7_splitLine 34 = .ok (.iload_n 1, 1) := by decide +kernel
theorem dX7_splitLine_35 : decode cX7_splitLine 35 = .ok (.iconst 2, 1) := by decide +kernel
theorem dX7_splitLine_36 : decode cX7_splitLine 36 = .ok (.iload 5, 2) := by decide +kernel
theorem dX7_splitLine_38 : decode cX7_splitLine 38 = .ok (.imul, 1) := by decide +kernel
theorem dX7_splitLine_39 : decode cX7_splitLine 39 = .ok (.iconst 1, 1) := by decide +kernel
theorem dX7_splitLine_40 : decode cX7_splitLine 40 = .ok (.iadd, 1) := by decide +kernel
theorem dX7_splitLine_41 : decode cX7_splitLine 41 = .ok (.iload_n 2, 1) := by decide +kernel
theorem dX7_splitLine_42 : decode cX7_splitLine 42 = .ok (.imul, 1) := by decide +kernel
theorem dX7_splitLine_43 : decode cX7_splitLine 43 = .ok (.iadd, 1) := by decide +kernel
theorem dX7_splitLine_44 : decode cX7_splitLine 44 = .ok (.iaload, 1) := by decide +kernel
theorem dX7_splitLine_45 : decode cX7_splitLine 45 = .ok (.istore 7, 2) := by decide +kernel
theorem dX7_splitLine_47 : decode cX7_splitLine 47 = .ok (.aload_n 0, 1) := by decide +kernel
theorem dX7_splitLine_48 : decode cX7_splitLine 48 = .ok (.getfield 15, 3) := by decide +kernel
theorem dX7_splitLine_51 : decode cX7_splitLine 51 = .ok (.iload 5, 2) := by decide +kernel
theorem dX7_splitLine_53 : decode cX7_splitLine 53 = .ok (.iload 6, 2) := by decide +kernel
theorem dX7_splitLine_55 : decode cX7_splitLine 55 = .ok (.iload 7, 2) := by decide +kernel
theorem dX7_splitLine_57 : decode cX7_splitLine 57 = .ok (.iadd, 1) := by decide +kernel
theorem dX7_splitLine_58 : decode cX7_splitLine 58 = .ok (.iconst 1, 1) := by decide +kernel
theorem dX7_splitLine_59 : decode cX7_splitLine 59 = .ok (.ishr, 1) := by decide +kernel
theorem dX7_splitLine_60 : decode cX7_splitLine 60 = .ok (.iastore, 1) := by decide +kernel
theorem dX7_splitLine_61 : decode cX7_splitLine 61 = .ok (.aload_n 0, 1) := by decide +kernel
theorem dX7_splitLine_62 : decode cX7_splitLine 62 = .ok (.getfield 15, 3) := by decide +kernel
theorem dX7_splitLine_65 : decode cX7_splitLine 65 = .ok (.iload 4, 2) := by decide +kernel
theorem dX7_splitLine_67 : decode cX7_splitLine 67 = .ok (.iload 5, 2) := by decide +kernel
theorem dX7_splitLine_69 : decode cX7_splitLine 69 = .ok (.iadd, 1) := by decide +kernel
theorem dX7_splitLine_70 : decode cX7_splitLine 70 = .ok (.iload 6, 2) := by decide +kernel
theorem dX7_splitLine_72 : decode cX7_splitLine 72 = .ok (.iload 7, 2) := by decide +kernel
theorem dX7_splitLine_74 : decode cX7_splitLine 74 = .ok (.isub, 1) := by decide +kernel
theorem dX7_splitLine_75 : decode cX7_splitLine 75 = .ok (.iastore, 1) := by decide +kernel
theorem dX7_splitLine_76 : decode cX7_splitLine 76 = .ok (.iinc 5 1, 3) := by decide +kernel
theorem dX7_splitLine_79 : decode cX7_splitLine 79 = .ok (.goto (-71), 3) := by decide +kernel
theorem dX7_splitLine_82 : decode cX7_splitLine 82 = .ok (.iconst 0, 1) := by decide +kernel
theorem dX7_splitLine_83 : decode cX7_splitLine 83 = .ok (.istore 5, 2) := by decide +kernel
theorem dX7_splitLine_85 : decode cX7_splitLine 85 = .ok (.iload 5, 2) := by decide +kernel
theorem dX7_splitLine_87 : decode cX7_splitLine 87 = .ok (.iload_n 3, 1) := by decide +kernel
theorem dX7_splitLine_88 : decode cX7_splitLine 88 = .ok (.if_icmp .ge 27, 3) := by decide +kernel
theorem dX7_splitLine_91 : decode cX7_splitLine 91 = .ok (.aload_n 0, 1) := by decide +kernel
theorem dX7_splitLine_92 : decode cX7_splitLine 92 = .ok (.getfield 9, 3) := by decide +kernel
theorem dX7_splitLine_95 : decode cX7_splitLine 95 = .ok (.iload_n 1, 1) := by decide +kernel
theorem dX7_splitLine_96 : decode cX7_splitLine 96 = .ok (.iload 5, 2) := by decide +kernel
theorem dX7_splitLine_98 : decode cX7_splitLine 98 = .ok (.iload_n 2, 1) := by decide +kernel
theorem dX7_splitLine_99 : decode cX7_splitLine 99 = .ok (.imul, 1) := by decide +kernel
theorem dX7_splitLine_100 : decode cX7_splitLine 100 = .ok (.iadd, 1) := by decide +kernel
theorem dX7_splitLine_101 : decode cX7_splitLine 101 = .ok (.aload_n 0, 1) := by decide +kernel
theorem dX7_splitLine_102 : decode cX7_splitLine 102 = .ok (.getfield 15, 3) := by decide +kernel
theorem dX7_splitLine_105 : decode cX7_splitLine 105 = .ok (.iload 5, 2) := by decide +kernel
theorem dX7_splitLine_107 : decode cX7_splitLine 107 = .ok (.iaload, 1) := by decide +kernel
theorem dX7_splitLine_108 : decode cX7_splitLine 108 = .ok (.iastore, 1) := by decide +kernel
theorem dX7_splitLine_109 : decode cX7_splitLine 109 = .ok (.iinc 5 1, 3) := by decide +kernel
theorem dX7_splitLine_112 : decode cX7_splitLine 112 = .ok (.goto (-27), 3) := by decide +kernel
theorem dX7_splitLine_115 : decode cX7_splitLine 115 = .ok (.return_, 1) := by decide +kernel
theorem dX7_joinLine_0 : decode cX7_joinLine 0 = .ok (.iload_n 3, 1) := by decide +kernel
theorem dX7_joinLine_1 : decode cX7_joinLine 1 = .ok (.iconst 2, 1) := by decide +kernel
theorem dX7_joinLine_2 : decode cX7_joinLine 2 = .ok (.idiv, 1) := by decide +kernel
theorem dX7_joinLine_3 : decode cX7_joinLine 3 = .ok (.istore 4, 2) := by decide +kernel
theorem dX7_joinLine_5 : decode cX7_joinLine 5 = .ok (.iconst 0, 1) := by decide +kernel
theorem dX7_joinLine_6 : decode cX7_joinLine 6 = .ok (.istore 5, 2) := by decide +kernel
theorem dX7_joinLine_8 : decode cX7_joinLine 8 = .ok (.iload 5, 2) := by decide +kernel
theorem dX7_joinLine_10 : decode cX7_joinLine 10 = .ok (.iload 4, 2) := by decide +kernel
theorem dX7_joinLine_12 : decode cX7_joinLine 12 = .ok (.if_icmp .ge 76, 3) := by decide +kernel
theorem dX7_joinLine_15 : decode cX7_joinLine 15 = .ok (.aload_n 0, 1) := by decide +kernel
theorem dX7_joinLine_16 : decode cX7_joinLine 16 = .ok (.getfield 9, 3) := by decide +kernel
theorem dX7_joinLine_19 : decode cX7_joinLine 19 = .ok (.iload_n 1, 1) := by decide +kernel
theorem dX7_joinLine_20 : decode cX7_joinLine 20 = .ok (.iload 5, 2) := by decide +kernel
theorem dX7_joinLine_22 : decode cX7_joinLine 22 = .ok (.iload_n 2, 1) := by decide +kernel
theorem dX7_joinLine_23 : decode cX7_joinLine 23 = .ok (.imul, 1) := by decide +kernel
theorem dX7_joinLine_24 : decode cX7_joinLine 24 = .ok (.iadd, 1) := by decide +kernel
theorem dX7_joinLine_25 : decode cX7_joinLine 25 = .ok (.iaload, 1) := by decide +kernel
theorem dX7_joinLine_26 : decode cX7_joinLine 26 = .ok (.istore 6, 2) := by decide +kernel
theorem dX7_joinLine_28 : decode cX7_joinLine 28 = .ok (.aload_n 0, 1) := by decide +kernel
theorem dX7_joinLine_29 : decode cX7_joinLine 29 = .ok (.getfield 9, 3) := by decide +kernel
theorem dX7_joinLine_32 : decode cX7_joinLine 32 = .ok (.iload_n 1, 1) := by decide +kernel
theorem dX7_joinLine_33 : decode cX7_joinLine 33 = .ok (.iload 4, 2) := by decide +kernel
theorem dX7_joinLine_35 : decode cX7_joinLine 35 = .ok (.iload 5, 2) := by decide +kernel
theorem dX7_joinLine_37 : decode cX7_joinLine 37 = .ok (.iadd, 1) := by decide +kernel
theorem dX7_joinLine_38 : decode cX7_joinLine 38 = .ok (.iload_n 2, 1) := by decide +kernel
theorem dX7_joinLine_39 : decode cX7_joinLine 39 = .ok (.imul, 1) := by decide +kernel
theorem dX7_joinLine_40 : decode cX7_joinLine 40 = .ok (.iadd, 1) := by decide +kernel
theorem dX7_joinLine_41 : decode cX7_joinLine 41 = .ok (.iaload, 1) := by decide +kernel
theorem dX7_joinLine_42 : decode cX7_joinLine 42 = .ok (.istore 7, 2) := by decide +kernel
theorem dX7_joinLine_44 : decode cX7_joinLine 44 = .ok (.iload 6, 2) := by decide +kernel
theorem dX7_joinLine_46 : decode cX7_joinLine 46 = .ok (.iload 7, 2) := by decide +kernel
theorem dX7_joinLine_48 : decode cX7_joinLine 48 = .ok (.iconst 1, 1) := by decide +kernel
theorem dX7_joinLine_49 : decode cX7_joinLine 49 = .ok (.iadd, 1) := by decide +kernel
theorem dX7_joinLine_50 : decode cX7_joinLine 50 = .ok (.iconst 1, 1) := by decide +kernel
theorem dX7_joinLine_51 : decode cX7_joinLine 51 = .ok (.ishr, 1) := by decide +kernel
theorem dX7_joinLine_52 : decode cX7_joinLine 52 = .ok (.iadd, 1) := by decide +kernel
theorem dX7_joinLine_53 : decode cX7_joinLine 53 = .ok (.istore 8, 2) := by decide +kernel
theorem dX7_joinLine_55 : decode cX7_joinLine 55 = .ok (.aload_n 0, 1) := by decide +kernel
theorem dX7_joinLine_56 : decode cX7_joinLine 56 = .ok (.getfield 15, 3) := by decide +kernel
theorem dX7_joinLine_59 : decode cX7_joinLine 59 = .ok (.iconst 2, 1) := by decide +kernel
theorem dX7_joinLine_60 : decode cX7_joinLine 60 = .ok (.iload 5, 2) := by decide +kernel
theorem dX7_joinLine_62 : decode cX7_joinLine 62 = .ok (.imul, 1) := by decide +kernel
theorem dX7_joinLine_63 : decode cX7_joinLine 63 = .ok (.iload 8, 2) := by decide +kernel
theorem dX7_joinLine_65 : decode cX7_joinLine 65 = .ok (.iastore, 1) := by decide +kernel
theorem dX7_joinLine_66 : decode cX7_joinLine 66 = .ok (.aload_n 0, 1) := by decide +kernel
theorem dX7_joinLine_67 : decode cX7_joinLine 67 = .ok (.getfield 15, 3) := by decide +kernel
theorem dX7_joinLine_70 : decode cX7_joinLine 70 = .ok (.iconst 2, 1) := by decide +kernel
theorem dX7_joinLine_71 : decode cX7_joinLine 71 = .ok (.iload 5, 2) := by decide +kernel
theorem dX7_joinLine_73 : decode cX7_joinLine 73 = .ok (.imul, 1) := by decide +kernel
theorem dX7_joinLine_74 : decode cX7_joinLine 74 = .ok (.iconst 1, 1) := by decide +kernel
theorem dX7_joinLine_75 : decode cX7_joinLine 75 = .ok (.iadd, 1) := by decide +kernel
theorem dX7_joinLine_76 : decode cX7_joinLine 76 = .ok (.iload 8, 2) := by decide +kernel
theorem dX7_joinLine_78 : decode cX7_joinLine 78 = .ok (.iload 7, 2) := by decide +kernel
theorem dX7_joinLine_80 : decode cX7_joinLine 80 = .ok (.isub, 1) := by decide +kernel
theorem dX7_joinLine_81 : decode cX7_joinLine 81 = .ok (.iastore, 1) := by decide +kernel
theorem dX7_joinLine_82 : decode cX7_joinLine 82 = .ok (.iinc 5 1, 3) := by decide +kernel
theorem dX7_joinLine_85 : decode cX7_joinLine 85 = .ok (.goto (-77), 3) := by decide +kernel
theorem dX7_joinLine_88 : decode cX7_joinLine 88 = .ok (.iconst 0, 1) := by decide +kernel
theorem dX7_joinLine_89 : decode cX7_joinLine 89 = .ok (.istore 5, 2) := by decide +kernel
theorem dX7_joinLine_91 : decode cX7_joinLine 91 = .ok (.iload 5, 2) := by decide +kernel
theorem dX7_joinLine_93 : decode cX7_joinLine 93 = .ok (.iload_n 3, 1) := by decide +kernel
theorem dX7_joinLine_94 : decode cX7_joinLine 94 = .ok (.if_icmp .ge 27, 3) := by decide +kernel
theorem dX7_joinLine_97 : decode cX7_joinLine 97 = .ok (.aload_n 0, 1) := by decide +kernel
theorem dX7_joinLine_98 : decode cX7_joinLine 98 = .ok (.getfield 9, 3) := by decide +kernel
theorem dX7_joinLine_101 : decode cX7_joinLine 101 = .ok (.iload_n 1, 1) := by decide +kernel
theorem dX7_joinLine_102 : decode cX7_joinLine 102 = .ok (.iload 5, 2) := by decide +kernel
theorem dX7_joinLine_104 : decode cX7_joinLine 104 = .ok (.iload_n 2, 1) := by decide +kernel
theorem dX7_joinLine_105 : decode cX7_joinLine 105 = .ok (.imul, 1) := by decide +kernel
theorem dX7_joinLine_106 : decode cX7_joinLine 106 = .ok (.iadd, 1) := by decide +kernel
theorem dX7_joinLine_107 : decode cX7_joinLine 107 = .ok (.aload_n 0, 1) := by decide +kernel
theorem dX7_joinLine_108 : decode cX7_joinLine 108 = .ok (.getfield 15, 3) := by decide +kernel
theorem dX7_joinLine_111 : decode cX7_joinLine 111 = .ok (.iload 5, 2) := by decide +kernel
theorem dX7_joinLine_113 : decode cX7_joinLine 113 = .ok (.iaload, 1) := by decide +kernel
theorem dX7_joinLine_114 : decode cX7_joinLine 114 = .ok (.iastore, 1) := by decide +kernel
theorem dX7_joinLine_115 : decode cX7_joinLine 115 = .ok (.iinc 5 1, 3) := by decide +kernel
theorem dX7_joinLine_118 : decode cX7_joinLine 118 = .ok (.goto (-27), 3) := by decide +kernel
theorem dX7_joinLine_121 : decode cX7_joinLine 121 = .ok (.return_, 1) := by decide +kernel
theorem dX8_init_0 : decode cX8_init 0 = .ok (.aload_n 0, 1) := by decide +kernel
theorem dX8_init_1 : decode cX8_init 1 = .ok (.invokespecial 3, 3) := by decide +kernel
theorem dX8_init_4 : decode cX8_init 4 = .ok (.aload_n 0, 1) := by decide +kernel
theorem dX8_init_5 : decode cX8_init 5 = .ok (.new 9, 3) := by decide +kernel
theorem dX8_init_8 : decode cX8_init 8 = .ok (.dup, 1) := by decide +kernel
theorem dX8_init_9 : decode cX8_init 9 = .ok (.invokespecial 11, 3) := by decide +kernel
theorem dX8_init_12 : decode cX8_init 12 = .ok (.putfield 12, 3) := by decide +kernel
theorem dX8_init_15 : decode cX8_init 15 = .ok (.aload_n 0, 1) := by decide +kernel
theorem dX8_init_16 : decode cX8_init 16 = .ok (.iconst 3, 1) := by decide +kernel
theorem dX8_init_17 : decode cX8_init 17 = .ok (.newarray .int, 2) := by decide +kernel
theorem dX8_init_19 : decode cX8_init 19 = .ok (.dup, 1) := by decide +kernel
theorem dX8_init_20 : decode cX8_init 20 = .ok (.iconst 0, 1) := by decide +kernel
theorem dX8_init_21 : decode cX8_init 21 = .ok (.iconst 1, 1) := by decide +kernel
theorem dX8_init_22 : decode cX8_init 22 = .ok (.iastore, 1) := by decide +kernel
theorem dX8_init_23 : decode cX8_init 23 = .ok (.dup, 1) := by decide +kernel
theorem dX8_init_24 : decode cX8_init 24 = .ok (.iconst 1, 1) := by decide +kernel
theorem dX8_init_25 : decode cX8_init 25 = .ok (.iconst 0, 1) := by decide +kernel
theorem dX8_init_26 : decode cX8_init 26 = .ok (.iastore, 1) := by decide +kernel
theorem dX8_init_27 : decode cX8_init 27 = .ok (.dup, 1) := by decide +kernel
theorem dX8_init_28 : decode cX8_init 28 = .ok (.iconst 2, 1) := by decide +kernel
theorem dX8_init_29 : decode cX8_init 29 = .ok (.iconst 0, 1) := by decide +kernel
theorem dX8_init_30 : decode cX8_init 30 = .ok (.iastore, 1) := by decide +kernel
theorem dX8_init_31 : decode cX8_init 31 = .ok (.putfield 16, 3) := by decide +kernel
theorem dX8_init_34 : decode cX8_init 34 = .ok (.aload_n 0, 1) := by decide +kernel
theorem dX8_init_35 : decode cX8_init 35 = .ok (.iconst 1, 1) := by decide +kernel
theorem dX8_init_36 : decode cX8_init 36 = .ok (.putfield 20, 3) := by decide +kernel
theorem dX8_init_39 : decode cX8_init 39 = .ok (.aload_n 0, 1) := by decide +kernel
theorem dX8_init_40 : decode cX8_init 40 = .ok (.new 24, 3) := by decide +kernel
theorem dX8_init_43 : decode cX8_init 43 = .ok (.dup, 1) := by decide +kernel
theorem dX8_init_44 : decode cX8_init 44 = .ok (.invokespecial 26, 3) := by decide +kernel
theorem dX8_init_47 : decode cX8_init 47 = .ok (.putfield 27, 3) := by decide +kernel
theorem dX8_init_50 : decode cX8_init 50 = .ok (.aload_n 0, 1) := by decide +kernel
theorem dX8_init_51 : decode cX8_init 51 = .ok (.new 9, 3) := by decide +kernel
theorem dX8_init_54 : decode cX8_init 54 = .ok (.dup, 1) := by decide +kernel
theorem dX8_init_55 : decode cX8_init 55 = .ok (.invokespecial 11, 3) := by decide +kernel
theorem dX8_init_58 : decode cX8_init 58 = .ok (.putfield 31, 3) := by decide +kernel
theorem dX8_init_61 : decode cX8_init 61 = .ok (.aload_n 0, 1) := by decide +kernel
theorem dX8_init_62 : decode cX8_init 62 = .ok (.iconst 0, 1) := by decide +kernel
theorem dX8_init_63 : decode cX8_init 63 = .ok (.putfield 34, 3) := by decide +kernel
theorem dX8_init_66 : decode cX8_init 66 = .ok (.aload_n 0, 1) := by decide +kernel
theorem dX8_init_67 : decode cX8_init 67 = .ok (.iconst 3, 1) := by decide +kernel
theorem dX8_init_68 : decode cX8_init 68 = .ok (.newarray .char, 2) := by decide +kernel
theorem dX8_init_70 : decode cX8_init 70 = .ok (.putfield 38, 3) := by decide +kernel
theorem dX8_init_73 : decode cX8_init 73 = .ok (.aload_n 0, 1) := by decide +kernel
theorem dX8_init_74 : decode cX8_init 74 = .ok (.iconst 3, 1) := by decide +kernel
theorem dX8_init_75 : decode cX8_init 75 = .ok (.newarray .int, 2) := by decide +kernel
theorem dX8_init_77 : decode cX8_init 77 = .ok (.putfield 42, 3) := by decide +kernel
theorem dX8_init_80 : decode cX8_init 80 = .ok (.aload_n 0, 1) := by decide +kernel
theorem dX8_init_81 : decode cX8_init 81 = .ok (.iconst 3, 1) := by decide +kernel
theorem dX8_init_82 : decode cX8_init 82 = .ok (.anewarray 45, 3) := by decide +kernel
theorem dX8_init_85 : decode cX8_init 85 = .ok (.dup, 1) := by decide +kernel
theorem dX8_init_86 : decode cX8_init 86 = .ok (.iconst 0, 1) := by decide +kernel
theorem dX8_init_87 : decode cX8_init 87 = .ok (.new 45, 3) := by decide +kernel
theorem dX8_init_90 : decode cX8_init 90 = .ok (.dup, 1) := by decide +kernel
theorem dX8_init_91 : decode cX8_init 91 = .ok (.invokespecial 47, 3) := by decide +kernel
theorem dX8_init_94 : decode cX8_init 94 = .ok (.aastore, 1) := by decide +kernel
theorem dX8_init_95 : decode cX8_init 95 = .ok (.dup, 1) := by decide +kernel
theorem dX8_init_96 : decode cX8_init 96 = .ok (.iconst 1, 1) := by decide +kernel
theorem dX8_init_97 : decode cX8_init 97 = .ok (.new 45, 3) := by decide +kernel
theorem dX8_init_100 : decode cX8_init 100 = .ok (.dup, 1) := by decide +kernel
theorem dX8_init_101 : decode cX8_init 101 = .ok (.invokespecial 47, 3) := by decide +kernel
theorem dX8_init_104 : decode cX8_init 104 = .ok (.aastore, 1) := by decide +kernel
theorem dX8_init_105 : decode cX8_init 105 = .ok (.dup, 1) := by decide +kernel
theorem dX8_init_106 : decode cX8_init 106 = .ok (.iconst 2, 1) := by decide +kernel
theorem dX8_init_107 : decode cX8_init 107 = .ok (.new 45, 3) := by decide +kernel
theorem dX8_init_110 : decode cX8_init 110 = .ok (.dup, 1) := by decide +kernel
theorem dX8_init_111 : decode cX8_init 111 = .ok (.invokespecial 47, 3) := by decide +kernel
theorem dX8_init_114 : decode cX8_init 114 = .ok (.aastore, 1) := by decide +kernel
theorem dX8_init_115 : decode cX8_init 115 = .ok (.putfield 48, 3) := by decide +kernel
theorem dX8_init_118 : decode cX8_init 118 = .ok (.aload_n 0, 1) := by decide +kernel
theorem dX8_init_119 : decode cX8_init 119 = .ok (.iconst 0, 1) := by decide +kernel
theorem dX8_init_120 : decode cX8_init 120 = .ok (.putfield 52, 3) := by decide +kernel
theorem dX8_init_123 : decode cX8_init 123 = .ok (.aload_n 0, 1) := by decide +kernel
theorem dX8_init_124 : decode cX8_init 124 = .ok (.iconst 0, 1) := by decide +kernel
theorem dX8_init_125 : decode cX8_init 125 = .ok (.putfield 55, 3) := by decide +kernel
theorem dX8_init_128 : decode cX8_init 128 = .ok (.aload_n 0, 1) := by decide +kernel
theorem dX8_init_129 : decode cX8_init 129 = .ok (.iconst 0, 1) := by decide +kernel
theorem dX8_init_130 : decode cX8_init 130 = .ok (.putfield 58, 3) := by decide +kernel
theorem dX8_init_133 : decode cX8_init 133 = .ok (.aload_n 0, 1) := by decide +kernel
theorem dX8_init_134 : decode cX8_init 134 = .ok (.iconst 0, 1) := by decide +kernel
theorem dX8_init_135 : decode cX8_init 135 = .ok (.putfield 61, 3) := by decide +kernel
theorem dX8_init_138 : decode cX8_init 138 = .ok (.aload_n 0, 1) := by decide +kernel
theorem dX8_init_139 : decode cX8_init 139 = .ok (.iconst 0, 1) := by decide +kernel
theorem dX8_init_140 : decode cX8_init 140 = .ok (.putfield 64, 3) := by decide +kernel
theorem dX8_init_143 : decode cX8_init 143 = .ok (.aload_n 0, 1) := by decide +kernel
theorem dX8_init_144 : decode cX8_init 144 = .ok (.sipush 384, 3) := by decide +kernel
theorem dX8_init_147 : decode cX8_init 147 = .ok (.newarray .int, 2) := by decide +kernel
theorem dX8_init_149 : decode cX8_init 149 = .ok (.putfield 67, 3) := by decide +kernel
theorem dX8_init_152 : decode cX8_init 152 = .ok (.aload_n 0, 1) := by decide +kernel
theorem dX8_init_153 : decode cX8_init 153 = .ok (.new 45, 3) := by decide +kernel
theorem dX8_init_156 : decode cX8_init 156 = .ok (.dup, 1) := by decide +kernel
theorem dX8_init_157 : decode cX8_init 157 = .ok (.invokespecial 47, 3) := by decide +kernel
theorem dX8_init_160 : decode cX8_init 160 = .ok (.putfield 70, 3) := by decide +kernel
theorem dX8_init_163 : decode cX8_init 163 = .ok (.aload_n 0, 1) := by decide +kernel
theorem dX8_init_164 : decode cX8_init 164 = .ok (.new 74, 3) := by decide +kernel
theorem dX8_init_167 : decode cX8_init 167 = .ok (.dup, 1) := by decide +kernel
theorem dX8_init_168 : decode cX8_init 168 = .ok (.invokespecial 76, 3) := by decide +kernel
theorem dX8_init_171 : decode cX8_init 171 = .ok (.putfield 77, 3) := by decide +kernel
theorem dX8_init_174 : decode cX8_init 174 = .ok (.aload_n 0, 1) := by decide +kernel
theorem dX8_init_175 : decode cX8_init 175 = .ok (.new 81, 3) := by decide +kernel
theorem dX8_init_178 : decode cX8_init 178 = .ok (.dup, 1) := by decide +kernel
theorem dX8_init_179 : decode cX8_init 179 = .ok (.invokespecial 83, 3) := by decide +kernel
theorem dX8_init_182 : decode cX8_init 182 = .ok (.putfield 84, 3) := by decide +kernel
theorem dX8_init_185 : decode cX8_init 185 = .ok (.return_, 1) := by decide +kernel
theorem dX8_resize_0 : decode cX8_resize 0 = .ok (.iload_n 1, 1) := by decide +kernel
theorem dX8_resize_1 : decode cX8_resize 1 = .ok (.iload_n 2, 1) := by decide +kernel
theorem dX8_resize_2 : decode cX8_resize 2 = .ok (.invokestatic 88, 3) := by decide +kernel
theorem dX8_resize_5 : decode cX8_resize 5 = .ok (.ifCond .ne 13, 3) := by decide +kernel
theorem dX8_resize_8 : decode cX8_resize 8 = .ok (.new 92, 3) := by decide +kernel
theorem dX8_resize_11 : decode cX8_resize 11 = .ok (.dup, 1) := by decide +kernel
theorem dX8_resize_12 : decode cX8_resize 12 = .ok (.ldc 94, 2) := by decide +kernel
theorem dX8_resize_14 : decode cX8_resize 14 = .ok (.invokespecial 96, 3) := by decide +kernel
theorem dX8_resize_17 : decode cX8_resize 17 = .ok (.athrow, 1) := by decide +kernel
theorem dX8_resize_18 : decode cX8_resize 18 = .ok (.aload_n 0, 1) := by decide +kernel
theorem dX8_resize_19 : decode cX8_resize 19 = .ok (.getfield 12, 3) := by decide +kernel
theorem dX8_resize_22 : decode cX8_resize 22 = .ok (.iload_n 1, 1) := by decide +kernel
theorem dX8_resize_23 : decode cX8_resize 23 = .ok (.iload_n 2, 1) := by decide +kernel
theorem dX8_resize_24 : decode cX8_resize 24 = .ok (.invokevirtual 99, 3) := by decide +kernel
theorem dX8_resize_27 : decode cX8_resize 27 = .ok (.iload_n 1, 1) := by decide +kernel
theorem dX8_resize_28 : decode cX8_resize 28 = .ok (.iload_n 2, 1) := by decide +kernel
theorem dX8_resize_29 : decode cX8_resize 29 = .ok (.imul, 1) := by decide +kernel
theorem dX8_resize_30 : decode cX8_resize 30 = .ok (.ireturn, 1) := by decide +kernel
theorem dX8_set_0 : decode cX8_set 0 = .ok (.aload_n 0, 1) := by decide +kernel
theorem dX8_set_1 : decode cX8_set 1 = .ok (.getfield 12, 3) := by decide +kernel
theorem dX8_set_4 : decode cX8_set 4 = .ok (.iload_n 1, 1) := by decide +kernel
theorem dX8_set_5 : decode cX8_set 5 = .ok (.iload_n 2, 1) := by decide +kernel
theorem dX8_set_6 : decode cX8_set 6 = .ok (.invokestatic 103, 3) := by decide +kernel
theorem dX8_set_9 : decode cX8_set 9 = .ok (.iload_n 3, 1) := by decide +kernel
theorem dX8_set_10 : decode cX8_set 10 = .ok (.invokestatic 107, 3) := by decide +kernel
theorem dX8_set_13 : decode cX8_set 13 = .ok (.aload_n 0, 1) := by decide +kernel
theorem dX8_set_14 : decode cX8_set 14 = .ok (.getfield 12, 3) := by decide +kernel
theorem dX8_set_17 : decode cX8_set 17 = .ok (.iload_n 1, 1) := by decide +kernel
theorem dX8_set_18 : decode cX8_set 18 = .ok (.iload_n 2, 1) := by decide +kernel
theorem dX8_set_19 : decode cX8_set 19 = .ok (.invokevirtual 111, 3) := by decide +kernel
theorem dX8_set_22 : decode cX8_set 22 = .ok (.istore 4, 2) := by decide +kernel
theorem dX8_set_24 : decode cX8_set 24 = .ok (.aload_n 0, 1) := by decide +kernel
theorem dX8_set_25 : decode cX8_set 25 = .ok (.getfield 12, 3) := by decide +kernel
theorem dX8_set_28 : decode cX8_set 28 = .ok (.iload_n 1, 1) := by decide +kernel
theorem dX8_set_29 : decode cX8_set 29 = .ok (.iload_n 2, 1) := by decide +kernel
theorem dX8_set_30 : decode cX8_set 30 = .ok (.iload_n 3, 1) := by decide +kernel
theorem dX8_set_31 : decode cX8_set 31 = .ok (.invokevirtual 115, 3) := by decide +kernel
theorem dX8_set_34 : decode cX8_set 34 = .ok (.iload 4, 2) := by decide +kernel
theorem dX8_set_36 : decode cX8_set 36 = .ok (.ireturn, 1) := by decide +kernel
theorem dX8_fill_0 : decode cX8_fill 0 = .ok (.aload_n 0, 1) := by decide +kernel
theorem dX8_fill_1 : decode cX8_fill 1 = .ok (.getfield 12, 3) := by decide +kernel
theorem dX8_fill_4 : decode cX8_fill 4 = .ok (.iload_n 1, 1) := by decide +kernel
theorem dX8_fill_5 : decode cX8_fill 5 = .ok (.iload_n 2, 1) := by decide +kernel
theorem dX8_fill_6 : decode cX8_fill 6 = .ok (.invokestatic 103, 3) := by decide +kernel
theorem dX8_fill_9 : decode cX8_fill 9 = .ok (.iload 5, 2) := by decide +kernel
theorem dX8_fill_11 : decode cX8_fill 11 = .ok (.invokestatic 107, 3) := by decide +kernel
theorem dX8_fill_14 : decode cX8_fill 14 = .ok (.iload_n 3, 1) := by decide +kernel
theorem dX8_fill_15 : decode cX8_fill 15 = .ok (.iconst 1, 1) := by decide +kernel
theorem dX8_fill_16 : decode cX8_fill 16 = .ok (.if_icmp .lt 36, 3) := by decide +kernel
theorem dX8_fill_19 : decode cX8_fill 19 = .ok (.iload 4, 2) := by decide +kernel
theorem dX8_fill_21 : decode cX8_fill 21 = .ok (.iconst 1, 1) := by decide +kernel
theorem dX8_fill_22 : decode cX8_fill 22 = .ok (.if_icmp .lt 30, 3) := by decide +kernel
theorem dX8_fill_25 : decode cX8_fill 25 = .ok (.iload_n 3, 1) := by decide +kernel
theorem dX8_fill_26 : decode cX8_fill 26 = .ok (.aload_n 0, 1) := by decide +kernel
theorem dX8_fill_27 : decode cX8_fill 27 = .ok (.getfield 12, 3) := by decide +kernel
theorem dX8_fill_30 : decode cX8_fill 30 = .ok (.getfield 119, 3) := by decide +kernel
theorem dX8_fill_33 : decode cX8_fill 33 = .ok (.iload_n 1, 1) := by decide +kernel
theorem dX8_fill_34 : decode cX8_fill 34 = .ok (.isub, 1) := by decide +kernel
theorem dX8_fill_35 : decode cX8_fill 35 = .ok (.if_icmp .gt 17, 3) := by decide +kernel
theorem dX8_fill_38 : decode cX8_fill 38 = .ok (.iload 4, 2) := by decide +kernel
theorem dX8_fill_40 : decode cX8_fill 40 = .ok (.aload_n 0, 1) := by decide +kernel
theorem dX8_fill_41 : decode cX8_fill 41 = .ok (.getfield 12, 3) := by decide +kernel
theorem dX8_fill_44 : decode cX8_fill 44 = .ok (.getfield 122, 3) := by decide +kernel
theorem dX8_fill_47 : decode cX8_fill 47 = .ok (.iload_n 2, 1) := by decide +kernel
theorem dX8_fill_48 : decode cX8_fill 48 = .ok (.isub, 1) := by decide +kernel
theorem dX8_fill_49 : decode cX8_fill 49 = .ok (.if_icmp .le 13, 3) := by decide +kernel
theorem dX8_fill_52 : decode cX8_fill 52 = .ok (.new 92, 3) := by decide +kernel
theorem dX8_fill_55 : decode cX8_fill 55 = .ok (.dup, 1) := by decide +kernel
theorem dX8_fill_56 : decode cX8_fill 56 = .ok (.ldc 125, 2) := by decide +kernel
theorem dX8_fill_58 : decode cX8_fill 58 = .ok (.invokespecial 96, 3) := by decide +kernel
theorem dX8_fill_61 : decode cX8_fill 61 = .ok (.athrow, 1) := by decide +kernel
theorem dX8_fill_62 : decode cX8_fill 62 = .ok (.iload_n 2, 1) := by decide +kernel
theorem dX8_fill_63 : decode cX8_fill 63 = .ok (.istore 6, 2) := by decide +kernel
theorem dX8_fill_65 : decode cX8_fill 65 = .ok (.iload 6, 2) := by decide +kernel
theorem dX8_fill_67 : decode cX8_fill 67 = .ok (.iload_n 2, 1) := by decide +kernel
theorem dX8_fill_68 : decode cX8_fill 68 = .ok (.iload 4, 2) := by decide +kernel
theorem dX8_fill_70 : decode cX8_fill 70 = .ok (.iadd, 1) := by decide +kernel
theorem dX8_fill_71 : decode cX8_fill 71 = .ok (.if_icmp .ge 39, 3) := by decide +kernel
theorem dX8_fill_74 : decode cX8_fill 74 = .ok (.iload_n 1, 1) := by decide +kernel
theorem dX8_fill_75 : decode cX8_fill 75 = .ok (.istore 7, 2) := by decide +kernel
theorem dX8_fill_77 : decode cX8_fill 77 = .ok (.iload 7, 2) := by decide +kernel
theorem dX8_fill_79 : decode cX8_fill 79 = .ok (.iload_n 1, 1) := by decide +kernel
theorem dX8_fill_80 : decode cX8_fill 80 = .ok (.iload_n 3, 1) := by decide +kernel
theorem dX8_fill_81 : decode cX8_fill 81 = .ok (.iadd, 1) := by decide +kernel
theorem dX8_fill_82 : decode cX8_fill 82 = .ok (.if_icmp .ge 22, 3) := by decide +kernel
theorem dX8_fill_85 : decode cX8_fill 85 = .ok (.aload_n 0, 1) := by decide +kernel
theorem dX8_fill_86 : decode cX8_fill 86 = .ok (.getfield 12, 3) := by decide +kernel
theorem dX8_fill_89 : decode cX8_fill 89 = .ok (.iload 7, 2) := by decide +kernel
theorem dX8_fill_91 : decode cX8_fill 91 = .ok (.iload 6, 2) := by decide +kernel
theorem dX8_fill_93 : decode cX8_fill 93 = .ok (.iload 5, 2) := by decide +kernel
theorem dX8_fill_95 : decode cX8_fill 95 = .ok (.invokevirtual 115, 3) := by decide +kernel
theorem dX8_fill_98 : decode cX8_fill 98 = .ok (.iinc 7 1, 3) := by decide +kernel
theorem dX8_fill_101 : decode cX8_fill 101 = .ok (.goto (-24), 3) := by decide +kernel
theorem dX8_fill_104 : decode cX8_fill 104 = .ok (.iinc 6 1, 3) := by decide +kernel
theorem dX8_fill_107 : decode cX8_fill 107 = .ok (.goto (-42), 3) := by decide +kernel
theorem dX8_fill_110 : decode cX8_fill 110 = .ok (.iload_n 3, 1) := by decide +kernel
theorem dX8_fill_111 : decode cX8_fill 111 = .ok (.iload 4, 2) := by decide +kernel
theorem dX8_fill_113 : decode cX8_fill 113 = .ok (.imul, 1) := by decide +kernel
theorem dX8_fill_114 : decode cX8_fill 114 = .ok (.ireturn, 1) := by decide +kernel
theorem dX8_ramp_0 : decode cX8_ramp 0 = .ok (.iload_n 1, 1) := by decide +kernel
theorem dX8_ramp_1 : decode cX8_ramp 1 = .ok (.invokestatic 107, 3) := by decide +kernel
theorem dX8_ramp_4 : decode cX8_ramp 4 = .ok (.iload_n 2, 1) := by decide +kernel
theorem dX8_ramp_5 : decode cX8_ramp 5 = .ok (.invokestatic 107, 3) := by decide +kernel
theorem dX8_ramp_8 : decode cX8_ramp 8 = .ok (.iload_n 3, 1) := by decide +kernel
theorem dX8_ramp_9 : decode cX8_ramp 9 = .ok (.invokestatic 107, 3) := by decide +kernel
theorem dX8_ramp_12 : decode cX8_ramp 12 = .ok (.iconst 0, 1) := by decide +kernel
theorem dX8_ramp_13 : decode cX8_ramp 13 = .ok (.istore 4, 2) := by decide +kernel
theorem dX8_ramp_15 : decode cX8_ramp 15 = .ok (.iload 4, 2) := by decide +kernel
theorem dX8_ramp_17 : decode cX8_ramp 17 = .ok (.aload_n 0, 1) := by decide +kernel
theorem dX8_ramp_18 : decode cX8_ramp 18 = .ok (.getfield 12, 3) := by decide +kernel
theorem dX8_ramp_21 : decode cX8_ramp 21 = .ok (.getfield 122, 3) := by decide +kernel
theorem dX8_ramp_24 : decode cX8_ramp 24 = .ok (.if_icmp .ge 56, 3) := by decide +kernel
theorem dX8_ramp_27 : decode cX8_ramp 27 = .ok (.iconst 0, 1) := by decide +kernel
theorem dX8_ramp_28 : decode cX8_ramp 28 = .ok (.istore 5, 2) := by decide +kernel
theorem dX8_ramp_30 : decode cX8_ramp 30 = .ok (.iload 5, 2) := by decide +kernel
theorem dX8_ramp_32 : decode cX8_ramp 32 = .ok (.aload_n 0, 1) := by decide +kernel
theorem dX8_ramp_33 : decode cX8_ramp 33 = .ok (.getfield 12, 3) := by decide +kernel
theorem dX8_ramp_36 : decode cX8_ramp 36 = .ok (.getfield 119, 3) := by decide +kernel
theorem dX8_ramp_39 : decode cX8_ramp 39 = .ok (.if_icmp .ge 35, 3) := by decide +kernel
theorem dX8_ramp_42 : decode cX8_ramp 42 = .ok (.aload_n 0, 1) := by decide +kernel
theorem dX8_ramp_43 : decode cX8_ramp 43 = .ok (.getfield 12, 3) := by decide +kernel
theorem dX8_ramp_46 : decode cX8_ramp 46 = .ok (.iload 5, 2) := by decide +kernel
theorem dX8_ramp_48 : decode cX8_ramp 48 = .ok (.iload 4, 2) := by decide +kernel
theorem dX8_ramp_50 : decode cX8_ramp 50 = .ok (.iload_n 1, 1) := by decide +kernel
theorem dX8_ramp_51 : decode cX8_ramp 51 = .ok (.iload_n 2, 1) := by decide +kernel
theorem dX8_ramp_52 : decode cX8_ramp 52 = .ok (.iload 5, 2) := by decide +kernel
theorem dX8_ramp_54 : decode cX8_ramp 54 = .ok (.imul, 1) := by decide +kernel
theorem dX8_ramp_55 : decode cX8_ramp 55 = .ok (.iadd, 1) := by decide +kernel
theorem dX8_ramp_56 : decode cX8_ramp 56 = .ok (.iload_n 3, 1) := by decide +kernel
theorem dX8_ramp_57 : decode cX8_ramp 57 = .ok (.iload 4, 2) := by decide +kernel
theorem dX8_ramp_59 : decode cX8_ramp 59 = .ok (.imul, 1) := by decide +kernel
theorem dX8_ramp_60 : decode cX8_ramp 60 = .ok (.iadd, 1) := by decide +kernel
theorem dX8_ramp_61 : decode cX8_ramp 61 = .ok (.sipush 256, 3) := by decide +kernel
theorem dX8_ramp_64 : decode cX8_ramp 64 = .ok (.irem, 1) := by decide +kernel
theorem dX8_ramp_65 : decode cX8_ramp 65 = .ok (.invokevirtual 115, 3) := by decide +kernel
theorem dX8_ramp_68 : decode cX8_ramp 68 = .ok (.iinc 5 1, 3) := by decide +kernel
theorem dX8_ramp_71 : decode cX8_ramp 71 = .ok (.goto (-41), 3) := by decide +kernel
theorem dX8_ramp_74 : decode cX8_ramp 74 = .ok (.iinc 4 1, 3) := by decide +kernel
theorem dX8_ramp_77 : decode cX8_ramp 77 = .ok (.goto (-62), 3) := by decide +kernel
theorem dX8_ramp_80 : decode cX8_ramp 80 = .ok (.aload_n 0, 1) := by decide +kernel
theorem dX8_ramp_81 : decode cX8_ramp 81 = .ok (.getfield 12, 3) := by decide +kernel
theorem dX8_ramp_84 : decode cX8_ramp 84 = .ok (.aload_n 0, 1) := by decide +kernel
theorem dX8_ramp_85 : decode cX8_ramp 85 = .ok (.getfield 12, 3) := by decide +kernel
theorem dX8_ramp_88 : decode cX8_ramp 88 = .ok (.getfield 119, 3) := by decide +kernel
theorem dX8_ramp_91 : decode cX8_ramp 91 = .ok (.iconst 1, 1) := by decide +kernel
theorem dX8_ramp_92 : decode cX8_ramp 92 = .ok (.isub, 1) := by decide +kernel
theorem dX8_ramp_93 : decode cX8_ramp 93 = .ok (.aload_n 0, 1) := by decide +kernel
theorem dX8_ramp_94 : decode cX8_ramp 94 = .ok (.getfield 12, 3) := by decide +kernel
theorem dX8_ramp_97 : decode cX8_ramp 97 = .ok (.getfield 122, 3) := by decide +kernel
theorem dX8_ramp_100 : decode cX8_ramp 100 = .ok (.iconst 1, 1) := by decide +kernel
theorem dX8_ramp_101 : decode cX8_ramp 101 = .ok (.isub, 1) := by decide +kernel
theorem dX8_ramp_102 : decode cX8_ramp 102 = .ok (.invokevirtual 111, 3) := by decide +kernel
theorem dX8_ramp_105 : decode cX8_ramp 105 = .ok (.ireturn, 1) := by decide +kernel
theorem dX8_pixel_0 : decode cX8_pixel 0 = .ok (.aload_n 0, 1) := by decide +kernel
theorem dX8_pixel_1 : decode cX8_pixel 1 = .ok (.getfield 12, 3) := by decide +kernel
theorem dX8_pixel_4 : decode cX8_pixel 4 = .ok (.iload_n 1, 1) := by decide +kernel
theorem dX8_pixel_5 : decode cX8_pixel 5 = .ok (.iload_n 2, 1) := by decide +kernel
theorem dX8_pixel_6 : decode cX8_pixel 6 = .ok (.invokestatic 103, 3) := by decide +kernel
theorem dX8_pixel_9 : decode cX8_pixel 9 = .ok (.aload_n 0, 1) := by decide +kernel
theorem dX8_pixel_10 : decode cX8_pixel 10 = .ok (.getfield 12, 3) := by decide +kernel
theorem dX8_pixel_13 : decode cX8_pixel 13 = .ok (.iload_n 1, 1) := by decide +kernel
theorem dX8_pixel_14 : decode cX8_pixel 14 = .ok (.iload_n 2, 1) := by decide +kernel
theorem dX8_pixel_15 : decode cX8_pixel 15 = .ok (.invokevirtual 111, 3) := by decide +kernel
theorem dX8_pixel_18 : decode cX8_pixel 18 = .ok (.ireturn, 1) := by decide +kernel
theorem dX8_width_0 : decode cX8_width 0 = .ok (.aload_n 0, 1) := by decide +kernel
theorem dX8_width_1 : decode cX8_width 1 = .ok (.getfield 12, 3) := by decide +kernel
theorem dX8_width_4 : decode cX8_width 4 = .ok (.getfield 119, 3) := by decide +kernel
theorem dX8_width_7 : decode cX8_width 7 = .ok (.ireturn, 1) := by decide +kernel
theorem dX8_height_0 : decode cX8_height 0 = .ok (.aload_n 0, 1) := by decide +kernel
theorem dX8_height_1 : decode cX8_height 1 = .ok (.getfield 12, 3) := by decide +kernel
theorem dX8_height_4 : decode cX8_height 4 = .ok (.getfield 122, 3) := by decide +kernel
theorem dX8_height_7 : decode cX8_height 7 = .ok (.ireturn, 1) := by decide +kernel
theorem dX8_setSteps_0 : decode cX8_setSteps 0 = .ok (.bipush 33, 2) := by decide +kernel
theorem dX8_setSteps_2 : decode cX8_setSteps 2 = .ok (.iload_n 1, 1) := by decide +kernel
theorem dX8_setSteps_3 : decode cX8_setSteps 3 = .ok (.invokestatic 127, 3) := by decide +kernel
theorem dX8_setSteps_6 : decode cX8_setSteps 6 = .ok (.ifCond .ne 13, 3) := by decide +kernel
theorem dX8_setSteps_9 : decode cX8_setSteps 9 = .ok (.new 92, 3) := by decide +kernel
theorem dX8_setSteps_12 : decode cX8_setSteps 12 = .ok (.dup, 1) := by decide +kernel
theorem dX8_setSteps_13 : decode cX8_setSteps 13 = .ok (.ldc 130, 2) := by decide +kernel
theorem dX8_setSteps_15 : decode cX8_setSteps 15 = .ok (.invokespecial 96, 3) := by decide +kernel
theorem dX8_setSteps_18 : decode cX8_setSteps 18 = .ok (.athrow, 1) := by decide +kernel
theorem dX8_setSteps_19 : decode cX8_setSteps 19 = .ok (.iload_n 2, 1) := by decide +kernel
theorem dX8_setSteps_20 : decode cX8_setSteps 20 = .ok (.ifCond .eq 21, 3) := by decide +kernel
theorem dX8_setSteps_23 : decode cX8_setSteps 23 = .ok (.iload_n 1, 1) := by decide +kernel
theorem dX8_setSteps_24 : decode cX8_setSteps 24 = .ok (.iload_n 2, 1) := by decide +kernel
theorem dX8_setSteps_25 : decode cX8_setSteps 25 = .ok (.invokestatic 127, 3) := by decide +kernel
theorem dX8_setSteps_28 : decode cX8_setSteps 28 = .ok (.ifCond .ne 13, 3) := by decide +kernel
theorem dX8_setSteps_31 : decode cX8_setSteps 31 = .ok (.new 92, 3) := by decide +kernel
theorem dX8_setSteps_34 : decode cX8_setSteps 34 = .ok (.dup, 1) := by decide +kernel
theorem dX8_setSteps_35 : decode cX8_setSteps 35 = .ok (.ldc 132, 2) := by decide +kernel
theorem dX8_setSteps_37 : decode cX8_setSteps 37 = .ok (.invokespecial 96, 3) := by decide +kernel
theorem dX8_setSteps_40 : decode cX8_setSteps 40 = .ok (.athrow, 1) := by decide +kernel
theorem dX8_setSteps_41 : decode cX8_setSteps 41 = .ok (.iload_n 3, 1) := by decide +kernel
theorem dX8_setSteps_42 : decode cX8_setSteps 42 = .ok (.ifCond .eq 21, 3) := by decide +kernel
theorem dX8_setSteps_45 : decode cX8_setSteps 45 = .ok (.iload_n 2, 1) := by decide +kernel
theorem dX8_setSteps_46 : decode cX8_setSteps 46 = .ok (.iload_n 3, 1) := by decide +kernel
theorem dX8_setSteps_47 : decode cX8_setSteps 47 = .ok (.invokestatic 127, 3) := by decide +kernel
theorem dX8_setSteps_50 : decode cX8_setSteps 50 = .ok (.ifCond .ne 13, 3) := by decide +kernel
theorem dX8_setSteps_53 : decode cX8_setSteps 53 = .ok (.new 92, 3) := by decide +kernel
theorem dX8_setSteps_56 : decode cX8_setSteps 56 = .ok (.dup, 1) := by decide +kernel
theorem dX8_setSteps_57 : decode cX8_setSteps 57 = .ok (.ldc 134, 2) := by decide +kernel
theorem dX8_setSteps_59 : decode cX8_setSteps 59 = .ok (.invokespecial 96, 3) := by decide +kernel
theorem dX8_setSteps_62 : decode cX8_setSteps 62 = .ok (.athrow, 1) := by decide +kernel
theorem dX8_setSteps_63 : decode cX8_setSteps 63 = .ok (.aload_n 0, 1) := by decide +kernel
theorem dX8_setSteps_64 : decode cX8_setSteps 64 = .ok (.getfield 16, 3) := by decide +kernel
theorem dX8_setSteps_67 : decode cX8_setSteps 67 = .ok (.iconst 0, 1) := by decide +kernel
theorem dX8_setSteps_68 : decode cX8_setSteps 68 = .ok (.iload_n 1, 1) := by decide +kernel
theorem dX8_setSteps_69 : decode cX8_setSteps 69 = .ok (.iastore, 1) := by decide +kernel
theorem dX8_setSteps_70 : decode cX8_setSteps 70 = .ok (.aload_n 0, 1) := by decide +kernel
theorem dX8_setSteps_71 : decode cX8_setSteps 71 = .ok (.getfield 16, 3) := by decide +kernel
theorem dX8_setSteps_74 : decode cX8_setSteps 74 = .ok (.iconst 1, 1) := by decide +kernel
theorem dX8_setSteps_75 : decode cX8_setSteps 75 = .ok (.iload_n 2, 1) := by decide +kernel
theorem dX8_setSteps_76 : decode cX8_setSteps 76 = .ok (.iastore, 1) := by decide +kernel
theorem dX8_setSteps_77 : decode cX8_setSteps 77 = .ok (.aload_n 0, 1) := by decide +kernel
theorem dX8_setSteps_78 : decode cX8_setSteps 78 = .ok (.getfield 16, 3) := by decide +kernel
theorem dX8_setSteps_81 : decode cX8_setSteps 81 = .ok (.iconst 2, 1) := by decide +kernel
theorem dX8_setSteps_82 : decode cX8_setSteps 82 = .ok (.iload_n 3, 1) := by decide +kernel
theorem dX8_setSteps_83 : decode cX8_setSteps 83 = .ok (.iastore, 1) := by decide +kernel
theorem dX8_setSteps_84 : decode cX8_setSteps 84 = .ok (.aload_n 0, 1) := by decide +kernel
theorem dX8_setSteps_85 : decode cX8_setSteps 85 = .ok (.iload_n 2, 1) := by decide +kernel
theorem dX8_setSteps_86 : decode cX8_setSteps 86 = .ok (.ifCond .ne 7, 3) := by decide +kernel
theorem dX8_setSteps_89 : decode cX8_setSteps 89 = .ok (.iconst 1, 1) := by decide +kernel
theorem dX8_setSteps_90 : decode cX8_setSteps 90 = .ok (.goto 12, 3) := by decide +kernel
theorem dX8_setSteps_93 : decode cX8_setSteps 93 = .ok (.iload_n 3, 1) := by decide +kernel
theorem dX8_setSteps_94 : decode cX8_setSteps 94 = .ok (.ifCond .ne 7, 3) := by decide +kernel
theorem dX8_setSteps_97 : decode cX8_setSteps 97 = .ok (.iconst 2, 1) := by decide +kernel
theorem dX8_setSteps_98 : decode cX8_setSteps 98 = .ok (.goto 4, 3) := by decide +kernel
theorem dX8_setSteps_101 : decode cX8_setSteps 101 = .ok (.iconst 3, 1) := by decide +kernel
theorem dX8_setSteps_102 : decode cX8_setSteps 102 = .ok (.putfield 20, 3) := by decide +kernel
theorem dX8_setSteps_105 : decode cX8_setSteps 105 = .ok (.aload_n 0, 1) := by decide +kernel
theorem dX8_setSteps_106 : decode cX8_setSteps 106 = .ok (.getfield 20, 3) := by decide +kernel
theorem dX8_setSteps_109 : decode cX8_setSteps 109 = .ok (.ireturn, 1) := by decide +kernel
theorem dX8_isLossless_0 : decode cX8_isLossless 0 = .ok (.aload_n 0, 1) := by decide +kernel
theorem dX8_isLossless_1 : decode cX8_isLossless 1 = .ok (.getfield 16, 3) := by decide +kernel
theorem dX8_isLossless_4 : decode cX8_isLossless 4 = .ok (.aload_n 0, 1) := by decide +kernel
theorem dX8_isLossless_5 : decode cX8_isLossless 5 = .ok (.getfield 20, 3) := by decide +kernel
theorem dX8_isLossless_8 : decode cX8_isLossless 8 = .ok (.iconst 1, 1) := by decide +kernel
theorem dX8_isLossless_9 : decode cX8_isLossless 9 = .ok (.isub, 1) := by decide +kernel
theorem dX8_isLossless_10 : decode cX8_isLossless 10 = .ok (.iaload, 1) := by decide +kernel
theorem dX8_isLossless_11 : decode cX8_isLossless 11 = .ok (.iconst 1, 1) := by decide +kernel
theorem dX8_isLossless_12 : decode cX8_isLossless 12 = .ok (.if_icmp .ne 7, 3) := by decide +kernel
theorem dX8_isLossless_15 : decode cX8_isLossless 15 = .ok (.iconst 1, 1) := by decide +kernel
theorem dX8_isLossless_16 : decode cX8_isLossless 16 = .ok (.goto 4, 3) := by decide +kernel
theorem dX8_isLossless_19 : decode cX8_isLossless 19 = .ok (.iconst 0, 1) := by decide +kernel
theorem dX8_isLossless_20 : decode cX8_isLossless 20 = .ok (.ireturn, 1) := by decide +kernel
theorem dX8_encode_0 : decode cX8_encode 0 = .ok (.aload_n 0, 1) := by decide +kernel
theorem dX8_encode_1 : decode cX8_encode 1 = .ok (.invokevirtual 136, 3) := by decide +kernel
theorem dX8_encode_4 : decode cX8_encode 4 = .ok (.aload_n 0, 1) := by decide +kernel
theorem dX8_encode_5 : decode cX8_encode 5 = .ok (.invokevirtual 139, 3) := by decide +kernel
theorem dX8_encode_8 : decode cX8_encode 8 = .ok (.iconst 0, 1) := by decide +kernel
theorem dX8_encode_9 : decode cX8_encode 9 = .ok (.istore_n 1, 1) := by decide +kernel
theorem dX8_encode_10 : decode cX8_encode 10 = .ok (.iload_n 1, 1) := by decide +kernel
theorem dX8_encode_11 : decode cX8_encode 11 = .ok (.aload_n 0, 1) := by decide +kernel
theorem dX8_encode_12 : decode cX8_encode 12 = .ok (.getfield 20, 3) := by decide +kernel
theorem dX8_encode_15 : decode cX8_encode 15 = .ok (.if_icmp .ge 36, 3) := by decide +kernel
theorem dX8_encode_18 : decode cX8_encode 18 = .ok (.aload_n 0, 1) := by decide +kernel
theorem dX8_encode_19 : decode cX8_encode 19 = .ok (.getfield 48, 3) := by decide +kernel
theorem dX8_encode_22 : decode cX8_encode 22 = .ok (.iload_n 1, 1) := by decide +kernel
theorem dX8_encode_23 : decode cX8_encode 23 = .ok (.aaload, 1) := by decide +kernel
theorem dX8_encode_24 : decode cX8_encode 24 = .ok (.astore_n 2, 1) := by decide +kernel
theorem dX8_encode_25 : decode cX8_encode 25 = .ok (.aload_n 2, 1) := by decide +kernel
theorem dX8_encode_26 : decode cX8_encode 26 = .ok (.aload_n 0, 1) := by decide +kernel
theorem dX8_encode_27 : decode cX8_encode 27 = .ok (.getfield 16, 3) := by decide +kernel
theorem dX8_encode_30 : decode cX8_encode 30 = .ok (.iload_n 1, 1) := by decide +kernel
theorem dX8_encode_31 : decode cX8_encode 31 = .ok (.iaload, 1) := by decide +kernel
theorem dX8_encode_32 : decode cX8_encode 32 = .ok (.putfield 142, 3) := by decide +kernel
theorem dX8_encode_35 : decode cX8_encode 35 = .ok (.aload_n 0, 1) := by decide +kernel
theorem dX8_encode_36 : decode cX8_encode 36 = .ok (.aload_n 2, 1) := by decide +kernel
theorem dX8_encode_37 : decode cX8_encode 37 = .ok (.invokevirtual 145, 3) := by decide +kernel
theorem dX8_encode_40 : decode cX8_encode 40 = .ok (.aload_n 0, 1) := by decide +kernel
theorem dX8_encode_41 : decode cX8_encode 41 = .ok (.aload_n 2, 1) := by decide +kernel
theorem dX8_encode_42 : decode cX8_encode 42 = .ok (.invokevirtual 149, 3) := by decide +kernel
theorem dX8_encode_45 : decode cX8_encode 45 = .ok (.iinc 1 1, 3) := by decide +kernel
theorem dX8_encode_48 : decode cX8_encode 48 = .ok (.goto (-38), 3) := by decide +kernel
theorem dX8_encode_51 : decode cX8_encode 51 = .ok (.aload_n 0, 1) := by decide +kernel
theorem dX8_encode_52 : decode cX8_encode 52 = .ok (.aload_n 0, 1) := by decide +kernel
theorem dX8_encode_53 : decode cX8_encode 53 = .ok (.getfield 20, 3) := by decide +kernel
theorem dX8_encode_56 : decode cX8_encode 56 = .ok (.invokevirtual 152, 3) := by decide +kernel
theorem dX8_encode_59 : decode cX8_encode 59 = .ok (.aload_n 0, 1) := by decide +kernel
theorem dX8_encode_60 : decode cX8_encode 60 = .ok (.getfield 27, 3) := by decide +kernel
theorem dX8_encode_63 : decode cX8_encode 63 = .ok (.getfield 155, 3) := by decide +kernel
theorem dX8_encode_66 : decode cX8_encode 66 = .ok (.ireturn, 1) := by decide +kernel
theorem dX8_encodePlain_0 : decode cX8_encodePlain 0 = .ok (.aload_n 0, 1) := by decide +kernel
theorem dX8_encodePlain_1 : decode cX8_encodePlain 1 = .ok (.getfield 27, 3) := by decide +kernel
theorem dX8_encodePlain_4 : decode cX8_encodePlain 4 = .ok (.invokevirtual 158, 3) := by decide +kernel
theorem dX8_encodePlain_7 : decode cX8_encodePlain 7 = .ok (.aload_n 0, 1) := by decide +kernel
theorem dX8_encodePlain_8 : decode cX8_encodePlain 8 = .ok (.getfield 27, 3) := by decide +kernel
theorem dX8_encodePlain_11 : decode cX8_encodePlain 11 = .ok (.bipush 82, 2) := by decide +kernel
theorem dX8_encodePlain_13 : decode cX8_encodePlain 13 = .ok (.invokevirtual 160, 3) := by decide +kernel
theorem dX8_encodePlain_16 : decode cX8_encodePlain 16 = .ok (.aload_n 0, 1) := by decide +kernel
theorem dX8_encodePlain_17 : decode cX8_encodePlain 17 = .ok (.getfield 27, 3) := by decide +kernel
theorem dX8_encodePlain_20 : decode cX8_encodePlain 20 = .ok (.aload_n 0, 1) := by decide +kernel
theorem dX8_encodePlain_21 : decode cX8_encodePlain 21 = .ok (.getfield 12, 3) := by decide +kernel
theorem dX8_encodePlain_24 : decode cX8_encodePlain 24 = .ok (.getfield 119, 3) := by decide +kernel
theorem dX8_encodePlain_27 : decode cX8_encodePlain 27 = .ok (.invokevirtual 160, 3) := by decide +kernel
theorem dX8_encodePlain_30 : decode cX8_encodePlain 30 = .ok (.aload_n 0, 1) := by decide +kernel
theorem dX8_encodePlain_31 : decode cX8_encodePlain 31 = .ok (.getfield 27, 3) := by decide +kernel
theorem dX8_encodePlain_34 : decode cX8_encodePlain 34 = .ok (.aload_n 0, 1) := by decide +kernel
theorem dX8_encodePlain_35 : decode cX8_encodePlain 35 = .ok (.getfield 12, 3) := by decide +kernel
theorem dX8_encodePlain_38 : decode cX8_encodePlain 38 = .ok (.getfield 122, 3) := by decide +kernel
theorem dX8_encodePlain_41 : decode cX8_encodePlain 41 = .ok (.invokevirtual 160, 3) := by decide +kernel
theorem dX8_encodePlain_44 : decode cX8_encodePlain 44 = .ok (.iconst 0, 1) := by decide +kernel
theorem dX8_encodePlain_45 : decode cX8_encodePlain 45 = .ok (.istore_n 1, 1) := by decide +kernel
theorem dX8_encodePlain_46 : decode cX8_encodePlain 46 = .ok (.iload_n 1, 1) := by decide +kernel
theorem dX8_encodePlain_47 : decode cX8_encodePlain 47 = .ok (.aload_n 0, 1) := by decide +kernel
theorem dX8_encodePlain_48 : decode cX8_encodePlain 48 = .ok (.getfield 12, 3) := by decide +kernel
theorem dX8_encodePlain_51 : decode cX8_encodePlain 51 = .ok (.getfield 122, 3) := by decide +kernel
theorem dX8_encodePlain_54 : decode cX8_encodePlain 54 = .ok (.if_icmp .ge 44, 3) := by decide +kernel
theorem dX8_encodePlain_57 : decode cX8_encodePlain 57 = .ok (.iconst 0, 1) := by decide +kernel
theorem dX8_encodePlain_58 : decode cX8_encodePlain 58 = .ok (.istore_n 2, 1) := by decide +kernel
theorem dX8_encodePlain_59 : decode cX8_encodePlain 59 = .ok (.iload_n 2, 1) := by decide +kernel
theorem dX8_encodePlain_60 : decode cX8_encodePlain 60 = .ok (.aload_n 0, 1) := by decide +kernel
theorem dX8_encodePlain_61 : decode cX8_encodePlain 61 = .ok (.getfield 12, 3) := by decide +kernel
theorem dX8_encodePlain_64 : decode cX8_encodePlain 64 = .ok (.getfield 119, 3) := by decide +kernel
theorem dX8_encodePlain_67 : decode cX8_encodePlain 67 = .ok (.if_icmp .ge 25, 3) := by decide +kernel
theorem dX8_encodePlain_70 : decode cX8_encodePlain 70 = .ok (.aload_n 0, 1) := by decide +kernel
theorem dX8_encodePlain_71 : decode cX8_encodePlain 71 = .ok (.getfield 27, 3) := by decide +kernel
theorem dX8_encodePlain_74 : decode cX8_encodePlain 74 = .ok (.aload_n 0, 1) := by decide +kernel
theorem dX8_encodePlain_75 : decode cX8_encodePlain 75 = .ok (.getfield 12, 3) := by decide +kernel
theorem dX8_encodePlain_78 : decode cX8_encodePlain 78 = .ok (.iload_n 2, 1) := by decide +kernel
theorem dX8_encodePlain_79 : decode cX8_encodePlain 79 = .ok (.iload_n 1, 1) := by decide +kernel
theorem dX8_encodePlain_80 : decode cX8_encodePlain 80 = .ok (.invokevirtual 111, 3) := by decide +kernel
theorem dX8_encodePlain_83 : decode cX8_encodePlain 83 = .ok (.invokevirtual 160, 3) := by decide +kernel
theorem dX8_encodePlain_86 : decode cX8_encodePlain 86 = .ok (.iinc 2 1, 3) := by decide +kernel
theorem dX8_encodePlain_89 : decode cX8_encodePlain 89 = .ok (.goto (-30), 3) := by decide +kernel
theorem dX8_encodePlain_92 : decode cX8_encodePlain 92 = .ok (.iinc 1 1, 3) := by decide +kernel
theorem dX8_encodePlain_95 : decode cX8_encodePlain 95 = .ok (.goto (-49), 3) := by decide +kernel
theorem dX8_encodePlain_98 : decode cX8_encodePlain 98 = .ok (.aload_n 0, 1) := by decide +kernel
theorem dX8_encodePlain_99 : decode cX8_encodePlain 99 = .ok (.iconst 0, 1) := by decide +kernel
theorem dX8_encodePlain_100 : decode cX8_encodePlain 100 = .ok (.invokevirtual 152, 3) := by decide +kernel
theorem dX8_encodePlain_103 : decode cX8_encodePlain 103 = .ok (.aload_n 0, 1) := by decide +kernel
theorem dX8_encodePlain_104 : decode cX8_encodePlain 104 = .ok (.getfield 27, 3) := by decide +kernel
theorem dX8_encodePlain_107 : decode cX8_encodePlain 107 = .ok (.getfield 155, 3) := by decide +kernel
theorem dX8_encodePlain_110 : decode cX8_encodePlain 110 = .ok (.ireturn, 1) := by decide +kernel
theorem dX8_size_0 : decode cX8_size 0 = .ok (.aload_n 0, 1) := by decide +kernel
theorem dX8_size_1 : decode cX8_size 1 = .ok (.getfield 27, 3) := by decide +kernel
theorem dX8_size_4 : decode cX8_size 4 = .ok (.getfield 155, 3) := by decide +kernel
theorem dX8_size_7 : decode cX8_size 7 = .ok (.ireturn, 1) := by decide +kernel
theorem dX8_byteAt_0 : decode cX8_byteAt 0 = .ok (.aload_n 0, 1) := by decide +kernel
theorem dX8_byteAt_1 : decode cX8_byteAt 1 = .ok (.iload_n 1, 1) := by decide +kernel
theorem dX8_byteAt_2 : decode cX8_byteAt 2 = .ok (.invokevirtual 163, 3) := by decide +kernel
theorem dX8_byteAt_5 : decode cX8_byteAt 5 = .ok (.aload_n 0, 1) := by decide +kernel
theorem dX8_byteAt_6 : decode cX8_byteAt 6 = .ok (.getfield 27, 3) := by decide +kernel
theorem dX8_byteAt_9 : decode cX8_byteAt 9 = .ok (.iload_n 1, 1) := by decide +kernel
theorem dX8_byteAt_10 : decode cX8_byteAt 10 = .ok (.invokevirtual 166, 3) := by decide +kernel
theorem dX8_byteAt_13 : decode cX8_byteAt 13 = .ok (.ireturn, 1) := by decide +kernel
theorem dX8_setByte_0 : decode cX8_setByte 0 = .ok (.aload_n 0, 1) := by decide +kernel
theorem dX8_setByte_1 : decode cX8_setByte 1 = .ok (.iload_n 1, 1) := by decide +kernel
theorem dX8_setByte_2 : decode cX8_setByte 2 = .ok (.invokevirtual 163, 3) := by decide +kernel
theorem dX8_setByte_5 : decode cX8_setByte 5 = .ok (.iload_n 2, 1) := by decide +kernel
theorem dX8_setByte_6 : decode cX8_setByte 6 = .ok (.invokestatic 107, 3) := by decide +kernel
theorem dX8_setByte_9 : decode cX8_setByte 9 = .ok (.aload_n 0, 1) := by decide +kernel
theorem dX8_setByte_10 : decode cX8_setByte 10 = .ok (.getfield 27, 3) := by decide +kernel
theorem dX8_setByte_13 : decode cX8_setByte 13 = .ok (.iload_n 1, 1) := by decide +kernel
theorem dX8_setByte_14 : decode cX8_setByte 14 = .ok (.invokevirtual 166, 3) := by decide +kernel
theorem dX8_setByte_17 : decode cX8_setByte 17 = .ok (.istore_n 3, 1) := by decide +kernel
theorem dX8_setByte_18 : decode cX8_setByte 18 = .ok (.aload_n 0, 1) := by decide +kernel
theorem dX8_setByte_19 : decode cX8_setByte 19 = .ok (.getfield 27, 3) := by decide +kernel
theorem dX8_setByte_22 : decode cX8_setByte 22 = .ok (.iload_n 1, 1) := by decide +kernel
theorem dX8_setByte_23 : decode cX8_setByte 23 = .ok (.iload_n 2, 1) := by decide +kernel
theorem dX8_setByte_24 : decode cX8_setByte 24 = .ok (.invokevirtual 169, 3) := by decide +kernel
theorem dX8_setByte_27 : decode cX8_setByte 27 = .ok (.iload_n 3, 1) := by decide +kernel
theorem dX8_setByte_28 : decode cX8_setByte 28 = .ok (.ireturn, 1) := by decide +kernel
theorem dX8_cut_0 : decode cX8_cut 0 = .ok (.iload_n 1, 1) := by decide +kernel
theorem dX8_cut_1 : decode cX8_cut 1 = .ok (.ifCond .lt 14, 3) := by decide +kernel
theorem dX8_cut_4 : decode cX8_cut 4 = .ok (.iload_n 1, 1) := by decide +kernel
theorem dX8_cut_5 : decode cX8_cut 5 = .ok (.aload_n 0, 1) := by decide +kernel
theorem dX8_cut_6 : decode cX8_cut 6 = .ok (.getfield 27, 3) := by decide +kernel
theorem dX8_cut_9 : decode cX8_cut 9 = .ok (.getfield 155, 3) := by decide +kernel
theorem dX8_cut_12 : decode cX8_cut 12 = .ok (.if_icmp .le 13, 3) := by decide +kernel
theorem dX8_cut_15 : decode cX8_cut 15 = .ok (.new 92, 3) := by decide +kernel
theorem dX8_cut_18 : decode cX8_cut 18 = .ok (.dup, 1) := by decide +kernel
theorem dX8_cut_19 : decode cX8_cut 19 = .ok (.ldc 171, 2) := by decide +kernel
theorem dX8_cut_21 : decode cX8_cut 21 = .ok (.invokespecial 96, 3) := by decide +kernel
theorem dX8_cut_24 : decode cX8_cut 24 = .ok (.athrow, 1) := by decide +kernel
theorem dX8_cut_25 : decode cX8_cut 25 = .ok (.aload_n 0, 1) := by decide +kernel
theorem dX8_cut_26 : decode cX8_cut 26 = .ok (.getfield 27, 3) := by decide +kernel
theorem dX8_cut_29 : decode cX8_cut 29 = .ok (.getfield 155, 3) := by decide +kernel
theorem dX8_cut_32 : decode cX8_cut 32 = .ok (.iload_n 1, 1) := by decide +kernel
theorem dX8_cut_33 : decode cX8_cut 33 = .ok (.isub, 1) := by decide +kernel
theorem dX8_cut_34 : decode cX8_cut 34 = .ok (.istore_n 2, 1) := by decide +kernel
theorem dX8_cut_35 : decode cX8_cut 35 = .ok (.aload_n 0, 1) := by decide +kernel
theorem dX8_cut_36 : decode cX8_cut 36 = .ok (.getfield 27, 3) := by decide +kernel
theorem dX8_cut_39 : decode cX8_cut 39 = .ok (.iload_n 1, 1) := by decide +kernel
theorem dX8_cut_40 : decode cX8_cut 40 = .ok (.putfield 155, 3) := by decide +kernel
theorem dX8_cut_43 : decode cX8_cut 43 = .ok (.iload_n 2, 1) := by decide +kernel
theorem dX8_cut_44 : decode cX8_cut 44 = .ok (.ireturn, 1) := by decide +kernel
theorem dX8_decode_0 : decode cX8_decode 0 = .ok (.iload_n 1, 1) := by decide +kernel
theorem dX8_decode_1 : decode cX8_decode 1 = .ok (.iconst 1, 1) := by decide +kernel
theorem dX8_decode_2 : decode cX8_decode 2 = .ok (.if_icmp .lt 8, 3) := by decide +kernel
theorem dX8_decode_5 : decode cX8_decode 5 = .ok (.iload_n 1, 1) := by decide +kernel
theorem dX8_decode_6 : decode cX8_decode 6 = .ok (.iconst 3, 1) := by decide +kernel
theorem dX8_decode_7 : decode cX8_decode 7 = .ok (.if_icmp .le 13, 3) := by decide +kernel
theorem dX8_decode_10 : decode cX8_decode 10 = .ok (.new 92, 3) := by decide +kernel
theorem dX8_decode_13 : decode cX8_decode 13 = .ok (.dup, 1) := by decide +kernel
theorem dX8_decode_14 : decode cX8_decode 14 = .ok (.ldc 173, 2) := by decide +kernel
theorem dX8_decode_16 : decode cX8_decode 16 = .ok (.invokespecial 96, 3) := by decide +kernel
theorem dX8_decode_19 : decode cX8_decode 19 = .ok (.athrow, 1) := by decide +kernel
theorem dX8_decode_20 : decode cX8_decode 20 = .ok (.aload_n 0, 1) := by decide +kernel
theorem dX8_decode_21 : decode cX8_decode 21 = .ok (.invokevirtual 175, 3) := by decide +kernel
theorem dX8_decode_24 : decode cX8_decode 24 = .ok (.ifCond .ne 13, 3) := by decide +kernel
theorem dX8_decode_27 : decode cX8_decode 27 = .ok (.new 179, 3) := by decide +kernel
theorem dX8_decode_30 : decode cX8_decode 30 = .ok (.dup, 1) := by decide +kernel
theorem dX8_decode_31 : decode cX8_decode 31 = .ok (.ldc 181, 2) := by decide +kernel
theorem dX8_decode_33 : decode cX8_decode 33 = .ok (.invokespecial 183, 3) := by decide +kernel
theorem dX8_decode_36 : decode cX8_decode 36 = .ok (.athrow, 1) := by decide +kernel
theorem dX8_decode_37 : decode cX8_decode 37 = .ok (.aload_n 0, 1) := by decide +kernel
theorem dX8_decode_38 : decode cX8_decode 38 = .ok (.getfield 31, 3) := by decide +kernel
theorem dX8_decode_41 : decode cX8_decode 41 = .ok (.aload_n 0, 1) := by decide +kernel
theorem dX8_decode_42 : decode cX8_decode 42 = .ok (.getfield 27, 3) := by decide +kernel
theorem dX8_decode_45 : decode cX8_decode 45 = .ok (.iconst 1, 1) := by decide +kernel
theorem dX8_decode_46 : decode cX8_decode 46 = .ok (.invokevirtual 166, 3) := by decide +kernel
theorem dX8_decode_49 : decode cX8_decode 49 = .ok (.aload_n 0, 1) := by decide +kernel
theorem dX8_decode_50 : decode cX8_decode 50 = .ok (.getfield 27, 3) := by decide +kernel
theorem dX8_decode_53 : decode cX8_decode 53 = .ok (.iconst 2, 1) := by decide +kernel
theorem dX8_decode_54 : decode cX8_decode 54 = .ok (.invokevirtual 166, 3) := by decide +kernel
theorem dX8_decode_57 : decode cX8_decode 57 = .ok (.invokevirtual 99, 3) := by decide +kernel
theorem dX8_decode_60 : decode cX8_decode 60 = .ok (.aload_n 0, 1) := by decide +kernel
theorem dX8_decode_61 : decode cX8_decode 61 = .ok (.iconst 1, 1) := by decide +kernel
theorem dX8_decode_62 : decode cX8_decode 62 = .ok (.putfield 34, 3) := by decide +kernel
theorem dX8_decode_65 : decode cX8_decode 65 = .ok (.aload_n 0, 1) := by decide +kernel
theorem dX8_decode_66 : decode cX8_decode 66 = .ok (.invokevirtual 184, 3) := by decide +kernel
theorem dX8_decode_69 : decode cX8_decode 69 = .ok (.aload_n 0, 1) := by decide +kernel
theorem dX8_decode_70 : decode cX8_decode 70 = .ok (.getfield 27, 3) := by decide +kernel
theorem dX8_decode_73 : decode cX8_decode 73 = .ok (.iconst 0, 1) := by decide +kernel
theorem dX8_decode_74 : decode cX8_decode 74 = .ok (.invokevirtual 166, 3) := by decide +kernel
theorem dX8_decode_77 : decode cX8_decode 77 = .ok (.bipush 82, 2) := by decide +kernel
theorem dX8_decode_79 : decode cX8_decode 79 = .ok (.if_icmp .ne 10, 3) := by decide +kernel
theorem dX8_decode_82 : decode cX8_decode 82 = .ok (.aload_n 0, 1) := by decide +kernel
theorem dX8_decode_83 : decode cX8_decode 83 = .ok (.invokevirtual 187, 3) := by decide +kernel
theorem dX8_decode_86 : decode cX8_decode 86 = .ok (.goto 26, 3) := by decide +kernel
theorem dX8_decode_89 : decode cX8_decode 89 = .ok (.aload_n 0, 1) := by decide +kernel
theorem dX8_decode_90 : decode cX8_decode 90 = .ok (.iload_n 1, 1) := by decide +kernel
theorem dX8_decode_91 : decode cX8_decode 91 = .ok (.aload_n 0, 1) := by decide +kernel
theorem dX8_decode_92 : decode cX8_decode 92 = .ok (.getfield 27, 3) := by decide +kernel
theorem dX8_decode_95 : decode cX8_decode 95 = .ok (.iconst 3, 1) := by decide +kernel
theorem dX8_decode_96 : decode cX8_decode 96 = .ok (.invokevirtual 166, 3) := by decide +kernel
theorem dX8_decode_99 : decode cX8_decode 99 = .ok (.invokestatic 190, 3) := by decide +kernel
theorem dX8_decode_102 : decode cX8_decode 102 = .ok (.invokevirtual 195, 3) := by decide +kernel
theorem dX8_decode_105 : decode cX8_decode 105 = .ok (.aload_n 0, 1) := by decide +kernel
theorem dX8_decode_106 : decode cX8_decode 106 = .ok (.getfield 31, 3) := by decide +kernel
theorem dX8_decode_109 : decode cX8_decode 109 = .ok (.invokevirtual 198, 3) := by decide +kernel
theorem dX8_decode_112 : decode cX8_decode 112 = .ok (.aload_n 0, 1) := by decide +kernel
theorem dX8_decode_113 : decode cX8_decode 113 = .ok (.invokevirtual 201, 3) := by decide +kernel
theorem dX8_decode_116 : decode cX8_decode 116 = .ok (.ireturn, 1) := by decide +kernel
theorem dX8_decodedWidth_0 : decode cX8_decodedWidth 0 = .ok (.aload_n 0, 1) := by decide +kernel
theorem dX8_decodedWidth_1 : decode cX8_decodedWidth 1 = .ok (.invokevirtual 205, 3) := by decide +kernel
theorem dX8_decodedWidth_4 : decode cX8_decodedWidth 4 = .ok (.aload_n 0, 1) := by decide +kernel
theorem dX8_decodedWidth_5 : decode cX8_decodedWidth 5 = .ok (.getfield 31, 3) := by decide +kernel
theorem dX8_decodedWidth_8 : decode cX8_decodedWidth 8 = .ok (.getfield 119, 3) := by decide +kernel
theorem dX8_decodedWidth_11 : decode cX8_decodedWidth 11 = .ok (.ireturn, 1) := by decide +kernel
theorem dX8_decodedHeight_0 : decode cX8_decodedHeight 0 = .ok (.aload_n 0, 1) := by decide +kernel
theorem dX8_decodedHeight_1 : decode cX8_decodedHeight 1 = .ok (.invokevirtual 205, 3) := by decide +kernel
theorem dX8_decodedHeight_4 : decode cX8_decodedHeight 4 = .ok (.aload_n 0, 1) := by decide +kernel
theorem dX8_decodedHeight_5 : decode cX8_decodedHeight 5 = .ok (.getfield 31, 3) := by decide +kernel
theorem dX8_decodedHeight_8 : decode cX8_decodedHeight 8 = .ok (.getfield 122, 3) := by decide +kernel
theorem dX8_decodedHeight_11 : decode cX8_decodedHeight 11 = .ok (.ireturn, 1) := by decide +kernel
theorem dX8_decodedPixel_0 : decode cX8_decodedPixel 0 = .ok (.aload_n 0, 1) := by decide +kernel
theorem dX8_decodedPixel_1 : decode cX8_decodedPixel 1 = .ok (.invokevirtual 205, 3) := by decide +kernel
theorem dX8_decodedPixel_4 : decode cX8_decodedPixel 4 = .ok (.aload_n 0, 1) := by decide +kernel
theorem dX8_decodedPixel_5 : decode cX8_decodedPixel 5 = .ok (.getfield 31, 3) := by decide +kernel
theorem dX8_decodedPixel_8 : decode cX8_decodedPixel 8 = .ok (.iload_n 1, 1) := by decide +kernel
theorem dX8_decodedPixel_9 : decode cX8_decodedPixel 9 = .ok (.iload_n 2, 1) := by decide +kernel
theorem dX8_decodedPixel_10 : decode cX8_decodedPixel 10 = .ok (.invokestatic 103, 3) := by decide +kernel
theorem dX8_decodedPixel_13 : decode cX8_decodedPixel 13 = .ok (.aload_n 0, 1) := by decide +kernel
theorem dX8_decodedPixel_14 : decode cX8_decodedPixel 14 = .ok (.getfield 31, 3) := by decide +kernel
theorem dX8_decodedPixel_17 : decode cX8_decodedPixel 17 = .ok (.iload_n 1, 1) := by decide +kernel
theorem dX8_decodedPixel_18 : decode cX8_decodedPixel 18 = .ok (.iload_n 2, 1) := by decide +kernel
theorem dX8_decodedPixel_19 : decode cX8_decodedPixel 19 = .ok (.invokevirtual 111, 3) := by decide +kernel
theorem dX8_decodedPixel_22 : decode cX8_decodedPixel 22 = .ok (.ireturn, 1) := by decide +kernel
theorem dX8_fault_0 : decode cX8_fault 0 = .ok (.aload_n 0, 1) := by decide +kernel
theorem dX8_fault_1 : decode cX8_fault 1 = .ok (.invokevirtual 205, 3) := by decide +kernel
theorem dX8_fault_4 : decode cX8_fault 4 = .ok (.iload_n 1, 1) := by decide +kernel
theorem dX8_fault_5 : decode cX8_fault 5 = .ok (.aload_n 0, 1) := by decide +kernel
theorem dX8_fault_6 : decode cX8_fault 6 = .ok (.getfield 31, 3) := by decide +kernel
theorem dX8_fault_9 : decode cX8_fault 9 = .ok (.getfield 122, 3) := by decide +kernel
theorem dX8_fault_12 : decode cX8_fault 12 = .ok (.invokestatic 208, 3) := by decide +kernel
theorem dX8_fault_15 : decode cX8_fault 15 = .ok (.aload_n 0, 1) := by decide +kernel
theorem dX8_fault_16 : decode cX8_fault 16 = .ok (.getfield 38, 3) := by decide +kernel
theorem dX8_fault_19 : decode cX8_fault 19 = .ok (.iload_n 1, 1) := by decide +kernel
theorem dX8_fault_20 : decode cX8_fault 20 = .ok (.caload, 1) := by decide +kernel
theorem dX8_fault_21 : decode cX8_fault 21 = .ok (.ireturn, 1) := by decide +kernel
theorem dX8_layersUsed_0 : decode cX8_layersUsed 0 = .ok (.aload_n 0, 1) := by decide +kernel
theorem dX8_layersUsed_1 : decode cX8_layersUsed 1 = .ok (.invokevirtual 205, 3) := by decide +kernel
theorem dX8_layersUsed_4 : decode cX8_layersUsed 4 = .ok (.iload_n 1, 1) := by decide +kernel
theorem dX8_layersUsed_5 : decode cX8_layersUsed 5 = .ok (.aload_n 0, 1) := by decide +kernel
theorem dX8_layersUsed_6 : decode cX8_layersUsed 6 = .ok (.getfield 31, 3) := by decide +kernel
theorem dX8_layersUsed_9 : decode cX8_layersUsed 9 = .ok (.getfield 122, 3) := by decide +kernel
theorem dX8_layersUsed_12 : decode cX8_layersUsed 12 = .ok (.invokestatic 208, 3) := by decide +kernel
theorem dX8_layersUsed_15 : decode cX8_layersUsed 15 = .ok (.aload_n 0, 1) := by decide +kernel
theorem dX8_layersUsed_16 : decode cX8_layersUsed 16 = .ok (.getfield 42, 3) := by decide +kernel
theorem dX8_layersUsed_19 : decode cX8_layersUsed 19 = .ok (.iload_n 1, 1) := by decide +kernel
theorem dX8_layersUsed_20 : decode cX8_layersUsed 20 = .ok (.iaload, 1) := by decide +kernel
theorem dX8_layersUsed_21 : decode cX8_layersUsed 21 = .ok (.ireturn, 1) := by decide +kernel
theorem dX8_isSame_0 : decode cX8_isSame 0 = .ok (.aload_n 0, 1) := by decide +kernel
theorem dX8_isSame_1 : decode cX8_isSame 1 = .ok (.invokevirtual 205, 3) := by decide +kernel
theorem dX8_isSame_4 : decode cX8_isSame 4 = .ok (.aload_n 0, 1) := by decide +kernel
theorem dX8_isSame_5 : decode cX8_isSame 5 = .ok (.getfield 12, 3) := by decide +kernel
theorem dX8_isSame_8 : decode cX8_isSame 8 = .ok (.aload_n 0, 1) := by decide +kernel
theorem dX8_isSame_9 : decode cX8_isSame 9 = .ok (.getfield 31, 3) := by decide +kernel
theorem dX8_isSame_12 : decode cX8_isSame 12 = .ok (.invokevirtual 211, 3) := by decide +kernel
theorem dX8_isSame_15 : decode cX8_isSame 15 = .ok (.ifCond .eq 14, 3) := by decide +kernel
theorem dX8_isSame_18 : decode cX8_isSame 18 = .ok (.aload_n 0, 1) := by decide +kernel
theorem dX8_isSame_19 : decode cX8_isSame 19 = .ok (.invokevirtual 215, 3) := by decide +kernel
theorem dX8_isSame_22 : decode cX8_isSame 22 = .ok (.ifCond .ne 7, 3) := by decide +kernel
theorem dX8_isSame_25 : decode cX8_isSame 25 = .ok (.iconst 1, 1) := by decide +kernel
theorem dX8_isSame_26 : decode cX8_isSame 26 = .ok (.goto 4, 3) := by decide +kernel
theorem dX8_isSame_29 : decode cX8_isSame 29 = .ok (.iconst 0, 1) := by decide +kernel
theorem dX8_isSame_30 : decode cX8_isSame 30 = .ok (.ireturn, 1) := by decide +kernel
theorem dX8_squaredError_0 : decode cX8_squaredError 0 = .ok (.aload_n 0, 1) := by decide +kernel
theorem dX8_squaredError_1 : decode cX8_squaredError 1 = .ok (.invokevirtual 205, 3) := by decide +kernel
theorem dX8_squaredError_4 : decode cX8_squaredError 4 = .ok (.aload_n 0, 1) := by decide +kernel
theorem dX8_squaredError_5 : decode cX8_squaredError 5 = .ok (.invokevirtual 218, 3) := by decide +kernel
theorem dX8_squaredError_8 : decode cX8_squaredError 8 = .ok (.iconst 0, 1) := by decide +kernel
theorem dX8_squaredError_9 : decode cX8_squaredError 9 = .ok (.istore_n 1, 1) := by decide +kernel
theorem dX8_squaredError_10 : decode cX8_squaredError 10 = .ok (.iconst 0, 1) := by decide +kernel
theorem dX8_squaredError_11 : decode cX8_squaredError 11 = .ok (.istore_n 2, 1) := by decide +kernel
theorem dX8_squaredError_12 : decode cX8_squaredError 12 = .ok (.iload_n 2, 1) := by decide +kernel
theorem dX8_squaredError_13 : decode cX8_squaredError 13 = .ok (.aload_n 0, 1) := by decide +kernel
theorem dX8_squaredError_14 : decode cX8_squaredError 14 = .ok (.getfield 12, 3) := by decide +kernel
theorem dX8_squaredError_17 : decode cX8_squaredError 17 = .ok (.getfield 122, 3) := by decide +kernel
theorem dX8_squaredError_20 : decode cX8_squaredError 20 = .ok (.if_icmp .ge 57, 3) := by decide +kernel
theorem dX8_squaredError_23 : decode cX8_squaredError 23 = .ok (.iconst 0, 1) := by decide +kernel
theorem dX8_squaredError_24 : decode cX8_squaredError 24 = .ok (.istore_n 3, 1) := by decide +kernel
theorem dX8_squaredError_25 : decode cX8_squaredError 25 = .ok (.iload_n 3, 1) := by decide +kernel
theorem dX8_squaredError_26 : decode cX8_squaredError 26 = .ok (.aload_n 0, 1) := by decide +kernel
theorem dX8_squaredError_27 : decode cX8_squaredError 27 = .ok (.getfield 12, 3) := by decide +kernel
theorem dX8_squaredError_30 : decode cX8_squaredError 30 = .ok (.getfield 119, 3) := by decide +kernel
theorem dX8_squaredError_33 : decode cX8_squaredError 33 = .ok (.if_icmp .ge 38, 3) := by decide +kernel
theorem dX8_squaredError_36 : decode cX8_squaredError 36 = .ok (.aload_n 0, 1) := by decide +kernel
theorem dX8_squaredError_37 : decode cX8_squaredError 37 = .ok (.getfield 12, 3) := by decide +kernel
theorem dX8_squaredError_40 : decode cX8_squaredError 40 = .ok (.iload_n 3, 1) := by decide +kernel
theorem dX8_squaredError_41 : decode cX8_squaredError 41 = .ok (.iload_n 2, 1) := by decide +kernel
theorem dX8_squaredError_42 : decode cX8_squaredError 42 = .ok (.invokevirtual 111, 3) := by decide +kernel
theorem dX8_squaredError_45 : decode cX8_squaredError 45 = .ok (.aload_n 0, 1) := by decide +kernel
theorem dX8_squaredError_46 : decode cX8_squaredError 46 = .ok (.getfield 31, 3) := by decide +kernel
theorem dX8_squaredError_49 : decode cX8_squaredError 49 = .ok (.iload_n 3, 1) := by decide +kernel
theorem dX8_squaredError_50 : decode cX8_squaredError 50 = .ok (.iload_n 2, 1) := by decide +kernel
theorem dX8_squaredError_51 : decode cX8_squaredError 51 = .ok (.invokevirtual 111, 3) := by decide +kernel
theorem dX8_squaredError_54 : decode cX8_squaredError 54 = .ok (.isub, 1) := by decide +kernel
theorem dX8_squaredError_55 : decode cX8_squaredError 55 = .ok (.istore 4, 2) := by decide +kernel
theorem dX8_squaredError_57 : decode cX8_squaredError 57 = .ok (.iload_n 1, 1) := by decide +kernel
theorem dX8_squaredError_58 : decode cX8_squaredError 58 = .ok (.iload 4, 2) := by decide +kernel
theorem dX8_squaredError_60 : decode cX8_squaredError 60 = .ok (.iload 4, 2) := by decide +kernel
theorem dX8_squaredError_62 : decode cX8_squaredError 62 = .ok (.imul, 1) := by decide +kernel
theorem dX8_squaredError_63 : decode cX8_squaredError 63 = .ok (.iadd, 1) := by decide +kernel
theorem dX8_squaredError_64 : decode cX8_squaredError 64 = .ok (.istore_n 1, 1) := by decide +kernel
theorem dX8_squaredError_65 : decode cX8_squaredError 65 = .ok (.iinc 3 1, 3) := by decide +kernel
theorem dX8_squaredError_68 : decode cX8_squaredError 68 = .ok (.goto (-43), 3) := by decide +kernel
theorem dX8_squaredError_71 : decode cX8_squaredError 71 = .ok (.iinc 2 1, 3) := by decide +kernel
theorem dX8_squaredError_74 : decode cX8_squaredError 74 = .ok (.goto (-62), 3) := by decide +kernel
theorem dX8_squaredError_77 : decode cX8_squaredError 77 = .ok (.iload_n 1, 1) := by decide +kernel
theorem dX8_squaredError_78 : decode cX8_squaredError 78 = .ok (.ireturn, 1) := by decide +kernel
theorem dX8_greatestError_0 : decode cX8_greatestError 0 = .ok (.aload_n 0, 1) := by decide +kernel
theorem dX8_greatestError_1 : decode cX8_greatestError 1 = .ok (.invokevirtual 205, 3) := by decide +kernel
theorem dX8_greatestError_4 : decode cX8_greatestError 4 = .ok (.aload_n 0, 1) := by decide +kernel
theorem dX8_greatestError_5 : decode cX8_greatestError 5 = .ok (.invokevirtual 218, 3) := by decide +kernel
theorem dX8_greatestError_8 : decode cX8_greatestError 8 = .ok (.aload_n 0, 1) := by decide +kernel
theorem dX8_greatestError_9 : decode cX8_greatestError 9 = .ok (.invokevirtual 215, 3) := by decide +kernel
theorem dX8_greatestError_12 : decode cX8_greatestError 12 = .ok (.ireturn, 1) := by decide +kernel
theorem dX8_blocks_0 : decode cX8_blocks 0 = .ok (.aload_n 0, 1) := by decide +kernel
theorem dX8_blocks_1 : decode cX8_blocks 1 = .ok (.iload_n 1, 1) := by decide +kernel
theorem dX8_blocks_2 : decode cX8_blocks 2 = .ok (.invokevirtual 221, 3) := by decide +kernel
theorem dX8_blocks_5 : decode cX8_blocks 5 = .ok (.aload_n 0, 1) := by decide +kernel
theorem dX8_blocks_6 : decode cX8_blocks 6 = .ok (.getfield 48, 3) := by decide +kernel
theorem dX8_blocks_9 : decode cX8_blocks 9 = .ok (.iload_n 1, 1) := by decide +kernel
theorem dX8_blocks_10 : decode cX8_blocks 10 = .ok (.aaload, 1) := by decide +kernel
theorem dX8_blocks_11 : decode cX8_blocks 11 = .ok (.getfield 224, 3) := by decide +kernel
theorem dX8_blocks_14 : decode cX8_blocks 14 = .ok (.ireturn, 1) := by decide +kernel
theorem dX8_blockSize_0 : decode cX8_blockSize 0 = .ok (.aload_n 0, 1) := by decide +kernel
theorem dX8_blockSize_1 : decode cX8_blockSize 1 = .ok (.iload_n 1, 1) := by decide +kernel
theorem dX8_blockSize_2 : decode cX8_blockSize 2 = .ok (.iload_n 2, 1) := by decide +kernel
theorem dX8_blockSize_3 : decode cX8_blockSize 3 = .ok (.iload_n 3, 1) := by decide +kernel
theorem dX8_blockSize_4 : decode cX8_blockSize 4 = .ok (.invokevirtual 227, 3) := by decide +kernel
theorem dX8_blockSize_7 : decode cX8_blockSize 7 = .ok (.aload_n 0, 1) := by decide +kernel
theorem dX8_blockSize_8 : decode cX8_blockSize 8 = .ok (.getfield 48, 3) := by decide +kernel
theorem dX8_blockSize_11 : decode cX8_blockSize 11 = .ok (.iload_n 1, 1) := by decide +kernel
theorem dX8_blockSize_12 : decode cX8_blockSize 12 = .ok (.aaload, 1) := by decide +kernel
theorem dX8_blockSize_13 : decode cX8_blockSize 13 = .ok (.iload_n 2, 1) := by decide +kernel
theorem dX8_blockSize_14 : decode cX8_blockSize 14 = .ok (.iload_n 3, 1) := by decide +kernel
theorem dX8_blockSize_15 : decode cX8_blockSize 15 = .ok (.invokevirtual 230, 3) := by decide +kernel
theorem dX8_blockSize_18 : decode cX8_blockSize 18 = .ok (.ireturn, 1) := by decide +kernel
theorem dX8_mode_0 : decode cX8_mode 0 = .ok (.aload_n 0, 1) := by decide +kernel
theorem dX8_mode_1 : decode cX8_mode 1 = .ok (.iload_n 1, 1) := by decide +kernel
theorem dX8_mode_2 : decode cX8_mode 2 = .ok (.iload_n 2, 1) := by decide +kernel
theorem dX8_mode_3 : decode cX8_mode 3 = .ok (.iload_n 3, 1) := by decide +kernel
theorem dX8_mode_4 : decode cX8_mode 4 = .ok (.invokevirtual 227, 3) := by decide +kernel
theorem dX8_mode_7 : decode cX8_mode 7 = .ok (.getstatic 233, 3) := by decide +kernel
theorem dX8_mode_10 : decode cX8_mode 10 = .ok (.aload_n 0, 1) := by decide +kernel
theorem dX8_mode_11 : decode cX8_mode 11 = .ok (.getfield 48, 3) := by decide +kernel
theorem dX8_mode_14 : decode cX8_mode 14 = .ok (.iload_n 1, 1) := by decide +kernel
theorem dX8_mode_15 : decode cX8_mode 15 = .ok (.aaload, 1) := by decide +kernel
theorem dX8_mode_16 : decode cX8_mode 16 = .ok (.getfield 236, 3) := by decide +kernel
theorem dX8_mode_19 : decode cX8_mode 19 = .ok (.aload_n 0, 1) := by decide +kernel
theorem dX8_mode_20 : decode cX8_mode 20 = .ok (.getfield 48, 3) := by decide +kernel
theorem dX8_mode_23 : decode cX8_mode 23 = .ok (.iload_n 1, 1) := by decide +kernel
theorem dX8_mode_24 : decode cX8_mode 24 = .ok (.aaload, 1) := by decide +kernel
theorem dX8_mode_25 : decode cX8_mode 25 = .ok (.iload_n 2, 1) := by decide +kernel
theorem dX8_mode_26 : decode cX8_mode 26 = .ok (.iload_n 3, 1) := by decide +kernel
theorem dX8_mode_27 : decode cX8_mode 27 = .ok (.invokevirtual 239, 3) := by decide +kernel
theorem dX8_mode_30 : decode cX8_mode 30 = .ok (.iaload, 1) := by decide +kernel
theorem dX8_mode_31 : decode cX8_mode 31 = .ok (.caload, 1) := by decide +kernel
theorem dX8_mode_32 : decode cX8_mode 32 = .ok (.ireturn, 1) := by decide +kernel
theorem dX8_level_0 : decode cX8_level 0 = .ok (.aload_n 0, 1) := by decide +kernel
theorem dX8_level_1 : decode cX8_level 1 = .ok (.iload_n 1, 1) := by decide +kernel
theorem dX8_level_2 : decode cX8_level 2 = .ok (.iload_n 2, 1) := by decide +kernel
theorem dX8_level_3 : decode cX8_level 3 = .ok (.iload_n 3, 1) := by decide +kernel
theorem dX8_level_4 : decode cX8_level 4 = .ok (.invokevirtual 227, 3) := by decide +kernel
theorem dX8_level_7 : decode cX8_level 7 = .ok (.aload_n 0, 1) := by decide +kernel
theorem dX8_level_8 : decode cX8_level 8 = .ok (.getfield 48, 3) := by decide +kernel
theorem dX8_level_11 : decode cX8_level 11 = .ok (.iload_n 1, 1) := by decide +kernel
theorem dX8_level_12 : decode cX8_level 12 = .ok (.aaload, 1) := by decide +kernel
theorem dX8_level_13 : decode cX8_level 13 = .ok (.getfield 242, 3) := by decide +kernel
theorem dX8_level_16 : decode cX8_level 16 = .ok (.iload_n 3, 1) := by decide +kernel
theorem dX8_level_17 : decode cX8_level 17 = .ok (.bipush 16, 2) := by decide +kernel
theorem dX8_level_19 : decode cX8_level 19 = .ok (.imul, 1) := by decide +kernel
theorem dX8_level_20 : decode cX8_level 20 = .ok (.iload_n 2, 1) := by decide +kernel
theorem dX8_level_21 : decode cX8_level 21 = .ok (.iadd, 1) := by decide +kernel
theorem dX8_level_22 : decode cX8_level 22 = .ok (.iaload, 1) := by decide +kernel
theorem dX8_level_23 : decode cX8_level 23 = .ok (.ireturn, 1) := by decide +kernel
theorem dX8_cost_0 : decode cX8_cost 0 = .ok (.aload_n 0, 1) := by decide +kernel
theorem dX8_cost_1 : decode cX8_cost 1 = .ok (.iload_n 1, 1) := by decide +kernel
theorem dX8_cost_2 : decode cX8_cost 2 = .ok (.iload_n 2, 1) := by decide +kernel
theorem dX8_cost_3 : decode cX8_cost 3 = .ok (.iload_n 3, 1) := by decide +kernel
theorem dX8_cost_4 : decode cX8_cost 4 = .ok (.invokevirtual 227, 3) := by decide +kernel
theorem dX8_cost_7 : decode cX8_cost 7 = .ok (.aload_n 0, 1) := by decide +kernel
theorem dX8_cost_8 : decode cX8_cost 8 = .ok (.getfield 48, 3) := by decide +kernel
theorem dX8_cost_11 : decode cX8_cost 11 = .ok (.iload_n 1, 1) := by decide +kernel
theorem dX8_cost_12 : decode cX8_cost 12 = .ok (.aaload, 1) := by decide +kernel
theorem dX8_cost_13 : decode cX8_cost 13 = .ok (.getfield 245, 3) := by decide +kernel
theorem dX8_cost_16 : decode cX8_cost 16 = .ok (.aload_n 0, 1) := by decide +kernel
theorem dX8_cost_17 : decode cX8_cost 17 = .ok (.getfield 48, 3) := by decide +kernel
theorem dX8_cost_20 : decode cX8_cost 20 = .ok (.iload_n 1, 1) := by decide +kernel
theorem dX8_cost_21 : decode cX8_cost 21 = .ok (.aaload, 1) := by decide +kernel
theorem dX8_cost_22 : decode cX8_cost 22 = .ok (.iload_n 2, 1) := by decide +kernel
theorem dX8_cost_23 : decode cX8_cost 23 = .ok (.iload_n 3, 1) := by decide +kernel
theorem dX8_cost_24 : decode cX8_cost 24 = .ok (.invokevirtual 239, 3) := by decide +kernel
theorem dX8_cost_27 : decode cX8_cost 27 = .ok (.iaload, 1) := by decide +kernel
theorem dX8_cost_28 : decode cX8_cost 28 = .ok (.ireturn, 1) := by decide +kernel
theorem dX8_partSize_0 : decode cX8_partSize 0 = .ok (.aload_n 0, 1) := by decide +kernel
theorem dX8_partSize_1 : decode cX8_partSize 1 = .ok (.iload_n 1, 1) := by decide +kernel
theorem dX8_partSize_2 : decode cX8_partSize 2 = .ok (.invokevirtual 221, 3) := by decide +kernel
theorem dX8_partSize_5 : decode cX8_partSize 5 = .ok (.iload_n 2, 1) := by decide +kernel
theorem dX8_partSize_6 : decode cX8_partSize 6 = .ok (.aload_n 0, 1) := by decide +kernel
theorem dX8_partSize_7 : decode cX8_partSize 7 = .ok (.getfield 58, 3) := by decide +kernel
theorem dX8_partSize_10 : decode cX8_partSize 10 = .ok (.invokestatic 208, 3) := by decide +kernel
theorem dX8_partSize_13 : decode cX8_partSize 13 = .ok (.aload_n 0, 1) := by decide +kernel
theorem dX8_partSize_14 : decode cX8_partSize 14 = .ok (.getfield 48, 3) := by decide +kernel
theorem dX8_partSize_17 : decode cX8_partSize 17 = .ok (.iload_n 1, 1) := by decide +kernel
theorem dX8_partSize_18 : decode cX8_partSize 18 = .ok (.aaload, 1) := by decide +kernel
theorem dX8_partSize_19 : decode cX8_partSize 19 = .ok (.getfield 248, 3) := by decide +kernel
theorem dX8_partSize_22 : decode cX8_partSize 22 = .ok (.iload_n 2, 1) := by decide +kernel
theorem dX8_partSize_23 : decode cX8_partSize 23 = .ok (.iaload, 1) := by decide +kernel
theorem dX8_partSize_24 : decode cX8_partSize 24 = .ok (.ireturn, 1) := by decide +kernel
theorem dX8_ratio_0 : decode cX8_ratio 0 = .ok (.aload_n 0, 1) := by decide +kernel
theorem dX8_ratio_1 : decode cX8_ratio 1 = .ok (.getfield 64, 3) := by decide +kernel
theorem dX8_ratio_4 : decode cX8_ratio 4 = .ok (.ifCond .ne 13, 3) := by decide +kernel
theorem dX8_ratio_7 : decode cX8_ratio 7 = .ok (.new 251, 3) := by decide +kernel
theorem dX8_ratio_10 : decode cX8_ratio 10 = .ok (.dup, 1) := by decide +kernel
theorem dX8_ratio_11 : decode cX8_ratio 11 = .ok (.ldc 253, 2) := by decide +kernel
theorem dX8_ratio_13 : decode cX8_ratio 13 = .ok (.invokespecial 255, 3) := by decide +kernel
theorem dX8_ratio_16 : decode cX8_ratio 16 = .ok (.athrow, 1) := by decide +kernel
theorem dX8_ratio_17 : decode cX8_ratio 17 = .ok (.aload_n 0, 1) := by decide +kernel
theorem dX8_ratio_18 : decode cX8_ratio 18 = .ok (.getfield 61, 3) := by decide +kernel
theorem dX8_ratio_21 : decode cX8_ratio 21 = .ok (.i2f, 1) := by decide +kernel
theorem dX8_ratio_22 : decode cX8_ratio 22 = .ok (.aload_n 0, 1) := by decide +kernel
theorem dX8_ratio_23 : decode cX8_ratio 23 = .ok (.getfield 64, 3) := by decide +kernel
theorem dX8_ratio_26 : decode cX8_ratio 26 = .ok (.i2f, 1) := by decide +kernel
theorem dX8_ratio_27 : decode cX8_ratio 27 = .ok (.fdiv, 1) := by decide +kernel
theorem dX8_ratio_28 : decode cX8_ratio 28 = .ok (.freturn, 1) := by decide +kernel
theorem dX8_isPictureSize_0 : decode cX8_isPictureSize 0 = .ok (.iload_n 0, 1) := by decide +kernel
theorem dX8_isPictureSize_1 : decode cX8_isPictureSize 1 = .ok (.iconst 1, 1) := by decide +kernel
theorem dX8_isPictureSize_2 : decode cX8_isPictureSize 2 = .ok (.if_icmp .lt 24, 3) := by decide +kernel
theorem dX8_isPictureSize_5 : decode cX8_isPictureSize 5 = .ok (.iload_n 0, 1) := by decide +kernel
theorem dX8_isPictureSize_6 : decode cX8_isPictureSize 6 = .ok (.bipush 16, 2) := by decide +kernel
theorem dX8_isPictureSize_8 : decode cX8_isPictureSize 8 = .ok (.if_icmp .gt 18, 3) := by decide +kernel
theorem dX8_isPictureSize_11 : decode cX8_isPictureSize 11 = .ok (.iload_n 1, 1) := by decide +kernel
theorem dX8_isPictureSize_12 : decode cX8_isPictureSize 12 = .ok (.iconst 1, 1) := by decide +kernel
theorem dX8_isPictureSize_13 : decode cX8_isPictureSize 13 = .ok (.if_icmp .lt 13, 3) := by decide +kernel
theorem dX8_isPictureSize_16 : decode cX8_isPictureSize 16 = .ok (.iload_n 1, 1) := by decide +kernel
theorem dX8_isPictureSize_17 : decode cX8_isPictureSize 17 = .ok (.bipush 24, 2) := by decide +kernel
theorem dX8_isPictureSize_19 : decode cX8_isPictureSize 19 = .ok (.if_icmp .gt 7, 3) := by decide +kernel
theorem dX8_isPictureSize_22 : decode cX8_isPictureSize 22 = .ok (.iconst 1, 1) := by decide +kernel
theorem dX8_isPictureSize_23 : decode cX8_isPictureSize 23 = .ok (.goto 4, 3) := by decide +kernel
theorem dX8_isPictureSize_26 : decode cX8_isPictureSize 26 = .ok (.iconst 0, 1) := by decide +kernel
theorem dX8_isPictureSize_27 : decode cX8_isPictureSize 27 = .ok (.ireturn, 1) := by decide +kernel
theorem dX8_isStepAfter_0 : decode cX8_isStepAfter 0 = .ok (.iload_n 1, 1) := by decide +kernel
theorem dX8_isStepAfter_1 : decode cX8_isStepAfter 1 = .ok (.iconst 1, 1) := by decide +kernel
theorem dX8_isStepAfter_2 : decode cX8_isStepAfter 2 = .ok (.if_icmp .lt 18, 3) := by decide +kernel
theorem dX8_isStepAfter_5 : decode cX8_isStepAfter 5 = .ok (.iload_n 1, 1) := by decide +kernel
theorem dX8_isStepAfter_6 : decode cX8_isStepAfter 6 = .ok (.bipush 32, 2) := by decide +kernel
theorem dX8_isStepAfter_8 : decode cX8_isStepAfter 8 = .ok (.if_icmp .gt 12, 3) := by decide +kernel
theorem dX8_isStepAfter_11 : decode cX8_isStepAfter 11 = .ok (.iload_n 1, 1) := by decide +kernel
theorem dX8_isStepAfter_12 : decode cX8_isStepAfter 12 = .ok (.iload_n 0, 1) := by decide +kernel
theorem dX8_isStepAfter_13 : decode cX8_isStepAfter 13 = .ok (.if_icmp .ge 7, 3) := by decide +kernel
theorem dX8_isStepAfter_16 : decode cX8_isStepAfter 16 = .ok (.iconst 1, 1) := by decide +kernel
theorem dX8_isStepAfter_17 : decode cX8_isStepAfter 17 = .ok (.goto 4, 3) := by decide +kernel
theorem dX8_isStepAfter_20 : decode cX8_isStepAfter 20 = .ok (.iconst 0, 1) := by decide +kernel
theorem dX8_isStepAfter_21 : decode cX8_isStepAfter 21 = .ok (.ireturn, 1) := by decide +kernel
theorem dX8_requireByte_0 : decode cX8_requireByte 0 = .ok (.iload_n 0, 1) := by decide +kernel
theorem dX8_requireByte_1 : decode cX8_requireByte 1 = .ok (.ifCond .lt 10, 3) := by decide +kernel
theorem dX8_requireByte_4 : decode cX8_requireByte 4 = .ok (.iload_n 0, 1) := by decide +kernel
theorem dX8_requireByte_5 : decode cX8_requireByte 5 = .ok (.sipush 255, 3) := by decide +kernel
theorem dX8_requireByte_8 : decode cX8_requireByte 8 = .ok (.if_icmp .le 14, 3) := by decide +kernel
theorem dX8_requireByte_11 : decode cX8_requireByte 11 = .ok (.new 92, 3) := by decide +kernel
theorem dX8_requireByte_14 : decode cX8_requireByte 14 = .ok (.dup, 1) := by decide +kernel
theorem dX8_requireByte_15 : decode cX8_requireByte 15 = .ok (.ldc_w 256, 3) := by decide +kernel
theorem dX8_requireByte_18 : decode cX8_requireByte 18 = .ok (.invokespecial 96, 3) := by decide +kernel
theorem dX8_requireByte_21 : decode cX8_requireByte 21 = .ok (.athrow, 1) := by decide +kernel
theorem dX8_requireByte_22 : decode cX8_requireByte 22 = .ok (.return_, 1) := by decide +kernel
theorem dX8_requirePixel_0 : decode cX8_requirePixel 0 = .ok (.aload_n 0, 1) := by decide +kernel
theorem dX8_requirePixel_1 : decode cX8_requirePixel 1 = .ok (.iload_n 1, 1) := by decide +kernel
theorem dX8_requirePixel_2 : decode cX8_requirePixel 2 = .ok (.iload_n 2, 1) := by decide +kernel
theorem dX8_requirePixel_3 : decode cX8_requirePixel 3 = .ok (.invokevirtual 258, 3) := by decide +kernel
theorem dX8_requirePixel_6 : decode cX8_requirePixel 6 = .ok (.ifCond .ne 14, 3) := by decide +kernel
theorem dX8_requirePixel_9 : decode cX8_requirePixel 9 = .ok (.new 261, 3) := by decide +kernel
theorem dX8_requirePixel_12 : decode cX8_requirePixel 12 = .ok (.dup, 1) := by decide +kernel
theorem dX8_requirePixel_13 : decode cX8_requirePixel 13 = .ok (.ldc_w 263, 3) := by decide +kernel
theorem dX8_requirePixel_16 : decode cX8_requirePixel 16 = .ok (.invokespecial 265, 3) := by decide +kernel
theorem dX8_requirePixel_19 : decode cX8_requirePixel 19 = .ok (.athrow, 1) := by decide +kernel
theorem dX8_requirePixel_20 : decode cX8_requirePixel 20 = .ok (.return_, 1) := by decide +kernel
theorem dX8_requireSlice_0 : decode cX8_requireSlice 0 = .ok (.iload_n 0, 1) := by decide +kernel
theorem dX8_requireSlice_1 : decode cX8_requireSlice 1 = .ok (.ifCond .lt 11, 3) := by decide +kernel
theorem dX8_requireSlice_4 : decode cX8_requireSlice 4 = .ok (.iload_n 0, 1) := by decide +kernel
theorem dX8_requireSlice_5 : decode cX8_requireSlice 5 = .ok (.iload_n 1, 1) := by decide +kernel
theorem dX8_requireSlice_6 : decode cX8_requireSlice 6 = .ok (.invokestatic 266, 3) := by decide +kernel
theorem dX8_requireSlice_9 : decode cX8_requireSlice 9 = .ok (.if_icmp .lt 14, 3) := by decide +kernel
theorem dX8_requireSlice_12 : decode cX8_requireSlice 12 = .ok (.new 261, 3) := by decide +kernel
theorem dX8_requireSlice_15 : decode cX8_requireSlice 15 = .ok (.dup, 1) := by decide +kernel
theorem dX8_requireSlice_16 : decode cX8_requireSlice 16 = .ok (.ldc_w 269, 3) := by decide +kernel
theorem dX8_requireSlice_19 : decode cX8_requireSlice 19 = .ok (.invokespecial 265, 3) := by decide +kernel
theorem dX8_requireSlice_22 : decode cX8_requireSlice 22 = .ok (.athrow, 1) := by decide +kernel
theorem dX8_requireSlice_23 : decode cX8_requireSlice 23 = .ok (.return_, 1) := by decide +kernel
theorem dX8_requireStreamByte_0 : decode cX8_requireStreamByte 0 = .ok (.iload_n 1, 1) := by decide +kernel
theorem dX8_requireStreamByte_1 : decode cX8_requireStreamByte 1 = .ok (.ifCond .lt 14, 3) := by decide +kernel
theorem dX8_requireStreamByte_4 : decode cX8_requireStreamByte 4 = .ok (.iload_n 1, 1) := by decide +kernel
theorem dX8_requireStreamByte_5 : decode cX8_requireStreamByte 5 = .ok (.aload_n 0, 1) := by decide +kernel
theorem dX8_requireStreamByte_6 : decode cX8_requireStreamByte 6 = .ok (.getfield 27, 3) := by decide +kernel
theorem dX8_requireStreamByte_9 : decode cX8_requireStreamByte 9 = .ok (.getfield 155, 3) := by decide +kernel
theorem dX8_requireStreamByte_12 : decode cX8_requireStreamByte 12 = .ok (.if_icmp .lt 14, 3) := by decide +kernel
theorem dX8_requireStreamByte_15 : decode cX8_requireStreamByte 15 = .ok (.new 261, 3) := by decide +kernel
theorem dX8_requireStreamByte_18 : decode cX8_requireStreamByte 18 = .ok (.dup, 1) := by decide +kernel
theorem dX8_requireStreamByte_19 : decode cX8_requireStreamByte 19 = .ok (.ldc_w 271, 3) := by decide +kernel
theorem dX8_requireStreamByte_22 : decode cX8_requireStreamByte 22 = .ok (.invokespecial 265, 3) := by decide +kernel
theorem dX8_requireStreamByte_25 : decode cX8_requireStreamByte 25 = .ok (.athrow, 1) := by decide +kernel
theorem dX8_requireStreamByte_26 : decode cX8_requireStreamByte 26 = .ok (.return_, 1) := by decide +kernel
theorem dX8_requireDecoded_0 : decode cX8_requireDecoded 0 = .ok (.aload_n 0, 1) := by decide +kernel
theorem dX8_requireDecoded_1 : decode cX8_requireDecoded 1 = .ok (.getfield 34, 3) := by decide +kernel
theorem dX8_requireDecoded_4 : decode cX8_requireDecoded 4 = .ok (.ifCond .ne 14, 3) := by decide +kernel
theorem dX8_requireDecoded_7 : decode cX8_requireDecoded 7 = .ok (.new 251, 3) := by decide +kernel
theorem dX8_requireDecoded_10 : decode cX8_requireDecoded 10 = .ok (.dup, 1) := by decide +kernel
theorem dX8_requireDecoded_11 : decode cX8_requireDecoded 11 = .ok (.ldc_w 273, 3) := by decide +kernel
theorem dX8_requireDecoded_14 : decode cX8_requireDecoded 14 = .ok (.invokespecial 255, 3) := by decide +kernel
theorem dX8_requireDecoded_17 : decode cX8_requireDecoded 17 = .ok (.athrow, 1) := by decide +kernel
theorem dX8_requireDecoded_18 : decode cX8_requireDecoded 18 = .ok (.return_, 1) := by decide +kernel
theorem dX8_requireSameSize_0 : decode cX8_requireSameSize 0 = .ok (.aload_n 0, 1) := by decide +kernel
theorem dX8_requireSameSize_1 : decode cX8_requireSameSize 1 = .ok (.getfield 12, 3) := by decide +kernel
theorem dX8_requireSameSize_4 : decode cX8_requireSameSize 4 = .ok (.aload_n 0, 1) := by decide +kernel
theorem dX8_requireSameSize_5 : decode cX8_requireSameSize 5 = .ok (.getfield 31, 3) := by decide +kernel
theorem dX8_requireSameSize_8 : decode cX8_requireSameSize 8 = .ok (.invokevirtual 211, 3) := by decide +kernel
theorem dX8_requireSameSize_11 : decode cX8_requireSameSize 11 = .ok (.ifCond .ne 14, 3) := by decide +kernel
theorem dX8_requireSameSize_14 : decode cX8_requireSameSize 14 = .ok (.new 179, 3) := by decide +kernel
theorem dX8_requireSameSize_17 : decode cX8_requireSameSize 17 = .ok (.dup, 1) := by decide +kernel
theorem dX8_requireSameSize_18 : decode cX8_requireSameSize 18 = .ok (.ldc_w 275, 3) := by decide +kernel
theorem dX8_requireSameSize_21 : decode cX8_requireSameSize 21 = .ok (.invokespecial 183, 3) := by decide +kernel
theorem dX8_requireSameSize_24 : decode cX8_requireSameSize 24 = .ok (.athrow, 1) := by decide +kernel
theorem dX8_requireSameSize_25 : decode cX8_requireSameSize 25 = .ok (.return_, 1) := by decide +kernel
theorem dX8_requireCodedLayer_0 : decode cX8_requireCodedLayer 0 = .ok (.aload_n 0, 1) := by decide +kernel
theorem dX8_requireCodedLayer_1 : decode cX8_requireCodedLayer 1 = .ok (.getfield 52, 3) := by decide +kernel
theorem dX8_requireCodedLayer_4 : decode cX8_requireCodedLayer 4 = .ok (.ifCond .ne 14, 3) := by decide +kernel
theorem dX8_requireCodedLayer_7 : decode cX8_requireCodedLayer 7 = .ok (.new 251, 3) := by decide +kernel
theorem dX8_requireCodedLayer_10 : decode cX8_requireCodedLayer 10 = .ok (.dup, 1) := by decide +kernel
theorem dX8_requireCodedLayer_11 : decode cX8_requireCodedLayer 11 = .ok (.ldc_w 277, 3) := by decide +kernel
theorem dX8_requireCodedLayer_14 : decode cX8_requireCodedLayer 14 = .ok (.invokespecial 255, 3) := by decide +kernel
theorem dX8_requireCodedLayer_17 : decode cX8_requireCodedLayer 17 = .ok (.athrow, 1) := by decide +kernel
theorem dX8_requireCodedLayer_18 : decode cX8_requireCodedLayer 18 = .ok (.iload_n 1, 1) := by decide +kernel
theorem dX8_requireCodedLayer_19 : decode cX8_requireCodedLayer 19 = .ok (.ifCond .lt 11, 3) := by decide +kernel
theorem dX8_requireCodedLayer_22 : decode cX8_requireCodedLayer 22 = .ok (.iload_n 1, 1) := by decide +kernel
theorem dX8_requireCodedLayer_23 : decode cX8_requireCodedLayer 23 = .ok (.aload_n 0, 1) := by decide +kernel
theorem dX8_requireCodedLayer_24 : decode cX8_requireCodedLayer 24 = .ok (.getfield 52, 3) := by decide +kernel
theorem dX8_requireCodedLayer_27 : decode cX8_requireCodedLayer 27 = .ok (.if_icmp .lt 14, 3) := by decide +kernel
theorem dX8_requireCodedLayer_30 : decode cX8_requireCodedLayer 30 = .ok (.new 261, 3) := by decide +kernel
theorem dX8_requireCodedLayer_33 : decode cX8_requireCodedLayer 33 = .ok (.dup, 1) := by decide +kernel
theorem dX8_requireCodedLayer_34 : decode cX8_requireCodedLayer 34 = .ok (.ldc_w 279, 3) := by decide +kernel
theorem dX8_requireCodedLayer_37 : decode cX8_requireCodedLayer 37 = .ok (.invokespecial 265, 3) := by decide +kernel
theorem dX8_requireCodedLayer_40 : decode cX8_requireCodedLayer 40 = .ok (.athrow, 1) := by decide +kernel
theorem dX8_requireCodedLayer_41 : decode cX8_requireCodedLayer 41 = .ok (.return_, 1) := by decide +kernel
theorem dX8_requireCodedPixel_0 : decode cX8_requireCodedPixel 0 = .ok (.aload_n 0, 1) := by decide +kernel
theorem dX8_requireCodedPixel_1 : decode cX8_requireCodedPixel 1 = .ok (.iload_n 1, 1) := by decide +kernel
theorem dX8_requireCodedPixel_2 : decode cX8_requireCodedPixel 2 = .ok (.invokevirtual 221, 3) := by decide +kernel
theorem dX8_requireCodedPixel_5 : decode cX8_requireCodedPixel 5 = .ok (.iload_n 2, 1) := by decide +kernel
theorem dX8_requireCodedPixel_6 : decode cX8_requireCodedPixel 6 = .ok (.ifCond .lt 23, 3) := by decide +kernel
theorem dX8_requireCodedPixel_9 : decode cX8_requireCodedPixel 9 = .ok (.iload_n 2, 1) := by decide +kernel
theorem dX8_requireCodedPixel_10 : decode cX8_requireCodedPixel 10 = .ok (.aload_n 0, 1) := by decide +kernel
theorem dX8_requireCodedPixel_11 : decode cX8_requireCodedPixel 11 = .ok (.getfield 55, 3) := by decide +kernel
theorem dX8_requireCodedPixel_14 : decode cX8_requireCodedPixel 14 = .ok (.if_icmp .ge 15, 3) := by decide +kernel
theorem dX8_requireCodedPixel_17 : decode cX8_requireCodedPixel 17 = .ok (.iload_n 3, 1) := by decide +kernel
theorem dX8_requireCodedPixel_18 : decode cX8_requireCodedPixel 18 = .ok (.ifCond .lt 11, 3) := by decide +kernel
theorem dX8_requireCodedPixel_21 : decode cX8_requireCodedPixel 21 = .ok (.iload_n 3, 1) := by decide +kernel
theorem dX8_requireCodedPixel_22 : decode cX8_requireCodedPixel 22 = .ok (.aload_n 0, 1) := by decide +kernel
theorem dX8_requireCodedPixel_23 : decode cX8_requireCodedPixel 23 = .ok (.getfield 58, 3) := by decide +kernel
theorem dX8_requireCodedPixel_26 : decode cX8_requireCodedPixel 26 = .ok (.if_icmp .lt 14, 3) := by decide +kernel
theorem dX8_requireCodedPixel_29 : decode cX8_requireCodedPixel 29 = .ok (.new 261, 3) := by decide +kernel
theorem dX8_requireCodedPixel_32 : decode cX8_requireCodedPixel 32 = .ok (.dup, 1) := by decide +kernel
theorem dX8_requireCodedPixel_33 : decode cX8_requireCodedPixel 33 = .ok (.ldc_w 281, 3) := by decide +kernel
theorem dX8_requireCodedPixel_36 : decode cX8_requireCodedPixel 36 = .ok (.invokespecial 265, 3) := by decide +kernel
theorem dX8_requireCodedPixel_39 : decode cX8_requireCodedPixel 39 = .ok (.athrow, 1) := by decide +kernel
theorem dX8_requireCodedPixel_40 : decode cX8_requireCodedPixel 40 = .ok (.return_, 1) := by decide +kernel
theorem dX8_slicesOf_0 : decode cX8_slicesOf 0 = .ok (.iload_n 0, 1) := by decide +kernel
theorem dX8_slicesOf_1 : decode cX8_slicesOf 1 = .ok (.bipush 8, 2) := by decide +kernel
theorem dX8_slicesOf_3 : decode cX8_slicesOf 3 = .ok (.iadd, 1) := by decide +kernel
theorem dX8_slicesOf_4 : decode cX8_slicesOf 4 = .ok (.iconst 1, 1) := by decide +kernel
theorem dX8_slicesOf_5 : decode cX8_slicesOf 5 = .ok (.isub, 1) := by decide +kernel
theorem dX8_slicesOf_6 : decode cX8_slicesOf 6 = .ok (.bipush 8, 2) := by decide +kernel
theorem dX8_slicesOf_8 : decode cX8_slicesOf 8 = .ok (.idiv, 1) := by decide +kernel
theorem dX8_slicesOf_9 : decode cX8_slicesOf 9 = .ok (.ireturn, 1) := by decide +kernel
theorem dX8_tilesOf_0 : decode cX8_tilesOf 0 = .ok (.iload_n 0, 1) := by decide +kernel
theorem dX8_tilesOf_1 : decode cX8_tilesOf 1 = .ok (.bipush 8, 2) := by decide +kernel
theorem dX8_tilesOf_3 : decode cX8_tilesOf 3 = .ok (.iadd, 1) := by decide +kernel
theorem dX8_tilesOf_4 : decode cX8_tilesOf 4 = .ok (.iconst 1, 1) := by decide +kernel
theorem dX8_tilesOf_5 : decode cX8_tilesOf 5 = .ok (.isub, 1) := by decide +kernel
theorem dX8_tilesOf_6 : decode cX8_tilesOf 6 = .ok (.bipush 8, 2) := by decide +kernel
theorem dX8_tilesOf_8 : decode cX8_tilesOf 8 = .ok (.idiv, 1) := by decide +kernel
theorem dX8_tilesOf_9 : decode cX8_tilesOf 9 = .ok (.ireturn, 1) := by decide +kernel
theorem dX8_rememberReplacement_0 : decode cX8_rememberReplacement 0 = .ok (.aload_n 0, 1) := by decide +kernel
theorem dX8_rememberReplacement_1 : decode cX8_rememberReplacement 1 = .ok (.iload_n 1, 1) := by decide +kernel
theorem dX8_rememberReplacement_2 : decode cX8_rememberReplacement 2 = .ok (.putfield 52, 3) := by decide +kernel
theorem dX8_rememberReplacement_5 : decode cX8_rememberReplacement 5 = .ok (.aload_n 0, 1) := by decide +kernel
theorem dX8_rememberReplacement_6 : decode cX8_rememberReplacement 6 = .ok (.aload_n 0, 1) := by decide +kernel
theorem dX8_rememberReplacement_7 : decode cX8_rememberReplacement 7 = .ok (.getfield 12, 3) := by decide +kernel
theorem dX8_rememberReplacement_10 : decode cX8_rememberReplacement 10 = .ok (.getfield 119, 3) := by decide +kernel
theorem dX8_rememberReplacement_13 : decode cX8_rememberReplacement 13 = .ok (.putfield 55, 3) := by decide +kernel
theorem dX8_rememberReplacement_16 : decode cX8_rememberReplacement 16 = .ok (.aload_n 0, 1) := by decide +kernel
theorem dX8_rememberReplacement_17 : decode cX8_rememberReplacement 17 = .ok (.aload_n 0, 1) := by decide +kernel
theorem dX8_rememberReplacement_18 : decode cX8_rememberReplacement 18 = .ok (.getfield 12, 3) := by decide +kernel
theorem dX8_rememberReplacement_21 : decode cX8_rememberReplacement 21 = .ok (.getfield 122, 3) := by decide +kernel
theorem dX8_rememberReplacement_24 : decode cX8_rememberReplacement 24 = .ok (.putfield 58, 3) := by decide +kernel
theorem dX8_rememberReplacement_27 : decode cX8_rememberReplacement 27 = .ok (.aload_n 0, 1) := by decide +kernel
theorem dX8_rememberReplacement_28 : decode cX8_rememberReplacement 28 = .ok (.aload_n 0, 1) := by decide +kernel
theorem dX8_rememberReplacement_29 : decode cX8_rememberReplacement 29 = .ok (.getfield 27, 3) := by decide +kernel
theorem dX8_rememberReplacement_32 : decode cX8_rememberReplacement 32 = .ok (.getfield 155, 3) := by decide +kernel
theorem dX8_rememberReplacement_35 : decode cX8_rememberReplacement 35 = .ok (.putfield 61, 3) := by decide +kernel
theorem dX8_rememberReplacement_38 : decode cX8_rememberReplacement 38 = .ok (.aload_n 0, 1) := by decide +kernel
theorem dX8_rememberReplacement_39 : decode cX8_rememberReplacement 39 = .ok (.iconst 3, 1) := by decide +kernel
theorem dX8_rememberReplacement_40 : decode cX8_rememberReplacement 40 = .ok (.aload_n 0, 1) := by decide +kernel
theorem dX8_rememberReplacement_41 : decode cX8_rememberReplacement 41 = .ok (.getfield 12, 3) := by decide +kernel
theorem dX8_rememberReplacement_44 : decode cX8_rememberReplacement 44 = .ok (.getfield 119, 3) := by decide +kernel
theorem dX8_rememberReplacement_47 : decode cX8_rememberReplacement 47 = .ok (.aload_n 0, 1) := by decide +kernel
theorem dX8_rememberReplacement_48 : decode cX8_rememberReplacement 48 = .ok (.getfield 12, 3) := by decide +kernel
theorem dX8_rememberReplacement_51 : decode cX8_rememberReplacement 51 = .ok (.getfield 122, 3) := by decide +kernel
theorem dX8_rememberReplacement_54 : decode cX8_rememberReplacement 54 = .ok (.imul, 1) := by decide +kernel
theorem dX8_rememberReplacement_55 : decode cX8_rememberReplacement 55 = .ok (.iadd, 1) := by decide +kernel
theorem dX8_rememberReplacement_56 : decode cX8_rememberReplacement 56 = .ok (.putfield 64, 3) := by decide +kernel
theorem dX8_rememberReplacement_59 : decode cX8_rememberReplacement 59 = .ok (.return_, 1) := by decide +kernel
theorem dX8_writeCodedHeader_0 : decode cX8_writeCodedHeader 0 = .ok (.aload_n 0, 1) := by decide +kernel
theorem dX8_writeCodedHeader_1 : decode cX8_writeCodedHeader 1 = .ok (.getfield 27, 3) := by decide +kernel
theorem dX8_writeCodedHeader_4 : decode cX8_writeCodedHeader 4 = .ok (.invokevirtual 158, 3) := by decide +kernel
theorem dX8_writeCodedHeader_7 : decode cX8_writeCodedHeader 7 = .ok (.aload_n 0, 1) := by decide +kernel
theorem dX8_writeCodedHeader_8 : decode cX8_writeCodedHeader 8 = .ok (.getfield 27, 3) := by decide +kernel
theorem dX8_writeCodedHeader_11 : decode cX8_writeCodedHeader 11 = .ok (.bipush 80, 2) := by decide +kernel
theorem dX8_writeCodedHeader_13 : decode cX8_writeCodedHeader 13 = .ok (.invokevirtual 160, 3) := by decide +kernel
theorem dX8_writeCodedHeader_16 : decode cX8_writeCodedHeader 16 = .ok (.aload_n 0, 1) := by decide +kernel
theorem dX8_writeCodedHeader_17 : decode cX8_writeCodedHeader 17 = .ok (.getfield 27, 3) := by decide +kernel
theorem dX8_writeCodedHeader_20 : decode cX8_writeCodedHeader 20 = .ok (.aload_n 0, 1) := by decide +kernel
theorem dX8_writeCodedHeader_21 : decode cX8_writeCodedHeader 21 = .ok (.getfield 12, 3) := by decide +kernel
theorem dX8_writeCodedHeader_24 : decode cX8_writeCodedHeader 24 = .ok (.getfield 119, 3) := by decide +kernel
theorem dX8_writeCodedHeader_27 : decode cX8_writeCodedHeader 27 = .ok (.invokevirtual 160, 3) := by decide +kernel
theorem dX8_writeCodedHeader_30 : decode cX8_writeCodedHeader 30 = .ok (.aload_n 0, 1) := by decide +kernel
theorem dX8_writeCodedHeader_31 : decode cX8_writeCodedHeader 31 = .ok (.getfield 27, 3) := by decide +kernel
theorem dX8_writeCodedHeader_34 : decode cX8_writeCodedHeader 34 = .ok (.aload_n 0, 1) := by decide +kernel
theorem dX8_writeCodedHeader_35 : decode cX8_writeCodedHeader 35 = .ok (.getfield 12, 3) := by decide +kernel
theorem dX8_writeCodedHeader_38 : decode cX8_writeCodedHeader 38 = .ok (.getfield 122, 3) := by decide +kernel
theorem dX8_writeCodedHeader_41 : decode cX8_writeCodedHeader 41 = .ok (.invokevirtual 160, 3) := by decide +kernel
theorem dX8_writeCodedHeader_44 : decode cX8_writeCodedHeader 44 = .ok (.aload_n 0, 1) := by decide +kernel
theorem dX8_writeCodedHeader_45 : decode cX8_writeCodedHeader 45 = .ok (.getfield 27, 3) := by decide +kernel
theorem dX8_writeCodedHeader_48 : decode cX8_writeCodedHeader 48 = .ok (.aload_n 0, 1) := by decide +kernel
theorem dX8_writeCodedHeader_49 : decode cX8_writeCodedHeader 49 = .ok (.getfield 20, 3) := by decide +kernel
theorem dX8_writeCodedHeader_52 : decode cX8_writeCodedHeader 52 = .ok (.invokevirtual 160, 3) := by decide +kernel
theorem dX8_writeCodedHeader_55 : decode cX8_writeCodedHeader 55 = .ok (.iconst 0, 1) := by decide +kernel
theorem dX8_writeCodedHeader_56 : decode cX8_writeCodedHeader 56 = .ok (.istore_n 1, 1) := by decide +kernel
theorem dX8_writeCodedHeader_57 : decode cX8_writeCodedHeader 57 = .ok (.iload_n 1, 1) := by decide +kernel
theorem dX8_writeCodedHeader_58 : decode cX8_writeCodedHeader 58 = .ok (.aload_n 0, 1) := by decide +kernel
theorem dX8_writeCodedHeader_59 : decode cX8_writeCodedHeader 59 = .ok (.getfield 20, 3) := by decide +kernel
theorem dX8_writeCodedHeader_62 : decode cX8_writeCodedHeader 62 = .ok (.if_icmp .ge 22, 3) := by decide +kernel
theorem dX8_writeCodedHeader_65 : decode cX8_writeCodedHeader 65 = .ok (.aload_n 0, 1) := by decide +kernel
theorem dX8_writeCodedHeader_66 : decode cX8_writeCodedHeader 66 = .ok (.getfield 27, 3) := by decide +kernel
theorem dX8_writeCodedHeader_69 : decode cX8_writeCodedHeader 69 = .ok (.aload_n 0, 1) := by decide +kernel
theorem dX8_writeCodedHeader_70 : decode cX8_writeCodedHeader 70 = .ok (.getfield 16, 3) := by decide +kernel
theorem dX8_writeCodedHeader_73 : decode cX8_writeCodedHeader 73 = .ok (.iload_n 1, 1) := by decide +kernel
theorem dX8_writeCodedHeader_74 : decode cX8_writeCodedHeader 74 = .ok (.iaload, 1) := by decide +kernel
theorem dX8_writeCodedHeader_75 : decode cX8_writeCodedHeader 75 = .ok (.invokevirtual 160, 3) := by decide +kernel
theorem dX8_writeCodedHeader_78 : decode cX8_writeCodedHeader 78 = .ok (.iinc 1 1, 3) := by decide +kernel
theorem dX8_writeCodedHeader_81 : decode cX8_writeCodedHeader 81 = .ok (.goto (-24), 3) := by decide +kernel
theorem dX8_writeCodedHeader_84 : decode cX8_writeCodedHeader 84 = .ok (.return_, 1) := by decide +kernel
theorem dX8_extendPicture_0 : decode cX8_extendPicture 0 = .ok (.aload_n 0, 1) := by decide +kernel
theorem dX8_extendPicture_1 : decode cX8_extendPicture 1 = .ok (.getfield 12, 3) := by decide +kernel
theorem dX8_extendPicture_4 : decode cX8_extendPicture 4 = .ok (.getfield 119, 3) := by decide +kernel
theorem dX8_extendPicture_7 : decode cX8_extendPicture 7 = .ok (.invokestatic 283, 3) := by decide +kernel
theorem dX8_extendPicture_10 : decode cX8_extendPicture 10 = .ok (.bipush 8, 2) := by decide +kernel
theorem dX8_extendPicture_12 : decode cX8_extendPicture 12 = .ok (.imul, 1) := by decide +kernel
theorem dX8_extendPicture_13 : decode cX8_extendPicture 13 = .ok (.istore_n 1, 1) := by decide +kernel
theorem dX8_extendPicture_14 : decode cX8_extendPicture 14 = .ok (.aload_n 0, 1) := by decide +kernel
theorem dX8_extendPicture_15 : decode cX8_extendPicture 15 = .ok (.getfield 12, 3) := by decide +kernel
theorem dX8_extendPicture_18 : decode cX8_extendPicture 18 = .ok (.getfield 122, 3) := by decide +kernel
theorem dX8_extendPicture_21 : decode cX8_extendPicture 21 = .ok (.invokestatic 266, 3) := by decide +kernel
theorem dX8_extendPicture_24 : decode cX8_extendPicture 24 = .ok (.bipush 8, 2) := by decide +kernel
theorem dX8_extendPicture_26 : decode cX8_extendPicture 26 = .ok (.imul, 1) := by decide +kernel
theorem dX8_extendPicture_27 : decode cX8_extendPicture 27 = .ok (.istore_n 2, 1) := by decide +kernel
theorem dX8_extendPicture_28 : decode cX8_extendPicture 28 = .ok (.iconst 0, 1) := by decide +kernel
theorem dX8_extendPicture_29 : decode cX8_extendPicture 29 = .ok (.istore_n 3, 1) := by decide +kernel
theorem dX8_extendPicture_30 : decode cX8_extendPicture 30 = .ok (.iload_n 3, 1) := by decide +kernel
theorem dX8_extendPicture_31 : decode cX8_extendPicture 31 = .ok (.iload_n 2, 1) := by decide +kernel
theorem dX8_extendPicture_32 : decode cX8_extendPicture 32 = .ok (.if_icmp .ge 70, 3) := by decide +kernel
theorem dX8_extendPicture_35 : decode cX8_extendPicture 35 = .ok (.iconst 0, 1) := by decide +kernel
theorem dX8_extendPicture_36 : decode cX8_extendPicture 36 = .ok (.istore 4, 2) := by decide +kernel
theorem dX8_extendPicture_38 : decode cX8_extendPicture 38 = .ok (.iload 4, 2) := by decide +kernel
theorem dX8_extendPicture_40 : decode cX8_extendPicture 40 = .ok (.iload_n 1, 1) := by decide +kernel
theorem dX8_extendPicture_41 : decode cX8_extendPicture 41 = .ok (.if_icmp .ge 55, 3) := by decide +kernel
theorem dX8_extendPicture_44 : decode cX8_extendPicture 44 = .ok (.aload_n 0, 1) := by decide +kernel
theorem dX8_extendPicture_45 : decode cX8_extendPicture 45 = .ok (.getfield 67, 3) := by decide +kernel
theorem dX8_extendPicture_48 : decode cX8_extendPicture 48 = .ok (.iload_n 3, 1) := by decide +kernel
theorem dX8_extendPicture_49 : decode cX8_extendPicture 49 = .ok (.bipush 16, 2) := by decide +kernel
theorem dX8_extendPicture_51 : decode cX8_extendPicture 51 = .ok (.imul, 1) := by decide +kernel
theorem dX8_extendPicture_52 : decode cX8_extendPicture 52 = .ok (.iload 4, 2) := by decide +kernel
theorem dX8_extendPicture_54 : decode cX8_extendPicture 54 = .ok (.iadd, 1) := by decide +kernel
theorem dX8_extendPicture_55 : decode cX8_extendPicture 55 = .ok (.aload_n 0, 1) := by decide +kernel
theorem dX8_extendPicture_56 : decode cX8_extendPicture 56 = .ok (.getfield 12, 3) := by decide +kernel
theorem dX8_extendPicture_59 : decode cX8_extendPicture 59 = .ok (.iload 4, 2) := by decide +kernel
theorem dX8_extendPicture_61 : decode cX8_extendPicture 61 = .ok (.aload_n 0, 1) := by decide +kernel
theorem dX8_extendPicture_62 : decode cX8_extendPicture 62 = .ok (.getfield 12, 3) := by decide +kernel
theorem dX8_extendPicture_65 : decode cX8_extendPicture 65 = .ok (.getfield 119, 3) := by decide +kernel
theorem dX8_extendPicture_68 : decode cX8_extendPicture 68 = .ok (.iconst 1, 1) := by decide +kernel
theorem dX8_extendPicture_69 : decode cX8_extendPicture 69 = .ok (.isub, 1) := by decide +kernel
theorem dX8_extendPicture_70 : decode cX8_extendPicture 70 = .ok (.invokestatic 190, 3) := by decide +kernel
theorem dX8_extendPicture_73 : decode cX8_extendPicture 73 = .ok (.iload_n 3, 1) := by decide +kernel
theorem dX8_extendPicture_74 : decode cX8_extendPicture 74 = .ok (.aload_n 0, 1) := by decide +kernel
theorem dX8_extendPicture_75 : decode cX8_extendPicture 75 = .ok (.getfield 12, 3) := by decide +kernel
theorem dX8_extendPicture_78 : decode cX8_extendPicture 78 = .ok (.getfield 122, 3) := by decide +kernel
theorem dX8_extendPicture_81 : decode cX8_extendPicture 81 = .ok (.iconst 1, 1) := by decide +kernel
theorem dX8_extendPicture_82 : decode cX8_extendPicture 82 = .ok (.isub, 1) := by decide +kernel
theorem dX8_extendPicture_83 : decode cX8_extendPicture 83 = .ok (.invokestatic 190, 3) := by decide +kernel
theorem dX8_extendPicture_86 : decode cX8_extendPicture 86 = .ok (.invokevirtual 111, 3) := by decide +kernel
theorem dX8_extendPicture_89 : decode cX8_extendPicture 89 = .ok (.iastore, 1) := by decide +kernel
theorem dX8_extendPicture_90 : decode cX8_extendPicture 90 = .ok (.iinc 4 1, 3) := by decide +kernel
theorem dX8_extendPicture_93 : decode cX8_extendPicture 93 = .ok (.goto (-55), 3) := by decide +kernel
theorem dX8_extendPicture_96 : decode cX8_extendPicture 96 = .ok (.iinc 3 1, 3) := by decide +kernel
theorem dX8_extendPicture_99 : decode cX8_extendPicture 99 = .ok (.goto (-69), 3) := by decide +kernel
theorem dX8_extendPicture_102 : decode cX8_extendPicture 102 = .ok (.return_, 1) := by decide +kernel
theorem dX8_subtractFromTarget_0 : decode cX8_subtractFromTarget 0 = .ok (.iconst 0, 1) := by decide +kernel
theorem dX8_subtractFromTarget_1 : decode cX8_subtractFromTarget 1 = .ok (.istore_n 2, 1) := by decide +kernel
theorem dX8_subtractFromTarget_2 : decode cX8_subtractFromTarget 2 = .ok (.iload_n 2, 1) := by decide +kernel
theorem dX8_subtractFromTarget_3 : decode cX8_subtractFromTarget 3 = .ok (.sipush 384, 3) := by decide +kernel
theorem dX8_subtractFromTarget_6 : decode cX8_subtractFromTarget 6 = .ok (.if_icmp .ge 24, 3) := by decide +kernel
theorem dX8_subtractFromTarget_9 : decode cX8_subtractFromTarget 9 = .ok (.aload_n 0, 1) := by decide +kernel
theorem dX8_subtractFromTarget_10 : decode cX8_subtractFromTarget 10 = .ok (.getfield 67, 3) := by decide +kernel
theorem dX8_subtractFromTarget_13 : decode cX8_subtractFromTarget 13 = .ok (.iload_n 2, 1) := by decide +kernel
theorem dX8_subtractFromTarget_14 : decode cX8_subtractFromTarget 14 = .ok (.dup2, 1) := by decide +kernel
theorem dX8_subtractFromTarget_15 : decode cX8_subtractFromTarget 15 = .ok (.iaload, 1) := by decide +kernel
theorem dX8_subtractFromTarget_16 : decode cX8_subtractFromTarget 16 = .ok (.aload_n 1, 1) := by decide +kernel
theorem dX8_subtractFromTarget_17 : decode cX8_subtractFromTarget 17 = .ok (.getfield 286, 3) := by decide +kernel
theorem dX8_subtractFromTarget_20 : decode cX8_subtractFromTarget 20 = .ok (.iload_n 2, 1) := by decide +kernel
theorem dX8_subtractFromTarget_21 : decode cX8_subtractFromTarget 21 = .ok (.iaload, 1) := by decide +kernel
theorem dX8_subtractFromTarget_22 : decode cX8_subtractFromTarget 22 = .ok (.isub, 1) := by decide +kernel
theorem dX8_subtractFromTarget_23 : decode cX8_subtractFromTarget 23 = .ok (.iastore, 1) := by decide +kernel
theorem dX8_subtractFromTarget_24 : decode cX8_subtractFromTarget 24 = .ok (.iinc 2 1, 3) := by decide +kernel
theorem dX8_subtractFromTarget_27 : decode cX8_subtractFromTarget 27 = .ok (.goto (-25), 3) := by decide +kernel
theorem dX8_subtractFromTarget_30 : decode cX8_subtractFromTarget 30 = .ok (.return_, 1) := by decide +kernel
theorem dX8_encodeLayer_0 : decode cX8_encodeLayer 0 = .ok (.aload_n 0, 1) := by decide +kernel
theorem dX8_encodeLayer_1 : decode cX8_encodeLayer 1 = .ok (.getfield 12, 3) := by decide +kernel
theorem dX8_encodeLayer_4 : decode cX8_encodeLayer 4 = .ok (.getfield 119, 3) := by decide +kernel
theorem dX8_encodeLayer_7 : decode cX8_encodeLayer 7 = .ok (.invokestatic 283, 3) := by decide +kernel
theorem dX8_encodeLayer_10 : decode cX8_encodeLayer 10 = .ok (.istore_n 2, 1) := by decide +kernel
theorem dX8_encodeLayer_11 : decode cX8_encodeLayer 11 = .ok (.aload_n 0, 1) := by decide +kernel
theorem dX8_encodeLayer_12 : decode cX8_encodeLayer 12 = .ok (.getfield 12, 3) := by decide +kernel
theorem dX8_encodeLayer_15 : decode cX8_encodeLayer 15 = .ok (.getfield 122, 3) := by decide +kernel
theorem dX8_encodeLayer_18 : decode cX8_encodeLayer 18 = .ok (.invokestatic 266, 3) := by decide +kernel
theorem dX8_encodeLayer_21 : decode cX8_encodeLayer 21 = .ok (.istore_n 3, 1) := by decide +kernel
theorem dX8_encodeLayer_22 : decode cX8_encodeLayer 22 = .ok (.aload_n 1, 1) := by decide +kernel
theorem dX8_encodeLayer_23 : decode cX8_encodeLayer 23 = .ok (.iconst 0, 1) := by decide +kernel
theorem dX8_encodeLayer_24 : decode cX8_encodeLayer 24 = .ok (.putfield 224, 3) := by decide +kernel
theorem dX8_encodeLayer_27 : decode cX8_encodeLayer 27 = .ok (.iconst 0, 1) := by decide +kernel
theorem dX8_encodeLayer_28 : decode cX8_encodeLayer 28 = .ok (.istore 4, 2) := by decide +kernel
theorem dX8_encodeLayer_30 : decode cX8_encodeLayer 30 = .ok (.iload 4, 2) := by decide +kernel
theorem dX8_encodeLayer_32 : decode cX8_encodeLayer 32 = .ok (.iload_n 3, 1) := by decide +kernel
theorem dX8_encodeLayer_33 : decode cX8_encodeLayer 33 = .ok (.if_icmp .ge 85, 3) := by decide +kernel
theorem dX8_encodeLayer_36 : decode cX8_encodeLayer 36 = .ok (.iconst 0, 1) := by decide +kernel
theorem dX8_encodeLayer_37 : decode cX8_encodeLayer 37 = .ok (.istore 5, 2) := by decide +kernel
theorem dX8_encodeLayer_39 : decode cX8_encodeLayer 39 = .ok (.iload 5, 2) := by decide +kernel
theorem dX8_encodeLayer_41 : decode cX8_encodeLayer 41 = .ok (.iload_n 2, 1) := by decide +kernel
theorem dX8_encodeLayer_42 : decode cX8_encodeLayer 42 = .ok (.if_icmp .ge 27, 3) := by decide +kernel
theorem dX8_encodeLayer_45 : decode cX8_encodeLayer 45 = .ok (.aload_n 1, 1) := by decide +kernel
theorem dX8_encodeLayer_46 : decode cX8_encodeLayer 46 = .ok (.aload_n 0, 1) := by decide +kernel
theorem dX8_encodeLayer_47 : decode cX8_encodeLayer 47 = .ok (.getfield 67, 3) := by decide +kernel
theorem dX8_encodeLayer_50 : decode cX8_encodeLayer 50 = .ok (.iload 5, 2) := by decide +kernel
theorem dX8_encodeLayer_52 : decode cX8_encodeLayer 52 = .ok (.bipush 8, 2) := by decide +kernel
theorem dX8_encodeLayer_54 : decode cX8_encodeLayer 54 = .ok (.imul, 1) := by decide +kernel
theorem dX8_encodeLayer_55 : decode cX8_encodeLayer 55 = .ok (.iload 4, 2) := by decide +kernel
theorem dX8_encodeLayer_57 : decode cX8_encodeLayer 57 = .ok (.bipush 8, 2) := by decide +kernel
theorem dX8_encodeLayer_59 : decode cX8_encodeLayer 59 = .ok (.imul, 1) := by decide +kernel
theorem dX8_encodeLayer_60 : decode cX8_encodeLayer 60 = .ok (.invokevirtual 289, 3) := by decide +kernel
theorem dX8_encodeLayer_63 : decode cX8_encodeLayer 63 = .ok (.iinc 5 1, 3) := by decide +kernel
theorem dX8_encodeLayer_66 : decode cX8_encodeLayer 66 = .ok (.goto (-27), 3) := by decide +kernel
theorem dX8_encodeLayer_69 : decode cX8_encodeLayer 69 = .ok (.aload_n 0, 1) := by decide +kernel
theorem dX8_encodeLayer_70 : decode cX8_encodeLayer 70 = .ok (.getfield 77, 3) := by decide +kernel
theorem dX8_encodeLayer_73 : decode cX8_encodeLayer 73 = .ok (.invokevirtual 293, 3) := by decide +kernel
theorem dX8_encodeLayer_76 : decode cX8_encodeLayer 76 = .ok (.aload_n 0, 1) := by decide +kernel
theorem dX8_encodeLayer_77 : decode cX8_encodeLayer 77 = .ok (.getfield 77, 3) := by decide +kernel
theorem dX8_encodeLayer_80 : decode cX8_encodeLayer 80 = .ok (.aload_n 1, 1) := by decide +kernel
theorem dX8_encodeLayer_81 : decode cX8_encodeLayer 81 = .ok (.iload 4, 2) := by decide +kernel
theorem dX8_encodeLayer_83 : decode cX8_encodeLayer 83 = .ok (.iload_n 2, 1) := by decide +kernel
theorem dX8_encodeLayer_84 : decode cX8_encodeLayer 84 = .ok (.invokestatic 296, 3) := by decide +kernel
theorem dX8_encodeLayer_87 : decode cX8_encodeLayer 87 = .ok (.aload_n 0, 1) := by decide +kernel
theorem dX8_encodeLayer_88 : decode cX8_encodeLayer 88 = .ok (.getfield 77, 3) := by decide +kernel
theorem dX8_encodeLayer_91 : decode cX8_encodeLayer 91 = .ok (.invokevirtual 300, 3) := by decide +kernel
theorem dX8_encodeLayer_94 : decode cX8_encodeLayer 94 = .ok (.aload_n 1, 1) := by decide +kernel
theorem dX8_encodeLayer_95 : decode cX8_encodeLayer 95 = .ok (.getfield 248, 3) := by decide +kernel
theorem dX8_encodeLayer_98 : decode cX8_encodeLayer 98 = .ok (.iload 4, 2) := by decide +kernel
theorem dX8_encodeLayer_100 : decode cX8_encodeLayer 100 = .ok (.aload_n 0, 1) := by decide +kernel
theorem dX8_encodeLayer_101 : decode cX8_encodeLayer 101 = .ok (.getfield 77, 3) := by decide +kernel
theorem dX8_encodeLayer_104 : decode cX8_encodeLayer 104 = .ok (.invokevirtual 303, 3) := by decide +kernel
theorem dX8_encodeLayer_107 : decode cX8_encodeLayer 107 = .ok (.iastore, 1) := by decide +kernel
theorem dX8_encodeLayer_108 : decode cX8_encodeLayer 108 = .ok (.aload_n 0, 1) := by decide +kernel
theorem dX8_encodeLayer_109 : decode cX8_encodeLayer 109 = .ok (.invokevirtual 306, 3) := by decide +kernel
theorem dX8_encodeLayer_112 : decode cX8_encodeLayer 112 = .ok (.iinc 4 1, 3) := by decide +kernel
theorem dX8_encodeLayer_115 : decode cX8_encodeLayer 115 = .ok (.goto (-85), 3) := by decide +kernel
theorem dX8_encodeLayer_118 : decode cX8_encodeLayer 118 = .ok (.return_, 1) := by decide +kernel
theorem dX8_appendPart_0 : decode cX8_appendPart 0 = .ok (.aload_n 0, 1) := by decide +kernel
theorem dX8_appendPart_1 : decode cX8_appendPart 1 = .ok (.getfield 77, 3) := by decide +kernel
theorem dX8_appendPart_4 : decode cX8_appendPart 4 = .ok (.invokevirtual 303, 3) := by decide +kernel
theorem dX8_appendPart_7 : decode cX8_appendPart 7 = .ok (.istore_n 1, 1) := by decide +kernel
theorem dX8_appendPart_8 : decode cX8_appendPart 8 = .ok (.aload_n 0, 1) := by decide +kernel
theorem dX8_appendPart_9 : decode cX8_appendPart 9 = .ok (.getfield 27, 3) := by decide +kernel
theorem dX8_appendPart_12 : decode cX8_appendPart 12 = .ok (.iload_n 1, 1) := by decide +kernel
theorem dX8_appendPart_13 : decode cX8_appendPart 13 = .ok (.sipush 256, 3) := by decide +kernel
theorem dX8_appendPart_16 : decode cX8_appendPart 16 = .ok (.idiv, 1) := by decide +kernel
theorem dX8_appendPart_17 : decode cX8_appendPart 17 = .ok (.invokevirtual 160, 3) := by decide +kernel
theorem dX8_appendPart_20 : decode cX8_appendPart 20 = .ok (.aload_n 0, 1) := by decide +kernel
theorem dX8_appendPart_21 : decode cX8_appendPart 21 = .ok (.getfield 27, 3) := by decide +kernel
theorem dX8_appendPart_24 : decode cX8_appendPart 24 = .ok (.iload_n 1, 1) := by decide +kernel
theorem dX8_appendPart_25 : decode cX8_appendPart 25 = .ok (.sipush 256, 3) := by decide +kernel
theorem dX8_appendPart_28 : decode cX8_appendPart 28 = .ok (.irem, 1) := by decide +kernel
theorem dX8_appendPart_29 : decode cX8_appendPart 29 = .ok (.invokevirtual 160, 3) := by decide +kernel
theorem dX8_appendPart_32 : decode cX8_appendPart 32 = .ok (.aload_n 0, 1) := by decide +kernel
theorem dX8_appendPart_33 : decode cX8_appendPart 33 = .ok (.getfield 27, 3) := by decide +kernel
theorem dX8_appendPart_36 : decode cX8_appendPart 36 = .ok (.aload_n 0, 1) := by decide +kernel
theorem dX8_appendPart_37 : decode cX8_appendPart 37 = .ok (.getfield 77, 3) := by decide +kernel
theorem dX8_appendPart_40 : decode cX8_appendPart 40 = .ok (.getfield 309, 3) := by decide +kernel
theorem dX8_appendPart_43 : decode cX8_appendPart 43 = .ok (.iconst 0, 1) := by decide +kernel
theorem dX8_appendPart_44 : decode cX8_appendPart 44 = .ok (.iload_n 1, 1) := by decide +kernel
theorem dX8_appendPart_45 : decode cX8_appendPart 45 = .ok (.invokestatic 312, 3) := by decide +kernel
theorem dX8_appendPart_48 : decode cX8_appendPart 48 = .ok (.invokevirtual 160, 3) := by decide +kernel
theorem dX8_appendPart_51 : decode cX8_appendPart 51 = .ok (.iconst 0, 1) := by decide +kernel
theorem dX8_appendPart_52 : decode cX8_appendPart 52 = .ok (.istore_n 2, 1) := by decide +kernel
theorem dX8_appendPart_53 : decode cX8_appendPart 53 = .ok (.iload_n 2, 1) := by decide +kernel
theorem dX8_appendPart_54 : decode cX8_appendPart 54 = .ok (.iload_n 1, 1) := by decide +kernel
theorem dX8_appendPart_55 : decode cX8_appendPart 55 = .ok (.if_icmp .ge 25, 3) := by decide +kernel
theorem dX8_appendPart_58 : decode cX8_appendPart 58 = .ok (.aload_n 0, 1) := by decide +kernel
theorem dX8_appendPart_59 : decode cX8_appendPart 59 = .ok (.getfield 27, 3) := by decide +kernel
theorem dX8_appendPart_62 : decode cX8_appendPart 62 = .ok (.aload_n 0, 1) := by decide +kernel
theorem dX8_appendPart_63 : decode cX8_appendPart 63 = .ok (.getfield 77, 3) := by decide +kernel
theorem dX8_appendPart_66 : decode cX8_appendPart 66 = .ok (.getfield 309, 3) := by decide +kernel
theorem dX8_appendPart_69 : decode cX8_appendPart 69 = .ok (.iload_n 2, 1) := by decide +kernel
theorem dX8_appendPart_70 : decode cX8_appendPart 70 = .ok (.iaload, 1) := by decide +kernel
theorem dX8_appendPart_71 : decode cX8_appendPart 71 = .ok (.invokevirtual 160, 3) := by decide +kernel
theorem dX8_appendPart_74 : decode cX8_appendPart 74 = .ok (.iinc 2 1, 3) := by decide +kernel
theorem dX8_appendPart_77 : decode cX8_appendPart 77 = .ok (.goto (-24), 3) := by decide +kernel
theorem dX8_appendPart_80 : decode cX8_appendPart 80 = .ok (.return_, 1) := by decide +kernel
theorem dX8_checksum_0 : decode cX8_checksum 0 = .ok (.iconst 0, 1) := by decide +kernel
theorem dX8_checksum_1 : decode cX8_checksum 1 = .ok (.istore_n 3, 1) := by decide +kernel
theorem dX8_checksum_2 : decode cX8_checksum 2 = .ok (.iconst 0, 1) := by decide +kernel
theorem dX8_checksum_3 : decode cX8_checksum 3 = .ok (.istore 4, 2) := by decide +kernel
theorem dX8_checksum_5 : decode cX8_checksum 5 = .ok (.iload 4, 2) := by decide +kernel
theorem dX8_checksum_7 : decode cX8_checksum 7 = .ok (.iload_n 2, 1) := by decide +kernel
theorem dX8_checksum_8 : decode cX8_checksum 8 = .ok (.if_icmp .ge 27, 3) := by decide +kernel
theorem dX8_checksum_11 : decode cX8_checksum 11 = .ok (.iload_n 3, 1) := by decide +kernel
theorem dX8_checksum_12 : decode cX8_checksum 12 = .ok (.iload 4, 2) := by decide +kernel
theorem dX8_checksum_14 : decode cX8_checksum 14 = .ok (.iconst 1, 1) := by decide +kernel
theorem dX8_checksum_15 : decode cX8_checksum 15 = .ok (.iadd, 1) := by decide +kernel
theorem dX8_checksum_16 : decode cX8_checksum 16 = .ok (.aload_n 0, 1) := by decide +kernel
theorem dX8_checksum_17 : decode cX8_checksum 17 = .ok (.iload_n 1, 1) := by decide +kernel
theorem dX8_checksum_18 : decode cX8_checksum 18 = .ok (.iload 4, 2) := by decide +kernel
theorem dX8_checksum_20 : decode cX8_checksum 20 = .ok (.iadd, 1) := by decide +kernel
theorem dX8_checksum_21 : decode cX8_checksum 21 = .ok (.iaload, 1) := by decide +kernel
theorem dX8_checksum_22 : decode cX8_checksum 22 = .ok (.imul, 1) := by decide +kernel
theorem dX8_checksum_23 : decode cX8_checksum 23 = .ok (.iadd, 1) := by decide +kernel
theorem dX8_checksum_24 : decode cX8_checksum 24 = .ok (.sipush 251, 3) := by decide +kernel
theorem dX8_checksum_27 : decode cX8_checksum 27 = .ok (.irem, 1) := by decide +kernel
theorem dX8_checksum_28 : decode cX8_checksum 28 = .ok (.istore_n 3, 1) := by decide +kernel
theorem dX8_checksum_29 : decode cX8_checksum 29 = .ok (.iinc 4 1, 3) := by decide +kernel
theorem dX8_checksum_32 : decode cX8_checksum 32 = .ok (.goto (-27), 3) := by decide +kernel
theorem dX8_checksum_35 : decode cX8_checksum 35 = .ok (.iload_n 3, 1) := by decide +kernel
theorem dX8_checksum_36 : decode cX8_checksum 36 = .ok (.ireturn, 1) := by decide +kernel
theorem dX8_codePart_0 : decode cX8_codePart 0 = .ok (.iload_n 2, 1) := by decide +kernel
theorem dX8_codePart_1 : decode cX8_codePart 1 = .ok (.bipush 8, 2) := by decide +kernel
theorem dX8_codePart_3 : decode cX8_codePart 3 = .ok (.imul, 1) := by decide +kernel
theorem dX8_codePart_4 : decode cX8_codePart 4 = .ok (.istore 4, 2) := by decide +kernel
theorem dX8_codePart_6 : decode cX8_codePart 6 = .ok (.iconst 0, 1) := by decide +kernel
theorem dX8_codePart_7 : decode cX8_codePart 7 = .ok (.istore 5, 2) := by decide +kernel
theorem dX8_codePart_9 : decode cX8_codePart 9 = .ok (.iload 5, 2) := by decide +kernel
theorem dX8_codePart_11 : decode cX8_codePart 11 = .ok (.iload_n 3, 1) := by decide +kernel
theorem dX8_codePart_12 : decode cX8_codePart 12 = .ok (.if_icmp .ge 121, 3) := by decide +kernel
theorem dX8_codePart_15 : decode cX8_codePart 15 = .ok (.iload 5, 2) := by decide +kernel
theorem dX8_codePart_17 : decode cX8_codePart 17 = .ok (.bipush 8, 2) := by decide +kernel
theorem dX8_codePart_19 : decode cX8_codePart 19 = .ok (.imul, 1) := by decide +kernel
theorem dX8_codePart_20 : decode cX8_codePart 20 = .ok (.istore 6, 2) := by decide +kernel
theorem dX8_codePart_22 : decode cX8_codePart 22 = .ok (.aload_n 0, 1) := by decide +kernel
theorem dX8_codePart_23 : decode cX8_codePart 23 = .ok (.aload_n 1, 1) := by decide +kernel
theorem dX8_codePart_24 : decode cX8_codePart 24 = .ok (.iload 6, 2) := by decide +kernel
theorem dX8_codePart_26 : decode cX8_codePart 26 = .ok (.iload 4, 2) := by decide +kernel
theorem dX8_codePart_28 : decode cX8_codePart 28 = .ok (.invokevirtual 230, 3) := by decide +kernel
theorem dX8_codePart_31 : decode cX8_codePart 31 = .ok (.iconst 4, 1) := by decide +kernel
theorem dX8_codePart_32 : decode cX8_codePart 32 = .ok (.if_icmp .ne 7, 3) := by decide +kernel
theorem dX8_codePart_35 : decode cX8_codePart 35 = .ok (.iconst 1, 1) := by decide +kernel
theorem dX8_codePart_36 : decode cX8_codePart 36 = .ok (.goto 4, 3) := by decide +kernel
theorem dX8_codePart_39 : decode cX8_codePart 39 = .ok (.iconst 0, 1) := by decide +kernel
theorem dX8_codePart_40 : decode cX8_codePart 40 = .ok (.iconst 0, 1) := by decide +kernel
theorem dX8_codePart_41 : decode cX8_codePart 41 = .ok (.invokevirtual 316, 3) := by decide +kernel
theorem dX8_codePart_44 : decode cX8_codePart 44 = .ok (.istore 7, 2) := by decide +kernel
theorem dX8_codePart_46 : decode cX8_codePart 46 = .ok (.iload 7, 2) := by decide +kernel
theorem dX8_codePart_48 : decode cX8_codePart 48 = .ok (.iconst 1, 1) := by decide +kernel
theorem dX8_codePart_49 : decode cX8_codePart 49 = .ok (.if_icmp .ne 7, 3) := by decide +kernel
theorem dX8_codePart_52 : decode cX8_codePart 52 = .ok (.iconst 4, 1) := by decide +kernel
theorem dX8_codePart_53 : decode cX8_codePart 53 = .ok (.goto 5, 3) := by decide +kernel
theorem dX8_codePart_56 : decode cX8_codePart 56 = .ok (.bipush 8, 2) := by decide +kernel
theorem dX8_codePart_58 : decode cX8_codePart 58 = .ok (.istore 8, 2) := by decide +kernel
theorem dX8_codePart_60 : decode cX8_codePart 60 = .ok (.aload_n 1, 1) := by decide +kernel
theorem dX8_codePart_61 : decode cX8_codePart 61 = .ok (.iload 6, 2) := by decide +kernel
theorem dX8_codePart_63 : decode cX8_codePart 63 = .ok (.iload 4, 2) := by decide +kernel
theorem dX8_codePart_65 : decode cX8_codePart 65 = .ok (.iload 8, 2) := by decide +kernel
theorem dX8_codePart_67 : decode cX8_codePart 67 = .ok (.invokevirtual 321, 3) := by decide +kernel
theorem dX8_codePart_70 : decode cX8_codePart 70 = .ok (.iconst 0, 1) := by decide +kernel
theorem dX8_codePart_71 : decode cX8_codePart 71 = .ok (.istore 9, 2) := by decide +kernel
theorem dX8_codePart_73 : decode cX8_codePart 73 = .ok (.iload 9, 2) := by decide +kernel
theorem dX8_codePart_75 : decode cX8_codePart 75 = .ok (.bipush 8, 2) := by decide +kernel
theorem dX8_codePart_77 : decode cX8_codePart 77 = .ok (.if_icmp .ge 50, 3) := by decide +kernel
theorem dX8_codePart_80 : decode cX8_codePart 80 = .ok (.iconst 0, 1) := by decide +kernel
theorem dX8_codePart_81 : decode cX8_codePart 81 = .ok (.istore 10, 2) := by decide +kernel
theorem dX8_codePart_83 : decode cX8_codePart 83 = .ok (.iload 10, 2) := by decide +kernel
theorem dX8_codePart_85 : decode cX8_codePart 85 = .ok (.bipush 8, 2) := by decide +kernel
theorem dX8_codePart_87 : decode cX8_codePart 87 = .ok (.if_icmp .ge 30, 3) := by decide +kernel
theorem dX8_codePart_90 : decode cX8_codePart 90 = .ok (.aload_n 0, 1) := by decide +kernel
theorem dX8_codePart_91 : decode cX8_codePart 91 = .ok (.aload_n 1, 1) := by decide +kernel
theorem dX8_codePart_92 : decode cX8_codePart 92 = .ok (.iload 6, 2) := by decide +kernel
theorem dX8_codePart_94 : decode cX8_codePart 94 = .ok (.iload 10, 2) := by decide +kernel
theorem dX8_codePart_96 : decode cX8_codePart 96 = .ok (.iadd, 1) := by decide +kernel
theorem dX8_codePart_97 : decode cX8_codePart 97 = .ok (.iload 4, 2) := by decide +kernel
theorem dX8_codePart_99 : decode cX8_codePart 99 = .ok (.iload 9, 2) := by decide +kernel
theorem dX8_codePart_101 : decode cX8_codePart 101 = .ok (.iadd, 1) := by decide +kernel
theorem dX8_codePart_102 : decode cX8_codePart 102 = .ok (.iload 8, 2) := by decide +kernel
theorem dX8_codePart_104 : decode cX8_codePart 104 = .ok (.invokestatic 324, 3) := by decide +kernel
theorem dX8_codePart_107 : decode cX8_codePart 107 = .ok (.iload 10, 2) := by decide +kernel
theorem dX8_codePart_109 : decode cX8_codePart 109 = .ok (.iload 8, 2) := by decide +kernel
theorem dX8_codePart_111 : decode cX8_codePart 111 = .ok (.iadd, 1) := by decide +kernel
theorem dX8_codePart_112 : decode cX8_codePart 112 = .ok (.istore 10, 2) := by decide +kernel
theorem dX8_codePart_114 : decode cX8_codePart 114 = .ok (.goto (-31), 3) := by decide +kernel
theorem dX8_codePart_117 : decode cX8_codePart 117 = .ok (.iload 9, 2) := by decide +kernel
theorem dX8_codePart_119 : decode cX8_codePart 119 = .ok (.iload 8, 2) := by decide +kernel
theorem dX8_codePart_121 : decode cX8_codePart 121 = .ok (.iadd, 1) := by decide +kernel
theorem dX8_codePart_122 : decode cX8_codePart 122 = .ok (.istore 9, 2) := by decide +kernel
theorem dX8_codePart_124 : decode cX8_codePart 124 = .ok (.goto (-51), 3) := by decide +kernel
theorem dX8_codePart_127 : decode cX8_codePart 127 = .ok (.iinc 5 1, 3) := by decide +kernel
theorem dX8_codePart_130 : decode cX8_codePart 130 = .ok (.goto (-121), 3) := by decide +kernel
theorem dX8_codePart_133 : decode cX8_codePart 133 = .ok (.return_, 1) := by decide +kernel
theorem dX8_codeBlock_0 : decode cX8_codeBlock 0 = .ok (.aload_n 1, 1) := by decide +kernel
theorem dX8_codeBlock_1 : decode cX8_codeBlock 1 = .ok (.iload_n 2, 1) := by decide +kernel
theorem dX8_codeBlock_2 : decode cX8_codeBlock 2 = .ok (.iload_n 3, 1) := by decide +kernel
theorem dX8_codeBlock_3 : decode cX8_codeBlock 3 = .ok (.invokevirtual 239, 3) := by decide +kernel
theorem dX8_codeBlock_6 : decode cX8_codeBlock 6 = .ok (.istore 5, 2) := by decide +kernel
theorem dX8_codeBlock_8 : decode cX8_codeBlock 8 = .ok (.aload_n 0, 1) := by decide +kernel
theorem dX8_codeBlock_9 : decode cX8_codeBlock 9 = .ok (.aload_n 1, 1) := by decide +kernel
theorem dX8_codeBlock_10 : decode cX8_codeBlock 10 = .ok (.getfield 236, 3) := by decide +kernel
theorem dX8_codeBlock_13 : decode cX8_codeBlock 13 = .ok (.iload 5, 2) := by decide +kernel
theorem dX8_codeBlock_15 : decode cX8_codeBlock 15 = .ok (.iaload, 1) := by decide +kernel
theorem dX8_codeBlock_16 : decode cX8_codeBlock 16 = .ok (.iconst 2, 1) := by decide +kernel
theorem dX8_codeBlock_17 : decode cX8_codeBlock 17 = .ok (.idiv, 1) := by decide +kernel
theorem dX8_codeBlock_18 : decode cX8_codeBlock 18 = .ok (.iconst 1, 1) := by decide +kernel
theorem dX8_codeBlock_19 : decode cX8_codeBlock 19 = .ok (.invokevirtual 316, 3) := by decide +kernel
theorem dX8_codeBlock_22 : decode cX8_codeBlock 22 = .ok (.istore 6, 2) := by decide +kernel
theorem dX8_codeBlock_24 : decode cX8_codeBlock 24 = .ok (.aload_n 0, 1) := by decide +kernel
theorem dX8_codeBlock_25 : decode cX8_codeBlock 25 = .ok (.aload_n 1, 1) := by decide +kernel
theorem dX8_codeBlock_26 : decode cX8_codeBlock 26 = .ok (.getfield 236, 3) := by decide +kernel
theorem dX8_codeBlock_29 : decode cX8_codeBlock 29 = .ok (.iload 5, 2) := by decide +kernel
theorem dX8_codeBlock_31 : decode cX8_codeBlock 31 = .ok (.iaload, 1) := by decide +kernel
theorem dX8_codeBlock_32 : decode cX8_codeBlock 32 = .ok (.iconst 2, 1) := by decide +kernel
theorem dX8_codeBlock_33 : decode cX8_codeBlock 33 = .ok (.irem, 1) := by decide +kernel
theorem dX8_codeBlock_34 : decode cX8_codeBlock 34 = .ok (.iconst 2, 1) := by decide +kernel
theorem dX8_codeBlock_35 : decode cX8_codeBlock 35 = .ok (.iload 6, 2) := by decide +kernel
theorem dX8_codeBlock_37 : decode cX8_codeBlock 37 = .ok (.iadd, 1) := by decide +kernel
theorem dX8_codeBlock_38 : decode cX8_codeBlock 38 = .ok (.invokevirtual 316, 3) := by decide +kernel
theorem dX8_codeBlock_41 : decode cX8_codeBlock 41 = .ok (.istore 7, 2) := by decide +kernel
theorem dX8_codeBlock_43 : decode cX8_codeBlock 43 = .ok (.aload_n 1, 1) := by decide +kernel
theorem dX8_codeBlock_44 : decode cX8_codeBlock 44 = .ok (.getfield 236, 3) := by decide +kernel
theorem dX8_codeBlock_47 : decode cX8_codeBlock 47 = .ok (.iload 5, 2) := by decide +kernel
theorem dX8_codeBlock_49 : decode cX8_codeBlock 49 = .ok (.iload 6, 2) := by decide +kernel
theorem dX8_codeBlock_51 : decode cX8_codeBlock 51 = .ok (.iconst 2, 1) := by decide +kernel
theorem dX8_codeBlock_52 : decode cX8_codeBlock 52 = .ok (.imul, 1) := by decide +kernel
theorem dX8_codeBlock_53 : decode cX8_codeBlock 53 = .ok (.iload 7, 2) := by decide +kernel
theorem dX8_codeBlock_55 : decode cX8_codeBlock 55 = .ok (.iadd, 1) := by decide +kernel
theorem dX8_codeBlock_56 : decode cX8_codeBlock 56 = .ok (.iastore, 1) := by decide +kernel
theorem dX8_codeBlock_57 : decode cX8_codeBlock 57 = .ok (.iconst 0, 1) := by decide +kernel
theorem dX8_codeBlock_58 : decode cX8_codeBlock 58 = .ok (.istore 8, 2) := by decide +kernel
theorem dX8_codeBlock_60 : decode cX8_codeBlock 60 = .ok (.iload 8, 2) := by decide +kernel
theorem dX8_codeBlock_62 : decode cX8_codeBlock 62 = .ok (.iload 4, 2) := by decide +kernel
theorem dX8_codeBlock_64 : decode cX8_codeBlock 64 = .ok (.if_icmp .ge 74, 3) := by decide +kernel
theorem dX8_codeBlock_67 : decode cX8_codeBlock 67 = .ok (.iconst 0, 1) := by decide +kernel
theorem dX8_codeBlock_68 : decode cX8_codeBlock 68 = .ok (.istore 9, 2) := by decide +kernel
theorem dX8_codeBlock_70 : decode cX8_codeBlock 70 = .ok (.iload 9, 2) := by decide +kernel
theorem dX8_codeBlock_72 : decode cX8_codeBlock 72 = .ok (.iload 4, 2) := by decide +kernel
theorem dX8_codeBlock_74 : decode cX8_codeBlock 74 = .ok (.if_icmp .ge 58, 3) := by decide +kernel
theorem dX8_codeBlock_77 : decode cX8_codeBlock 77 = .ok (.iload_n 3, 1) := by decide +kernel
theorem dX8_codeBlock_78 : decode cX8_codeBlock 78 = .ok (.iload 8, 2) := by decide +kernel
theorem dX8_codeBlock_80 : decode cX8_codeBlock 80 = .ok (.iadd, 1) := by decide +kernel
theorem dX8_codeBlock_81 : decode cX8_codeBlock 81 = .ok (.bipush 16, 2) := by decide +kernel
theorem dX8_codeBlock_83 : decode cX8_codeBlock 83 = .ok (.imul, 1) := by decide +kernel
theorem dX8_codeBlock_84 : decode cX8_codeBlock 84 = .ok (.iload_n 2, 1) := by decide +kernel
theorem dX8_codeBlock_85 : decode cX8_codeBlock 85 = .ok (.iadd, 1) := by decide +kernel
theorem dX8_codeBlock_86 : decode cX8_codeBlock 86 = .ok (.iload 9, 2) := by decide +kernel
theorem dX8_codeBlock_88 : decode cX8_codeBlock 88 = .ok (.iadd, 1) := by decide +kernel
theorem dX8_codeBlock_89 : decode cX8_codeBlock 89 = .ok (.istore 10, 2) := by decide +kernel
theorem dX8_codeBlock_91 : decode cX8_codeBlock 91 = .ok (.aload_n 1, 1) := by decide +kernel
theorem dX8_codeBlock_92 : decode cX8_codeBlock 92 = .ok (.getfield 242, 3) := by decide +kernel
theorem dX8_codeBlock_95 : decode cX8_codeBlock 95 = .ok (.iload 10, 2) := by decide +kernel
theorem dX8_codeBlock_97 : decode cX8_codeBlock 97 = .ok (.iload 8, 2) := by decide +kernel
theorem dX8_codeBlock_99 : decode cX8_codeBlock 99 = .ok (.iload 9, 2) := by decide +kernel
theorem dX8_codeBlock_101 : decode cX8_codeBlock 101 = .ok (.invokestatic 328, 3) := by decide +kernel
theorem dX8_codeBlock_104 : decode cX8_codeBlock 104 = .ok (.istore 11, 2) := by decide +kernel
theorem dX8_codeBlock_106 : decode cX8_codeBlock 106 = .ok (.aload_n 1, 1) := by decide +kernel
theorem dX8_codeBlock_107 : decode cX8_codeBlock 107 = .ok (.getfield 242, 3) := by decide +kernel
theorem dX8_codeBlock_110 : decode cX8_codeBlock 110 = .ok (.iload 10, 2) := by decide +kernel
theorem dX8_codeBlock_112 : decode cX8_codeBlock 112 = .ok (.aload_n 0, 1) := by decide +kernel
theorem dX8_codeBlock_113 : decode cX8_codeBlock 113 = .ok (.aload_n 1, 1) := by decide +kernel
theorem dX8_codeBlock_114 : decode cX8_codeBlock 114 = .ok (.getfield 242, 3) := by decide +kernel
theorem dX8_codeBlock_117 : decode cX8_codeBlock 117 = .ok (.iload 10, 2) := by decide +kernel
theorem dX8_codeBlock_119 : decode cX8_codeBlock 119 = .ok (.iaload, 1) := by decide +kernel
theorem dX8_codeBlock_120 : decode cX8_codeBlock 120 = .ok (.iload 11, 2) := by decide +kernel
theorem dX8_codeBlock_122 : decode cX8_codeBlock 122 = .ok (.invokestatic 332, 3) := by decide +kernel
theorem dX8_codeBlock_125 : decode cX8_codeBlock 125 = .ok (.iastore, 1) := by decide +kernel
theorem dX8_codeBlock_126 : decode cX8_codeBlock 126 = .ok (.iinc 9 1, 3) := by decide +kernel
theorem dX8_codeBlock_129 : decode cX8_codeBlock 129 = .ok (.goto (-59), 3) := by decide +kernel
theorem dX8_codeBlock_132 : decode cX8_codeBlock 132 = .ok (.iinc 8 1, 3) := by decide +kernel
theorem dX8_codeBlock_135 : decode cX8_codeBlock 135 = .ok (.goto (-75), 3) := by decide +kernel
theorem dX8_codeBlock_138 : decode cX8_codeBlock 138 = .ok (.return_, 1) := by decide +kernel
theorem dX8_levelContext_0 : decode cX8_levelContext 0 = .ok (.iload_n 2, 1) := by decide +kernel
theorem dX8_levelContext_1 : decode cX8_levelContext 1 = .ok (.ifCond .ne 9, 3) := by decide +kernel
theorem dX8_levelContext_4 : decode cX8_levelContext 4 = .ok (.iload_n 3, 1) := by decide +kernel
theorem dX8_levelContext_5 : decode cX8_levelContext 5 = .ok (.ifCond .ne 5, 3) := by decide +kernel
theorem dX8_levelContext_8 : decode cX8_levelContext 8 = .ok (.iconst 4, 1) := by decide +kernel
theorem dX8_levelContext_9 : decode cX8_levelContext 9 = .ok (.ireturn, 1) := by decide +kernel
theorem dX8_levelContext_10 : decode cX8_levelContext 10 = .ok (.iload_n 3, 1) := by decide +kernel
theorem dX8_levelContext_11 : decode cX8_levelContext 11 = .ok (.ifCond .le 15, 3) := by decide +kernel
theorem dX8_levelContext_14 : decode cX8_levelContext 14 = .ok (.aload_n 0, 1) := by decide +kernel
theorem dX8_levelContext_15 : decode cX8_levelContext 15 = .ok (.iload_n 1, 1) := by decide +kernel
theorem dX8_levelContext_16 : decode cX8_levelContext 16 = .ok (.iconst 1, 1) := by decide +kernel
theorem dX8_levelContext_17 : decode cX8_levelContext 17 = .ok (.isub, 1) := by decide +kernel
theorem dX8_levelContext_18 : decode cX8_levelContext 18 = .ok (.iaload, 1) := by decide +kernel
theorem dX8_levelContext_19 : decode cX8_levelContext 19 = .ok (.ifCond .eq 7, 3) := by decide +kernel
theorem dX8_levelContext_22 : decode cX8_levelContext 22 = .ok (.iconst 1, 1) := by decide +kernel
theorem dX8_levelContext_23 : decode cX8_levelContext 23 = .ok (.goto 4, 3) := by decide +kernel
theorem dX8_levelContext_26 : decode cX8_levelContext 26 = .ok (.iconst 0, 1) := by decide +kernel
theorem dX8_levelContext_27 : decode cX8_levelContext 27 = .ok (.istore 4, 2) := by decide +kernel
theorem dX8_levelContext_29 : decode cX8_levelContext 29 = .ok (.iload_n 2, 1) := by decide +kernel
theorem dX8_levelContext_30 : decode cX8_levelContext 30 = .ok (.ifCond .le 16, 3) := by decide +kernel
theorem dX8_levelContext_33 : decode cX8_levelContext 33 = .ok (.aload_n 0, 1) := by decide +kernel
theorem dX8_levelContext_34 : decode cX8_levelContext 34 = .ok (.iload_n 1, 1) := by decide +kernel
theorem dX8_levelContext_35 : decode cX8_levelContext 35 = .ok (.bipush 16, 2) := by decide +kernel
theorem dX8_levelContext_37 : decode cX8_levelContext 37 = .ok (.isub, 1) := by decide +kernel
theorem dX8_levelContext_38 : decode cX8_levelContext 38 = .ok (.iaload, 1) := by decide +kernel
theorem dX8_levelContext_39 : decode cX8_levelContext 39 = .ok (.ifCond .eq 7, 3) := by decide +kernel
theorem dX8_levelContext_42 : decode cX8_levelContext 42 = .ok (.iconst 1, 1) := by decide +kernel
theorem dX8_levelContext_43 : decode cX8_levelContext 43 = .ok (.goto 4, 3) := by decide +kernel
theorem dX8_levelContext_46 : decode cX8_levelContext 46 = .ok (.iconst 0, 1) := by decide +kernel
theorem dX8_levelContext_47 : decode cX8_levelContext 47 = .ok (.istore 5, 2) := by decide +kernel
theorem dX8_levelContext_49 : decode cX8_levelContext 49 = .ok (.iconst 5, 1) := by decide +kernel
theorem dX8_levelContext_50 : decode cX8_levelContext 50 = .ok (.iload 4, 2) := by decide +kernel
theorem dX8_levelContext_52 : decode cX8_levelContext 52 = .ok (.iadd, 1) := by decide +kernel
theorem dX8_levelContext_53 : decode cX8_levelContext 53 = .ok (.iload 5, 2) := by decide +kernel
theorem dX8_levelContext_55 : decode cX8_levelContext 55 = .ok (.iadd, 1) := by decide +kernel
theorem dX8_levelContext_56 : decode cX8_levelContext 56 = .ok (.ireturn, 1) := by decide +kernel
theorem dX8_codeLevel_0 : decode cX8_codeLevel 0 = .ok (.aload_n 0, 1) := by decide +kernel
theorem dX8_codeLevel_1 : decode cX8_codeLevel 1 = .ok (.iload_n 1, 1) := by decide +kernel
theorem dX8_codeLevel_2 : decode cX8_codeLevel 2 = .ok (.ifCond .eq 7, 3) := by decide +kernel
theorem dX8_codeLevel_5 : decode cX8_codeLevel 5 = .ok (.iconst 1, 1) := by decide +kernel
theorem dX8_codeLevel_6 : decode cX8_codeLevel 6 = .ok (.goto 4, 3) := by decide +kernel
theorem dX8_codeLevel_9 : decode cX8_codeLevel 9 = .ok (.iconst 0, 1) := by decide +kernel
theorem dX8_codeLevel_10 : decode cX8_codeLevel 10 = .ok (.iload_n 2, 1) := by decide +kernel
theorem dX8_codeLevel_11 : decode cX8_codeLevel 11 = .ok (.invokevirtual 316, 3) := by decide +kernel
theorem dX8_codeLevel_14 : decode cX8_codeLevel 14 = .ok (.ifCond .ne 5, 3) := by decide +kernel
theorem dX8_codeLevel_17 : decode cX8_codeLevel 17 = .ok (.iconst 0, 1) := by decide +kernel
theorem dX8_codeLevel_18 : decode cX8_codeLevel 18 = .ok (.ireturn, 1) := by decide +kernel
theorem dX8_codeLevel_19 : decode cX8_codeLevel 19 = .ok (.aload_n 0, 1) := by decide +kernel
theorem dX8_codeLevel_20 : decode cX8_codeLevel 20 = .ok (.iload_n 1, 1) := by decide +kernel
theorem dX8_codeLevel_21 : decode cX8_codeLevel 21 = .ok (.ifCond .ge 7, 3) := by decide +kernel
theorem dX8_codeLevel_24 : decode cX8_codeLevel 24 = .ok (.iconst 1, 1) := by decide +kernel
theorem dX8_codeLevel_25 : decode cX8_codeLevel 25 = .ok (.goto 4, 3) := by decide +kernel
theorem dX8_codeLevel_28 : decode cX8_codeLevel 28 = .ok (.iconst 0, 1) := by decide +kernel
theorem dX8_codeLevel_29 : decode cX8_codeLevel 29 = .ok (.bipush 8, 2) := by decide +kernel
theorem dX8_codeLevel_31 : decode cX8_codeLevel 31 = .ok (.invokevirtual 316, 3) := by decide +kernel
theorem dX8_codeLevel_34 : decode cX8_codeLevel 34 = .ok (.istore_n 3, 1) := by decide +kernel
theorem dX8_codeLevel_35 : decode cX8_codeLevel 35 = .ok (.iload_n 1, 1) := by decide +kernel
theorem dX8_codeLevel_36 : decode cX8_codeLevel 36 = .ok (.ifCond .ge 8, 3) := by decide +kernel
theorem dX8_codeLevel_39 : decode cX8_codeLevel 39 = .ok (.iload_n 1, 1) := by decide +kernel
theorem dX8_codeLevel_40 : decode cX8_codeLevel 40 = .ok (.ineg, 1) := by decide +kernel
theorem dX8_codeLevel_41 : decode cX8_codeLevel 41 = .ok (.goto 4, 3) := by decide +kernel
theorem dX8_codeLevel_44 : decode cX8_codeLevel 44 = .ok (.iload_n 1, 1) := by decide +kernel
theorem dX8_codeLevel_45 : decode cX8_codeLevel 45 = .ok (.istore 4, 2) := by decide +kernel
theorem dX8_codeLevel_47 : decode cX8_codeLevel 47 = .ok (.iload 4, 2) := by decide +kernel
theorem dX8_codeLevel_49 : decode cX8_codeLevel 49 = .ok (.invokestatic 336, 3) := by decide +kernel
theorem dX8_codeLevel_52 : decode cX8_codeLevel 52 = .ok (.istore 5, 2) := by decide +kernel
theorem dX8_codeLevel_54 : decode cX8_codeLevel 54 = .ok (.iconst 1, 1) := by decide +kernel
theorem dX8_codeLevel_55 : decode cX8_codeLevel 55 = .ok (.istore 6, 2) := by decide +kernel
theorem dX8_codeLevel_57 : decode cX8_codeLevel 57 = .ok (.iload 6, 2) := by decide +kernel
theorem dX8_codeLevel_59 : decode cX8_codeLevel 59 = .ok (.bipush 12, 2) := by decide +kernel
theorem dX8_codeLevel_61 : decode cX8_codeLevel 61 = .ok (.if_icmp .ge 34, 3) := by decide +kernel
theorem dX8_codeLevel_64 : decode cX8_codeLevel 64 = .ok (.aload_n 0, 1) := by decide +kernel
theorem dX8_codeLevel_65 : decode cX8_codeLevel 65 = .ok (.iload 5, 2) := by decide +kernel
theorem dX8_codeLevel_67 : decode cX8_codeLevel 67 = .ok (.iload 6, 2) := by decide +kernel
theorem dX8_codeLevel_69 : decode cX8_codeLevel 69 = .ok (.if_icmp .le 7, 3) := by decide +kernel
theorem dX8_codeLevel_72 : decode cX8_codeLevel 72 = .ok (.iconst 1, 1) := by decide +kernel
theorem dX8_codeLevel_73 : decode cX8_codeLevel 73 = .ok (.goto 4, 3) := by decide +kernel
theorem dX8_codeLevel_76 : decode cX8_codeLevel 76 = .ok (.iconst 0, 1) := by decide +kernel
theorem dX8_codeLevel_77 : decode cX8_codeLevel 77 = .ok (.bipush 8, 2) := by decide +kernel
theorem dX8_codeLevel_79 : decode cX8_codeLevel 79 = .ok (.iload 6, 2) := by decide +kernel
theorem dX8_codeLevel_81 : decode cX8_codeLevel 81 = .ok (.iadd, 1) := by decide +kernel
theorem dX8_codeLevel_82 : decode cX8_codeLevel 82 = .ok (.invokevirtual 316, 3) := by decide +kernel
theorem dX8_codeLevel_85 : decode cX8_codeLevel 85 = .ok (.iconst 1, 1) := by decide +kernel
theorem dX8_codeLevel_86 : decode cX8_codeLevel 86 = .ok (.if_icmp .ne 9, 3) := by decide +kernel
theorem dX8_codeLevel_89 : decode cX8_codeLevel 89 = .ok (.iinc 6 1, 3) := by decide +kernel
theorem dX8_codeLevel_92 : decode cX8_codeLevel 92 = .ok (.goto (-35), 3) := by decide +kernel
theorem dX8_codeLevel_95 : decode cX8_codeLevel 95 = .ok (.iconst 1, 1) := by decide +kernel
theorem dX8_codeLevel_96 : decode cX8_codeLevel 96 = .ok (.istore 7, 2) := by decide +kernel
theorem dX8_codeLevel_98 : decode cX8_codeLevel 98 = .ok (.iload 6, 2) := by decide +kernel
theorem dX8_codeLevel_100 : decode cX8_codeLevel 100 = .ok (.iconst 2, 1) := by decide +kernel
theorem dX8_codeLevel_101 : decode cX8_codeLevel 101 = .ok (.isub, 1) := by decide +kernel
theorem dX8_codeLevel_102 : decode cX8_codeLevel 102 = .ok (.istore 8, 2) := by decide +kernel
theorem dX8_codeLevel_104 : decode cX8_codeLevel 104 = .ok (.iload 8, 2) := by decide +kernel
theorem dX8_codeLevel_106 : decode cX8_codeLevel 106 = .ok (.ifCond .lt 28, 3) := by decide +kernel
theorem dX8_codeLevel_109 : decode cX8_codeLevel 109 = .ok (.iload 7, 2) := by decide +kernel
theorem dX8_codeLevel_111 : decode cX8_codeLevel 111 = .ok (.iconst 2, 1) := by decide +kernel
theorem dX8_codeLevel_112 : decode cX8_codeLevel 112 = .ok (.imul, 1) := by decide +kernel
theorem dX8_codeLevel_113 : decode cX8_codeLevel 113 = .ok (.aload_n 0, 1) := by decide +kernel
theorem dX8_codeLevel_114 : decode cX8_codeLevel 114 = .ok (.iload 4, 2) := by decide +kernel
theorem dX8_codeLevel_116 : decode cX8_codeLevel 116 = .ok (.iload 8, 2) := by decide +kernel
theorem dX8_codeLevel_118 : decode cX8_codeLevel 118 = .ok (.ishr, 1) := by decide +kernel
theorem dX8_codeLevel_119 : decode cX8_codeLevel 119 = .ok (.iconst 1, 1) := by decide +kernel
theorem dX8_codeLevel_120 : decode cX8_codeLevel 120 = .ok (.iand, 1) := by decide +kernel
theorem dX8_codeLevel_121 : decode cX8_codeLevel 121 = .ok (.iconst (-1), 1) := by decide +kernel
theorem dX8_codeLevel_122 : decode cX8_codeLevel 122 = .ok (.invokevirtual 316, 3) := by decide +kernel
theorem dX8_codeLevel_125 : decode cX8_codeLevel 125 = .ok (.iadd, 1) := by decide +kernel
theorem dX8_codeLevel_126 : decode cX8_codeLevel 126 = .ok (.istore 7, 2) := by decide +kernel
theorem dX8_codeLevel_128 : decode cX8_codeLevel 128 = .ok (.iinc 8 (-1), 3) := by decide +kernel
theorem dX8_codeLevel_131 : decode cX8_codeLevel 131 = .ok (.goto (-27), 3) := by decide +kernel
theorem dX8_codeLevel_134 : decode cX8_codeLevel 134 = .ok (.iload_n 3, 1) := by decide +kernel
theorem dX8_codeLevel_135 : decode cX8_codeLevel 135 = .ok (.iconst 1, 1) := by decide +kernel
theorem dX8_codeLevel_136 : decode cX8_codeLevel 136 = .ok (.if_icmp .ne 9, 3) := by decide +kernel
theorem dX8_codeLevel_139 : decode cX8_codeLevel 139 = .ok (.iload 7, 2) := by decide +kernel
theorem dX8_codeLevel_141 : decode cX8_codeLevel 141 = .ok (.ineg, 1) := by decide +kernel
theorem dX8_codeLevel_142 : decode cX8_codeLevel 142 = .ok (.goto 5, 3) := by decide +kernel
theorem dX8_codeLevel_145 : decode cX8_codeLevel 145 = .ok (.iload 7, 2) := by decide +kernel
theorem dX8_codeLevel_147 : decode cX8_codeLevel 147 = .ok (.ireturn, 1) := by decide +kernel
theorem dX8_digitsOf_0 : decode cX8_digitsOf 0 = .ok (.iconst 0, 1) := by decide +kernel
theorem dX8_digitsOf_1 : decode cX8_digitsOf 1 = .ok (.istore_n 1, 1) := by decide +kernel
theorem dX8_digitsOf_2 : decode cX8_digitsOf 2 = .ok (.iload_n 0, 1) := by decide +kernel
theorem dX8_digitsOf_3 : decode cX8_digitsOf 3 = .ok (.istore_n 2, 1) := by decide +kernel
theorem dX8_digitsOf_4 : decode cX8_digitsOf 4 = .ok (.iload_n 2, 1) := by decide +kernel
theorem dX8_digitsOf_5 : decode cX8_digitsOf 5 = .ok (.ifCond .le 13, 3) := by decide +kernel
theorem dX8_digitsOf_8 : decode cX8_digitsOf 8 = .ok (.iinc 1 1, 3) := by decide +kernel
theorem dX8_digitsOf_11 : decode cX8_digitsOf 11 = .ok (.iload_n 2, 1) := by decide +kernel
theorem dX8_digitsOf_12 : decode cX8_digitsOf 12 = .ok (.iconst 2, 1) := by decide +kernel
theorem dX8_digitsOf_13 : decode cX8_digitsOf 13 = .ok (.idiv, 1) := by decide +kernel
theorem dX8_digitsOf_14 : decode cX8_digitsOf 14 = .ok (.istore_n 2, 1) := by decide +kernel
theorem dX8_digitsOf_15 : decode cX8_digitsOf 15 = .ok (.goto (-11), 3) := by decide +kernel
theorem dX8_digitsOf_18 : decode cX8_digitsOf 18 = .ok (.iload_n 1, 1) := by decide +kernel
theorem dX8_digitsOf_19 : decode cX8_digitsOf 19 = .ok (.ireturn, 1) := by decide +kernel
theorem dX8_hasValidHeader_0 : decode cX8_hasValidHeader 0 = .ok (.aload_n 0, 1) := by decide +kernel
theorem dX8_hasValidHeader_1 : decode cX8_hasValidHeader 1 = .ok (.getfield 27, 3) := by decide +kernel
theorem dX8_hasValidHeader_4 : decode cX8_hasValidHeader 4 = .ok (.iconst 1, 1) := by decide +kernel
theorem dX8_hasValidHeader_5 : decode cX8_hasValidHeader 5 = .ok (.invokevirtual 166, 3) := by decide +kernel
theorem dX8_hasValidHeader_8 : decode cX8_hasValidHeader 8 = .ok (.aload_n 0, 1) := by decide +kernel
theorem dX8_hasValidHeader_9 : decode cX8_hasValidHeader 9 = .ok (.getfield 27, 3) := by decide +kernel
theorem dX8_hasValidHeader_12 : decode cX8_hasValidHeader 12 = .ok (.iconst 2, 1) := by decide +kernel
theorem dX8_hasValidHeader_13 : decode cX8_hasValidHeader 13 = .ok (.invokevirtual 166, 3) := by decide +kernel
theorem dX8_hasValidHeader_16 : decode cX8_hasValidHeader 16 = .ok (.invokestatic 88, 3) := by decide +kernel
theorem dX8_hasValidHeader_19 : decode cX8_hasValidHeader 19 = .ok (.ifCond .ne 5, 3) := by decide +kernel
theorem dX8_hasValidHeader_22 : decode cX8_hasValidHeader 22 = .ok (.iconst 0, 1) := by decide +kernel
theorem dX8_hasValidHeader_23 : decode cX8_hasValidHeader 23 = .ok (.ireturn, 1) := by decide +kernel
theorem dX8_hasValidHeader_24 : decode cX8_hasValidHeader 24 = .ok (.aload_n 0, 1) := by decide +kernel
theorem dX8_hasValidHeader_25 : decode cX8_hasValidHeader 25 = .ok (.getfield 27, 3) := by decide +kernel
theorem dX8_hasValidHeader_28 : decode cX8_hasValidHeader 28 = .ok (.iconst 0, 1) := by decide +kernel
theorem dX8_hasValidHeader_29 : decode cX8_hasValidHeader 29 = .ok (.invokevirtual 166, 3) := by decide +kernel
theorem dX8_hasValidHeader_32 : decode cX8_hasValidHeader 32 = .ok (.bipush 82, 2) := by decide +kernel
theorem dX8_hasValidHeader_34 : decode cX8_hasValidHeader 34 = .ok (.if_icmp .ne 5, 3) := by decide +kernel
theorem dX8_hasValidHeader_37 : decode cX8_hasValidHeader 37 = .ok (.iconst 1, 1) := by decide +kernel
theorem dX8_hasValidHeader_38 : decode cX8_hasValidHeader 38 = .ok (.ireturn, 1) := by decide +kernel
theorem dX8_hasValidHeader_39 : decode cX8_hasValidHeader 39 = .ok (.aload_n 0, 1) := by decide +kernel
theorem dX8_hasValidHeader_40 : decode cX8_hasValidHeader 40 = .ok (.getfield 27, 3) := by decide +kernel
theorem dX8_hasValidHeader_43 : decode cX8_hasValidHeader 43 = .ok (.iconst 0, 1) := by decide +kernel
theorem dX8_hasValidHeader_44 : decode cX8_hasValidHeader 44 = .ok (.invokevirtual 166, 3) := by decide +kernel
theorem dX8_hasValidHeader_47 : decode cX8_hasValidHeader 47 = .ok (.bipush 80, 2) := by decide +kernel
theorem dX8_hasValidHeader_49 : decode cX8_hasValidHeader 49 = .ok (.if_icmp .ne 14, 3) := by decide +kernel
theorem dX8_hasValidHeader_52 : decode cX8_hasValidHeader 52 = .ok (.aload_n 0, 1) := by decide +kernel
theorem dX8_hasValidHeader_53 : decode cX8_hasValidHeader 53 = .ok (.invokevirtual 339, 3) := by decide +kernel
theorem dX8_hasValidHeader_56 : decode cX8_hasValidHeader 56 = .ok (.ifCond .eq 7, 3) := by decide +kernel
theorem dX8_hasValidHeader_59 : decode cX8_hasValidHeader 59 = .ok (.iconst 1, 1) := by decide +kernel
theorem dX8_hasValidHeader_60 : decode cX8_hasValidHeader 60 = .ok (.goto 4, 3) := by decide +kernel
theorem dX8_hasValidHeader_63 : decode cX8_hasValidHeader 63 = .ok (.iconst 0, 1) := by decide +kernel
theorem dX8_hasValidHeader_64 : decode cX8_hasValidHeader 64 = .ok (.ireturn, 1) := by decide +kernel
theorem dX8_hasValidSteps_0 : decode cX8_hasValidSteps 0 = .ok (.aload_n 0, 1) := by decide +kernel
theorem dX8_hasValidSteps_1 : decode cX8_hasValidSteps 1 = .ok (.getfield 27, 3) := by decide +kernel
theorem dX8_hasValidSteps_4 : decode cX8_hasValidSteps 4 = .ok (.iconst 3, 1) := by decide +kernel
theorem dX8_hasValidSteps_5 : decode cX8_hasValidSteps 5 = .ok (.invokevirtual 166, 3) := by decide +kernel
theorem dX8_hasValidSteps_8 : decode cX8_hasValidSteps 8 = .ok (.istore_n 1, 1) := by decide +kernel
theorem dX8_hasValidSteps_9 : decode cX8_hasValidSteps 9 = .ok (.iload_n 1, 1) := by decide +kernel
theorem dX8_hasValidSteps_10 : decode cX8_hasValidSteps 10 = .ok (.iconst 1, 1) := by decide +kernel
theorem dX8_hasValidSteps_11 : decode cX8_hasValidSteps 11 = .ok (.if_icmp .lt 8, 3) := by decide +kernel
theorem dX8_hasValidSteps_14 : decode cX8_hasValidSteps 14 = .ok (.iload_n 1, 1) := by decide +kernel
theorem dX8_hasValidSteps_15 : decode cX8_hasValidSteps 15 = .ok (.iconst 3, 1) := by decide +kernel
theorem dX8_hasValidSteps_16 : decode cX8_hasValidSteps 16 = .ok (.if_icmp .le 5, 3) := by decide +kernel
theorem dX8_hasValidSteps_19 : decode cX8_hasValidSteps 19 = .ok (.iconst 0, 1) := by decide +kernel
theorem dX8_hasValidSteps_20 : decode cX8_hasValidSteps 20 = .ok (.ireturn, 1) := by decide +kernel
theorem dX8_hasValidSteps_21 : decode cX8_hasValidSteps 21 = .ok (.bipush 33, 2) := by decide +kernel
theorem dX8_hasValidSteps_23 : decode cX8_hasValidSteps 23 = .ok (.istore_n 2, 1) := by decide +kernel
theorem dX8_hasValidSteps_24 : decode cX8_hasValidSteps 24 = .ok (.iconst 0, 1) := by decide +kernel
theorem dX8_hasValidSteps_25 : decode cX8_hasValidSteps 25 = .ok (.istore_n 3, 1) := by decide +kernel
theorem dX8_hasValidSteps_26 : decode cX8_hasValidSteps 26 = .ok (.iload_n 3, 1) := by decide +kernel
theorem dX8_hasValidSteps_27 : decode cX8_hasValidSteps 27 = .ok (.iload_n 1, 1) := by decide +kernel
theorem dX8_hasValidSteps_28 : decode cX8_hasValidSteps 28 = .ok (.if_icmp .ge 35, 3) := by decide +kernel
theorem dX8_hasValidSteps_31 : decode cX8_hasValidSteps 31 = .ok (.aload_n 0, 1) := by decide +kernel
theorem dX8_hasValidSteps_32 : decode cX8_hasValidSteps 32 = .ok (.getfield 27, 3) := by decide +kernel
theorem dX8_hasValidSteps_35 : decode cX8_hasValidSteps 35 = .ok (.iconst 4, 1) := by decide +kernel
theorem dX8_hasValidSteps_36 : decode cX8_hasValidSteps 36 = .ok (.iload_n 3, 1) := by decide +kernel
theorem dX8_hasValidSteps_37 : decode cX8_hasValidSteps 37 = .ok (.iadd, 1) := by decide +kernel
theorem dX8_hasValidSteps_38 : decode cX8_hasValidSteps 38 = .ok (.invokevirtual 166, 3) := by decide +kernel
theorem dX8_hasValidSteps_41 : decode cX8_hasValidSteps 41 = .ok (.istore 4, 2) := by decide +kernel
theorem dX8_hasValidSteps_43 : decode cX8_hasValidSteps 43 = .ok (.iload_n 2, 1) := by decide +kernel
theorem dX8_hasValidSteps_44 : decode cX8_hasValidSteps 44 = .ok (.iload 4, 2) := by decide +kernel
theorem dX8_hasValidSteps_46 : decode cX8_hasValidSteps 46 = .ok (.invokestatic 127, 3) := by decide +kernel
theorem dX8_hasValidSteps_49 : decode cX8_hasValidSteps 49 = .ok (.ifCond .ne 5, 3) := by decide +kernel
theorem dX8_hasValidSteps_52 : decode cX8_hasValidSteps 52 = .ok (.iconst 0, 1) := by decide +kernel
theorem dX8_hasValidSteps_53 : decode cX8_hasValidSteps 53 = .ok (.ireturn, 1) := by decide +kernel
theorem dX8_hasValidSteps_54 : decode cX8_hasValidSteps 54 = .ok (.iload 4, 2) := by decide +kernel
theorem dX8_hasValidSteps_56 : decode cX8_hasValidSteps 56 = .ok (.istore_n 2, 1) := by decide +kernel
theorem dX8_hasValidSteps_57 : decode cX8_hasValidSteps 57 = .ok (.iinc 3 1, 3) := by decide +kernel
theorem dX8_hasValidSteps_60 : decode cX8_hasValidSteps 60 = .ok (.goto (-34), 3) := by decide +kernel
theorem dX8_hasValidSteps_63 : decode cX8_hasValidSteps 63 = .ok (.iconst 1, 1) := by decide +kernel
theorem dX8_hasValidSteps_64 : decode cX8_hasValidSteps 64 = .ok (.ireturn, 1) := by decide +kernel
theorem dX8_forgetSlices_0 : decode cX8_forgetSlices 0 = .ok (.iconst 0, 1) := by decide +kernel
theorem dX8_forgetSlices_1 : decode cX8_forgetSlices 1 = .ok (.istore_n 1, 1) := by decide +kernel
theorem dX8_forgetSlices_2 : decode cX8_forgetSlices 2 = .ok (.iload_n 1, 1) := by decide +kernel
theorem dX8_forgetSlices_3 : decode cX8_forgetSlices 3 = .ok (.iconst 3, 1) := by decide +kernel
theorem dX8_forgetSlices_4 : decode cX8_forgetSlices 4 = .ok (.if_icmp .ge 24, 3) := by decide +kernel
theorem dX8_forgetSlices_7 : decode cX8_forgetSlices 7 = .ok (.aload_n 0, 1) := by decide +kernel
theorem dX8_forgetSlices_8 : decode cX8_forgetSlices 8 = .ok (.getfield 38, 3) := by decide +kernel
theorem dX8_forgetSlices_11 : decode cX8_forgetSlices 11 = .ok (.iload_n 1, 1) := by decide +kernel
theorem dX8_forgetSlices_12 : decode cX8_forgetSlices 12 = .ok (.bipush 110, 2) := by decide +kernel
theorem dX8_forgetSlices_14 : decode cX8_forgetSlices 14 = .ok (.castore, 1) := by decide +kernel
theorem dX8_forgetSlices_15 : decode cX8_forgetSlices 15 = .ok (.aload_n 0, 1) := by decide +kernel
theorem dX8_forgetSlices_16 : decode cX8_forgetSlices 16 = .ok (.getfield 42, 3) := by decide +kernel
theorem dX8_forgetSlices_19 : decode cX8_forgetSlices 19 = .ok (.iload_n 1, 1) := by decide +kernel
theorem dX8_forgetSlices_20 : decode cX8_forgetSlices 20 = .ok (.iconst 0, 1) := by decide +kernel
theorem dX8_forgetSlices_21 : decode cX8_forgetSlices 21 = .ok (.iastore, 1) := by decide +kernel
theorem dX8_forgetSlices_22 : decode cX8_forgetSlices 22 = .ok (.iinc 1 1, 3) := by decide +kernel
theorem dX8_forgetSlices_25 : decode cX8_forgetSlices 25 = .ok (.goto (-23), 3) := by decide +kernel
theorem dX8_forgetSlices_28 : decode cX8_forgetSlices 28 = .ok (.return_, 1) := by decide +kernel
theorem dX8_readPlainPixels_0 : decode cX8_readPlainPixels 0 = .ok (.iconst 0, 1) := by decide +kernel
theorem dX8_readPlainPixels_1 : decode cX8_readPlainPixels 1 = .ok (.istore_n 1, 1) := by decide +kernel
theorem dX8_readPlainPixels_2 : decode cX8_readPlainPixels 2 = .ok (.iload_n 1, 1) := by decide +kernel
theorem dX8_readPlainPixels_3 : decode cX8_readPlainPixels 3 = .ok (.aload_n 0, 1) := by decide +kernel
theorem dX8_readPlainPixels_4 : decode cX8_readPlainPixels 4 = .ok (.getfield 31, 3) := by decide +kernel
theorem dX8_readPlainPixels_7 : decode cX8_readPlainPixels 7 = .ok (.getfield 122, 3) := by decide +kernel
theorem dX8_readPlainPixels_10 : decode cX8_readPlainPixels 10 = .ok (.invokestatic 266, 3) := by decide +kernel
theorem dX8_readPlainPixels_13 : decode cX8_readPlainPixels 13 = .ok (.if_icmp .ge 74, 3) := by decide +kernel
theorem dX8_readPlainPixels_16 : decode cX8_readPlainPixels 16 = .ok (.iload_n 1, 1) := by decide +kernel
theorem dX8_readPlainPixels_17 : decode cX8_readPlainPixels 17 = .ok (.iconst 1, 1) := by decide +kernel
theorem dX8_readPlainPixels_18 : decode cX8_readPlainPixels 18 = .ok (.iadd, 1) := by decide +kernel
theorem dX8_readPlainPixels_19 : decode cX8_readPlainPixels 19 = .ok (.bipush 8, 2) := by decide +kernel
theorem dX8_readPlainPixels_21 : decode cX8_readPlainPixels 21 = .ok (.imul, 1) := by decide +kernel
theorem dX8_readPlainPixels_22 : decode cX8_readPlainPixels 22 = .ok (.aload_n 0, 1) := by decide +kernel
theorem dX8_readPlainPixels_23 : decode cX8_readPlainPixels 23 = .ok (.getfield 31, 3) := by decide +kernel
theorem dX8_readPlainPixels_26 : decode cX8_readPlainPixels 26 = .ok (.getfield 122, 3) := by decide +kernel
theorem dX8_readPlainPixels_29 : decode cX8_readPlainPixels 29 = .ok (.invokestatic 190, 3) := by decide +kernel
theorem dX8_readPlainPixels_32 : decode cX8_readPlainPixels 32 = .ok (.istore_n 2, 1) := by decide +kernel
theorem dX8_readPlainPixels_33 : decode cX8_readPlainPixels 33 = .ok (.iconst 3, 1) := by decide +kernel
theorem dX8_readPlainPixels_34 : decode cX8_readPlainPixels 34 = .ok (.iload_n 2, 1) := by decide +kernel
theorem dX8_readPlainPixels_35 : decode cX8_readPlainPixels 35 = .ok (.aload_n 0, 1) := by decide +kernel
theorem dX8_readPlainPixels_36 : decode cX8_readPlainPixels 36 = .ok (.getfield 31, 3) := by decide +kernel
theorem dX8_readPlainPixels_39 : decode cX8_readPlainPixels 39 = .ok (.getfield 119, 3) := by decide +kernel
theorem dX8_readPlainPixels_42 : decode cX8_readPlainPixels 42 = .ok (.imul, 1) := by decide +kernel
theorem dX8_readPlainPixels_43 : decode cX8_readPlainPixels 43 = .ok (.iadd, 1) := by decide +kernel
theorem dX8_readPlainPixels_44 : decode cX8_readPlainPixels 44 = .ok (.aload_n 0, 1) := by decide +kernel
theorem dX8_readPlainPixels_45 : decode cX8_readPlainPixels 45 = .ok (.getfield 27, 3) := by decide +kernel
theorem dX8_readPlainPixels_48 : decode cX8_readPlainPixels 48 = .ok (.getfield 155, 3) := by decide +kernel
theorem dX8_readPlainPixels_51 : decode cX8_readPlainPixels 51 = .ok (.if_icmp .le 14, 3) := by decide +kernel
theorem dX8_readPlainPixels_54 : decode cX8_readPlainPixels 54 = .ok (.aload_n 0, 1) := by decide +kernel
theorem dX8_readPlainPixels_55 : decode cX8_readPlainPixels 55 = .ok (.getfield 38, 3) := by decide +kernel
theorem dX8_readPlainPixels_58 : decode cX8_readPlainPixels 58 = .ok (.iload_n 1, 1) := by decide +kernel
theorem dX8_readPlainPixels_59 : decode cX8_readPlainPixels 59 = .ok (.bipush 101, 2) := by decide +kernel
theorem dX8_readPlainPixels_61 : decode cX8_readPlainPixels 61 = .ok (.castore, 1) := by decide +kernel
theorem dX8_readPlainPixels_62 : decode cX8_readPlainPixels 62 = .ok (.goto 19, 3) := by decide +kernel
theorem dX8_readPlainPixels_65 : decode cX8_readPlainPixels 65 = .ok (.aload_n 0, 1) := by decide +kernel
theorem dX8_readPlainPixels_66 : decode cX8_readPlainPixels 66 = .ok (.iload_n 1, 1) := by decide +kernel
theorem dX8_readPlainPixels_67 : decode cX8_readPlainPixels 67 = .ok (.bipush 8, 2) := by decide +kernel
theorem dX8_readPlainPixels_69 : decode cX8_readPlainPixels 69 = .ok (.imul, 1) := by decide +kernel
theorem dX8_readPlainPixels_70 : decode cX8_readPlainPixels 70 = .ok (.iload_n 2, 1) := by decide +kernel
theorem dX8_readPlainPixels_71 : decode cX8_readPlainPixels 71 = .ok (.invokevirtual 342, 3) := by decide +kernel
theorem dX8_readPlainPixels_74 : decode cX8_readPlainPixels 74 = .ok (.aload_n 0, 1) := by decide +kernel
theorem dX8_readPlainPixels_75 : decode cX8_readPlainPixels 75 = .ok (.getfield 42, 3) := by decide +kernel
theorem dX8_readPlainPixels_78 : decode cX8_readPlainPixels 78 = .ok (.iload_n 1, 1) := by decide +kernel
theorem dX8_readPlainPixels_79 : decode cX8_readPlainPixels 79 = .ok (.iconst 1, 1) := by decide +kernel
theorem dX8_readPlainPixels_80 : decode cX8_readPlainPixels 80 = .ok (.iastore, 1) := by decide +kernel
theorem dX8_readPlainPixels_81 : decode cX8_readPlainPixels 81 = .ok (.iinc 1 1, 3) := by decide +kernel
theorem dX8_readPlainPixels_84 : decode cX8_readPlainPixels 84 = .ok (.goto (-82), 3) := by decide +kernel
theorem dX8_readPlainPixels_87 : decode cX8_readPlainPixels 87 = .ok (.return_, 1) := by decide +kernel
theorem dX8_readPlainRows_0 : decode cX8_readPlainRows 0 = .ok (.iload_n 1, 1) := by decide +kernel
theorem dX8_readPlainRows_1 : decode cX8_readPlainRows 1 = .ok (.istore_n 3, 1) := by decide +kernel
theorem dX8_readPlainRows_2 : decode cX8_readPlainRows 2 = .ok (.iload_n 3, 1) := by decide +kernel
theorem dX8_readPlainRows_3 : decode cX8_readPlainRows 3 = .ok (.iload_n 2, 1) := by decide +kernel
theorem dX8_readPlainRows_4 : decode cX8_readPlainRows 4 = .ok (.if_icmp .ge 61, 3) := by decide +kernel
theorem dX8_readPlainRows_7 : decode cX8_readPlainRows 7 = .ok (.iconst 0, 1) := by decide +kernel
theorem dX8_readPlainRows_8 : decode cX8_readPlainRows 8 = .ok (.istore 4, 2) := by decide +kernel
theorem dX8_readPlainRows_10 : decode cX8_readPlainRows 10 = .ok (.iload 4, 2) := by decide +kernel
theorem dX8_readPlainRows_12 : decode cX8_readPlainRows 12 = .ok (.aload_n 0, 1) := by decide +kernel
theorem dX8_readPlainRows_13 : decode cX8_readPlainRows 13 = .ok (.getfield 31, 3) := by decide +kernel
theorem dX8_readPlainRows_16 : decode cX8_readPlainRows 16 = .ok (.getfield 119, 3) := by decide +kernel
theorem dX8_readPlainRows_19 : decode cX8_readPlainRows 19 = .ok (.if_icmp .ge 40, 3) := by decide +kernel
theorem dX8_readPlainRows_22 : decode cX8_readPlainRows 22 = .ok (.aload_n 0, 1) := by decide +kernel
theorem dX8_readPlainRows_23 : decode cX8_readPlainRows 23 = .ok (.getfield 31, 3) := by decide +kernel
theorem dX8_readPlainRows_26 : decode cX8_readPlainRows 26 = .ok (.iload 4, 2) := by decide +kernel
theorem dX8_readPlainRows_28 : decode cX8_readPlainRows 28 = .ok (.iload_n 3, 1) := by decide +kernel
theorem dX8_readPlainRows_29 : decode cX8_readPlainRows 29 = .ok (.aload_n 0, 1) := by decide +kernel
theorem dX8_readPlainRows_30 : decode cX8_readPlainRows 30 = .ok (.getfield 27, 3) := by decide +kernel
theorem dX8_readPlainRows_33 : decode cX8_readPlainRows 33 = .ok (.iconst 3, 1) := by decide +kernel
theorem dX8_readPlainRows_34 : decode cX8_readPlainRows 34 = .ok (.iload_n 3, 1) := by decide +kernel
theorem dX8_readPlainRows_35 : decode cX8_readPlainRows 35 = .ok (.aload_n 0, 1) := by decide +kernel
theorem dX8_readPlainRows_36 : decode cX8_readPlainRows 36 = .ok (.getfield 31, 3) := by decide +kernel
theorem dX8_readPlainRows_39 : decode cX8_readPlainRows 39 = .ok (.getfield 119, 3) := by decide +kernel
theorem dX8_readPlainRows_42 : decode cX8_readPlainRows 42 = .ok (.imul, 1) := by decide +kernel
theorem dX8_readPlainRows_43 : decode cX8_readPlainRows 43 = .ok (.iadd, 1) := by decide +kernel
theorem dX8_readPlainRows_44 : decode cX8_readPlainRows 44 = .ok (.iload 4, 2) := by decide +kernel
theorem dX8_readPlainRows_46 : decode cX8_readPlainRows 46 = .ok (.iadd, 1) := by decide +kernel
theorem dX8_readPlainRows_47 : decode cX8_readPlainRows 47 = .ok (.invokevirtual 166, 3) := by decide +kernel
theorem dX8_readPlainRows_50 : decode cX8_readPlainRows 50 = .ok (.invokevirtual 115, 3) := by decide +kernel
theorem dX8_readPlainRows_53 : decode cX8_readPlainRows 53 = .ok (.iinc 4 1, 3) := by decide +kernel
theorem dX8_readPlainRows_56 : decode cX8_readPlainRows 56 = .ok (.goto (-46), 3) := by decide +kernel
theorem dX8_readPlainRows_59 : decode cX8_readPlainRows 59 = .ok (.iinc 3 1, 3) := by decide +kernel
theorem dX8_readPlainRows_62 : decode cX8_readPlainRows 62 = .ok (.goto (-60), 3) := by decide +kernel
theorem dX8_readPlainRows_65 : decode cX8_readPlainRows 65 = .ok (.return_, 1) := by decide +kernel
theorem dX8_readParts_0 : decode cX8_readParts 0 = .ok (.aload_n 0, 1) := by decide +kernel
theorem dX8_readParts_1 : decode cX8_readParts 1 = .ok (.getfield 31, 3) := by decide +kernel
theorem dX8_readParts_4 : decode cX8_readParts 4 = .ok (.getfield 119, 3) := by decide +kernel
theorem dX8_readParts_7 : decode cX8_readParts 7 = .ok (.invokestatic 283, 3) := by decide +kernel
theorem dX8_readParts_10 : decode cX8_readParts 10 = .ok (.istore_n 2, 1) := by decide +kernel
theorem dX8_readParts_11 : decode cX8_readParts 11 = .ok (.aload_n 0, 1) := by decide +kernel
theorem dX8_readParts_12 : decode cX8_readParts 12 = .ok (.getfield 31, 3) := by decide +kernel
theorem dX8_readParts_15 : decode cX8_readParts 15 = .ok (.getfield 122, 3) := by decide +kernel
theorem dX8_readParts_18 : decode cX8_readParts 18 = .ok (.invokestatic 266, 3) := by decide +kernel
theorem dX8_readParts_21 : decode cX8_readParts 21 = .ok (.istore_n 3, 1) := by decide +kernel
theorem dX8_readParts_22 : decode cX8_readParts 22 = .ok (.iconst 4, 1) := by decide +kernel
theorem dX8_readParts_23 : decode cX8_readParts 23 = .ok (.aload_n 0, 1) := by decide +kernel
theorem dX8_readParts_24 : decode cX8_readParts 24 = .ok (.getfield 27, 3) := by decide +kernel
theorem dX8_readParts_27 : decode cX8_readParts 27 = .ok (.iconst 3, 1) := by decide +kernel
theorem dX8_readParts_28 : decode cX8_readParts 28 = .ok (.invokevirtual 166, 3) := by decide +kernel
theorem dX8_readParts_31 : decode cX8_readParts 31 = .ok (.iadd, 1) := by decide +kernel
theorem dX8_readParts_32 : decode cX8_readParts 32 = .ok (.istore 4, 2) := by decide +kernel
theorem dX8_readParts_34 : decode cX8_readParts 34 = .ok (.iconst 0, 1) := by decide +kernel
theorem dX8_readParts_35 : decode cX8_readParts 35 = .ok (.istore 5, 2) := by decide +kernel
theorem dX8_readParts_37 : decode cX8_readParts 37 = .ok (.iload 5, 2) := by decide +kernel
theorem dX8_readParts_39 : decode cX8_readParts 39 = .ok (.iload_n 1, 1) := by decide +kernel
theorem dX8_readParts_40 : decode cX8_readParts 40 = .ok (.if_icmp .ge 203, 3) := by decide +kernel
theorem dX8_readParts_43 : decode cX8_readParts 43 = .ok (.aload_n 0, 1) := by decide +kernel
theorem dX8_readParts_44 : decode cX8_readParts 44 = .ok (.getfield 70, 3) := by decide +kernel
theorem dX8_readParts_47 : decode cX8_readParts 47 = .ok (.aload_n 0, 1) := by decide +kernel
theorem dX8_readParts_48 : decode cX8_readParts 48 = .ok (.getfield 27, 3) := by decide +kernel
theorem dX8_readParts_51 : decode cX8_readParts 51 = .ok (.iconst 4, 1) := by decide +kernel
theorem dX8_readParts_52 : decode cX8_readParts 52 = .ok (.iload 5, 2) := by decide +kernel
theorem dX8_readParts_54 : decode cX8_readParts 54 = .ok (.iadd, 1) := by decide +kernel
theorem dX8_readParts_55 : decode cX8_readParts 55 = .ok (.invokevirtual 166, 3) := by decide +kernel
theorem dX8_readParts_58 : decode cX8_readParts 58 = .ok (.putfield 142, 3) := by decide +kernel
theorem dX8_readParts_61 : decode cX8_readParts 61 = .ok (.iconst 0, 1) := by decide +kernel
theorem dX8_readParts_62 : decode cX8_readParts 62 = .ok (.istore 6, 2) := by decide +kernel
theorem dX8_readParts_64 : decode cX8_readParts 64 = .ok (.iload 6, 2) := by decide +kernel
theorem dX8_readParts_66 : decode cX8_readParts 66 = .ok (.iload_n 3, 1) := by decide +kernel
theorem dX8_readParts_67 : decode cX8_readParts 67 = .ok (.if_icmp .ge 170, 3) := by decide +kernel
theorem dX8_readParts_70 : decode cX8_readParts 70 = .ok (.aload_n 0, 1) := by decide +kernel
theorem dX8_readParts_71 : decode cX8_readParts 71 = .ok (.iload 4, 2) := by decide +kernel
theorem dX8_readParts_73 : decode cX8_readParts 73 = .ok (.invokevirtual 345, 3) := by decide +kernel
theorem dX8_readParts_76 : decode cX8_readParts 76 = .ok (.istore 7, 2) := by decide +kernel
theorem dX8_readParts_78 : decode cX8_readParts 78 = .ok (.aload_n 0, 1) := by decide +kernel
theorem dX8_readParts_79 : decode cX8_readParts 79 = .ok (.iload 4, 2) := by decide +kernel
theorem dX8_readParts_81 : decode cX8_readParts 81 = .ok (.iload 7, 2) := by decide +kernel
theorem dX8_readParts_83 : decode cX8_readParts 83 = .ok (.invokevirtual 348, 3) := by decide +kernel
theorem dX8_readParts_86 : decode cX8_readParts 86 = .ok (.istore 8, 2) := by decide +kernel
theorem dX8_readParts_88 : decode cX8_readParts 88 = .ok (.aload_n 0, 1) := by decide +kernel
theorem dX8_readParts_89 : decode cX8_readParts 89 = .ok (.getfield 38, 3) := by decide +kernel
theorem dX8_readParts_92 : decode cX8_readParts 92 = .ok (.iload 6, 2) := by decide +kernel
theorem dX8_readParts_94 : decode cX8_readParts 94 = .ok (.caload, 1) := by decide +kernel
theorem dX8_readParts_95 : decode cX8_readParts 95 = .ok (.bipush 110, 2) := by decide +kernel
theorem dX8_readParts_97 : decode cX8_readParts 97 = .ok (.if_icmp .ne 87, 3) := by decide +kernel
theorem dX8_readParts_100 : decode cX8_readParts 100 = .ok (.iload 8, 2) := by decide +kernel
theorem dX8_readParts_102 : decode cX8_readParts 102 = .ok (.bipush 110, 2) := by decide +kernel
theorem dX8_readParts_104 : decode cX8_readParts 104 = .ok (.if_icmp .ne 80, 3) := by decide +kernel
theorem dX8_readParts_107 : decode cX8_readParts 107 = .ok (.aload_n 0, 1) := by decide +kernel
theorem dX8_readParts_108 : decode cX8_readParts 108 = .ok (.getfield 84, 3) := by decide +kernel
theorem dX8_readParts_111 : decode cX8_readParts 111 = .ok (.aload_n 0, 1) := by decide +kernel
theorem dX8_readParts_112 : decode cX8_readParts 112 = .ok (.getfield 27, 3) := by decide +kernel
theorem dX8_readParts_115 : decode cX8_readParts 115 = .ok (.getfield 352, 3) := by decide +kernel
theorem dX8_readParts_118 : decode cX8_readParts 118 = .ok (.iload 4, 2) := by decide +kernel
theorem dX8_readParts_120 : decode cX8_readParts 120 = .ok (.iconst 3, 1) := by decide +kernel
theorem dX8_readParts_121 : decode cX8_readParts 121 = .ok (.iadd, 1) := by decide +kernel
theorem dX8_readParts_122 : decode cX8_readParts 122 = .ok (.iload 7, 2) := by decide +kernel
theorem dX8_readParts_124 : decode cX8_readParts 124 = .ok (.invokevirtual 353, 3) := by decide +kernel
theorem dX8_readParts_127 : decode cX8_readParts 127 = .ok (.aload_n 0, 1) := by decide +kernel
theorem dX8_readParts_128 : decode cX8_readParts 128 = .ok (.getfield 84, 3) := by decide +kernel
theorem dX8_readParts_131 : decode cX8_readParts 131 = .ok (.aload_n 0, 1) := by decide +kernel
theorem dX8_readParts_132 : decode cX8_readParts 132 = .ok (.getfield 70, 3) := by decide +kernel
theorem dX8_readParts_135 : decode cX8_readParts 135 = .ok (.iload 6, 2) := by decide +kernel
theorem dX8_readParts_137 : decode cX8_readParts 137 = .ok (.iload_n 2, 1) := by decide +kernel
theorem dX8_readParts_138 : decode cX8_readParts 138 = .ok (.invokestatic 296, 3) := by decide +kernel
theorem dX8_readParts_141 : decode cX8_readParts 141 = .ok (.aload_n 0, 1) := by decide +kernel
theorem dX8_readParts_142 : decode cX8_readParts 142 = .ok (.getfield 70, 3) := by decide +kernel
theorem dX8_readParts_145 : decode cX8_readParts 145 = .ok (.iload 6, 2) := by decide +kernel
theorem dX8_readParts_147 : decode cX8_readParts 147 = .ok (.iload_n 2, 1) := by decide +kernel
theorem dX8_readParts_148 : decode cX8_readParts 148 = .ok (.invokevirtual 355, 3) := by decide +kernel
theorem dX8_readParts_151 : decode cX8_readParts 151 = .ok (.aload_n 0, 1) := by decide +kernel
theorem dX8_readParts_152 : decode cX8_readParts 152 = .ok (.getfield 31, 3) := by decide +kernel
theorem dX8_readParts_155 : decode cX8_readParts 155 = .ok (.aload_n 0, 1) := by decide +kernel
theorem dX8_readParts_156 : decode cX8_readParts 156 = .ok (.getfield 70, 3) := by decide +kernel
theorem dX8_readParts_159 : decode cX8_readParts 159 = .ok (.getfield 286, 3) := by decide +kernel
theorem dX8_readParts_162 : decode cX8_readParts 162 = .ok (.iload 6, 2) := by decide +kernel
theorem dX8_readParts_164 : decode cX8_readParts 164 = .ok (.bipush 8, 2) := by decide +kernel
theorem dX8_readParts_166 : decode cX8_readParts 166 = .ok (.imul, 1) := by decide +kernel
theorem dX8_readParts_167 : decode cX8_readParts 167 = .ok (.invokevirtual 358, 3) := by decide +kernel
theorem dX8_readParts_170 : decode cX8_readParts 170 = .ok (.aload_n 0, 1) := by decide +kernel
theorem dX8_readParts_171 : decode cX8_readParts 171 = .ok (.getfield 42, 3) := by decide +kernel
theorem dX8_readParts_174 : decode cX8_readParts 174 = .ok (.iload 6, 2) := by decide +kernel
theorem dX8_readParts_176 : decode cX8_readParts 176 = .ok (.dup2, 1) := by decide +kernel
theorem dX8_readParts_177 : decode cX8_readParts 177 = .ok (.iaload, 1) := by decide +kernel
theorem dX8_readParts_178 : decode cX8_readParts 178 = .ok (.iconst 1, 1) := by decide +kernel
theorem dX8_readParts_179 : decode cX8_readParts 179 = .ok (.iadd, 1) := by decide +kernel
theorem dX8_readParts_180 : decode cX8_readParts 180 = .ok (.iastore, 1) := by decide +kernel
theorem dX8_readParts_181 : decode cX8_readParts 181 = .ok (.goto 24, 3) := by decide +kernel
theorem dX8_readParts_184 : decode cX8_readParts 184 = .ok (.aload_n 0, 1) := by decide +kernel
theorem dX8_readParts_185 : decode cX8_readParts 185 = .ok (.getfield 38, 3) := by decide +kernel
theorem dX8_readParts_188 : decode cX8_readParts 188 = .ok (.iload 6, 2) := by decide +kernel
theorem dX8_readParts_190 : decode cX8_readParts 190 = .ok (.caload, 1) := by decide +kernel
theorem dX8_readParts_191 : decode cX8_readParts 191 = .ok (.bipush 110, 2) := by decide +kernel
theorem dX8_readParts_193 : decode cX8_readParts 193 = .ok (.if_icmp .ne 12, 3) := by decide +kernel
theorem dX8_readParts_196 : decode cX8_readParts 196 = .ok (.aload_n 0, 1) := by decide +kernel
theorem dX8_readParts_197 : decode cX8_readParts 197 = .ok (.getfield 38, 3) := by decide +kernel
theorem dX8_readParts_200 : decode cX8_readParts 200 = .ok (.iload 6, 2) := by decide +kernel
theorem dX8_readParts_202 : decode cX8_readParts 202 = .ok (.iload 8, 2) := by decide +kernel
theorem dX8_readParts_204 : decode cX8_readParts 204 = .ok (.castore, 1) := by decide +kernel
theorem dX8_readParts_205 : decode cX8_readParts 205 = .ok (.iload 8, 2) := by decide +kernel
theorem dX8_readParts_207 : decode cX8_readParts 207 = .ok (.bipush 101, 2) := by decide +kernel
theorem dX8_readParts_209 : decode cX8_readParts 209 = .ok (.if_icmp .ne 13, 3) := by decide +kernel
theorem dX8_readParts_212 : decode cX8_readParts 212 = .ok (.aload_n 0, 1) := by decide +kernel
theorem dX8_readParts_213 : decode cX8_readParts 213 = .ok (.getfield 27, 3) := by decide +kernel
theorem dX8_readParts_216 : decode cX8_readParts 216 = .ok (.getfield 155, 3) := by decide +kernel
theorem dX8_readParts_219 : decode cX8_readParts 219 = .ok (.goto 10, 3) := by decide +kernel
theorem dX8_readParts_222 : decode cX8_readParts 222 = .ok (.iload 4, 2) := by decide +kernel
theorem dX8_readParts_224 : decode cX8_readParts 224 = .ok (.iconst 3, 1) := by decide +kernel
theorem dX8_readParts_225 : decode cX8_readParts 225 = .ok (.iadd, 1) := by decide +kernel
theorem dX8_readParts_226 : decode cX8_readParts 226 = .ok (.iload 7, 2) := by decide +kernel
theorem dX8_readParts_228 : decode cX8_readParts 228 = .ok (.iadd, 1) := by decide +kernel
theorem dX8_readParts_229 : decode cX8_readParts 229 = .ok (.istore 4, 2) := by decide +kernel
theorem dX8_readParts_231 : decode cX8_readParts 231 = .ok (.iinc 6 1, 3) := by decide +kernel
theorem dX8_readParts_234 : decode cX8_readParts 234 = .ok (.goto (-170), 3) := by decide +kernel
theorem dX8_readParts_237 : decode cX8_readParts 237 = .ok (.iinc 5 1, 3) := by decide +kernel
theorem dX8_readParts_240 : decode cX8_readParts 240 = .ok (.goto (-203), 3) := by decide +kernel
theorem dX8_readParts_243 : decode cX8_readParts 243 = .ok (.return_, 1) := by decide +kernel
theorem dX8_partCount_0 : decode cX8_partCount 0 = .ok (.iload_n 1, 1) := by decide +kernel
theorem dX8_partCount_1 : decode cX8_partCount 1 = .ok (.iconst 3, 1) := by decide +kernel
theorem dX8_partCount_2 : decode cX8_partCount 2 = .ok (.iadd, 1) := by decide +kernel
theorem dX8_partCount_3 : decode cX8_partCount 3 = .ok (.aload_n 0, 1) := by decide +kernel
theorem dX8_partCount_4 : decode cX8_partCount 4 = .ok (.getfield 27, 3) := by decide +kernel
theorem dX8_partCount_7 : decode cX8_partCount 7 = .ok (.getfield 155, 3) := by decide +kernel
theorem dX8_partCount_10 : decode cX8_partCount 10 = .ok (.if_icmp .le 5, 3) := by decide +kernel
theorem dX8_partCount_13 : decode cX8_partCount 13 = .ok (.iconst (-1), 1) := by decide +kernel
theorem dX8_partCount_14 : decode cX8_partCount 14 = .ok (.ireturn, 1) := by decide +kernel
theorem dX8_partCount_15 : decode cX8_partCount 15 = .ok (.aload_n 0, 1) := by decide +kernel
theorem dX8_partCount_16 : decode cX8_partCount 16 = .ok (.getfield 27, 3) := by decide +kernel
theorem dX8_partCount_19 : decode cX8_partCount 19 = .ok (.iload_n 1, 1) := by decide +kernel
theorem dX8_partCount_20 : decode cX8_partCount 20 = .ok (.invokevirtual 166, 3) := by decide +kernel
theorem dX8_partCount_23 : decode cX8_partCount 23 = .ok (.sipush 256, 3) := by decide +kernel
theorem dX8_partCount_26 : decode cX8_partCount 26 = .ok (.imul, 1) := by decide +kernel
theorem dX8_partCount_27 : decode cX8_partCount 27 = .ok (.aload_n 0, 1) := by decide +kernel
theorem dX8_partCount_28 : decode cX8_partCount 28 = .ok (.getfield 27, 3) := by decide +kernel
theorem dX8_partCount_31 : decode cX8_partCount 31 = .ok (.iload_n 1, 1) := by decide +kernel
theorem dX8_partCount_32 : decode cX8_partCount 32 = .ok (.iconst 1, 1) := by decide +kernel
theorem dX8_partCount_33 : decode cX8_partCount 33 = .ok (.iadd, 1) := by decide +kernel
theorem dX8_partCount_34 : decode cX8_partCount 34 = .ok (.invokevirtual 166, 3) := by decide +kernel
theorem dX8_partCount_37 : decode cX8_partCount 37 = .ok (.iadd, 1) := by decide +kernel
theorem dX8_partCount_38 : decode cX8_partCount 38 = .ok (.ireturn, 1) := by decide +kernel
theorem dX8_partFault_0 : decode cX8_partFault 0 = .ok (.iload_n 2, 1) := by decide +kernel
theorem dX8_partFault_1 : decode cX8_partFault 1 = .ok (.ifCond .lt 18, 3) := by decide +kernel
theorem dX8_partFault_4 : decode cX8_partFault 4 = .ok (.iload_n 1, 1) := by decide +kernel
theorem dX8_partFault_5 : decode cX8_partFault 5 = .ok (.iconst 3, 1) := by decide +kernel
theorem dX8_partFault_6 : decode cX8_partFault 6 = .ok (.iadd, 1) := by decide +kernel
theorem dX8_partFault_7 : decode cX8_partFault 7 = .ok (.iload_n 2, 1) := by decide +kernel
theorem dX8_partFault_8 : decode cX8_partFault 8 = .ok (.iadd, 1) := by decide +kernel
theorem dX8_partFault_9 : decode cX8_partFault 9 = .ok (.aload_n 0, 1) := by decide +kernel
theorem dX8_partFault_10 : decode cX8_partFault 10 = .ok (.getfield 27, 3) := by decide +kernel
theorem dX8_partFault_13 : decode cX8_partFault 13 = .ok (.getfield 155, 3) := by decide +kernel
theorem dX8_partFault_16 : decode cX8_partFault 16 = .ok (.if_icmp .le 6, 3) := by decide +kernel
theorem dX8_partFault_19 : decode cX8_partFault 19 = .ok (.bipush 101, 2) := by decide +kernel
theorem dX8_partFault_21 : decode cX8_partFault 21 = .ok (.ireturn, 1) := by decide +kernel
theorem dX8_partFault_22 : decode cX8_partFault 22 = .ok (.aload_n 0, 1) := by decide +kernel
theorem dX8_partFault_23 : decode cX8_partFault 23 = .ok (.getfield 27, 3) := by decide +kernel
theorem dX8_partFault_26 : decode cX8_partFault 26 = .ok (.getfield 352, 3) := by decide +kernel
theorem dX8_partFault_29 : decode cX8_partFault 29 = .ok (.iload_n 1, 1) := by decide +kernel
theorem dX8_partFault_30 : decode cX8_partFault 30 = .ok (.iconst 3, 1) := by decide +kernel
theorem dX8_partFault_31 : decode cX8_partFault 31 = .ok (.iadd, 1) := by decide +kernel
theorem dX8_partFault_32 : decode cX8_partFault 32 = .ok (.iload_n 2, 1) := by decide +kernel
theorem dX8_partFault_33 : decode cX8_partFault 33 = .ok (.invokestatic 312, 3) := by decide +kernel
theorem dX8_partFault_36 : decode cX8_partFault 36 = .ok (.aload_n 0, 1) := by decide +kernel
theorem dX8_partFault_37 : decode cX8_partFault 37 = .ok (.getfield 27, 3) := by decide +kernel
theorem dX8_partFault_40 : decode cX8_partFault 40 = .ok (.iload_n 1, 1) := by decide +kernel
theorem dX8_partFault_41 : decode cX8_partFault 41 = .ok (.iconst 2, 1) := by decide +kernel
theorem dX8_partFault_42 : decode cX8_partFault 42 = .ok (.iadd, 1) := by decide +kernel
theorem dX8_partFault_43 : decode cX8_partFault 43 = .ok (.invokevirtual 166, 3) := by decide +kernel
theorem dX8_partFault_46 : decode cX8_partFault 46 = .ok (.if_icmp .ne 8, 3) := by decide +kernel
theorem dX8_partFault_49 : decode cX8_partFault 49 = .ok (.bipush 110, 2) := by decide +kernel
theorem dX8_partFault_51 : decode cX8_partFault 51 = .ok (.goto 5, 3) := by decide +kernel
theorem dX8_partFault_54 : decode cX8_partFault 54 = .ok (.bipush 115, 2) := by decide +kernel
theorem dX8_partFault_56 : decode cX8_partFault 56 = .ok (.ireturn, 1) := by decide +kernel
theorem dX8_countFaultySlices_0 : decode cX8_countFaultySlices 0 = .ok (.iconst 0, 1) := by decide +kernel
theorem dX8_countFaultySlices_1 : decode cX8_countFaultySlices 1 = .ok (.istore_n 1, 1) := by decide +kernel
theorem dX8_countFaultySlices_2 : decode cX8_countFaultySlices 2 = .ok (.iconst 0, 1) := by decide +kernel
theorem dX8_countFaultySlices_3 : decode cX8_countFaultySlices 3 = .ok (.istore_n 2, 1) := by decide +kernel
theorem dX8_countFaultySlices_4 : decode cX8_countFaultySlices 4 = .ok (.iload_n 2, 1) := by decide +kernel
theorem dX8_countFaultySlices_5 : decode cX8_countFaultySlices 5 = .ok (.aload_n 0, 1) := by decide +kernel
theorem dX8_countFaultySlices_6 : decode cX8_countFaultySlices 6 = .ok (.getfield 31, 3) := by decide +kernel
theorem dX8_countFaultySlices_9 : decode cX8_countFaultySlices 9 = .ok (.getfield 122, 3) := by decide +kernel
theorem dX8_countFaultySlices_12 : decode cX8_countFaultySlices 12 = .ok (.invokestatic 266, 3) := by decide +kernel
theorem dX8_countFaultySlices_15 : decode cX8_countFaultySlices 15 = .ok (.if_icmp .ge 23, 3) := by decide +kernel
theorem dX8_countFaultySlices_18 : decode cX8_countFaultySlices 18 = .ok (.aload_n 0, 1) := by decide +kernel
theorem dX8_countFaultySlices_19 : decode cX8_countFaultySlices 19 = .ok (.getfield 38, 3) := by decide +kernel
theorem dX8_countFaultySlices_22 : decode cX8_countFaultySlices 22 = .ok (.iload_n 2, 1) := by decide +kernel
theorem dX8_countFaultySlices_23 : decode cX8_countFaultySlices 23 = .ok (.caload, 1) := by decide +kernel
theorem dX8_countFaultySlices_24 : decode cX8_countFaultySlices 24 = .ok (.bipush 110, 2) := by decide +kernel
theorem dX8_countFaultySlices_26 : decode cX8_countFaultySlices 26 = .ok (.if_icmp .eq 6, 3) := by decide +kernel
theorem dX8_countFaultySlices_29 : decode cX8_countFaultySlices 29 = .ok (.iinc 1 1, 3) := by decide +kernel
theorem dX8_countFaultySlices_32 : decode cX8_countFaultySlices 32 = .ok (.iinc 2 1, 3) := by decide +kernel
theorem dX8_countFaultySlices_35 : decode cX8_countFaultySlices 35 = .ok (.goto (-31), 3) := by decide +kernel
theorem dX8_countFaultySlices_38 : decode cX8_countFaultySlices 38 = .ok (.iload_n 1, 1) := by decide +kernel
theorem dX8_countFaultySlices_39 : decode cX8_countFaultySlices 39 = .ok (.ireturn, 1) := by decide +kernel
theorem dX8_largestDifference_0 : decode cX8_largestDifference 0 = .ok (.iconst 0, 1) := by decide +kernel
theorem dX8_largestDifference_1 : decode cX8_largestDifference 1 = .ok (.istore_n 1, 1) := by decide +kernel
theorem dX8_largestDifference_2 : decode cX8_largestDifference 2 = .ok (.iconst 0, 1) := by decide +kernel
theorem dX8_largestDifference_3 : decode cX8_largestDifference 3 = .ok (.istore_n 2, 1) := by decide +kernel
theorem dX8_largestDifference_4 : decode cX8_largestDifference 4 = .ok (.iload_n 2, 1) := by decide +kernel
theorem dX8_largestDifference_5 : decode cX8_largestDifference 5 = .ok (.aload_n 0, 1) := by decide +kernel
theorem dX8_largestDifference_6 : decode cX8_largestDifference 6 = .ok (.getfield 12, 3) := by decide +kernel
theorem dX8_largestDifference_9 : decode cX8_largestDifference 9 = .ok (.getfield 122, 3) := by decide +kernel
theorem dX8_largestDifference_12 : decode cX8_largestDifference 12 = .ok (.if_icmp .ge 55, 3) := by decide +kernel
theorem dX8_largestDifference_15 : decode cX8_largestDifference 15 = .ok (.iconst 0, 1) := by decide +kernel
theorem dX8_largestDifference_16 : decode cX8_largestDifference 16 = .ok (.istore_n 3, 1) := by decide +kernel
theorem dX8_largestDifference_17 : decode cX8_largestDifference 17 = .ok (.iload_n 3, 1) := by decide +kernel
theorem dX8_largestDifference_18 : decode cX8_largestDifference 18 = .ok (.aload_n 0, 1) := by decide +kernel
theorem dX8_largestDifference_19 : decode cX8_largestDifference 19 = .ok (.getfield 12, 3) := by decide +kernel
theorem dX8_largestDifference_22 : decode cX8_largestDifference 22 = .ok (.getfield 119, 3) := by decide +kernel
theorem dX8_largestDifference_25 : decode cX8_largestDifference 25 = .ok (.if_icmp .ge 36, 3) := by decide +kernel
theorem dX8_largestDifference_28 : decode cX8_largestDifference 28 = .ok (.iload_n 1, 1) := by decide +kernel
theorem dX8_largestDifference_29 : decode cX8_largestDifference 29 = .ok (.aload_n 0, 1) := by decide +kernel
theorem dX8_largestDifference_30 : decode cX8_largestDifference 30 = .ok (.getfield 12, 3) := by decide +kernel
theorem dX8_largestDifference_33 : decode cX8_largestDifference 33 = .ok (.iload_n 3, 1) := by decide +kernel
theorem dX8_largestDifference_34 : decode cX8_largestDifference 34 = .ok (.iload_n 2, 1) := by decide +kernel
theorem dX8_largestDifference_35 : decode cX8_largestDifference 35 = .ok (.invokevirtual 111, 3) := by decide +kernel
theorem dX8_largestDifference_38 : decode cX8_largestDifference 38 = .ok (.aload_n 0, 1) := by decide +kernel
theorem dX8_largestDifference_39 : decode cX8_largestDifference 39 = .ok (.getfield 31, 3) := by decide +kernel
theorem dX8_largestDifference_42 : decode cX8_largestDifference 42 = .ok (.iload_n 3, 1) := by decide +kernel
theorem dX8_largestDifference_43 : decode cX8_largestDifference 43 = .ok (.iload_n 2, 1) := by decide +kernel
theorem dX8_largestDifference_44 : decode cX8_largestDifference 44 = .ok (.invokevirtual 111, 3) := by decide +kernel
theorem dX8_largestDifference_47 : decode cX8_largestDifference 47 = .ok (.isub, 1) := by decide +kernel
theorem dX8_largestDifference_48 : decode cX8_largestDifference 48 = .ok (.invokestatic 362, 3) := by decide +kernel
theorem dX8_largestDifference_51 : decode cX8_largestDifference 51 = .ok (.invokestatic 365, 3) := by decide +kernel
theorem dX8_largestDifference_54 : decode cX8_largestDifference 54 = .ok (.istore_n 1, 1) := by decide +kernel
theorem dX8_largestDifference_55 : decode cX8_largestDifference 55 = .ok (.iinc 3 1, 3) := by decide +kernel
theorem dX8_largestDifference_58 : decode cX8_largestDifference 58 = .ok (.goto (-41), 3) := by decide +kernel
theorem dX8_largestDifference_61 : decode cX8_largestDifference 61 = .ok (.iinc 2 1, 3) := by decide +kernel
theorem dX8_largestDifference_64 : decode cX8_largestDifference 64 = .ok (.goto (-60), 3) := by decide +kernel
theorem dX8_largestDifference_67 : decode cX8_largestDifference 67 = .ok (.iload_n 1, 1) := by decide +kernel
theorem dX8_largestDifference_68 : decode cX8_largestDifference 68 = .ok (.ireturn, 1) := by decide +kernel
theorem dX9_init_0 : decode cX9_init 0 = .ok (.aload_n 0, 1) := by decide +kernel
theorem dX9_init_1 : decode cX9_init 1 = .ok (.invokespecial 1, 3) := by decide +kernel
theorem dX9_init_4 : decode cX9_init 4 = .ok (.aload_n 0, 1) := by decide +kernel
theorem dX9_init_5 : decode cX9_init 5 = .ok (.iload_n 1, 1) := by decide +kernel
theorem dX9_init_6 : decode cX9_init 6 = .ok (.ldc 7, 2) := by decide +kernel
theorem dX9_init_8 : decode cX9_init 8 = .ok (.imul, 1) := by decide +kernel
theorem dX9_init_9 : decode cX9_init 9 = .ok (.sipush 12345, 3) := by decide +kernel
theorem dX9_init_12 : decode cX9_init 12 = .ok (.iadd, 1) := by decide +kernel
theorem dX9_init_13 : decode cX9_init 13 = .ok (.putfield 8, 3) := by decide +kernel
theorem dX9_init_16 : decode cX9_init 16 = .ok (.return_, 1) := by decide +kernel
theorem dX9_next_0 : decode cX9_next 0 = .ok (.aload_n 0, 1) := by decide +kernel
theorem dX9_next_1 : decode cX9_next 1 = .ok (.aload_n 0, 1) := by decide +kernel
theorem dX9_next_2 : decode cX9_next 2 = .ok (.getfield 8, 3) := by decide +kernel
theorem dX9_next_5 : decode cX9_next 5 = .ok (.ldc 14, 2) := by decide +kernel
theorem dX9_next_7 : decode cX9_next 7 = .ok (.imul, 1) := by decide +kernel
theorem dX9_next_8 : decode cX9_next 8 = .ok (.sipush 12345, 3) := by decide +kernel
theorem dX9_next_11 : decode cX9_next 11 = .ok (.iadd, 1) := by decide +kernel
theorem dX9_next_12 : decode cX9_next 12 = .ok (.putfield 8, 3) := by decide +kernel
theorem dX9_next_15 : decode cX9_next 15 = .ok (.aload_n 0, 1) := by decide +kernel
theorem dX9_next_16 : decode cX9_next 16 = .ok (.getfield 8, 3) := by decide +kernel
theorem dX9_next_19 : decode cX9_next 19 = .ok (.bipush 16, 2) := by decide +kernel
theorem dX9_next_21 : decode cX9_next 21 = .ok (.iushr, 1) := by decide +kernel
theorem dX9_next_22 : decode cX9_next 22 = .ok (.sipush 32767, 3) := by decide +kernel
theorem dX9_next_25 : decode cX9_next 25 = .ok (.iand, 1) := by decide +kernel
theorem dX9_next_26 : decode cX9_next 26 = .ok (.iconst 1, 1) := by decide +kernel
theorem dX9_next_27 : decode cX9_next 27 = .ok (.iload_n 1, 1) := by decide +kernel
theorem dX9_next_28 : decode cX9_next 28 = .ok (.invokestatic 15, 3) := by decide +kernel
theorem dX9_next_31 : decode cX9_next 31 = .ok (.irem, 1) := by decide +kernel
theorem dX9_next_32 : decode cX9_next 32 = .ok (.ireturn, 1) := by decide +kernel
theorem dJ5_init_d00df_0 : decode cJ5_init_d00df 0 = .ok (.aload_n 0, 1) := by decide +kernel
theorem dJ5_init_d00df_1 : decode cJ5_init_d00df 1 = .ok (.invokespecial 3, 3) := by decide +kernel
theorem dJ5_init_d00df_4 : decode cJ5_init_d00df 4 = .ok (.getstatic 18, 3) := by decide +kernel
theorem dJ5_init_d00df_7 : decode cJ5_init_d00df 7 = .ok (.ifCond .eq 18, 3) := by decide +kernel
theorem dJ5_init_d00df_10 : decode cJ5_init_d00df 10 = .ok (.aload_n 0, 1) := by decide +kernel
theorem dJ5_init_d00df_11 : decode cJ5_init_d00df 11 = .ok (.iload_n 1, 1) := by decide +kernel
theorem dJ5_init_d00df_12 : decode cJ5_init_d00df 12 = .ok (.newarray .byte, 2) := by decide +kernel
theorem dJ5_init_d00df_14 : decode cJ5_init_d00df 14 = .ok (.putfield 15, 3) := by decide +kernel
theorem dJ5_init_d00df_17 : decode cJ5_init_d00df 17 = .ok (.aload_n 0, 1) := by decide +kernel
theorem dJ5_init_d00df_18 : decode cJ5_init_d00df 18 = .ok (.iconst 0, 1) := by decide +kernel
theorem dJ5_init_d00df_19 : decode cJ5_init_d00df 19 = .ok (.putfield 22, 3) := by decide +kernel
theorem dJ5_init_d00df_22 : decode cJ5_init_d00df 22 = .ok (.goto 16, 3) := by decide +kernel
theorem dJ5_init_d00df_25 : decode cJ5_init_d00df 25 = .ok (.aload_n 0, 1) := by decide +kernel
theorem dJ5_init_d00df_26 : decode cJ5_init_d00df 26 = .ok (.iload_n 1, 1) := by decide +kernel
theorem dJ5_init_d00df_27 : decode cJ5_init_d00df 27 = .ok (.invokestatic 26, 3) := by decide +kernel
theorem dJ5_init_d00df_30 : decode cJ5_init_d00df 30 = .ok (.putfield 15, 3) := by decide +kernel
theorem dJ5_init_d00df_33 : decode cJ5_init_d00df 33 = .ok (.aload_n 0, 1) := by decide +kernel
theorem dJ5_init_d00df_34 : decode cJ5_init_d00df 34 = .ok (.iconst 1, 1) := by decide +kernel
theorem dJ5_init_d00df_35 : decode cJ5_init_d00df 35 = .ok (.putfield 22, 3) := by decide +kernel
theorem dJ5_init_d00df_38 : decode cJ5_init_d00df 38 = .ok (.return_, 1) := by decide +kernel
theorem dJ5_length_8abf5_0 : decode cJ5_length_8abf5 0 = .ok (.aload_n 0, 1) := by decide +kernel
theorem dJ5_length_8abf5_1 : decode cJ5_length_8abf5 1 = .ok (.getfield 79, 3) := by decide +kernel
theorem dJ5_length_8abf5_4 : decode cJ5_length_8abf5 4 = .ok (.ireturn, 1) := by decide +kernel
theorem dJ5_ensureCapacityInternal_d00df_0 : decode cJ5_ensureCapacityInternal_d00df 0 = .ok (.aload_n 0, 1) := by decide +kernel
theorem dJ5_ensureCapacityInternal_d00df_1 : decode cJ5_ensureCapacityInternal_d00df 1 = .ok (.getfield 15, 3) := by decide +kernel
theorem dJ5_ensureCapacityInternal_d00df_4 : decode cJ5_ensureCapacityInternal_d00df 4 = .ok (.arraylength, 1) := by decide +kernel
theorem dJ5_ensureCapacityInternal_d00df_5 : decode cJ5_ensureCapacityInternal_d00df 5 = .ok (.aload_n 0, 1) := by decide +kernel
theorem dJ5_ensureCapacityInternal_d00df_6 : decode cJ5_ensureCapacityInternal_d00df 6 = .ok (.getfield 22, 3) := by decide +kernel
theorem dJ5_ensureCapacityInternal_d00df_9 : decode cJ5_ensureCapacityInternal_d00df 9 = .ok (.ishr, 1) := by decide +kernel
theorem dJ5_ensureCapacityInternal_d00df_10 : decode cJ5_ensureCapacityInternal_d00df 10 = .ok (.istore_n 2, 1) := by decide +kernel
theorem dJ5_ensureCapacityInternal_d00df_11 : decode cJ5_ensureCapacityInternal_d00df 11 = .ok (.iload_n 1, 1) := by decide +kernel
theorem dJ5_ensureCapacityInternal_d00df_12 : decode cJ5_ensureCapacityInternal_d00df 12 = .ok (.iload_n 2, 1) := by decide +kernel
theorem dJ5_ensureCapacityInternal_d00df_13 : decode cJ5_ensureCapacityInternal_d00df 13 = .ok (.isub, 1) := by decide +kernel
theorem dJ5_ensureCapacityInternal_d00df_14 : decode cJ5_ensureCapacityInternal_d00df 14 = .ok (.ifCond .le 24, 3) := by decide +kernel
theorem dJ5_ensureCapacityInternal_d00df_17 : decode cJ5_ensureCapacityInternal_d00df 17 = .ok (.aload_n 0, 1) := by decide +kernel
theorem dJ5_ensureCapacityInternal_d00df_18 : decode cJ5_ensureCapacityInternal_d00df 18 = .ok (.aload_n 0, 1) := by decide +kernel
theorem dJ5_ensureCapacityInternal_d00df_19 : decode cJ5_ensureCapacityInternal_d00df 19 = .ok (.getfield 15, 3) := by decide +kernel
theorem dJ5_ensureCapacityInternal_d00df_22 : decode cJ5_ensureCapacityInternal_d00df 22 = .ok (.aload_n 0, 1) := by decide +kernel
theorem dJ5_ensureCapacityInternal_d00df_23 : decode cJ5_ensureCapacityInternal_d00df 23 = .ok (.iload_n 1, 1) := by decide +kernel
theorem dJ5_ensureCapacityInternal_d00df_24 : decode cJ5_ensureCapacityInternal_d00df 24 = .ok (.invokevirtual 104, 3) := by decide +kernel
theorem dJ5_ensureCapacityInternal_d00df_27 : decode cJ5_ensureCapacityInternal_d00df 27 = .ok (.aload_n 0, 1) := by decide +kernel
theorem dJ5_ensureCapacityInternal_d00df_28 : decode cJ5_ensureCapacityInternal_d00df 28 = .ok (.getfield 22, 3) := by decide +kernel
theorem dJ5_ensureCapacityInternal_d00df_31 : decode cJ5_ensureCapacityInternal_d00df 31 = .ok (.ishl, 1) := by decide +kernel
theorem dJ5_ensureCapacityInternal_d00df_32 : decode cJ5_ensureCapacityInternal_d00df 32 = .ok (.invokestatic 108, 3) := by decide +kernel
theorem dJ5_ensureCapacityInternal_d00df_35 : decode cJ5_ensureCapacityInternal_d00df 35 = .ok (.putfield 15, 3) := by decide +kernel
theorem dJ5_ensureCapacityInternal_d00df_38 : decode cJ5_ensureCapacityInternal_d00df 38 = .ok (.return_, 1) := by decide +kernel
theorem dJ5_newCapacity_0f7a4_0 : decode cJ5_newCapacity_0f7a4 0 = .ok (.aload_n 0, 1) := by decide +kernel
theorem dJ5_newCapacity_0f7a4_1 : decode cJ5_newCapacity_0f7a4 1 = .ok (.getfield 15, 3) := by decide +kernel
theorem dJ5_newCapacity_0f7a4_4 : decode cJ5_newCapacity_0f7a4 4 = .ok (.arraylength, 1) := by decide +kernel
theorem dJ5_newCapacity_0f7a4_5 : decode cJ5_newCapacity_0f7a4 5 = .ok (.istore_n 2, 1) := by decide +kernel
theorem dJ5_newCapacity_0f7a4_6 : decode cJ5_newCapacity_0f7a4 6 = .ok (.iload_n 1, 1) := by decide +kernel
theorem dJ5_newCapacity_0f7a4_7 : decode cJ5_newCapacity_0f7a4 7 = .ok (.aload_n 0, 1) := by decide +kernel
theorem dJ5_newCapacity_0f7a4_8 : decode cJ5_newCapacity_0f7a4 8 = .ok (.getfield 22, 3) := by decide +kernel
theorem dJ5_newCapacity_0f7a4_11 : decode cJ5_newCapacity_0f7a4 11 = .ok (.ishl, 1) := by decide +kernel
theorem dJ5_newCapacity_0f7a4_12 : decode cJ5_newCapacity_0f7a4 12 = .ok (.istore_n 3, 1) := by decide +kernel
theorem dJ5_newCapacity_0f7a4_13 : decode cJ5_newCapacity_0f7a4 13 = .ok (.iload_n 3, 1) := by decide +kernel
theorem dJ5_newCapacity_0f7a4_14 : decode cJ5_newCapacity_0f7a4 14 = .ok (.iload_n 2, 1) := by decide +kernel
theorem dJ5_newCapacity_0f7a4_15 : decode cJ5_newCapacity_0f7a4 15 = .ok (.isub, 1) := by decide +kernel
theorem dJ5_newCapacity_0f7a4_16 : decode cJ5_newCapacity_0f7a4 16 = .ok (.istore 4, 2) := by decide +kernel
theorem dJ5_newCapacity_0f7a4_18 : decode cJ5_newCapacity_0f7a4 18 = .ok (.iload_n 2, 1) := by decide +kernel
theorem dJ5_newCapacity_0f7a4_19 : decode cJ5_newCapacity_0f7a4 19 = .ok (.iload 4, 2) := by decide +kernel
theorem dJ5_newCapacity_0f7a4_21 : decode cJ5_newCapacity_0f7a4 21 = .ok (.iload_n 2, 1) := by decide +kernel
theorem dJ5_newCapacity_0f7a4_22 : decode cJ5_newCapacity_0f7a4 22 = .ok (.iconst 2, 1) := by decide +kernel
theorem dJ5_newCapacity_0f7a4_23 : decode cJ5_newCapacity_0f7a4 23 = .ok (.aload_n 0, 1) := by decide +kernel
theorem dJ5_newCapacity_0f7a4_24 : decode cJ5_newCapacity_0f7a4 24 = .ok (.getfield 22, 3) := by decide +kernel
theorem dJ5_newCapacity_0f7a4_27 : decode cJ5_newCapacity_0f7a4 27 = .ok (.ishl, 1) := by decide +kernel
theorem dJ5_newCapacity_0f7a4_28 : decode cJ5_newCapacity_0f7a4 28 = .ok (.iadd, 1) := by decide +kernel
theorem dJ5_newCapacity_0f7a4_29 : decode cJ5_newCapacity_0f7a4 29 = .ok (.invokestatic 114, 3) := by decide +kernel
theorem dJ5_newCapacity_0f7a4_32 : decode cJ5_newCapacity_0f7a4 32 = .ok (.istore 5, 2) := by decide +kernel
theorem dJ5_newCapacity_0f7a4_34 : decode cJ5_newCapacity_0f7a4 34 = .ok (.iload 5, 2) := by decide +kernel
theorem dJ5_newCapacity_0f7a4_36 : decode cJ5_newCapacity_0f7a4 36 = .ok (.ldc 39, 2) := by decide +kernel
theorem dJ5_newCapacity_0f7a4_38 : decode cJ5_newCapacity_0f7a4 38 = .ok (.if_icmp .ne 13, 3) := by decide +kernel
theorem dJ5_newCapacity_0f7a4_41 : decode cJ5_newCapacity_0f7a4 41 = .ok (.new 120, 3) := by decide +kernel
theorem dJ5_newCapacity_0f7a4_44 : decode cJ5_newCapacity_0f7a4 44 = .ok (.dup, 1) := by decide +kernel
theorem dJ5_newCapacity_0f7a4_45 : decode cJ5_newCapacity_0f7a4 45 = .ok (.ldc 122, 2) := by decide +kernel
theorem dJ5_newCapacity_0f7a4_47 : decode cJ5_newCapacity_0f7a4 47 = .ok (.invokespecial 124, 3) := by decide +kernel
theorem dJ5_newCapacity_0f7a4_50 : decode cJ5_newCapacity_0f7a4 50 = .ok (.athrow, 1) := by decide +kernel
theorem dJ5_newCapacity_0f7a4_51 : decode cJ5_newCapacity_0f7a4 51 = .ok (.iload 5, 2) := by decide +kernel
theorem dJ5_newCapacity_0f7a4_53 : decode cJ5_newCapacity_0f7a4 53 = .ok (.aload_n 0, 1) := by decide +kernel
theorem dJ5_newCapacity_0f7a4_54 : decode cJ5_newCapacity_0f7a4 54 = .ok (.getfield 22, 3) := by decide +kernel
theorem dJ5_newCapacity_0f7a4_57 : decode cJ5_newCapacity_0f7a4 57 = .ok (.ishr, 1) := by decide +kernel
theorem dJ5_newCapacity_0f7a4_58 : decode cJ5_newCapacity_0f7a4 58 = .ok (.ireturn, 1) := by decide +kernel
theorem dJ5_inflate_da8c8_0 : decode cJ5_inflate_da8c8 0 = .ok (.aload_n 0, 1) := by decide +kernel
theorem dJ5_inflate_da8c8_1 : decode cJ5_inflate_da8c8 1 = .ok (.invokevirtual 83, 3) := by decide +kernel
theorem dJ5_inflate_da8c8_4 : decode cJ5_inflate_da8c8 4 = .ok (.ifCond .ne 4, 3) := by decide +kernel
theorem dJ5_inflate_da8c8_7 : decode cJ5_inflate_da8c8 7 = .ok (.return_, 1) := by decide +kernel
theorem dJ5_inflate_da8c8_8 : decode cJ5_inflate_da8c8 8 = .ok (.aload_n 0, 1) := by decide +kernel
theorem dJ5_inflate_da8c8_9 : decode cJ5_inflate_da8c8 9 = .ok (.getfield 15, 3) := by decide +kernel
theorem dJ5_inflate_da8c8_12 : decode cJ5_inflate_da8c8 12 = .ok (.arraylength, 1) := by decide +kernel
theorem dJ5_inflate_da8c8_13 : decode cJ5_inflate_da8c8 13 = .ok (.invokestatic 26, 3) := by decide +kernel
theorem dJ5_inflate_da8c8_16 : decode cJ5_inflate_da8c8 16 = .ok (.astore_n 1, 1) := by decide +kernel
theorem dJ5_inflate_da8c8_17 : decode cJ5_inflate_da8c8 17 = .ok (.aload_n 0, 1) := by decide +kernel
theorem dJ5_inflate_da8c8_18 : decode cJ5_inflate_da8c8 18 = .ok (.getfield 15, 3) := by decide +kernel
theorem dJ5_inflate_da8c8_21 : decode cJ5_inflate_da8c8 21 = .ok (.iconst 0, 1) := by decide +kernel
theorem dJ5_inflate_da8c8_22 : decode cJ5_inflate_da8c8 22 = .ok (.aload_n 1, 1) := by decide +kernel
theorem dJ5_inflate_da8c8_23 : decode cJ5_inflate_da8c8 23 = .ok (.iconst 0, 1) := by decide +kernel
theorem dJ5_inflate_da8c8_24 : decode cJ5_inflate_da8c8 24 = .ok (.aload_n 0, 1) := by decide +kernel
theorem dJ5_inflate_da8c8_25 : decode cJ5_inflate_da8c8 25 = .ok (.getfield 79, 3) := by decide +kernel
theorem dJ5_inflate_da8c8_28 : decode cJ5_inflate_da8c8 28 = .ok (.invokestatic 125, 3) := by decide +kernel
theorem dJ5_inflate_da8c8_31 : decode cJ5_inflate_da8c8 31 = .ok (.aload_n 0, 1) := by decide +kernel
theorem dJ5_inflate_da8c8_32 : decode cJ5_inflate_da8c8 32 = .ok (.aload_n 1, 1) := by decide +kernel
theorem dJ5_inflate_da8c8_33 : decode cJ5_inflate_da8c8 33 = .ok (.putfield 15, 3) := by decide +kernel
theorem dJ5_inflate_da8c8_36 : decode cJ5_inflate_da8c8 36 = .ok (.aload_n 0, 1) := by decide +kernel
theorem dJ5_inflate_da8c8_37 : decode cJ5_inflate_da8c8 37 = .ok (.iconst 1, 1) := by decide +kernel
theorem dJ5_inflate_da8c8_38 : decode cJ5_inflate_da8c8 38 = .ok (.putfield 22, 3) := by decide +kernel
theorem dJ5_inflate_da8c8_41 : decode cJ5_inflate_da8c8 41 = .ok (.return_, 1) := by decide +kernel
theorem dJ5_charAt_5068e_0 : decode cJ5_charAt_5068e 0 = .ok (.aload_n 0, 1) := by decide +kernel
theorem dJ5_charAt_5068e_1 : decode cJ5_charAt_5068e 1 = .ok (.getfield 22, 3) := by decide +kernel
theorem dJ5_charAt_5068e_4 : decode cJ5_charAt_5068e 4 = .ok (.istore_n 2, 1) := by decide +kernel
theorem dJ5_charAt_5068e_5 : decode cJ5_charAt_5068e 5 = .ok (.aload_n 0, 1) := by decide +kernel
theorem dJ5_charAt_5068e_6 : decode cJ5_charAt_5068e 6 = .ok (.getfield 15, 3) := by decide +kernel
theorem dJ5_charAt_5068e_9 : decode cJ5_charAt_5068e 9 = .ok (.astore_n 3, 1) := by decide +kernel
theorem dJ5_charAt_5068e_10 : decode cJ5_charAt_5068e 10 = .ok (.aload_n 0, 1) := by decide +kernel
theorem dJ5_charAt_5068e_11 : decode cJ5_charAt_5068e 11 = .ok (.getfield 79, 3) := by decide +kernel
theorem dJ5_charAt_5068e_14 : decode cJ5_charAt_5068e 14 = .ok (.aload_n 3, 1) := by decide +kernel
theorem dJ5_charAt_5068e_15 : decode cJ5_charAt_5068e 15 = .ok (.arraylength, 1) := by decide +kernel
theorem dJ5_charAt_5068e_16 : decode cJ5_charAt_5068e 16 = .ok (.iload_n 2, 1) := by decide +kernel
theorem dJ5_charAt_5068e_17 : decode cJ5_charAt_5068e 17 = .ok (.ishr, 1) := by decide +kernel
theorem dJ5_charAt_5068e_18 : decode cJ5_charAt_5068e 18 = .ok (.invokestatic 138, 3) := by decide +kernel
theorem dJ5_charAt_5068e_21 : decode cJ5_charAt_5068e 21 = .ok (.istore 4, 2) := by decide +kernel
theorem dJ5_charAt_5068e_23 : decode cJ5_charAt_5068e 23 = .ok (.iload_n 1, 1) := by decide +kernel
theorem dJ5_charAt_5068e_24 : decode cJ5_charAt_5068e 24 = .ok (.iload 4, 2) := by decide +kernel
theorem dJ5_charAt_5068e_26 : decode cJ5_charAt_5068e 26 = .ok (.invokestatic 144, 3) := by decide +kernel
theorem dJ5_charAt_5068e_29 : decode cJ5_charAt_5068e 29 = .ok (.iload_n 2, 1) := by decide +kernel
theorem dJ5_charAt_5068e_30 : decode cJ5_charAt_5068e 30 = .ok (.ifCond .ne 12, 3) := by decide +kernel
theorem dJ5_charAt_5068e_33 : decode cJ5_charAt_5068e 33 = .ok (.aload_n 3, 1) := by decide +kernel
theorem dJ5_charAt_5068e_34 : decode cJ5_charAt_5068e 34 = .ok (.iload_n 1, 1) := by decide +kernel
theorem dJ5_charAt_5068e_35 : decode cJ5_charAt_5068e 35 = .ok (.baload, 1) := by decide +kernel
theorem dJ5_charAt_5068e_36 : decode cJ5_charAt_5068e 36 = .ok (.sipush 255, 3) := by decide +kernel
theorem dJ5_charAt_5068e_39 : decode cJ5_charAt_5068e 39 = .ok (.iand, 1) := by decide +kernel
theorem dJ5_charAt_5068e_40 : decode cJ5_charAt_5068e 40 = .ok (.i2c, 1) := by decide +kernel
theorem dJ5_charAt_5068e_41 : decode cJ5_charAt_5068e 41 = .ok (.ireturn, 1) := by decide +kernel
theorem dJ5_charAt_5068e_42 : decode cJ5_charAt_5068e 42 = .ok (.aload_n 3, 1) := by decide +kernel
theorem dJ5_charAt_5068e_43 : decode cJ5_charAt_5068e 43 = .ok (.iload_n 1, 1) := by decide +kernel
theorem dJ5_charAt_5068e_44 : decode cJ5_charAt_5068e 44 = .ok (.invokestatic 148, 3) := by decide +kernel
theorem dJ5_charAt_5068e_47 : decode cJ5_charAt_5068e 47 = .ok (.ireturn, 1) := by decide +kernel
theorem dJ5_append_cf1ce_0 : decode cJ5_append_cf1ce 0 = .ok (.aload_n 1, 1) := by decide +kernel
theorem dJ5_append_cf1ce_1 : decode cJ5_append_cf1ce 1 = .ok (.ifnonnull 8, 3) := by decide +kernel
theorem dJ5_append_cf1ce_4 : decode cJ5_append_cf1ce 4 = .ok (.aload_n 0, 1) := by decide +kernel
theorem dJ5_append_cf1ce_5 : decode cJ5_append_cf1ce 5 = .ok (.invokevirtual 204, 3) := by decide +kernel
theorem dJ5_append_cf1ce_8 : decode cJ5_append_cf1ce 8 = .ok (.areturn, 1) := by decide +kernel
theorem dJ5_append_cf1ce_9 : decode cJ5_append_cf1ce 9 = .ok (.aload_n 1, 1) := by decide +kernel
theorem dJ5_append_cf1ce_10 : decode cJ5_append_cf1ce 10 = .ok (.invokevirtual 32, 3) := by decide +kernel
theorem dJ5_append_cf1ce_13 : decode cJ5_append_cf1ce 13 = .ok (.istore_n 2, 1) := by decide +kernel
theorem dJ5_append_cf1ce_14 : decode cJ5_append_cf1ce 14 = .ok (.aload_n 0, 1) := by decide +kernel
theorem dJ5_append_cf1ce_15 : decode cJ5_append_cf1ce 15 = .ok (.aload_n 0, 1) := by decide +kernel
theorem dJ5_append_cf1ce_16 : decode cJ5_append_cf1ce 16 = .ok (.getfield 79, 3) := by decide +kernel
theorem dJ5_append_cf1ce_19 : decode cJ5_append_cf1ce 19 = .ok (.iload_n 2, 1) := by decide +kernel
theorem dJ5_append_cf1ce_20 : decode cJ5_append_cf1ce 20 = .ok (.iadd, 1) := by decide +kernel
theorem dJ5_append_cf1ce_21 : decode cJ5_append_cf1ce 21 = .ok (.invokevirtual 100, 3) := by decide +kernel
theorem dJ5_append_cf1ce_24 : decode cJ5_append_cf1ce 24 = .ok (.aload_n 0, 1) := by decide +kernel
theorem dJ5_append_cf1ce_25 : decode cJ5_append_cf1ce 25 = .ok (.aload_n 0, 1) := by decide +kernel
theorem dJ5_append_cf1ce_26 : decode cJ5_append_cf1ce 26 = .ok (.getfield 79, 3) := by decide +kernel
theorem dJ5_append_cf1ce_29 : decode cJ5_append_cf1ce 29 = .ok (.aload_n 1, 1) := by decide +kernel
theorem dJ5_append_cf1ce_30 : decode cJ5_append_cf1ce 30 = .ok (.invokevirtual 208, 3) := by decide +kernel
theorem dJ5_append_cf1ce_33 : decode cJ5_append_cf1ce 33 = .ok (.aload_n 0, 1) := by decide +kernel
theorem dJ5_append_cf1ce_34 : decode cJ5_append_cf1ce 34 = .ok (.dup, 1) := by decide +kernel
theorem dJ5_append_cf1ce_35 : decode cJ5_append_cf1ce 35 = .ok (.getfield 79, 3) := by decide +kernel
theorem dJ5_append_cf1ce_38 : decode cJ5_append_cf1ce 38 = .ok (.iload_n 2, 1) := by decide +kernel
theorem dJ5_append_cf1ce_39 : decode cJ5_append_cf1ce 39 = .ok (.iadd, 1) := by decide +kernel
theorem dJ5_append_cf1ce_40 : decode cJ5_append_cf1ce 40 = .ok (.putfield 79, 3) := by decide +kernel
theorem dJ5_append_cf1ce_43 : decode cJ5_append_cf1ce 43 = .ok (.aload_n 0, 1) := by decide +kernel
theorem dJ5_append_cf1ce_44 : decode cJ5_append_cf1ce 44 = .ok (.areturn, 1) := by decide +kernel
theorem dJ5_append_2ceeb_0 : decode cJ5_append_2ceeb 0 = .ok (.aload_n 1, 1) := by decide +kernel
theorem dJ5_append_2ceeb_1 : decode cJ5_append_2ceeb 1 = .ok (.ifnonnull 8, 3) := by decide +kernel
theorem dJ5_append_2ceeb_4 : decode cJ5_append_2ceeb 4 = .ok (.aload_n 0, 1) := by decide +kernel
theorem dJ5_append_2ceeb_5 : decode cJ5_append_2ceeb 5 = .ok (.invokevirtual 204, 3) := by decide +kernel
theorem dJ5_append_2ceeb_8 : decode cJ5_append_2ceeb 8 = .ok (.areturn, 1) := by decide +kernel
theorem dJ5_append_2ceeb_9 : decode cJ5_append_2ceeb 9 = .ok (.aload_n 1, 1) := by decide +kernel
theorem dJ5_append_2ceeb_10 : decode cJ5_append_2ceeb 10 = .ok (.invokevirtual 160, 3) := by decide +kernel
theorem dJ5_append_2ceeb_13 : decode cJ5_append_2ceeb 13 = .ok (.istore_n 2, 1) := by decide +kernel
theorem dJ5_append_2ceeb_14 : decode cJ5_append_2ceeb 14 = .ok (.aload_n 0, 1) := by decide +kernel
theorem dJ5_append_2ceeb_15 : decode cJ5_append_2ceeb 15 = .ok (.aload_n 0, 1) := by decide +kernel
theorem dJ5_append_2ceeb_16 : decode cJ5_append_2ceeb 16 = .ok (.getfield 79, 3) := by decide +kernel
theorem dJ5_append_2ceeb_19 : decode cJ5_append_2ceeb 19 = .ok (.iload_n 2, 1) := by decide +kernel
theorem dJ5_append_2ceeb_20 : decode cJ5_append_2ceeb 20 = .ok (.iadd, 1) := by decide +kernel
theorem dJ5_append_2ceeb_21 : decode cJ5_append_2ceeb 21 = .ok (.invokevirtual 100, 3) := by decide +kernel
theorem dJ5_append_2ceeb_24 : decode cJ5_append_2ceeb 24 = .ok (.aload_n 0, 1) := by decide +kernel
theorem dJ5_append_2ceeb_25 : decode cJ5_append_2ceeb 25 = .ok (.aload_n 1, 1) := by decide +kernel
theorem dJ5_append_2ceeb_26 : decode cJ5_append_2ceeb 26 = .ok (.invokevirtual 215, 3) := by decide +kernel
theorem dJ5_append_2ceeb_29 : decode cJ5_append_2ceeb 29 = .ok (.aload_n 1, 1) := by decide +kernel
theorem dJ5_append_2ceeb_30 : decode cJ5_append_2ceeb 30 = .ok (.aload_n 0, 1) := by decide +kernel
theorem dJ5_append_2ceeb_31 : decode cJ5_append_2ceeb 31 = .ok (.getfield 15, 3) := by decide +kernel
theorem dJ5_append_2ceeb_34 : decode cJ5_append_2ceeb 34 = .ok (.aload_n 0, 1) := by decide +kernel
theorem dJ5_append_2ceeb_35 : decode cJ5_append_2ceeb 35 = .ok (.getfield 79, 3) := by decide +kernel
theorem dJ5_append_2ceeb_38 : decode cJ5_append_2ceeb 38 = .ok (.aload_n 0, 1) := by decide +kernel
theorem dJ5_append_2ceeb_39 : decode cJ5_append_2ceeb 39 = .ok (.getfield 22, 3) := by decide +kernel
theorem dJ5_append_2ceeb_42 : decode cJ5_append_2ceeb 42 = .ok (.invokevirtual 219, 3) := by decide +kernel
theorem dJ5_append_2ceeb_45 : decode cJ5_append_2ceeb 45 = .ok (.aload_n 0, 1) := by decide +kernel
theorem dJ5_append_2ceeb_46 : decode cJ5_append_2ceeb 46 = .ok (.dup, 1) := by decide +kernel
theorem dJ5_append_2ceeb_47 : decode cJ5_append_2ceeb 47 = .ok (.getfield 79, 3) := by decide +kernel
theorem dJ5_append_2ceeb_50 : decode cJ5_append_2ceeb 50 = .ok (.iload_n 2, 1) := by decide +kernel
theorem dJ5_append_2ceeb_51 : decode cJ5_append_2ceeb 51 = .ok (.iadd, 1) := by decide +kernel
theorem dJ5_append_2ceeb_52 : decode cJ5_append_2ceeb 52 = .ok (.putfield 79, 3) := by decide +kernel
theorem dJ5_append_2ceeb_55 : decode cJ5_append_2ceeb 55 = .ok (.aload_n 0, 1) := by decide +kernel
theorem dJ5_append_2ceeb_56 : decode cJ5_append_2ceeb 56 = .ok (.dup, 1) := by decide +kernel
theorem dJ5_append_2ceeb_57 : decode cJ5_append_2ceeb 57 = .ok (.getfield 73, 3) := by decide +kernel
theorem dJ5_append_2ceeb_60 : decode cJ5_append_2ceeb 60 = .ok (.aload_n 1, 1) := by decide +kernel
theorem dJ5_append_2ceeb_61 : decode cJ5_append_2ceeb 61 = .ok (.getfield 73, 3) := by decide +kernel
theorem dJ5_append_2ceeb_64 : decode cJ5_append_2ceeb 64 = .ok (.ior, 1) := by decide +kernel
theorem dJ5_append_2ceeb_65 : decode cJ5_append_2ceeb 65 = .ok (.putfield 73, 3) := by decide +kernel
theorem dJ5_append_2ceeb_68 : decode cJ5_append_2ceeb 68 = .ok (.aload_n 0, 1) := by decide +kernel
theorem dJ5_append_2ceeb_69 : decode cJ5_append_2ceeb 69 = .ok (.areturn, 1) := by decide +kernel
theorem dJ5_append_8f9a3_0 : decode cJ5_append_8f9a3 0 = .ok (.aload_n 1, 1) := by decide +kernel
theorem dJ5_append_8f9a3_1 : decode cJ5_append_8f9a3 1 = .ok (.ifnonnull 8, 3) := by decide +kernel
theorem dJ5_append_8f9a3_4 : decode cJ5_append_8f9a3 4 = .ok (.aload_n 0, 1) := by decide +kernel
theorem dJ5_append_8f9a3_5 : decode cJ5_append_8f9a3 5 = .ok (.invokevirtual 204, 3) := by decide +kernel
theorem dJ5_append_8f9a3_8 : decode cJ5_append_8f9a3 8 = .ok (.areturn, 1) := by decide +kernel
theorem dJ5_append_8f9a3_9 : decode cJ5_append_8f9a3 9 = .ok (.aload_n 1, 1) := by decide +kernel
theorem dJ5_append_8f9a3_10 : decode cJ5_append_8f9a3 10 = .ok (.instanceof 1, 3) := by decide +kernel
theorem dJ5_append_8f9a3_13 : decode cJ5_append_8f9a3 13 = .ok (.ifCond .eq 12, 3) := by decide +kernel
theorem dJ5_append_8f9a3_16 : decode cJ5_append_8f9a3 16 = .ok (.aload_n 0, 1) := by decide +kernel
theorem dJ5_append_8f9a3_17 : decode cJ5_append_8f9a3 17 = .ok (.aload_n 1, 1) := by decide +kernel
theorem dJ5_append_8f9a3_18 : decode cJ5_append_8f9a3 18 = .ok (.checkcast 1, 3) := by decide +kernel
theorem dJ5_append_8f9a3_21 : decode cJ5_append_8f9a3 21 = .ok (.invokevirtual 43, 3) := by decide +kernel
theorem dJ5_append_8f9a3_24 : decode cJ5_append_8f9a3 24 = .ok (.areturn, 1) := by decide +kernel
theorem dJ5_append_8f9a3_25 : decode cJ5_append_8f9a3 25 = .ok (.aload_n 1, 1) := by decide +kernel
theorem dJ5_append_8f9a3_26 : decode cJ5_append_8f9a3 26 = .ok (.instanceof 10, 3) := by decide +kernel
theorem dJ5_append_8f9a3_29 : decode cJ5_append_8f9a3 29 = .ok (.ifCond .eq 12, 3) := by decide +kernel
theorem dJ5_append_8f9a3_32 : decode cJ5_append_8f9a3 32 = .ok (.aload_n 0, 1) := by decide +kernel
theorem dJ5_append_8f9a3_33 : decode cJ5_append_8f9a3 33 = .ok (.aload_n 1, 1) := by decide +kernel
theorem dJ5_append_8f9a3_34 : decode cJ5_append_8f9a3 34 = .ok (.checkcast 10, 3) := by decide +kernel
theorem dJ5_append_8f9a3_37 : decode cJ5_append_8f9a3 37 = .ok (.invokevirtual 212, 3) := by decide +kernel
theorem dJ5_append_8f9a3_40 : decode cJ5_append_8f9a3 40 = .ok (.areturn, 1) := by decide +kernel
theorem dJ5_append_8f9a3_41 : decode cJ5_append_8f9a3 41 = .ok (.aload_n 0, 1) := by decide +kernel
theorem dJ5_append_8f9a3_42 : decode cJ5_append_8f9a3 42 = .ok (.aload_n 1, 1) := by decide +kernel
theorem dJ5_append_8f9a3_43 : decode cJ5_append_8f9a3 43 = .ok (.iconst 0, 1) := by decide +kernel
theorem dJ5_append_8f9a3_44 : decode cJ5_append_8f9a3 44 = .ok (.aload_n 1, 1) := by decide +kernel
theorem dJ5_append_8f9a3_45 : decode cJ5_append_8f9a3 45 = .ok (.invokeinterface 47 1, 5) := by decide +kernel
theorem dJ5_append_8f9a3_50 : decode cJ5_append_8f9a3 50 = .ok (.invokevirtual 223, 3) := by decide +kernel
theorem dJ5_append_8f9a3_53 : decode cJ5_append_8f9a3 53 = .ok (.areturn, 1) := by decide +kernel
theorem dJ5_appendNull_278bc_0 : decode cJ5_appendNull_278bc 0 = .ok (.aload_n 0, 1) := by decide +kernel
theorem dJ5_appendNull_278bc_1 : decode cJ5_appendNull_278bc 1 = .ok (.aload_n 0, 1) := by decide +kernel
theorem dJ5_appendNull_278bc_2 : decode cJ5_appendNull_278bc 2 = .ok (.getfield 79, 3) := by decide +kernel
theorem dJ5_appendNull_278bc_5 : decode cJ5_appendNull_278bc 5 = .ok (.iconst 4, 1) := by decide +kernel
theorem dJ5_appendNull_278bc_6 : decode cJ5_appendNull_278bc 6 = .ok (.iadd, 1) := by decide +kernel
theorem dJ5_appendNull_278bc_7 : decode cJ5_appendNull_278bc 7 = .ok (.invokevirtual 100, 3) := by decide +kernel
theorem dJ5_appendNull_278bc_10 : decode cJ5_appendNull_278bc 10 = .ok (.aload_n 0, 1) := by decide +kernel
theorem dJ5_appendNull_278bc_11 : decode cJ5_appendNull_278bc 11 = .ok (.getfield 79, 3) := by decide +kernel
theorem dJ5_appendNull_278bc_14 : decode cJ5_appendNull_278bc 14 = .ok (.istore_n 1, 1) := by decide +kernel
theorem dJ5_appendNull_278bc_15 : decode cJ5_appendNull_278bc 15 = .ok (.aload_n 0, 1) := by decide +kernel
theorem dJ5_appendNull_278bc_16 : decode cJ5_appendNull_278bc 16 = .ok (.getfield 15, 3) := by decide +kernel
theorem dJ5_appendNull_278bc_19 : decode cJ5_appendNull_278bc 19 = .ok (.astore_n 2, 1) := by decide +kernel
theorem dJ5_appendNull_278bc_20 : decode cJ5_appendNull_278bc 20 = .ok (.aload_n 0, 1) := by decide +kernel
theorem dJ5_appendNull_278bc_21 : decode cJ5_appendNull_278bc 21 = .ok (.invokevirtual 83, 3) := by decide +kernel
theorem dJ5_appendNull_278bc_24 : decode cJ5_appendNull_278bc 24 = .ok (.ifCond .eq 38, 3) := by decide +kernel
theorem dJ5_appendNull_278bc_27 : decode cJ5_appendNull_278bc 27 = .ok (.aload_n 2, 1) := by decide +kernel
theorem dJ5_appendNull_278bc_28 : decode cJ5_appendNull_278bc 28 = .ok (.iload_n 1, 1) := by decide +kernel
theorem dJ5_appendNull_278bc_29 : decode cJ5_appendNull_278bc 29 = .ok (.iinc 1 1, 3) := by decide +kernel
theorem dJ5_appendNull_278bc_32 : decode cJ5_appendNull_278bc 32 = .ok (.bipush 110, 2) := by decide +kernel
theorem dJ5_appendNull_278bc_34 : decode cJ5_appendNull_278bc 34 = .ok (.bastore, 1) := by decide +kernel
theorem dJ5_appendNull_278bc_35 : decode cJ5_appendNull_278bc 35 = .ok (.aload_n 2, 1) := by decide +kernel
theorem dJ5_appendNull_278bc_36 : decode cJ5_appendNull_278bc 36 = .ok (.iload_n 1, 1) := by decide +kernel
theorem dJ5_appendNull_278bc_37 : decode cJ5_appendNull_278bc 37 = .ok (.iinc 1 1, 3) := by decide +kernel
theorem dJ5_appendNull_278bc_40 : decode cJ5_appendNull_278bc 40 = .ok (.bipush 117, 2) := by decide +kernel
theorem dJ5_appendNull_278bc_42 : decode cJ5_appendNull_278bc 42 = .ok (.bastore, 1) := by decide +kernel
theorem dJ5_appendNull_278bc_43 : decode cJ5_appendNull_278bc 43 = .ok (.aload_n 2, 1) := by decide +kernel
theorem dJ5_appendNull_278bc_44 : decode cJ5_appendNull_278bc 44 = .ok (.iload_n 1, 1) := by decide +kernel
theorem dJ5_appendNull_278bc_45 : decode cJ5_appendNull_278bc 45 = .ok (.iinc 1 1, 3) := by decide +kernel
theorem dJ5_appendNull_278bc_48 : decode cJ5_appendNull_278bc 48 = .ok (.bipush 108, 2) := by decide +kernel
theorem dJ5_appendNull_278bc_50 : decode cJ5_appendNull_278bc 50 = .ok (.bastore, 1) := by decide +kernel
theorem dJ5_appendNull_278bc_51 : decode cJ5_appendNull_278bc 51 = .ok (.aload_n 2, 1) := by decide +kernel
theorem dJ5_appendNull_278bc_52 : decode cJ5_appendNull_278bc 52 = .ok (.iload_n 1, 1) := by decide +kernel
theorem dJ5_appendNull_278bc_53 : decode cJ5_appendNull_278bc 53 = .ok (.iinc 1 1, 3) := by decide +kernel
theorem dJ5_appendNull_278bc_56 : decode cJ5_appendNull_278bc 56 = .ok (.bipush 108, 2) := by decide +kernel
theorem dJ5_appendNull_278bc_58 : decode cJ5_appendNull_278bc 58 = .ok (.bastore, 1) := by decide +kernel
theorem dJ5_appendNull_278bc_59 : decode cJ5_appendNull_278bc 59 = .ok (.goto 17, 3) := by decide +kernel
theorem dJ5_appendNull_278bc_62 : decode cJ5_appendNull_278bc 62 = .ok (.aload_n 2, 1) := by decide +kernel
theorem dJ5_appendNull_278bc_63 : decode cJ5_appendNull_278bc 63 = .ok (.iload_n 1, 1) := by decide +kernel
theorem dJ5_appendNull_278bc_64 : decode cJ5_appendNull_278bc 64 = .ok (.bipush 110, 2) := by decide +kernel
theorem dJ5_appendNull_278bc_66 : decode cJ5_appendNull_278bc 66 = .ok (.bipush 117, 2) := by decide +kernel
theorem dJ5_appendNull_278bc_68 : decode cJ5_appendNull_278bc 68 = .ok (.bipush 108, 2) := by decide +kernel
theorem dJ5_appendNull_278bc_70 : decode cJ5_appendNull_278bc 70 = .ok (.bipush 108, 2) := by decide +kernel
theorem dJ5_appendNull_278bc_72 : decode cJ5_appendNull_278bc 72 = .ok (.invokestatic 226, 3) := by decide +kernel
theorem dJ5_appendNull_278bc_75 : decode cJ5_appendNull_278bc 75 = .ok (.istore_n 1, 1) := by decide +kernel
theorem dJ5_appendNull_278bc_76 : decode cJ5_appendNull_278bc 76 = .ok (.aload_n 0, 1) := by decide +kernel
theorem dJ5_appendNull_278bc_77 : decode cJ5_appendNull_278bc 77 = .ok (.iload_n 1, 1) := by decide +kernel
theorem dJ5_appendNull_278bc_78 : decode cJ5_appendNull_278bc 78 = .ok (.putfield 79, 3) := by decide +kernel
theorem dJ5_appendNull_278bc_81 : decode cJ5_appendNull_278bc 81 = .ok (.aload_n 0, 1) := by decide +kernel
theorem dJ5_appendNull_278bc_82 : decode cJ5_appendNull_278bc 82 = .ok (.areturn, 1) := by decide +kernel
theorem dJ5_append_e1f22_0 : decode cJ5_append_e1f22 0 = .ok (.aload_n 1, 1) := by decide +kernel
theorem dJ5_append_e1f22_1 : decode cJ5_append_e1f22 1 = .ok (.ifnonnull 6, 3) := by decide +kernel
theorem dJ5_append_e1f22_4 : decode cJ5_append_e1f22 4 = .ok (.ldc 230, 2) := by decide +kernel
theorem dJ5_append_e1f22_6 : decode cJ5_append_e1f22 6 = .ok (.astore_n 1, 1) := by decide +kernel
theorem dJ5_append_e1f22_7 : decode cJ5_append_e1f22 7 = .ok (.iload_n 2, 1) := by decide +kernel
theorem dJ5_append_e1f22_8 : decode cJ5_append_e1f22 8 = .ok (.iload_n 3, 1) := by decide +kernel
theorem dJ5_append_e1f22_9 : decode cJ5_append_e1f22 9 = .ok (.aload_n 1, 1) := by decide +kernel
theorem dJ5_append_e1f22_10 : decode cJ5_append_e1f22 10 = .ok (.invokeinterface 47 1, 5) := by decide +kernel
theorem dJ5_append_e1f22_15 : decode cJ5_append_e1f22 15 = .ok (.getstatic 183, 3) := by decide +kernel
theorem dJ5_append_e1f22_18 : decode cJ5_append_e1f22 18 = .ok (.invokestatic 161, 3) := by decide +kernel
theorem dJ5_append_e1f22_21 : decode cJ5_append_e1f22 21 = .ok (.pop, 1) := by decide +kernel
theorem dJ5_append_e1f22_22 : decode cJ5_append_e1f22 22 = .ok (.iload_n 3, 1) := by decide +kernel
theorem dJ5_append_e1f22_23 : decode cJ5_append_e1f22 23 = .ok (.iload_n 2, 1) := by decide +kernel
theorem dJ5_append_e1f22_24 : decode cJ5_append_e1f22 24 = .ok (.isub, 1) := by decide +kernel
theorem dJ5_append_e1f22_25 : decode cJ5_append_e1f22 25 = .ok (.istore 4, 2) := by decide +kernel
theorem dJ5_append_e1f22_27 : decode cJ5_append_e1f22 27 = .ok (.aload_n 0, 1) := by decide +kernel
theorem dJ5_append_e1f22_28 : decode cJ5_append_e1f22 28 = .ok (.aload_n 0, 1) := by decide +kernel
theorem dJ5_append_e1f22_29 : decode cJ5_append_e1f22 29 = .ok (.getfield 79, 3) := by decide +kernel
theorem dJ5_append_e1f22_32 : decode cJ5_append_e1f22 32 = .ok (.iload 4, 2) := by decide +kernel
theorem dJ5_append_e1f22_34 : decode cJ5_append_e1f22 34 = .ok (.iadd, 1) := by decide +kernel
theorem dJ5_append_e1f22_35 : decode cJ5_append_e1f22 35 = .ok (.invokevirtual 100, 3) := by decide +kernel
theorem dJ5_append_e1f22_38 : decode cJ5_append_e1f22 38 = .ok (.aload_n 1, 1) := by decide +kernel
theorem dJ5_append_e1f22_39 : decode cJ5_append_e1f22 39 = .ok (.instanceof 1, 3) := by decide +kernel
theorem dJ5_append_e1f22_42 : decode cJ5_append_e1f22 42 = .ok (.ifCond .eq 16, 3) := by decide +kernel
theorem dJ5_append_e1f22_45 : decode cJ5_append_e1f22 45 = .ok (.aload_n 0, 1) := by decide +kernel
theorem dJ5_append_e1f22_46 : decode cJ5_append_e1f22 46 = .ok (.aload_n 1, 1) := by decide +kernel
theorem dJ5_append_e1f22_47 : decode cJ5_append_e1f22 47 = .ok (.checkcast 1, 3) := by decide +kernel
theorem dJ5_append_e1f22_50 : decode cJ5_append_e1f22 50 = .ok (.iload_n 2, 1) := by decide +kernel
theorem dJ5_append_e1f22_51 : decode cJ5_append_e1f22 51 = .ok (.iload_n 3, 1) := by decide +kernel
theorem dJ5_append_e1f22_52 : decode cJ5_append_e1f22 52 = .ok (.invokevirtual 232, 3) := by decide +kernel
theorem dJ5_append_e1f22_55 : decode cJ5_append_e1f22 55 = .ok (.goto 10, 3) := by decide +kernel
theorem dJ5_append_e1f22_58 : decode cJ5_append_e1f22 58 = .ok (.aload_n 0, 1) := by decide +kernel
theorem dJ5_append_e1f22_59 : decode cJ5_append_e1f22 59 = .ok (.aload_n 1, 1) := by decide +kernel
theorem dJ5_append_e1f22_60 : decode cJ5_append_e1f22 60 = .ok (.iload_n 2, 1) := by decide +kernel
theorem dJ5_append_e1f22_61 : decode cJ5_append_e1f22 61 = .ok (.iload_n 3, 1) := by decide +kernel
theorem dJ5_append_e1f22_62 : decode cJ5_append_e1f22 62 = .ok (.invokevirtual 236, 3) := by decide +kernel
theorem dJ5_append_e1f22_65 : decode cJ5_append_e1f22 65 = .ok (.aload_n 0, 1) := by decide +kernel
theorem dJ5_append_e1f22_66 : decode cJ5_append_e1f22 66 = .ok (.areturn, 1) := by decide +kernel
theorem dJ5_append_a1634_0 : decode cJ5_append_a1634 0 = .ok (.aload_n 1, 1) := by decide +kernel
theorem dJ5_append_a1634_1 : decode cJ5_append_a1634 1 = .ok (.arraylength, 1) := by decide +kernel
theorem dJ5_append_a1634_2 : decode cJ5_append_a1634 2 = .ok (.istore_n 2, 1) := by decide +kernel
theorem dJ5_append_a1634_3 : decode cJ5_append_a1634 3 = .ok (.aload_n 0, 1) := by decide +kernel
theorem dJ5_append_a1634_4 : decode cJ5_append_a1634 4 = .ok (.aload_n 0, 1) := by decide +kernel
theorem dJ5_append_a1634_5 : decode cJ5_append_a1634 5 = .ok (.getfield 79, 3) := by decide +kernel
theorem dJ5_append_a1634_8 : decode cJ5_append_a1634 8 = .ok (.iload_n 2, 1) := by decide +kernel
theorem dJ5_append_a1634_9 : decode cJ5_append_a1634 9 = .ok (.iadd, 1) := by decide +kernel
theorem dJ5_append_a1634_10 : decode cJ5_append_a1634 10 = .ok (.invokevirtual 100, 3) := by decide +kernel
theorem dJ5_append_a1634_13 : decode cJ5_append_a1634 13 = .ok (.aload_n 0, 1) := by decide +kernel
theorem dJ5_append_a1634_14 : decode cJ5_append_a1634 14 = .ok (.aload_n 1, 1) := by decide +kernel
theorem dJ5_append_a1634_15 : decode cJ5_append_a1634 15 = .ok (.iconst 0, 1) := by decide +kernel
theorem dJ5_append_a1634_16 : decode cJ5_append_a1634 16 = .ok (.iload_n 2, 1) := by decide +kernel
theorem dJ5_append_a1634_17 : decode cJ5_append_a1634 17 = .ok (.invokevirtual 239, 3) := by decide +kernel
theorem dJ5_append_a1634_20 : decode cJ5_append_a1634 20 = .ok (.aload_n 0, 1) := by decide +kernel
theorem dJ5_append_a1634_21 : decode cJ5_append_a1634 21 = .ok (.areturn, 1) := by decide +kernel
theorem dJ5_append_34b3d_0 : decode cJ5_append_34b3d 0 = .ok (.aload_n 0, 1) := by decide +kernel
theorem dJ5_append_34b3d_1 : decode cJ5_append_34b3d 1 = .ok (.aload_n 0, 1) := by decide +kernel
theorem dJ5_append_34b3d_2 : decode cJ5_append_34b3d 2 = .ok (.getfield 79, 3) := by decide +kernel
theorem dJ5_append_34b3d_5 : decode cJ5_append_34b3d 5 = .ok (.iload_n 1, 1) := by decide +kernel
theorem dJ5_append_34b3d_6 : decode cJ5_append_34b3d 6 = .ok (.ifCond .eq 7, 3) := by decide +kernel
theorem dJ5_append_34b3d_9 : decode cJ5_append_34b3d 9 = .ok (.iconst 4, 1) := by decide +kernel
theorem dJ5_append_34b3d_10 : decode cJ5_append_34b3d 10 = .ok (.goto 4, 3) := by decide +kernel
theorem dJ5_append_34b3d_13 : decode cJ5_append_34b3d 13 = .ok (.iconst 5, 1) := by decide +kernel
theorem dJ5_append_34b3d_14 : decode cJ5_append_34b3d 14 = .ok (.iadd, 1) := by decide +kernel
theorem dJ5_append_34b3d_15 : decode cJ5_append_34b3d 15 = .ok (.invokevirtual 100, 3) := by decide +kernel
theorem dJ5_append_34b3d_18 : decode cJ5_append_34b3d 18 = .ok (.aload_n 0, 1) := by decide +kernel
theorem dJ5_append_34b3d_19 : decode cJ5_append_34b3d 19 = .ok (.getfield 79, 3) := by decide +kernel
theorem dJ5_append_34b3d_22 : decode cJ5_append_34b3d 22 = .ok (.istore_n 2, 1) := by decide +kernel
theorem dJ5_append_34b3d_23 : decode cJ5_append_34b3d 23 = .ok (.aload_n 0, 1) := by decide +kernel
theorem dJ5_append_34b3d_24 : decode cJ5_append_34b3d 24 = .ok (.getfield 15, 3) := by decide +kernel
theorem dJ5_append_34b3d_27 : decode cJ5_append_34b3d 27 = .ok (.astore_n 3, 1) := by decide +kernel
theorem dJ5_append_34b3d_28 : decode cJ5_append_34b3d 28 = .ok (.aload_n 0, 1) := by decide +kernel
theorem dJ5_append_34b3d_29 : decode cJ5_append_34b3d 29 = .ok (.invokevirtual 83, 3) := by decide +kernel
theorem dJ5_append_34b3d_32 : decode cJ5_append_34b3d 32 = .ok (.ifCond .eq 85, 3) := by decide +kernel
theorem dJ5_append_34b3d_35 : decode cJ5_append_34b3d 35 = .ok (.iload_n 1, 1) := by decide +kernel
theorem dJ5_append_34b3d_36 : decode cJ5_append_34b3d 36 = .ok (.ifCond .eq 38, 3) := by decide +kernel
theorem dJ5_append_34b3d_39 : decode cJ5_append_34b3d 39 = .ok (.aload_n 3, 1) := by decide +kernel
theorem dJ5_append_34b3d_40 : decode cJ5_append_34b3d 40 = .ok (.iload_n 2, 1) := by decide +kernel
theorem dJ5_append_34b3d_41 : decode cJ5_append_34b3d 41 = .ok (.iinc 2 1, 3) := by decide +kernel
theorem dJ5_append_34b3d_44 : decode cJ5_append_34b3d 44 = .ok (.bipush 116, 2) := by decide +kernel
theorem dJ5_append_34b3d_46 : decode cJ5_append_34b3d 46 = .ok (.bastore, 1) := by decide +kernel
theorem dJ5_append_34b3d_47 : decode cJ5_append_34b3d 47 = .ok (.aload_n 3, 1) := by decide +kernel
theorem dJ5_append_34b3d_48 : decode cJ5_append_34b3d 48 = .ok (.iload_n 2, 1) := by decide +kernel
theorem dJ5_append_34b3d_49 : decode cJ5_append_34b3d 49 = .ok (.iinc 2 1, 3) := by decide +kernel
theorem dJ5_append_34b3d_52 : decode cJ5_append_34b3d 52 = .ok (.bipush 114, 2) := by decide +kernel
theorem dJ5_append_34b3d_54 : decode cJ5_append_34b3d 54 = .ok (.bastore, 1) := by decide +kernel
theorem dJ5_append_34b3d_55 : decode cJ5_append_34b3d 55 = .ok (.aload_n 3, 1) := by decide +kernel
theorem dJ5_append_34b3d_56 : decode cJ5_append_34b3d 56 = .ok (.iload_n 2, 1) := by decide +kernel
theorem dJ5_append_34b3d_57 : decode cJ5_append_34b3d 57 = .ok (.iinc 2 1, 3) := by decide +kernel
theorem dJ5_append_34b3d_60 : decode cJ5_append_34b3d 60 = .ok (.bipush 117, 2) := by decide +kernel
theorem dJ5_append_34b3d_62 : decode cJ5_append_34b3d 62 = .ok (.bastore, 1) := by decide +kernel
theorem dJ5_append_34b3d_63 : decode cJ5_append_34b3d 63 = .ok (.aload_n 3, 1) := by decide +kernel
theorem dJ5_append_34b3d_64 : decode cJ5_append_34b3d 64 = .ok (.iload_n 2, 1) := by decide +kernel
theorem dJ5_append_34b3d_65 : decode cJ5_append_34b3d 65 = .ok (.iinc 2 1, 3) := by decide +kernel
theorem dJ5_append_34b3d_68 : decode cJ5_append_34b3d 68 = .ok (.bipush 101, 2) := by decide +kernel
theorem dJ5_append_34b3d_70 : decode cJ5_append_34b3d 70 = .ok (.bastore, 1) := by decide +kernel
theorem dJ5_append_34b3d_71 : decode cJ5_append_34b3d 71 = .ok (.goto 83, 3) := by decide +kernel
theorem dJ5_append_34b3d_74 : decode cJ5_append_34b3d 74 = .ok (.aload_n 3, 1) := by decide +kernel
theorem dJ5_append_34b3d_75 : decode cJ5_append_34b3d 75 = .ok (.iload_n 2, 1) := by decide +kernel
theorem dJ5_append_34b3d_76 : decode cJ5_append_34b3d 76 = .ok (.iinc 2 1, 3) := by decide +kernel
theorem dJ5_append_34b3d_79 : decode cJ5_append_34b3d 79 = .ok (.bipush 102, 2) := by decide +kernel
theorem dJ5_append_34b3d_81 : decode cJ5_append_34b3d 81 = .ok (.bastore, 1) := by decide +kernel
theorem dJ5_append_34b3d_82 : decode cJ5_append_34b3d 82 = .ok (.aload_n 3, 1) := by decide +kernel
theorem dJ5_append_34b3d_83 : decode cJ5_append_34b3d 83 = .ok (.iload_n 2, 1) := by decide +kernel
theorem dJ5_append_34b3d_84 : decode cJ5_append_34b3d 84 = .ok (.iinc 2 1, 3) := by decide +kernel
theorem dJ5_append_34b3d_87 : decode cJ5_append_34b3d 87 = .ok (.bipush 97, 2) := by decide +kernel
theorem dJ5_append_34b3d_89 : decode cJ5_append_34b3d 89 = .ok (.bastore, 1) := by decide +kernel
theorem dJ5_append_34b3d_90 : decode cJ5_append_34b3d 90 = .ok (.aload_n 3, 1) := by decide +kernel
theorem dJ5_append_34b3d_91 : decode cJ5_append_34b3d 91 = .ok (.iload_n 2, 1) := by decide +kernel
theorem dJ5_append_34b3d_92 : decode cJ5_append_34b3d 92 = .ok (.iinc 2 1, 3) := by decide +kernel
theorem dJ5_append_34b3d_95 : decode cJ5_append_34b3d 95 = .ok (.bipush 108, 2) := by decide +kernel
theorem dJ5_append_34b3d_97 : decode cJ5_append_34b3d 97 = .ok (.bastore, 1) := by decide +kernel
theorem dJ5_append_34b3d_98 : decode cJ5_append_34b3d 98 = .ok (.aload_n 3, 1) := by decide +kernel
theorem dJ5_append_34b3d_99 : decode cJ5_append_34b3d 99 = .ok (.iload_n 2, 1) := by decide +kernel
theorem dJ5_append_34b3d_100 : decode cJ5_append_34b3d 100 = .ok (.iinc 2 1, 3) := by decide +kernel
theorem dJ5_append_34b3d_103 : decode cJ5_append_34b3d 103 = .ok (.bipush 115, 2) := by decide +kernel
theorem dJ5_append_34b3d_105 : decode cJ5_append_34b3d 105 = .ok (.bastore, 1) := by decide +kernel
theorem dJ5_append_34b3d_106 : decode cJ5_append_34b3d 106 = .ok (.aload_n 3, 1) := by decide +kernel
theorem dJ5_append_34b3d_107 : decode cJ5_append_34b3d 107 = .ok (.iload_n 2, 1) := by decide +kernel
theorem dJ5_append_34b3d_108 : decode cJ5_append_34b3d 108 = .ok (.iinc 2 1, 3) := by decide +kernel
theorem dJ5_append_34b3d_111 : decode cJ5_append_34b3d 111 = .ok (.bipush 101, 2) := by decide +kernel
theorem dJ5_append_34b3d_113 : decode cJ5_append_34b3d 113 = .ok (.bastore, 1) := by decide +kernel
theorem dJ5_append_34b3d_114 : decode cJ5_append_34b3d 114 = .ok (.goto 40, 3) := by decide +kernel
theorem dJ5_append_34b3d_117 : decode cJ5_append_34b3d 117 = .ok (.iload_n 1, 1) := by decide +kernel
theorem dJ5_append_34b3d_118 : decode cJ5_append_34b3d 118 = .ok (.ifCond .eq 20, 3) := by decide +kernel
theorem dJ5_append_34b3d_121 : decode cJ5_append_34b3d 121 = .ok (.aload_n 3, 1) := by decide +kernel
theorem dJ5_append_34b3d_122 : decode cJ5_append_34b3d 122 = .ok (.iload_n 2, 1) := by decide +kernel
theorem dJ5_append_34b3d_123 : decode cJ5_append_34b3d 123 = .ok (.bipush 116, 2) := by decide +kernel
theorem dJ5_append_34b3d_125 : decode cJ5_append_34b3d 125 = .ok (.bipush 114, 2) := by decide +kernel
theorem dJ5_append_34b3d_127 : decode cJ5_append_34b3d 127 = .ok (.bipush 117, 2) := by decide +kernel
theorem dJ5_append_34b3d_129 : decode cJ5_append_34b3d 129 = .ok (.bipush 101, 2) := by decide +kernel
theorem dJ5_append_34b3d_131 : decode cJ5_append_34b3d 131 = .ok (.invokestatic 226, 3) := by decide +kernel
theorem dJ5_append_34b3d_134 : decode cJ5_append_34b3d 134 = .ok (.istore_n 2, 1) := by decide +kernel
theorem dJ5_append_34b3d_135 : decode cJ5_append_34b3d 135 = .ok (.goto 19, 3) := by decide +kernel
theorem dJ5_append_34b3d_138 : decode cJ5_append_34b3d 138 = .ok (.aload_n 3, 1) := by decide +kernel
theorem dJ5_append_34b3d_139 : decode cJ5_append_34b3d 139 = .ok (.iload_n 2, 1) := by decide +kernel
theorem dJ5_append_34b3d_140 : decode cJ5_append_34b3d 140 = .ok (.bipush 102, 2) := by decide +kernel
theorem dJ5_append_34b3d_142 : decode cJ5_append_34b3d 142 = .ok (.bipush 97, 2) := by decide +kernel
theorem dJ5_append_34b3d_144 : decode cJ5_append_34b3d 144 = .ok (.bipush 108, 2) := by decide +kernel
theorem dJ5_append_34b3d_146 : decode cJ5_append_34b3d 146 = .ok (.bipush 115, 2) := by decide +kernel
theorem dJ5_append_34b3d_148 : decode cJ5_append_34b3d 148 = .ok (.bipush 101, 2) := by decide +kernel
theorem dJ5_append_34b3d_150 : decode cJ5_append_34b3d 150 = .ok (.invokestatic 242, 3) := by decide +kernel
theorem dJ5_append_34b3d_153 : decode cJ5_append_34b3d 153 = .ok (.istore_n 2, 1) := by decide +kernel
theorem dJ5_append_34b3d_154 : decode cJ5_append_34b3d 154 = .ok (.aload_n 0, 1) := by decide +kernel
theorem dJ5_append_34b3d_155 : decode cJ5_append_34b3d 155 = .ok (.iload_n 2, 1) := by decide +kernel
theorem dJ5_append_34b3d_156 : decode cJ5_append_34b3d 156 = .ok (.putfield 79, 3) := by decide +kernel
theorem dJ5_append_34b3d_159 : decode cJ5_append_34b3d 159 = .ok (.aload_n 0, 1) := by decide +kernel
theorem dJ5_append_34b3d_160 : decode cJ5_append_34b3d 160 = .ok (.areturn, 1) := by decide +kernel
theorem dJ5_append_3fe6f_0 : decode cJ5_append_3fe6f 0 = .ok (.aload_n 0, 1) := by decide +kernel
theorem dJ5_append_3fe6f_1 : decode cJ5_append_3fe6f 1 = .ok (.aload_n 0, 1) := by decide +kernel
theorem dJ5_append_3fe6f_2 : decode cJ5_append_3fe6f 2 = .ok (.getfield 79, 3) := by decide +kernel
theorem dJ5_append_3fe6f_5 : decode cJ5_append_3fe6f 5 = .ok (.iconst 1, 1) := by decide +kernel
theorem dJ5_append_3fe6f_6 : decode cJ5_append_3fe6f 6 = .ok (.iadd, 1) := by decide +kernel
theorem dJ5_append_3fe6f_7 : decode cJ5_append_3fe6f 7 = .ok (.invokevirtual 100, 3) := by decide +kernel
theorem dJ5_append_3fe6f_10 : decode cJ5_append_3fe6f 10 = .ok (.aload_n 0, 1) := by decide +kernel
theorem dJ5_append_3fe6f_11 : decode cJ5_append_3fe6f 11 = .ok (.invokevirtual 83, 3) := by decide +kernel
theorem dJ5_append_3fe6f_14 : decode cJ5_append_3fe6f 14 = .ok (.ifCond .eq 31, 3) := by decide +kernel
theorem dJ5_append_3fe6f_17 : decode cJ5_append_3fe6f 17 = .ok (.iload_n 1, 1) := by decide +kernel
theorem dJ5_append_3fe6f_18 : decode cJ5_append_3fe6f 18 = .ok (.invokestatic 191, 3) := by decide +kernel
theorem dJ5_append_3fe6f_21 : decode cJ5_append_3fe6f 21 = .ok (.ifCond .eq 24, 3) := by decide +kernel
theorem dJ5_append_3fe6f_24 : decode cJ5_append_3fe6f 24 = .ok (.aload_n 0, 1) := by decide +kernel
theorem dJ5_append_3fe6f_25 : decode cJ5_append_3fe6f 25 = .ok (.getfield 15, 3) := by decide +kernel
theorem dJ5_append_3fe6f_28 : decode cJ5_append_3fe6f 28 = .ok (.aload_n 0, 1) := by decide +kernel
theorem dJ5_append_3fe6f_29 : decode cJ5_append_3fe6f 29 = .ok (.dup, 1) := by decide +kernel
theorem dJ5_append_3fe6f_30 : decode cJ5_append_3fe6f 30 = .ok (.getfield 79, 3) := by decide +kernel
theorem dJ5_append_3fe6f_33 : decode cJ5_append_3fe6f 33 = .ok (.dup_x1, 1) := by decide +kernel
theorem dJ5_append_3fe6f_34 : decode cJ5_append_3fe6f 34 = .ok (.iconst 1, 1) := by decide +kernel
theorem dJ5_append_3fe6f_35 : decode cJ5_append_3fe6f 35 = .ok (.iadd, 1) := by decide +kernel
theorem dJ5_append_3fe6f_36 : decode cJ5_append_3fe6f 36 = .ok (.putfield 79, 3) := by decide +kernel
theorem dJ5_append_3fe6f_39 : decode cJ5_append_3fe6f 39 = .ok (.iload_n 1, 1) := by decide +kernel
theorem dJ5_append_3fe6f_40 : decode cJ5_append_3fe6f 40 = .ok (.i2b, 1) := by decide +kernel
theorem dJ5_append_3fe6f_41 : decode cJ5_append_3fe6f 41 = .ok (.bastore, 1) := by decide +kernel
theorem dJ5_append_3fe6f_42 : decode cJ5_append_3fe6f 42 = .ok (.goto 33, 3) := by decide +kernel
theorem dJ5_append_3fe6f_45 : decode cJ5_append_3fe6f 45 = .ok (.aload_n 0, 1) := by decide +kernel
theorem dJ5_append_3fe6f_46 : decode cJ5_append_3fe6f 46 = .ok (.invokevirtual 83, 3) := by decide +kernel
theorem dJ5_append_3fe6f_49 : decode cJ5_append_3fe6f 49 = .ok (.ifCond .eq 7, 3) := by decide +kernel
theorem dJ5_append_3fe6f_52 : decode cJ5_append_3fe6f 52 = .ok (.aload_n 0, 1) := by decide +kernel
theorem dJ5_append_3fe6f_53 : decode cJ5_append_3fe6f 53 = .ok (.invokevirtual 195, 3) := by decide +kernel
theorem dJ5_append_3fe6f_56 : decode cJ5_append_3fe6f 56 = .ok (.aload_n 0, 1) := by decide +kernel
theorem dJ5_append_3fe6f_57 : decode cJ5_append_3fe6f 57 = .ok (.getfield 15, 3) := by decide +kernel
theorem dJ5_append_3fe6f_60 : decode cJ5_append_3fe6f 60 = .ok (.aload_n 0, 1) := by decide +kernel
theorem dJ5_append_3fe6f_61 : decode cJ5_append_3fe6f 61 = .ok (.dup, 1) := by decide +kernel
theorem dJ5_append_3fe6f_62 : decode cJ5_append_3fe6f 62 = .ok (.getfield 79, 3) := by decide +kernel
theorem dJ5_append_3fe6f_65 : decode cJ5_append_3fe6f 65 = .ok (.dup_x1, 1) := by decide +kernel
theorem dJ5_append_3fe6f_66 : decode cJ5_append_3fe6f 66 = .ok (.iconst 1, 1) := by decide +kernel
theorem dJ5_append_3fe6f_67 : decode cJ5_append_3fe6f 67 = .ok (.iadd, 1) := by decide +kernel
theorem dJ5_append_3fe6f_68 : decode cJ5_append_3fe6f 68 = .ok (.putfield 79, 3) := by decide +kernel
theorem dJ5_append_3fe6f_71 : decode cJ5_append_3fe6f 71 = .ok (.iload_n 1, 1) := by decide +kernel
theorem dJ5_append_3fe6f_72 : decode cJ5_append_3fe6f 72 = .ok (.invokestatic 197, 3) := by decide +kernel
theorem dJ5_append_3fe6f_75 : decode cJ5_append_3fe6f 75 = .ok (.aload_n 0, 1) := by decide +kernel
theorem dJ5_append_3fe6f_76 : decode cJ5_append_3fe6f 76 = .ok (.areturn, 1) := by decide +kernel
theorem dJ5_append_c97b9_0 : decode cJ5_append_c97b9 0 = .ok (.aload_n 0, 1) := by decide +kernel
theorem dJ5_append_c97b9_1 : decode cJ5_append_c97b9 1 = .ok (.getfield 79, 3) := by decide +kernel
theorem dJ5_append_c97b9_4 : decode cJ5_append_c97b9 4 = .ok (.istore_n 2, 1) := by decide +kernel
theorem dJ5_append_c97b9_5 : decode cJ5_append_c97b9 5 = .ok (.iload_n 2, 1) := by decide +kernel
theorem dJ5_append_c97b9_6 : decode cJ5_append_c97b9 6 = .ok (.iload_n 1, 1) := by decide +kernel
theorem dJ5_append_c97b9_7 : decode cJ5_append_c97b9 7 = .ok (.invokestatic 245, 3) := by decide +kernel
theorem dJ5_append_c97b9_10 : decode cJ5_append_c97b9 10 = .ok (.iadd, 1) := by decide +kernel
theorem dJ5_append_c97b9_11 : decode cJ5_append_c97b9 11 = .ok (.istore_n 3, 1) := by decide +kernel
theorem dJ5_append_c97b9_12 : decode cJ5_append_c97b9 12 = .ok (.aload_n 0, 1) := by decide +kernel
theorem dJ5_append_c97b9_13 : decode cJ5_append_c97b9 13 = .ok (.iload_n 3, 1) := by decide +kernel
theorem dJ5_append_c97b9_14 : decode cJ5_append_c97b9 14 = .ok (.invokevirtual 100, 3) := by decide +kernel
theorem dJ5_append_c97b9_17 : decode cJ5_append_c97b9 17 = .ok (.aload_n 0, 1) := by decide +kernel
theorem dJ5_append_c97b9_18 : decode cJ5_append_c97b9 18 = .ok (.invokevirtual 83, 3) := by decide +kernel
theorem dJ5_append_c97b9_21 : decode cJ5_append_c97b9 21 = .ok (.ifCond .eq 16, 3) := by decide +kernel
theorem dJ5_append_c97b9_24 : decode cJ5_append_c97b9 24 = .ok (.iload_n 1, 1) := by decide +kernel
theorem dJ5_append_c97b9_25 : decode cJ5_append_c97b9 25 = .ok (.iload_n 3, 1) := by decide +kernel
theorem dJ5_append_c97b9_26 : decode cJ5_append_c97b9 26 = .ok (.aload_n 0, 1) := by decide +kernel
theorem dJ5_append_c97b9_27 : decode cJ5_append_c97b9 27 = .ok (.getfield 15, 3) := by decide +kernel
theorem dJ5_append_c97b9_30 : decode cJ5_append_c97b9 30 = .ok (.invokestatic 248, 3) := by decide +kernel
theorem dJ5_append_c97b9_33 : decode cJ5_append_c97b9 33 = .ok (.pop, 1) := by decide +kernel
theorem dJ5_append_c97b9_34 : decode cJ5_append_c97b9 34 = .ok (.goto 14, 3) := by decide +kernel
theorem dJ5_append_c97b9_37 : decode cJ5_append_c97b9 37 = .ok (.iload_n 1, 1) := by decide +kernel
theorem dJ5_append_c97b9_38 : decode cJ5_append_c97b9 38 = .ok (.iload_n 2, 1) := by decide +kernel
theorem dJ5_append_c97b9_39 : decode cJ5_append_c97b9 39 = .ok (.iload_n 3, 1) := by decide +kernel
theorem dJ5_append_c97b9_40 : decode cJ5_append_c97b9 40 = .ok (.aload_n 0, 1) := by decide +kernel
theorem dJ5_append_c97b9_41 : decode cJ5_append_c97b9 41 = .ok (.getfield 15, 3) := by decide +kernel
theorem dJ5_append_c97b9_44 : decode cJ5_append_c97b9 44 = .ok (.invokestatic 251, 3) := by decide +kernel
theorem dJ5_append_c97b9_47 : decode cJ5_append_c97b9 47 = .ok (.pop, 1) := by decide +kernel
theorem dJ5_append_c97b9_48 : decode cJ5_append_c97b9 48 = .ok (.aload_n 0, 1) := by decide +kernel
theorem dJ5_append_c97b9_49 : decode cJ5_append_c97b9 49 = .ok (.iload_n 3, 1) := by decide +kernel
theorem dJ5_append_c97b9_50 : decode cJ5_append_c97b9 50 = .ok (.putfield 79, 3) := by decide +kernel
theorem dJ5_append_c97b9_53 : decode cJ5_append_c97b9 53 = .ok (.aload_n 0, 1) := by decide +kernel
theorem dJ5_append_c97b9_54 : decode cJ5_append_c97b9 54 = .ok (.areturn, 1) := by decide +kernel
theorem dJ5_append_b089e_0 : decode cJ5_append_b089e 0 = .ok (.fload_n 1, 1) := by decide +kernel
theorem dJ5_append_b089e_1 : decode cJ5_append_b089e 1 = .ok (.aload_n 0, 1) := by decide +kernel
theorem dJ5_append_b089e_2 : decode cJ5_append_b089e 2 = .ok (.invokestatic 265, 3) := by decide +kernel
theorem dJ5_append_b089e_5 : decode cJ5_append_b089e 5 = .ok (.pop, 1) := by decide +kernel
theorem dJ5_append_b089e_6 : decode cJ5_append_b089e 6 = .ok (.goto 13, 3) := by decide +kernel
theorem dJ5_append_b089e_9 : decode cJ5_append_b089e 9 = .ok (.astore_n 2, 1) := by decide +kernel
theorem dJ5_append_b089e_10 : decode cJ5_append_b089e 10 = .ok (.new 273, 3) := by decide +kernel
theorem dJ5_append_b089e_13 : decode cJ5_append_b089e 13 = .ok (.dup, 1) := by decide +kernel
theorem dJ5_append_b089e_14 : decode cJ5_append_b089e 14 = .ok (.aload_n 2, 1) := by decide +kernel
theorem dJ5_append_b089e_15 : decode cJ5_append_b089e 15 = .ok (.invokespecial 275, 3) := by decide +kernel
theorem dJ5_append_b089e_18 : decode cJ5_append_b089e 18 = .ok (.athrow, 1) := by decide +kernel
theorem dJ5_append_b089e_19 : decode cJ5_append_b089e 19 = .ok (.aload_n 0, 1) := by decide +kernel
theorem dJ5_append_b089e_20 : decode cJ5_append_b089e 20 = .ok (.areturn, 1) := by decide +kernel
theorem dJ5_getValue_6d5f1_0 : decode cJ5_getValue_6d5f1 0 = .ok (.aload_n 0, 1) := by decide +kernel
theorem dJ5_getValue_6d5f1_1 : decode cJ5_getValue_6d5f1 1 = .ok (.getfield 15, 3) := by decide +kernel
theorem dJ5_getValue_6d5f1_4 : decode cJ5_getValue_6d5f1 4 = .ok (.areturn, 1) := by decide +kernel
theorem dJ5_getBytes_840e7_0 : decode cJ5_getBytes_840e7 0 = .ok (.aload_n 0, 1) := by decide +kernel
theorem dJ5_getBytes_840e7_1 : decode cJ5_getBytes_840e7 1 = .ok (.getfield 22, 3) := by decide +kernel
theorem dJ5_getBytes_840e7_4 : decode cJ5_getBytes_840e7 4 = .ok (.iload_n 3, 1) := by decide +kernel
theorem dJ5_getBytes_840e7_5 : decode cJ5_getBytes_840e7 5 = .ok (.if_icmp .ne 24, 3) := by decide +kernel
theorem dJ5_getBytes_840e7_8 : decode cJ5_getBytes_840e7 8 = .ok (.aload_n 0, 1) := by decide +kernel
theorem dJ5_getBytes_840e7_9 : decode cJ5_getBytes_840e7 9 = .ok (.getfield 15, 3) := by decide +kernel
theorem dJ5_getBytes_840e7_12 : decode cJ5_getBytes_840e7 12 = .ok (.iconst 0, 1) := by decide +kernel
theorem dJ5_getBytes_840e7_13 : decode cJ5_getBytes_840e7 13 = .ok (.aload_n 1, 1) := by decide +kernel
theorem dJ5_getBytes_840e7_14 : decode cJ5_getBytes_840e7 14 = .ok (.iload_n 2, 1) := by decide +kernel
theorem dJ5_getBytes_840e7_15 : decode cJ5_getBytes_840e7 15 = .ok (.iload_n 3, 1) := by decide +kernel
theorem dJ5_getBytes_840e7_16 : decode cJ5_getBytes_840e7 16 = .ok (.ishl, 1) := by decide +kernel
theorem dJ5_getBytes_840e7_17 : decode cJ5_getBytes_840e7 17 = .ok (.aload_n 0, 1) := by decide +kernel
theorem dJ5_getBytes_840e7_18 : decode cJ5_getBytes_840e7 18 = .ok (.getfield 79, 3) := by decide +kernel
theorem dJ5_getBytes_840e7_21 : decode cJ5_getBytes_840e7 21 = .ok (.iload_n 3, 1) := by decide +kernel
theorem dJ5_getBytes_840e7_22 : decode cJ5_getBytes_840e7 22 = .ok (.ishl, 1) := by decide +kernel
theorem dJ5_getBytes_840e7_23 : decode cJ5_getBytes_840e7 23 = .ok (.invokestatic 309, 3) := by decide +kernel
theorem dJ5_getBytes_840e7_26 : decode cJ5_getBytes_840e7 26 = .ok (.goto 17, 3) := by decide +kernel
theorem dJ5_getBytes_840e7_29 : decode cJ5_getBytes_840e7 29 = .ok (.aload_n 0, 1) := by decide +kernel
theorem dJ5_getBytes_840e7_30 : decode cJ5_getBytes_840e7 30 = .ok (.getfield 15, 3) := by decide +kernel
theorem dJ5_getBytes_840e7_33 : decode cJ5_getBytes_840e7 33 = .ok (.iconst 0, 1) := by decide +kernel
theorem dJ5_getBytes_840e7_34 : decode cJ5_getBytes_840e7 34 = .ok (.aload_n 1, 1) := by decide +kernel
theorem dJ5_getBytes_840e7_35 : decode cJ5_getBytes_840e7 35 = .ok (.iload_n 2, 1) := by decide +kernel
theorem dJ5_getBytes_840e7_36 : decode cJ5_getBytes_840e7 36 = .ok (.aload_n 0, 1) := by decide +kernel
theorem dJ5_getBytes_840e7_37 : decode cJ5_getBytes_840e7 37 = .ok (.getfield 79, 3) := by decide +kernel
theorem dJ5_getBytes_840e7_40 : decode cJ5_getBytes_840e7 40 = .ok (.invokestatic 125, 3) := by decide +kernel
theorem dJ5_getBytes_840e7_43 : decode cJ5_getBytes_840e7 43 = .ok (.return_, 1) := by decide +kernel
theorem dJ5_getCoder_7d493_0 : decode cJ5_getCoder_7d493 0 = .ok (.getstatic 18, 3) := by decide +kernel
theorem dJ5_getCoder_7d493_3 : decode cJ5_getCoder_7d493 3 = .ok (.ifCond .eq 10, 3) := by decide +kernel
theorem dJ5_getCoder_7d493_6 : decode cJ5_getCoder_7d493 6 = .ok (.aload_n 0, 1) := by decide +kernel
theorem dJ5_getCoder_7d493_7 : decode cJ5_getCoder_7d493 7 = .ok (.getfield 22, 3) := by decide +kernel
theorem dJ5_getCoder_7d493_10 : decode cJ5_getCoder_7d493 10 = .ok (.goto 4, 3) := by decide +kernel
theorem dJ5_getCoder_7d493_13 : decode cJ5_getCoder_7d493 13 = .ok (.iconst 1, 1) := by decide +kernel
theorem dJ5_getCoder_7d493_14 : decode cJ5_getCoder_7d493 14 = .ok (.ireturn, 1) := by decide +kernel
theorem dJ5_isLatin1_aae02_0 : decode cJ5_isLatin1_aae02 0 = .ok (.getstatic 18, 3) := by decide +kernel
theorem dJ5_isLatin1_aae02_3 : decode cJ5_isLatin1_aae02 3 = .ok (.ifCond .eq 14, 3) := by decide +kernel
theorem dJ5_isLatin1_aae02_6 : decode cJ5_isLatin1_aae02 6 = .ok (.aload_n 0, 1) := by decide +kernel
theorem dJ5_isLatin1_aae02_7 : decode cJ5_isLatin1_aae02 7 = .ok (.getfield 22, 3) := by decide +kernel
theorem dJ5_isLatin1_aae02_10 : decode cJ5_isLatin1_aae02 10 = .ok (.ifCond .ne 7, 3) := by decide +kernel
theorem dJ5_isLatin1_aae02_13 : decode cJ5_isLatin1_aae02 13 = .ok (.iconst 1, 1) := by decide +kernel
theorem dJ5_isLatin1_aae02_14 : decode cJ5_isLatin1_aae02 14 = .ok (.goto 4, 3) := by decide +kernel
theorem dJ5_isLatin1_aae02_17 : decode cJ5_isLatin1_aae02 17 = .ok (.iconst 0, 1) := by decide +kernel
theorem dJ5_isLatin1_aae02_18 : decode cJ5_isLatin1_aae02 18 = .ok (.ireturn, 1) := by decide +kernel
theorem dJ5_inflateIfNeededFor_a7421_0 : decode cJ5_inflateIfNeededFor_a7421 0 = .ok (.getstatic 18, 3) := by decide +kernel
theorem dJ5_inflateIfNeededFor_a7421_3 : decode cJ5_inflateIfNeededFor_a7421 3 = .ok (.ifCond .eq 18, 3) := by decide +kernel
theorem dJ5_inflateIfNeededFor_a7421_6 : decode cJ5_inflateIfNeededFor_a7421 6 = .ok (.aload_n 0, 1) := by decide +kernel
theorem dJ5_inflateIfNeededFor_a7421_7 : decode cJ5_inflateIfNeededFor_a7421 7 = .ok (.getfield 22, 3) := by decide +kernel
theorem dJ5_inflateIfNeededFor_a7421_10 : decode cJ5_inflateIfNeededFor_a7421 10 = .ok (.aload_n 1, 1) := by decide +kernel
theorem dJ5_inflateIfNeededFor_a7421_11 : decode cJ5_inflateIfNeededFor_a7421 11 = .ok (.invokevirtual 40, 3) := by decide +kernel
theorem dJ5_inflateIfNeededFor_a7421_14 : decode cJ5_inflateIfNeededFor_a7421 14 = .ok (.if_icmp .eq 7, 3) := by decide +kernel
theorem dJ5_inflateIfNeededFor_a7421_17 : decode cJ5_inflateIfNeededFor_a7421 17 = .ok (.aload_n 0, 1) := by decide +kernel
theorem dJ5_inflateIfNeededFor_a7421_18 : decode cJ5_inflateIfNeededFor_a7421 18 = .ok (.invokevirtual 195, 3) := by decide +kernel
theorem dJ5_inflateIfNeededFor_a7421_21 : decode cJ5_inflateIfNeededFor_a7421 21 = .ok (.return_, 1) := by decide +kernel
theorem dJ5_inflateIfNeededFor_56e69_0 : decode cJ5_inflateIfNeededFor_56e69 0 = .ok (.getstatic 18, 3) := by decide +kernel
theorem dJ5_inflateIfNeededFor_56e69_3 : decode cJ5_inflateIfNeededFor_56e69 3 = .ok (.ifCond .eq 18, 3) := by decide +kernel
theorem dJ5_inflateIfNeededFor_56e69_6 : decode cJ5_inflateIfNeededFor_56e69 6 = .ok (.aload_n 0, 1) := by decide +kernel
theorem dJ5_inflateIfNeededFor_56e69_7 : decode cJ5_inflateIfNeededFor_56e69 7 = .ok (.getfield 22, 3) := by decide +kernel
theorem dJ5_inflateIfNeededFor_56e69_10 : decode cJ5_inflateIfNeededFor_56e69 10 = .ok (.aload_n 1, 1) := by decide +kernel
theorem dJ5_inflateIfNeededFor_56e69_11 : decode cJ5_inflateIfNeededFor_56e69 11 = .ok (.invokevirtual 70, 3) := by decide +kernel
theorem dJ5_inflateIfNeededFor_56e69_14 : decode cJ5_inflateIfNeededFor_56e69 14 = .ok (.if_icmp .eq 7, 3) := by decide +kernel
theorem dJ5_inflateIfNeededFor_56e69_17 : decode cJ5_inflateIfNeededFor_56e69 17 = .ok (.aload_n 0, 1) := by decide +kernel
theorem dJ5_inflateIfNeededFor_56e69_18 : decode cJ5_inflateIfNeededFor_56e69 18 = .ok (.invokevirtual 195, 3) := by decide +kernel
theorem dJ5_inflateIfNeededFor_56e69_21 : decode cJ5_inflateIfNeededFor_56e69 21 = .ok (.return_, 1) := by decide +kernel
theorem dJ5_putStringAt_47b60_0 : decode cJ5_putStringAt_47b60 0 = .ok (.aload_n 0, 1) := by decide +kernel
theorem dJ5_putStringAt_47b60_1 : decode cJ5_putStringAt_47b60 1 = .ok (.aload_n 2, 1) := by decide +kernel
theorem dJ5_putStringAt_47b60_2 : decode cJ5_putStringAt_47b60 2 = .ok (.invokevirtual 397, 3) := by decide +kernel
theorem dJ5_putStringAt_47b60_5 : decode cJ5_putStringAt_47b60 5 = .ok (.aload_n 2, 1) := by decide +kernel
theorem dJ5_putStringAt_47b60_6 : decode cJ5_putStringAt_47b60 6 = .ok (.aload_n 0, 1) := by decide +kernel
theorem dJ5_putStringAt_47b60_7 : decode cJ5_putStringAt_47b60 7 = .ok (.getfield 15, 3) := by decide +kernel
theorem dJ5_putStringAt_47b60_10 : decode cJ5_putStringAt_47b60 10 = .ok (.iload_n 1, 1) := by decide +kernel
theorem dJ5_putStringAt_47b60_11 : decode cJ5_putStringAt_47b60 11 = .ok (.aload_n 0, 1) := by decide +kernel
theorem dJ5_putStringAt_47b60_12 : decode cJ5_putStringAt_47b60 12 = .ok (.getfield 22, 3) := by decide +kernel
theorem dJ5_putStringAt_47b60_15 : decode cJ5_putStringAt_47b60 15 = .ok (.invokevirtual 399, 3) := by decide +kernel
theorem dJ5_putStringAt_47b60_18 : decode cJ5_putStringAt_47b60 18 = .ok (.return_, 1) := by decide +kernel
theorem dJ5_appendChars_0ad70_0 : decode cJ5_appendChars_0ad70 0 = .ok (.aload_n 0, 1) := by decide +kernel
theorem dJ5_appendChars_0ad70_1 : decode cJ5_appendChars_0ad70 1 = .ok (.getfield 79, 3) := by decide +kernel
theorem dJ5_appendChars_0ad70_4 : decode cJ5_appendChars_0ad70 4 = .ok (.istore 4, 2) := by decide +kernel
theorem dJ5_appendChars_0ad70_6 : decode cJ5_appendChars_0ad70 6 = .ok (.aload_n 0, 1) := by decide +kernel
theorem dJ5_appendChars_0ad70_7 : decode cJ5_appendChars_0ad70 7 = .ok (.invokevirtual 83, 3) := by decide +kernel
theorem dJ5_appendChars_0ad70_10 : decode cJ5_appendChars_0ad70 10 = .ok (.ifCond .eq 97, 3) := by decide +kernel
theorem dJ5_appendChars_0ad70_13 : decode cJ5_appendChars_0ad70 13 = .ok (.aload_n 0, 1) := by decide +kernel
theorem dJ5_appendChars_0ad70_14 : decode cJ5_appendChars_0ad70 14 = .ok (.getfield 15, 3) := by decide +kernel
theorem dJ5_appendChars_0ad70_17 : decode cJ5_appendChars_0ad70 17 = .ok (.astore 5, 2) := by decide +kernel
theorem dJ5_appendChars_0ad70_19 : decode cJ5_appendChars_0ad70 19 = .ok (.iload_n 2, 1) := by decide +kernel
theorem dJ5_appendChars_0ad70_20 : decode cJ5_appendChars_0ad70 20 = .ok (.istore 6, 2) := by decide +kernel
theorem dJ5_appendChars_0ad70_22 : decode cJ5_appendChars_0ad70 22 = .ok (.iload 4, 2) := by decide +kernel
theorem dJ5_appendChars_0ad70_24 : decode cJ5_appendChars_0ad70 24 = .ok (.istore 7, 2) := by decide +kernel
theorem dJ5_appendChars_0ad70_26 : decode cJ5_appendChars_0ad70 26 = .ok (.iload 6, 2) := by decide +kernel
theorem dJ5_appendChars_0ad70_28 : decode cJ5_appendChars_0ad70 28 = .ok (.iload_n 3, 1) := by decide +kernel
theorem dJ5_appendChars_0ad70_29 : decode cJ5_appendChars_0ad70 29 = .ok (.if_icmp .ge 75, 3) := by decide +kernel
theorem dJ5_appendChars_0ad70_32 : decode cJ5_appendChars_0ad70 32 = .ok (.aload_n 1, 1) := by decide +kernel
theorem dJ5_appendChars_0ad70_33 : decode cJ5_appendChars_0ad70 33 = .ok (.iload 6, 2) := by decide +kernel
theorem dJ5_appendChars_0ad70_35 : decode cJ5_appendChars_0ad70 35 = .ok (.caload, 1) := by decide +kernel
theorem dJ5_appendChars_0ad70_36 : decode cJ5_appendChars_0ad70 36 = .ok (.istore 8, 2) := by decide +kernel
theorem dJ5_appendChars_0ad70_38 : decode cJ5_appendChars_0ad70 38 = .ok (.iload 8, 2) := by decide +kernel
theorem dJ5_appendChars_0ad70_40 : decode cJ5_appendChars_0ad70 40 = .ok (.invokestatic 191, 3) := by decide +kernel
theorem dJ5_appendChars_0ad70_43 : decode cJ5_appendChars_0ad70 43 = .ok (.ifCond .eq 17, 3) := by decide +kernel
theorem dJ5_appendChars_0ad70_46 : decode cJ5_appendChars_0ad70 46 = .ok (.aload 5, 2) := by decide +kernel
theorem dJ5_appendChars_0ad70_48 : decode cJ5_appendChars_0ad70 48 = .ok (.iload 7, 2) := by decide +kernel
theorem dJ5_appendChars_0ad70_50 : decode cJ5_appendChars_0ad70 50 = .ok (.iinc 7 1, 3) := by decide +kernel
theorem dJ5_appendChars_0ad70_53 : decode cJ5_appendChars_0ad70 53 = .ok (.iload 8, 2) := by decide +kernel
theorem dJ5_appendChars_0ad70_55 : decode cJ5_appendChars_0ad70 55 = .ok (.i2b, 1) := by decide +kernel
theorem dJ5_appendChars_0ad70_56 : decode cJ5_appendChars_0ad70 56 = .ok (.bastore, 1) := by decide +kernel
theorem dJ5_appendChars_0ad70_57 : decode cJ5_appendChars_0ad70 57 = .ok (.goto 41, 3) := by decide +kernel
theorem dJ5_appendChars_0ad70_60 : decode cJ5_appendChars_0ad70 60 = .ok (.aload_n 0, 1) := by decide +kernel
theorem dJ5_appendChars_0ad70_61 : decode cJ5_appendChars_0ad70 61 = .ok (.iload 7, 2) := by decide +kernel
theorem dJ5_appendChars_0ad70_63 : decode cJ5_appendChars_0ad70 63 = .ok (.dup, 1) := by decide +kernel
theorem dJ5_appendChars_0ad70_64 : decode cJ5_appendChars_0ad70 64 = .ok (.istore 4, 2) := by decide +kernel
theorem dJ5_appendChars_0ad70_66 : decode cJ5_appendChars_0ad70 66 = .ok (.putfield 79, 3) := by decide +kernel
theorem dJ5_appendChars_0ad70_69 : decode cJ5_appendChars_0ad70 69 = .ok (.aload_n 0, 1) := by decide +kernel
theorem dJ5_appendChars_0ad70_70 : decode cJ5_appendChars_0ad70 70 = .ok (.invokevirtual 195, 3) := by decide +kernel
theorem dJ5_appendChars_0ad70_73 : decode cJ5_appendChars_0ad70 73 = .ok (.aload_n 0, 1) := by decide +kernel
theorem dJ5_appendChars_0ad70_74 : decode cJ5_appendChars_0ad70 74 = .ok (.getfield 15, 3) := by decide +kernel
theorem dJ5_appendChars_0ad70_77 : decode cJ5_appendChars_0ad70 77 = .ok (.iload 7, 2) := by decide +kernel
theorem dJ5_appendChars_0ad70_79 : decode cJ5_appendChars_0ad70 79 = .ok (.aload_n 1, 1) := by decide +kernel
theorem dJ5_appendChars_0ad70_80 : decode cJ5_appendChars_0ad70 80 = .ok (.iload 6, 2) := by decide +kernel
theorem dJ5_appendChars_0ad70_82 : decode cJ5_appendChars_0ad70 82 = .ok (.iload_n 3, 1) := by decide +kernel
theorem dJ5_appendChars_0ad70_83 : decode cJ5_appendChars_0ad70 83 = .ok (.invokestatic 386, 3) := by decide +kernel
theorem dJ5_appendChars_0ad70_86 : decode cJ5_appendChars_0ad70 86 = .ok (.aload_n 0, 1) := by decide +kernel
theorem dJ5_appendChars_0ad70_87 : decode cJ5_appendChars_0ad70 87 = .ok (.iload 4, 2) := by decide +kernel
theorem dJ5_appendChars_0ad70_89 : decode cJ5_appendChars_0ad70 89 = .ok (.iload_n 3, 1) := by decide +kernel
theorem dJ5_appendChars_0ad70_90 : decode cJ5_appendChars_0ad70 90 = .ok (.iadd, 1) := by decide +kernel
theorem dJ5_appendChars_0ad70_91 : decode cJ5_appendChars_0ad70 91 = .ok (.iload 6, 2) := by decide +kernel
theorem dJ5_appendChars_0ad70_93 : decode cJ5_appendChars_0ad70 93 = .ok (.isub, 1) := by decide +kernel
theorem dJ5_appendChars_0ad70_94 : decode cJ5_appendChars_0ad70 94 = .ok (.putfield 79, 3) := by decide +kernel
theorem dJ5_appendChars_0ad70_97 : decode cJ5_appendChars_0ad70 97 = .ok (.return_, 1) := by decide +kernel
theorem dJ5_appendChars_0ad70_98 : decode cJ5_appendChars_0ad70 98 = .ok (.iinc 6 1, 3) := by decide +kernel
theorem dJ5_appendChars_0ad70_101 : decode cJ5_appendChars_0ad70 101 = .ok (.goto (-75), 3) := by decide +kernel
theorem dJ5_appendChars_0ad70_104 : decode cJ5_appendChars_0ad70 104 = .ok (.goto 15, 3) := by decide +kernel
theorem dJ5_appendChars_0ad70_107 : decode cJ5_appendChars_0ad70 107 = .ok (.aload_n 0, 1) := by decide +kernel
theorem dJ5_appendChars_0ad70_108 : decode cJ5_appendChars_0ad70 108 = .ok (.getfield 15, 3) := by decide +kernel
theorem dJ5_appendChars_0ad70_111 : decode cJ5_appendChars_0ad70 111 = .ok (.iload 4, 2) := by decide +kernel
theorem dJ5_appendChars_0ad70_113 : decode cJ5_appendChars_0ad70 113 = .ok (.aload_n 1, 1) := by decide +kernel
theorem dJ5_appendChars_0ad70_114 : decode cJ5_appendChars_0ad70 114 = .ok (.iload_n 2, 1) := by decide +kernel
theorem dJ5_appendChars_0ad70_115 : decode cJ5_appendChars_0ad70 115 = .ok (.iload_n 3, 1) := by decide +kernel
theorem dJ5_appendChars_0ad70_116 : decode cJ5_appendChars_0ad70 116 = .ok (.invokestatic 386, 3) := by decide +kernel
theorem dJ5_appendChars_0ad70_119 : decode cJ5_appendChars_0ad70 119 = .ok (.aload_n 0, 1) := by decide +kernel
theorem dJ5_appendChars_0ad70_120 : decode cJ5_appendChars_0ad70 120 = .ok (.iload 4, 2) := by decide +kernel
theorem dJ5_appendChars_0ad70_122 : decode cJ5_appendChars_0ad70 122 = .ok (.iload_n 3, 1) := by decide +kernel
theorem dJ5_appendChars_0ad70_123 : decode cJ5_appendChars_0ad70 123 = .ok (.iadd, 1) := by decide +kernel
theorem dJ5_appendChars_0ad70_124 : decode cJ5_appendChars_0ad70 124 = .ok (.iload_n 2, 1) := by decide +kernel
theorem dJ5_appendChars_0ad70_125 : decode cJ5_appendChars_0ad70 125 = .ok (.isub, 1) := by decide +kernel
theorem dJ5_appendChars_0ad70_126 : decode cJ5_appendChars_0ad70 126 = .ok (.putfield 79, 3) := by decide +kernel
theorem dJ5_appendChars_0ad70_129 : decode cJ5_appendChars_0ad70 129 = .ok (.return_, 1) := by decide +kernel
theorem dJ5_appendChars_3135b_0 : decode cJ5_appendChars_3135b 0 = .ok (.aload_n 0, 1) := by decide +kernel
theorem dJ5_appendChars_3135b_1 : decode cJ5_appendChars_3135b 1 = .ok (.invokevirtual 83, 3) := by decide +kernel
theorem dJ5_appendChars_3135b_4 : decode cJ5_appendChars_3135b 4 = .ok (.ifCond .eq 141, 3) := by decide +kernel
theorem dJ5_appendChars_3135b_7 : decode cJ5_appendChars_3135b 7 = .ok (.aload_n 1, 1) := by decide +kernel
theorem dJ5_appendChars_3135b_8 : decode cJ5_appendChars_3135b 8 = .ok (.invokevirtual 400, 3) := by decide +kernel
theorem dJ5_appendChars_3135b_11 : decode cJ5_appendChars_3135b 11 = .ok (.ifCond .eq 25, 3) := by decide +kernel
theorem dJ5_appendChars_3135b_14 : decode cJ5_appendChars_3135b 14 = .ok (.aload_n 1, 1) := by decide +kernel
theorem dJ5_appendChars_3135b_15 : decode cJ5_appendChars_3135b 15 = .ok (.invokevirtual 401, 3) := by decide +kernel
theorem dJ5_appendChars_3135b_18 : decode cJ5_appendChars_3135b 18 = .ok (.iload_n 2, 1) := by decide +kernel
theorem dJ5_appendChars_3135b_19 : decode cJ5_appendChars_3135b 19 = .ok (.aload_n 0, 1) := by decide +kernel
theorem dJ5_appendChars_3135b_20 : decode cJ5_appendChars_3135b 20 = .ok (.getfield 15, 3) := by decide +kernel
theorem dJ5_appendChars_3135b_23 : decode cJ5_appendChars_3135b 23 = .ok (.aload_n 0, 1) := by decide +kernel
theorem dJ5_appendChars_3135b_24 : decode cJ5_appendChars_3135b 24 = .ok (.getfield 79, 3) := by decide +kernel
theorem dJ5_appendChars_3135b_27 : decode cJ5_appendChars_3135b 27 = .ok (.iload_n 3, 1) := by decide +kernel
theorem dJ5_appendChars_3135b_28 : decode cJ5_appendChars_3135b 28 = .ok (.iload_n 2, 1) := by decide +kernel
theorem dJ5_appendChars_3135b_29 : decode cJ5_appendChars_3135b 29 = .ok (.isub, 1) := by decide +kernel
theorem dJ5_appendChars_3135b_30 : decode cJ5_appendChars_3135b 30 = .ok (.invokestatic 309, 3) := by decide +kernel
theorem dJ5_appendChars_3135b_33 : decode cJ5_appendChars_3135b 33 = .ok (.goto 161, 3) := by decide +kernel
theorem dJ5_appendChars_3135b_36 : decode cJ5_appendChars_3135b 36 = .ok (.aload_n 0, 1) := by decide +kernel
theorem dJ5_appendChars_3135b_37 : decode cJ5_appendChars_3135b 37 = .ok (.getfield 15, 3) := by decide +kernel
theorem dJ5_appendChars_3135b_40 : decode cJ5_appendChars_3135b 40 = .ok (.astore 4, 2) := by decide +kernel
theorem dJ5_appendChars_3135b_42 : decode cJ5_appendChars_3135b 42 = .ok (.iload_n 2, 1) := by decide +kernel
theorem dJ5_appendChars_3135b_43 : decode cJ5_appendChars_3135b 43 = .ok (.istore 5, 2) := by decide +kernel
theorem dJ5_appendChars_3135b_45 : decode cJ5_appendChars_3135b 45 = .ok (.aload_n 0, 1) := by decide +kernel
theorem dJ5_appendChars_3135b_46 : decode cJ5_appendChars_3135b 46 = .ok (.getfield 79, 3) := by decide +kernel
theorem dJ5_appendChars_3135b_49 : decode cJ5_appendChars_3135b 49 = .ok (.istore 6, 2) := by decide +kernel
theorem dJ5_appendChars_3135b_51 : decode cJ5_appendChars_3135b 51 = .ok (.iload 5, 2) := by decide +kernel
theorem dJ5_appendChars_3135b_53 : decode cJ5_appendChars_3135b 53 = .ok (.iload_n 3, 1) := by decide +kernel
theorem dJ5_appendChars_3135b_54 : decode cJ5_appendChars_3135b 54 = .ok (.if_icmp .ge 88, 3) := by decide +kernel
theorem dJ5_appendChars_3135b_57 : decode cJ5_appendChars_3135b 57 = .ok (.aload_n 1, 1) := by decide +kernel
theorem dJ5_appendChars_3135b_58 : decode cJ5_appendChars_3135b 58 = .ok (.iload 5, 2) := by decide +kernel
theorem dJ5_appendChars_3135b_60 : decode cJ5_appendChars_3135b 60 = .ok (.invokevirtual 404, 3) := by decide +kernel
theorem dJ5_appendChars_3135b_63 : decode cJ5_appendChars_3135b 63 = .ok (.istore 7, 2) := by decide +kernel
theorem dJ5_appendChars_3135b_65 : decode cJ5_appendChars_3135b 65 = .ok (.iload 7, 2) := by decide +kernel
theorem dJ5_appendChars_3135b_67 : decode cJ5_appendChars_3135b 67 = .ok (.invokestatic 191, 3) := by decide +kernel
theorem dJ5_appendChars_3135b_70 : decode cJ5_appendChars_3135b 70 = .ok (.ifCond .eq 17, 3) := by decide +kernel
theorem dJ5_appendChars_3135b_73 : decode cJ5_appendChars_3135b 73 = .ok (.aload 4, 2) := by decide +kernel
theorem dJ5_appendChars_3135b_75 : decode cJ5_appendChars_3135b 75 = .ok (.iload 6, 2) := by decide +kernel
theorem dJ5_appendChars_3135b_77 : decode cJ5_appendChars_3135b 77 = .ok (.iinc 6 1, 3) := by decide +kernel
theorem dJ5_appendChars_3135b_80 : decode cJ5_appendChars_3135b 80 = .ok (.iload 7, 2) := by decide +kernel
theorem dJ5_appendChars_3135b_82 : decode cJ5_appendChars_3135b 82 = .ok (.i2b, 1) := by decide +kernel
theorem dJ5_appendChars_3135b_83 : decode cJ5_appendChars_3135b 83 = .ok (.bastore, 1) := by decide +kernel
theorem dJ5_appendChars_3135b_84 : decode cJ5_appendChars_3135b 84 = .ok (.goto 52, 3) := by decide +kernel
theorem dJ5_appendChars_3135b_87 : decode cJ5_appendChars_3135b 87 = .ok (.aload_n 0, 1) := by decide +kernel
theorem dJ5_appendChars_3135b_88 : decode cJ5_appendChars_3135b 88 = .ok (.iload 6, 2) := by decide +kernel
theorem dJ5_appendChars_3135b_90 : decode cJ5_appendChars_3135b 90 = .ok (.putfield 79, 3) := by decide +kernel
theorem dJ5_appendChars_3135b_93 : decode cJ5_appendChars_3135b 93 = .ok (.aload_n 0, 1) := by decide +kernel
theorem dJ5_appendChars_3135b_94 : decode cJ5_appendChars_3135b 94 = .ok (.invokevirtual 195, 3) := by decide +kernel
theorem dJ5_appendChars_3135b_97 : decode cJ5_appendChars_3135b 97 = .ok (.aload_n 1, 1) := by decide +kernel
theorem dJ5_appendChars_3135b_98 : decode cJ5_appendChars_3135b 98 = .ok (.invokevirtual 401, 3) := by decide +kernel
theorem dJ5_appendChars_3135b_101 : decode cJ5_appendChars_3135b 101 = .ok (.iload 5, 2) := by decide +kernel
theorem dJ5_appendChars_3135b_103 : decode cJ5_appendChars_3135b 103 = .ok (.iconst 1, 1) := by decide +kernel
theorem dJ5_appendChars_3135b_104 : decode cJ5_appendChars_3135b 104 = .ok (.ishl, 1) := by decide +kernel
theorem dJ5_appendChars_3135b_105 : decode cJ5_appendChars_3135b 105 = .ok (.aload_n 0, 1) := by decide +kernel
theorem dJ5_appendChars_3135b_106 : decode cJ5_appendChars_3135b 106 = .ok (.getfield 15, 3) := by decide +kernel
theorem dJ5_appendChars_3135b_109 : decode cJ5_appendChars_3135b 109 = .ok (.iload 6, 2) := by decide +kernel
theorem dJ5_appendChars_3135b_111 : decode cJ5_appendChars_3135b 111 = .ok (.iconst 1, 1) := by decide +kernel
theorem dJ5_appendChars_3135b_112 : decode cJ5_appendChars_3135b 112 = .ok (.ishl, 1) := by decide +kernel
theorem dJ5_appendChars_3135b_113 : decode cJ5_appendChars_3135b 113 = .ok (.iload_n 3, 1) := by decide +kernel
theorem dJ5_appendChars_3135b_114 : decode cJ5_appendChars_3135b 114 = .ok (.iload 5, 2) := by decide +kernel
theorem dJ5_appendChars_3135b_116 : decode cJ5_appendChars_3135b 116 = .ok (.isub, 1) := by decide +kernel
theorem dJ5_appendChars_3135b_117 : decode cJ5_appendChars_3135b 117 = .ok (.iconst 1, 1) := by decide +kernel
theorem dJ5_appendChars_3135b_118 : decode cJ5_appendChars_3135b 118 = .ok (.ishl, 1) := by decide +kernel
theorem dJ5_appendChars_3135b_119 : decode cJ5_appendChars_3135b 119 = .ok (.invokestatic 309, 3) := by decide +kernel
theorem dJ5_appendChars_3135b_122 : decode cJ5_appendChars_3135b 122 = .ok (.aload_n 0, 1) := by decide +kernel
theorem dJ5_appendChars_3135b_123 : decode cJ5_appendChars_3135b 123 = .ok (.dup, 1) := by decide +kernel
theorem dJ5_appendChars_3135b_124 : decode cJ5_appendChars_3135b 124 = .ok (.getfield 79, 3) := by decide +kernel
theorem dJ5_appendChars_3135b_127 : decode cJ5_appendChars_3135b 127 = .ok (.iload_n 3, 1) := by decide +kernel
theorem dJ5_appendChars_3135b_128 : decode cJ5_appendChars_3135b 128 = .ok (.iload 5, 2) := by decide +kernel
theorem dJ5_appendChars_3135b_130 : decode cJ5_appendChars_3135b 130 = .ok (.isub, 1) := by decide +kernel
theorem dJ5_appendChars_3135b_131 : decode cJ5_appendChars_3135b 131 = .ok (.iadd, 1) := by decide +kernel
theorem dJ5_appendChars_3135b_132 : decode cJ5_appendChars_3135b 132 = .ok (.putfield 79, 3) := by decide +kernel
theorem dJ5_appendChars_3135b_135 : decode cJ5_appendChars_3135b 135 = .ok (.return_, 1) := by decide +kernel
theorem dJ5_appendChars_3135b_136 : decode cJ5_appendChars_3135b 136 = .ok (.iinc 5 1, 3) := by decide +kernel
theorem dJ5_appendChars_3135b_139 : decode cJ5_appendChars_3135b 139 = .ok (.goto (-88), 3) := by decide +kernel
theorem dJ5_appendChars_3135b_142 : decode cJ5_appendChars_3135b 142 = .ok (.goto 52, 3) := by decide +kernel
theorem dJ5_appendChars_3135b_145 : decode cJ5_appendChars_3135b 145 = .ok (.aload_n 1, 1) := by decide +kernel
theorem dJ5_appendChars_3135b_146 : decode cJ5_appendChars_3135b 146 = .ok (.invokevirtual 400, 3) := by decide +kernel
theorem dJ5_appendChars_3135b_149 : decode cJ5_appendChars_3135b 149 = .ok (.ifCond .eq 20, 3) := by decide +kernel
theorem dJ5_appendChars_3135b_152 : decode cJ5_appendChars_3135b 152 = .ok (.aload_n 0, 1) := by decide +kernel
theorem dJ5_appendChars_3135b_153 : decode cJ5_appendChars_3135b 153 = .ok (.getfield 15, 3) := by decide +kernel
theorem dJ5_appendChars_3135b_156 : decode cJ5_appendChars_3135b 156 = .ok (.aload_n 0, 1) := by decide +kernel
theorem dJ5_appendChars_3135b_157 : decode cJ5_appendChars_3135b 157 = .ok (.getfield 79, 3) := by decide +kernel
theorem dJ5_appendChars_3135b_160 : decode cJ5_appendChars_3135b 160 = .ok (.aload_n 1, 1) := by decide +kernel
theorem dJ5_appendChars_3135b_161 : decode cJ5_appendChars_3135b 161 = .ok (.iload_n 2, 1) := by decide +kernel
theorem dJ5_appendChars_3135b_162 : decode cJ5_appendChars_3135b 162 = .ok (.iload_n 3, 1) := by decide +kernel
theorem dJ5_appendChars_3135b_163 : decode cJ5_appendChars_3135b 163 = .ok (.invokestatic 394, 3) := by decide +kernel
theorem dJ5_appendChars_3135b_166 : decode cJ5_appendChars_3135b 166 = .ok (.goto 28, 3) := by decide +kernel
theorem dJ5_appendChars_3135b_169 : decode cJ5_appendChars_3135b 169 = .ok (.aload_n 1, 1) := by decide +kernel
theorem dJ5_appendChars_3135b_170 : decode cJ5_appendChars_3135b 170 = .ok (.invokevirtual 401, 3) := by decide +kernel
theorem dJ5_appendChars_3135b_173 : decode cJ5_appendChars_3135b 173 = .ok (.iload_n 2, 1) := by decide +kernel
theorem dJ5_appendChars_3135b_174 : decode cJ5_appendChars_3135b 174 = .ok (.iconst 1, 1) := by decide +kernel
theorem dJ5_appendChars_3135b_175 : decode cJ5_appendChars_3135b 175 = .ok (.ishl, 1) := by decide +kernel
theorem dJ5_appendChars_3135b_176 : decode cJ5_appendChars_3135b 176 = .ok (.aload_n 0, 1) := by decide +kernel
theorem dJ5_appendChars_3135b_177 : decode cJ5_appendChars_3135b 177 = .ok (.getfield 15, 3) := by decide +kernel
theorem dJ5_appendChars_3135b_180 : decode cJ5_appendChars_3135b 180 = .ok (.aload_n 0, 1) := by decide +kernel
theorem dJ5_appendChars_3135b_181 : decode cJ5_appendChars_3135b 181 = .ok (.getfield 79, 3) := by decide +kernel
theorem dJ5_appendChars_3135b_184 : decode cJ5_appendChars_3135b 184 = .ok (.iconst 1, 1) := by decide +kernel
theorem dJ5_appendChars_3135b_185 : decode cJ5_appendChars_3135b 185 = .ok (.ishl, 1) := by decide +kernel
theorem dJ5_appendChars_3135b_186 : decode cJ5_appendChars_3135b 186 = .ok (.iload_n 3, 1) := by decide +kernel
theorem dJ5_appendChars_3135b_187 : decode cJ5_appendChars_3135b 187 = .ok (.iload_n 2, 1) := by decide +kernel
theorem dJ5_appendChars_3135b_188 : decode cJ5_appendChars_3135b 188 = .ok (.isub, 1) := by decide +kernel
theorem dJ5_appendChars_3135b_189 : decode cJ5_appendChars_3135b 189 = .ok (.iconst 1, 1) := by decide +kernel
theorem dJ5_appendChars_3135b_190 : decode cJ5_appendChars_3135b 190 = .ok (.ishl, 1) := by decide +kernel
theorem dJ5_appendChars_3135b_191 : decode cJ5_appendChars_3135b 191 = .ok (.invokestatic 309, 3) := by decide +kernel
theorem dJ5_appendChars_3135b_194 : decode cJ5_appendChars_3135b 194 = .ok (.aload_n 0, 1) := by decide +kernel
theorem dJ5_appendChars_3135b_195 : decode cJ5_appendChars_3135b 195 = .ok (.dup, 1) := by decide +kernel
theorem dJ5_appendChars_3135b_196 : decode cJ5_appendChars_3135b 196 = .ok (.getfield 79, 3) := by decide +kernel
theorem dJ5_appendChars_3135b_199 : decode cJ5_appendChars_3135b 199 = .ok (.iload_n 3, 1) := by decide +kernel
theorem dJ5_appendChars_3135b_200 : decode cJ5_appendChars_3135b 200 = .ok (.iload_n 2, 1) := by decide +kernel
theorem dJ5_appendChars_3135b_201 : decode cJ5_appendChars_3135b 201 = .ok (.isub, 1) := by decide +kernel
theorem dJ5_appendChars_3135b_202 : decode cJ5_appendChars_3135b 202 = .ok (.iadd, 1) := by decide +kernel
theorem dJ5_appendChars_3135b_203 : decode cJ5_appendChars_3135b 203 = .ok (.putfield 79, 3) := by decide +kernel
theorem dJ5_appendChars_3135b_206 : decode cJ5_appendChars_3135b 206 = .ok (.return_, 1) := by decide +kernel
theorem dJ5_appendChars_a91ff_0 : decode cJ5_appendChars_a91ff 0 = .ok (.aload_n 0, 1) := by decide +kernel
theorem dJ5_appendChars_a91ff_1 : decode cJ5_appendChars_a91ff 1 = .ok (.invokevirtual 83, 3) := by decide +kernel
theorem dJ5_appendChars_a91ff_4 : decode cJ5_appendChars_a91ff 4 = .ok (.ifCond .eq 125, 3) := by decide +kernel
theorem dJ5_appendChars_a91ff_7 : decode cJ5_appendChars_a91ff 7 = .ok (.aload_n 0, 1) := by decide +kernel
theorem dJ5_appendChars_a91ff_8 : decode cJ5_appendChars_a91ff 8 = .ok (.getfield 15, 3) := by decide +kernel
theorem dJ5_appendChars_a91ff_11 : decode cJ5_appendChars_a91ff 11 = .ok (.astore 4, 2) := by decide +kernel
theorem dJ5_appendChars_a91ff_13 : decode cJ5_appendChars_a91ff 13 = .ok (.iload_n 2, 1) := by decide +kernel
theorem dJ5_appendChars_a91ff_14 : decode cJ5_appendChars_a91ff 14 = .ok (.istore 5, 2) := by decide +kernel
theorem dJ5_appendChars_a91ff_16 : decode cJ5_appendChars_a91ff 16 = .ok (.aload_n 0, 1) := by decide +kernel
theorem dJ5_appendChars_a91ff_17 : decode cJ5_appendChars_a91ff 17 = .ok (.getfield 79, 3) := by decide +kernel
theorem dJ5_appendChars_a91ff_20 : decode cJ5_appendChars_a91ff 20 = .ok (.istore 6, 2) := by decide +kernel
theorem dJ5_appendChars_a91ff_22 : decode cJ5_appendChars_a91ff 22 = .ok (.iload 5, 2) := by decide +kernel
theorem dJ5_appendChars_a91ff_24 : decode cJ5_appendChars_a91ff 24 = .ok (.iload_n 3, 1) := by decide +kernel
theorem dJ5_appendChars_a91ff_25 : decode cJ5_appendChars_a91ff 25 = .ok (.if_icmp .ge 101, 3) := by decide +kernel
theorem dJ5_appendChars_a91ff_28 : decode cJ5_appendChars_a91ff 28 = .ok (.aload_n 1, 1) := by decide +kernel
theorem dJ5_appendChars_a91ff_29 : decode cJ5_appendChars_a91ff 29 = .ok (.iload 5, 2) := by decide +kernel
theorem dJ5_appendChars_a91ff_31 : decode cJ5_appendChars_a91ff 31 = .ok (.invokeinterface 390 2, 5) := by decide +kernel
theorem dJ5_appendChars_a91ff_36 : decode cJ5_appendChars_a91ff 36 = .ok (.istore 7, 2) := by decide +kernel
theorem dJ5_appendChars_a91ff_38 : decode cJ5_appendChars_a91ff 38 = .ok (.iload 7, 2) := by decide +kernel
theorem dJ5_appendChars_a91ff_40 : decode cJ5_appendChars_a91ff 40 = .ok (.invokestatic 191, 3) := by decide +kernel
theorem dJ5_appendChars_a91ff_43 : decode cJ5_appendChars_a91ff 43 = .ok (.ifCond .eq 17, 3) := by decide +kernel
theorem dJ5_appendChars_a91ff_46 : decode cJ5_appendChars_a91ff 46 = .ok (.aload 4, 2) := by decide +kernel
theorem dJ5_appendChars_a91ff_48 : decode cJ5_appendChars_a91ff 48 = .ok (.iload 6, 2) := by decide +kernel
theorem dJ5_appendChars_a91ff_50 : decode cJ5_appendChars_a91ff 50 = .ok (.iinc 6 1, 3) := by decide +kernel
theorem dJ5_appendChars_a91ff_53 : decode cJ5_appendChars_a91ff 53 = .ok (.iload 7, 2) := by decide +kernel
theorem dJ5_appendChars_a91ff_55 : decode cJ5_appendChars_a91ff 55 = .ok (.i2b, 1) := by decide +kernel
theorem dJ5_appendChars_a91ff_56 : decode cJ5_appendChars_a91ff 56 = .ok (.bastore, 1) := by decide +kernel
theorem dJ5_appendChars_a91ff_57 : decode cJ5_appendChars_a91ff 57 = .ok (.goto 63, 3) := by decide +kernel
theorem dJ5_appendChars_a91ff_60 : decode cJ5_appendChars_a91ff 60 = .ok (.aload_n 0, 1) := by decide +kernel
theorem dJ5_appendChars_a91ff_61 : decode cJ5_appendChars_a91ff 61 = .ok (.iload 6, 2) := by decide +kernel
theorem dJ5_appendChars_a91ff_63 : decode cJ5_appendChars_a91ff 63 = .ok (.putfield 79, 3) := by decide +kernel
theorem dJ5_appendChars_a91ff_66 : decode cJ5_appendChars_a91ff 66 = .ok (.aload_n 0, 1) := by decide +kernel
theorem dJ5_appendChars_a91ff_67 : decode cJ5_appendChars_a91ff 67 = .ok (.invokevirtual 195, 3) := by decide +kernel
theorem dJ5_appendChars_a91ff_70 : decode cJ5_appendChars_a91ff 70 = .ok (.aload_n 0, 1) := by decide +kernel
theorem dJ5_appendChars_a91ff_71 : decode cJ5_appendChars_a91ff 71 = .ok (.getfield 15, 3) := by decide +kernel
theorem dJ5_appendChars_a91ff_74 : decode cJ5_appendChars_a91ff 74 = .ok (.iload 6, 2) := by decide +kernel
theorem dJ5_appendChars_a91ff_76 : decode cJ5_appendChars_a91ff 76 = .ok (.iinc 6 1, 3) := by decide +kernel
theorem dJ5_appendChars_a91ff_79 : decode cJ5_appendChars_a91ff 79 = .ok (.iload 7, 2) := by decide +kernel
theorem dJ5_appendChars_a91ff_81 : decode cJ5_appendChars_a91ff 81 = .ok (.invokestatic 197, 3) := by decide +kernel
theorem dJ5_appendChars_a91ff_84 : decode cJ5_appendChars_a91ff 84 = .ok (.aload_n 0, 1) := by decide +kernel
theorem dJ5_appendChars_a91ff_85 : decode cJ5_appendChars_a91ff 85 = .ok (.iload 6, 2) := by decide +kernel
theorem dJ5_appendChars_a91ff_87 : decode cJ5_appendChars_a91ff 87 = .ok (.putfield 79, 3) := by decide +kernel
theorem dJ5_appendChars_a91ff_90 : decode cJ5_appendChars_a91ff 90 = .ok (.iinc 5 1, 3) := by decide +kernel
theorem dJ5_appendChars_a91ff_93 : decode cJ5_appendChars_a91ff 93 = .ok (.aload_n 0, 1) := by decide +kernel
theorem dJ5_appendChars_a91ff_94 : decode cJ5_appendChars_a91ff 94 = .ok (.getfield 15, 3) := by decide +kernel
theorem dJ5_appendChars_a91ff_97 : decode cJ5_appendChars_a91ff 97 = .ok (.iload 6, 2) := by decide +kernel
theorem dJ5_appendChars_a91ff_99 : decode cJ5_appendChars_a91ff 99 = .ok (.aload_n 1, 1) := by decide +kernel
theorem dJ5_appendChars_a91ff_100 : decode cJ5_appendChars_a91ff 100 = .ok (.iload 5, 2) := by decide +kernel
theorem dJ5_appendChars_a91ff_102 : decode cJ5_appendChars_a91ff 102 = .ok (.iload_n 3, 1) := by decide +kernel
theorem dJ5_appendChars_a91ff_103 : decode cJ5_appendChars_a91ff 103 = .ok (.invokestatic 394, 3) := by decide +kernel
theorem dJ5_appendChars_a91ff_106 : decode cJ5_appendChars_a91ff 106 = .ok (.aload_n 0, 1) := by decide +kernel
theorem dJ5_appendChars_a91ff_107 : decode cJ5_appendChars_a91ff 107 = .ok (.dup, 1) := by decide +kernel
theorem dJ5_appendChars_a91ff_108 : decode cJ5_appendChars_a91ff 108 = .ok (.getfield 79, 3) := by decide +kernel
theorem dJ5_appendChars_a91ff_111 : decode cJ5_appendChars_a91ff 111 = .ok (.iload_n 3, 1) := by decide +kernel
theorem dJ5_appendChars_a91ff_112 : decode cJ5_appendChars_a91ff 112 = .ok (.iload 5, 2) := by decide +kernel
theorem dJ5_appendChars_a91ff_114 : decode cJ5_appendChars_a91ff 114 = .ok (.isub, 1) := by decide +kernel
theorem dJ5_appendChars_a91ff_115 : decode cJ5_appendChars_a91ff 115 = .ok (.iadd, 1) := by decide +kernel
theorem dJ5_appendChars_a91ff_116 : decode cJ5_appendChars_a91ff 116 = .ok (.putfield 79, 3) := by decide +kernel
theorem dJ5_appendChars_a91ff_119 : decode cJ5_appendChars_a91ff 119 = .ok (.return_, 1) := by decide +kernel
theorem dJ5_appendChars_a91ff_120 : decode cJ5_appendChars_a91ff 120 = .ok (.iinc 5 1, 3) := by decide +kernel
theorem dJ5_appendChars_a91ff_123 : decode cJ5_appendChars_a91ff 123 = .ok (.goto (-101), 3) := by decide +kernel
theorem dJ5_appendChars_a91ff_126 : decode cJ5_appendChars_a91ff 126 = .ok (.goto 17, 3) := by decide +kernel
theorem dJ5_appendChars_a91ff_129 : decode cJ5_appendChars_a91ff 129 = .ok (.aload_n 0, 1) := by decide +kernel
theorem dJ5_appendChars_a91ff_130 : decode cJ5_appendChars_a91ff 130 = .ok (.getfield 15, 3) := by decide +kernel
theorem dJ5_appendChars_a91ff_133 : decode cJ5_appendChars_a91ff 133 = .ok (.aload_n 0, 1) := by decide +kernel
theorem dJ5_appendChars_a91ff_134 : decode cJ5_appendChars_a91ff 134 = .ok (.getfield 79, 3) := by decide +kernel
theorem dJ5_appendChars_a91ff_137 : decode cJ5_appendChars_a91ff 137 = .ok (.aload_n 1, 1) := by decide +kernel
theorem dJ5_appendChars_a91ff_138 : decode cJ5_appendChars_a91ff 138 = .ok (.iload_n 2, 1) := by decide +kernel
theorem dJ5_appendChars_a91ff_139 : decode cJ5_appendChars_a91ff 139 = .ok (.iload_n 3, 1) := by decide +kernel
theorem dJ5_appendChars_a91ff_140 : decode cJ5_appendChars_a91ff 140 = .ok (.invokestatic 394, 3) := by decide +kernel
theorem dJ5_appendChars_a91ff_143 : decode cJ5_appendChars_a91ff 143 = .ok (.aload_n 0, 1) := by decide +kernel
theorem dJ5_appendChars_a91ff_144 : decode cJ5_appendChars_a91ff 144 = .ok (.dup, 1) := by decide +kernel
theorem dJ5_appendChars_a91ff_145 : decode cJ5_appendChars_a91ff 145 = .ok (.getfield 79, 3) := by decide +kernel
theorem dJ5_appendChars_a91ff_148 : decode cJ5_appendChars_a91ff 148 = .ok (.iload_n 3, 1) := by decide +kernel
theorem dJ5_appendChars_a91ff_149 : decode cJ5_appendChars_a91ff 149 = .ok (.iload_n 2, 1) := by decide +kernel
theorem dJ5_appendChars_a91ff_150 : decode cJ5_appendChars_a91ff 150 = .ok (.isub, 1) := by decide +kernel
theorem dJ5_appendChars_a91ff_151 : decode cJ5_appendChars_a91ff 151 = .ok (.iadd, 1) := by decide +kernel
theorem dJ5_appendChars_a91ff_152 : decode cJ5_appendChars_a91ff 152 = .ok (.putfield 79, 3) := by decide +kernel
theorem dJ5_appendChars_a91ff_155 : decode cJ5_appendChars_a91ff 155 = .ok (.return_, 1) := by decide +kernel
theorem dJ6_getChars_ba4f3_0 : decode cJ6_getChars_ba4f3 0 = .ok (.iload_n 1, 1) := by decide +kernel
theorem dJ6_getChars_ba4f3_1 : decode cJ6_getChars_ba4f3 1 = .ok (.istore 5, 2) := by decide +kernel
theorem dJ6_getChars_ba4f3_3 : decode cJ6_getChars_ba4f3 3 = .ok (.iload_n 0, 1) := by decide +kernel
theorem dJ6_getChars_ba4f3_4 : decode cJ6_getChars_ba4f3 4 = .ok (.ifCond .ge 7, 3) := by decide +kernel
theorem dJ6_getChars_ba4f3_7 : decode cJ6_getChars_ba4f3 7 = .ok (.iconst 1, 1) := by decide +kernel
theorem dJ6_getChars_ba4f3_8 : decode cJ6_getChars_ba4f3 8 = .ok (.goto 4, 3) := by decide +kernel
theorem dJ6_getChars_ba4f3_11 : decode cJ6_getChars_ba4f3 11 = .ok (.iconst 0, 1) := by decide +kernel
theorem dJ6_getChars_ba4f3_12 : decode cJ6_getChars_ba4f3 12 = .ok (.istore 6, 2) := by decide +kernel
theorem dJ6_getChars_ba4f3_14 : decode cJ6_getChars_ba4f3 14 = .ok (.iload 6, 2) := by decide +kernel
theorem dJ6_getChars_ba4f3_16 : decode cJ6_getChars_ba4f3 16 = .ok (.ifCond .ne 6, 3) := by decide +kernel
theorem dJ6_getChars_ba4f3_19 : decode cJ6_getChars_ba4f3 19 = .ok (.iload_n 0, 1) := by decide +kernel
theorem dJ6_getChars_ba4f3_20 : decode cJ6_getChars_ba4f3 20 = .ok (.ineg, 1) := by decide +kernel
theorem dJ6_getChars_ba4f3_21 : decode cJ6_getChars_ba4f3 21 = .ok (.istore_n 0, 1) := by decide +kernel
theorem dJ6_getChars_ba4f3_22 : decode cJ6_getChars_ba4f3 22 = .ok (.iload_n 0, 1) := by decide +kernel
theorem dJ6_getChars_ba4f3_23 : decode cJ6_getChars_ba4f3 23 = .ok (.bipush (-100), 2) := by decide +kernel
theorem dJ6_getChars_ba4f3_25 : decode cJ6_getChars_ba4f3 25 = .ok (.if_icmp .gt 47, 3) := by decide +kernel
theorem dJ6_getChars_ba4f3_28 : decode cJ6_getChars_ba4f3 28 = .ok (.iload_n 0, 1) := by decide +kernel
theorem dJ6_getChars_ba4f3_29 : decode cJ6_getChars_ba4f3 29 = .ok (.bipush 100, 2) := by decide +kernel
theorem dJ6_getChars_ba4f3_31 : decode cJ6_getChars_ba4f3 31 = .ok (.idiv, 1) := by decide +kernel
theorem dJ6_getChars_ba4f3_32 : decode cJ6_getChars_ba4f3 32 = .ok (.istore_n 3, 1) := by decide +kernel
theorem dJ6_getChars_ba4f3_33 : decode cJ6_getChars_ba4f3 33 = .ok (.iload_n 3, 1) := by decide +kernel
theorem dJ6_getChars_ba4f3_34 : decode cJ6_getChars_ba4f3 34 = .ok (.bipush 100, 2) := by decide +kernel
theorem dJ6_getChars_ba4f3_36 : decode cJ6_getChars_ba4f3 36 = .ok (.imul, 1) := by decide +kernel
theorem dJ6_getChars_ba4f3_37 : decode cJ6_getChars_ba4f3 37 = .ok (.iload_n 0, 1) := by decide +kernel
theorem dJ6_getChars_ba4f3_38 : decode cJ6_getChars_ba4f3 38 = .ok (.isub, 1) := by decide +kernel
theorem dJ6_getChars_ba4f3_39 : decode cJ6_getChars_ba4f3 39 = .ok (.istore 4, 2) := by decide +kernel
theorem dJ6_getChars_ba4f3_41 : decode cJ6_getChars_ba4f3 41 = .ok (.iload_n 3, 1) := by decide +kernel
theorem dJ6_getChars_ba4f3_42 : decode cJ6_getChars_ba4f3 42 = .ok (.istore_n 0, 1) := by decide +kernel
theorem dJ6_getChars_ba4f3_43 : decode cJ6_getChars_ba4f3 43 = .ok (.aload_n 2, 1) := by decide +kernel
theorem dJ6_getChars_ba4f3_44 : decode cJ6_getChars_ba4f3 44 = .ok (.iinc 5 (-1), 3) := by decide +kernel
theorem dJ6_getChars_ba4f3_47 : decode cJ6_getChars_ba4f3 47 = .ok (.iload 5, 2) := by decide +kernel
theorem dJ6_getChars_ba4f3_49 : decode cJ6_getChars_ba4f3 49 = .ok (.getstatic 83, 3) := by decide +kernel
theorem dJ6_getChars_ba4f3_52 : decode cJ6_getChars_ba4f3 52 = .ok (.iload 4, 2) := by decide +kernel
theorem dJ6_getChars_ba4f3_54 : decode cJ6_getChars_ba4f3 54 = .ok (.baload, 1) := by decide +kernel
theorem dJ6_getChars_ba4f3_55 : decode cJ6_getChars_ba4f3 55 = .ok (.bastore, 1) := by decide +kernel
theorem dJ6_getChars_ba4f3_56 : decode cJ6_getChars_ba4f3 56 = .ok (.aload_n 2, 1) := by decide +kernel
theorem dJ6_getChars_ba4f3_57 : decode cJ6_getChars_ba4f3 57 = .ok (.iinc 5 (-1), 3) := by decide +kernel
theorem dJ6_getChars_ba4f3_60 : decode cJ6_getChars_ba4f3 60 = .ok (.iload 5, 2) := by decide +kernel
theorem dJ6_getChars_ba4f3_62 : decode cJ6_getChars_ba4f3 62 = .ok (.getstatic 87, 3) := by decide +kernel
theorem dJ6_getChars_ba4f3_65 : decode cJ6_getChars_ba4f3 65 = .ok (.iload 4, 2) := by decide +kernel
theorem dJ6_getChars_ba4f3_67 : decode cJ6_getChars_ba4f3 67 = .ok (.baload, 1) := by decide +kernel
theorem dJ6_getChars_ba4f3_68 : decode cJ6_getChars_ba4f3 68 = .ok (.bastore, 1) := by decide +kernel
theorem dJ6_getChars_ba4f3_69 : decode cJ6_getChars_ba4f3 69 = .ok (.goto (-47), 3) := by decide +kernel
theorem dJ6_getChars_ba4f3_72 : decode cJ6_getChars_ba4f3 72 = .ok (.aload_n 2, 1) := by decide +kernel
theorem dJ6_getChars_ba4f3_73 : decode cJ6_getChars_ba4f3 73 = .ok (.iinc 5 (-1), 3) := by decide +kernel
theorem dJ6_getChars_ba4f3_76 : decode cJ6_getChars_ba4f3 76 = .ok (.iload 5, 2) := by decide +kernel
theorem dJ6_getChars_ba4f3_78 : decode cJ6_getChars_ba4f3 78 = .ok (.getstatic 83, 3) := by decide +kernel
theorem dJ6_getChars_ba4f3_81 : decode cJ6_getChars_ba4f3 81 = .ok (.iload_n 0, 1) := by decide +kernel
theorem dJ6_getChars_ba4f3_82 : decode cJ6_getChars_ba4f3 82 = .ok (.ineg, 1) := by decide +kernel
theorem dJ6_getChars_ba4f3_83 : decode cJ6_getChars_ba4f3 83 = .ok (.baload, 1) := by decide +kernel
theorem dJ6_getChars_ba4f3_84 : decode cJ6_getChars_ba4f3 84 = .ok (.bastore, 1) := by decide +kernel
theorem dJ6_getChars_ba4f3_85 : decode cJ6_getChars_ba4f3 85 = .ok (.iload_n 0, 1) := by decide +kernel
theorem dJ6_getChars_ba4f3_86 : decode cJ6_getChars_ba4f3 86 = .ok (.bipush (-9), 2) := by decide +kernel
theorem dJ6_getChars_ba4f3_88 : decode cJ6_getChars_ba4f3 88 = .ok (.if_icmp .ge 16, 3) := by decide +kernel
theorem dJ6_getChars_ba4f3_91 : decode cJ6_getChars_ba4f3 91 = .ok (.aload_n 2, 1) := by decide +kernel
theorem dJ6_getChars_ba4f3_92 : decode cJ6_getChars_ba4f3 92 = .ok (.iinc 5 (-1), 3) := by decide +kernel
theorem dJ6_getChars_ba4f3_95 : decode cJ6_getChars_ba4f3 95 = .ok (.iload 5, 2) := by decide +kernel
theorem dJ6_getChars_ba4f3_97 : decode cJ6_getChars_ba4f3 97 = .ok (.getstatic 87, 3) := by decide +kernel
theorem dJ6_getChars_ba4f3_100 : decode cJ6_getChars_ba4f3 100 = .ok (.iload_n 0, 1) := by decide +kernel
theorem dJ6_getChars_ba4f3_101 : decode cJ6_getChars_ba4f3 101 = .ok (.ineg, 1) := by decide +kernel
theorem dJ6_getChars_ba4f3_102 : decode cJ6_getChars_ba4f3 102 = .ok (.baload, 1) := by decide +kernel
theorem dJ6_getChars_ba4f3_103 : decode cJ6_getChars_ba4f3 103 = .ok (.bastore, 1) := by decide +kernel
theorem dJ6_getChars_ba4f3_104 : decode cJ6_getChars_ba4f3 104 = .ok (.iload 6, 2) := by decide +kernel
theorem dJ6_getChars_ba4f3_106 : decode cJ6_getChars_ba4f3 106 = .ok (.ifCond .eq 12, 3) := by decide +kernel
theorem dJ6_getChars_ba4f3_109 : decode cJ6_getChars_ba4f3 109 = .ok (.aload_n 2, 1) := by decide +kernel
theorem dJ6_getChars_ba4f3_110 : decode cJ6_getChars_ba4f3 110 = .ok (.iinc 5 (-1), 3) := by decide +kernel
theorem dJ6_getChars_ba4f3_113 : decode cJ6_getChars_ba4f3 113 = .ok (.iload 5, 2) := by decide +kernel
theorem dJ6_getChars_ba4f3_115 : decode cJ6_getChars_ba4f3 115 = .ok (.bipush 45, 2) := by decide +kernel
theorem dJ6_getChars_ba4f3_117 : decode cJ6_getChars_ba4f3 117 = .ok (.bastore, 1) := by decide +kernel
theorem dJ6_getChars_ba4f3_118 : decode cJ6_getChars_ba4f3 118 = .ok (.iload 5, 2) := by decide +kernel
theorem dJ6_getChars_ba4f3_120 : decode cJ6_getChars_ba4f3 120 = .ok (.ireturn, 1) := by decide +kernel
theorem dJ6_stringSize_0f7a4_0 : decode cJ6_stringSize_0f7a4 0 = .ok (.iconst 1, 1) := by decide +kernel
theorem dJ6_stringSize_0f7a4_1 : decode cJ6_stringSize_0f7a4 1 = .ok (.istore_n 1, 1) := by decide +kernel
theorem dJ6_stringSize_0f7a4_2 : decode cJ6_stringSize_0f7a4 2 = .ok (.iload_n 0, 1) := by decide +kernel
theorem dJ6_stringSize_0f7a4_3 : decode cJ6_stringSize_0f7a4 3 = .ok (.ifCond .lt 8, 3) := by decide +kernel
theorem dJ6_stringSize_0f7a4_6 : decode cJ6_stringSize_0f7a4 6 = .ok (.iconst 0, 1) := by decide +kernel
theorem dJ6_stringSize_0f7a4_7 : decode cJ6_stringSize_0f7a4 7 = .ok (.istore_n 1, 1) := by decide +kernel
theorem dJ6_stringSize_0f7a4_8 : decode cJ6_stringSize_0f7a4 8 = .ok (.iload_n 0, 1) := by decide +kernel
theorem dJ6_stringSize_0f7a4_9 : decode cJ6_stringSize_0f7a4 9 = .ok (.ineg, 1) := by decide +kernel
theorem dJ6_stringSize_0f7a4_10 : decode cJ6_stringSize_0f7a4 10 = .ok (.istore_n 0, 1) := by decide +kernel
theorem dJ6_stringSize_0f7a4_11 : decode cJ6_stringSize_0f7a4 11 = .ok (.bipush (-10), 2) := by decide +kernel
theorem dJ6_stringSize_0f7a4_13 : decode cJ6_stringSize_0f7a4 13 = .ok (.istore_n 2, 1) := by decide +kernel
theorem dJ6_stringSize_0f7a4_14 : decode cJ6_stringSize_0f7a4 14 = .ok (.iconst 1, 1) := by decide +kernel
theorem dJ6_stringSize_0f7a4_15 : decode cJ6_stringSize_0f7a4 15 = .ok (.istore_n 3, 1) := by decide +kernel
theorem dJ6_stringSize_0f7a4_16 : decode cJ6_stringSize_0f7a4 16 = .ok (.iload_n 3, 1) := by decide +kernel
theorem dJ6_stringSize_0f7a4_17 : decode cJ6_stringSize_0f7a4 17 = .ok (.bipush 10, 2) := by decide +kernel
theorem dJ6_stringSize_0f7a4_19 : decode cJ6_stringSize_0f7a4 19 = .ok (.if_icmp .ge 23, 3) := by decide +kernel
theorem dJ6_stringSize_0f7a4_22 : decode cJ6_stringSize_0f7a4 22 = .ok (.iload_n 0, 1) := by decide +kernel
theorem dJ6_stringSize_0f7a4_23 : decode cJ6_stringSize_0f7a4 23 = .ok (.iload_n 2, 1) := by decide +kernel
theorem dJ6_stringSize_0f7a4_24 : decode cJ6_stringSize_0f7a4 24 = .ok (.if_icmp .le 7, 3) := by decide +kernel
theorem dJ6_stringSize_0f7a4_27 : decode cJ6_stringSize_0f7a4 27 = .ok (.iload_n 3, 1) := by decide +kernel
theorem dJ6_stringSize_0f7a4_28 : decode cJ6_stringSize_0f7a4 28 = .ok (.iload_n 1, 1) := by decide +kernel
theorem dJ6_stringSize_0f7a4_29 : decode cJ6_stringSize_0f7a4 29 = .ok (.iadd, 1) := by decide +kernel
theorem dJ6_stringSize_0f7a4_30 : decode cJ6_stringSize_0f7a4 30 = .ok (.ireturn, 1) := by decide +kernel
theorem dJ6_stringSize_0f7a4_31 : decode cJ6_stringSize_0f7a4 31 = .ok (.bipush 10, 2) := by decide +kernel
theorem dJ6_stringSize_0f7a4_33 : decode cJ6_stringSize_0f7a4 33 = .ok (.iload_n 2, 1) := by decide +kernel
theorem dJ6_stringSize_0f7a4_34 : decode cJ6_stringSize_0f7a4 34 = .ok (.imul, 1) := by decide +kernel
theorem dJ6_stringSize_0f7a4_35 : decode cJ6_stringSize_0f7a4 35 = .ok (.istore_n 2, 1) := by decide +kernel
theorem dJ6_stringSize_0f7a4_36 : decode cJ6_stringSize_0f7a4 36 = .ok (.iinc 3 1, 3) := by decide +kernel
theorem dJ6_stringSize_0f7a4_39 : decode cJ6_stringSize_0f7a4 39 = .ok (.goto (-23), 3) := by decide +kernel
theorem dJ6_stringSize_0f7a4_42 : decode cJ6_stringSize_0f7a4 42 = .ok (.bipush 10, 2) := by decide +kernel
theorem dJ6_stringSize_0f7a4_44 : decode cJ6_stringSize_0f7a4 44 = .ok (.iload_n 1, 1) := by decide +kernel
theorem dJ6_stringSize_0f7a4_45 : decode cJ6_stringSize_0f7a4 45 = .ok (.iadd, 1) := by decide +kernel
theorem dJ6_stringSize_0f7a4_46 : decode cJ6_stringSize_0f7a4 46 = .ok (.ireturn, 1) := by decide +kernel
theorem dJ6_numberOfLeadingZeros_0f7a4_0 : decode cJ6_numberOfLeadingZeros_0f7a4 0 = .ok (.iload_n 0, 1) := by decide +kernel
theorem dJ6_numberOfLeadingZeros_0f7a4_1 : decode cJ6_numberOfLeadingZeros_0f7a4 1 = .ok (.ifCond .gt 14, 3) := by decide +kernel
theorem dJ6_numberOfLeadingZeros_0f7a4_4 : decode cJ6_numberOfLeadingZeros_0f7a4 4 = .ok (.iload_n 0, 1) := by decide +kernel
theorem dJ6_numberOfLeadingZeros_0f7a4_5 : decode cJ6_numberOfLeadingZeros_0f7a4 5 = .ok (.ifCond .ne 8, 3) := by decide +kernel
theorem dJ6_numberOfLeadingZeros_0f7a4_8 : decode cJ6_numberOfLeadingZeros_0f7a4 8 = .ok (.bipush 32, 2) := by decide +kernel
theorem dJ6_numberOfLeadingZeros_0f7a4_10 : decode cJ6_numberOfLeadingZeros_0f7a4 10 = .ok (.goto 4, 3) := by decide +kernel
theorem dJ6_numberOfLeadingZeros_0f7a4_13 : decode cJ6_numberOfLeadingZeros_0f7a4 13 = .ok (.iconst 0, 1) := by decide +kernel
theorem dJ6_numberOfLeadingZeros_0f7a4_14 : decode cJ6_numberOfLeadingZeros_0f7a4 14 = .ok (.ireturn, 1) := by decide +kernel
theorem dJ6_numberOfLeadingZeros_0f7a4_15 : decode cJ6_numberOfLeadingZeros_0f7a4 15 = .ok (.bipush 31, 2) := by decide +kernel
theorem dJ6_numberOfLeadingZeros_0f7a4_17 : decode cJ6_numberOfLeadingZeros_0f7a4 17 = .ok (.istore_n 1, 1) := by decide +kernel
theorem dJ6_numberOfLeadingZeros_0f7a4_18 : decode cJ6_numberOfLeadingZeros_0f7a4 18 = .ok (.iload_n 0, 1) := by decide +kernel
theorem dJ6_numberOfLeadingZeros_0f7a4_19 : decode cJ6_numberOfLeadingZeros_0f7a4 19 = .ok (.ldc_w 264, 3) := by decide +kernel
theorem dJ6_numberOfLeadingZeros_0f7a4_22 : decode cJ6_numberOfLeadingZeros_0f7a4 22 = .ok (.if_icmp .lt 11, 3) := by decide +kernel
theorem dJ6_numberOfLeadingZeros_0f7a4_25 : decode cJ6_numberOfLeadingZeros_0f7a4 25 = .ok (.iinc 1 (-16), 3) := by decide +kernel
theorem dJ6_numberOfLeadingZeros_0f7a4_28 : decode cJ6_numberOfLeadingZeros_0f7a4 28 = .ok (.iload_n 0, 1) := by decide +kernel
theorem dJ6_numberOfLeadingZeros_0f7a4_29 : decode cJ6_numberOfLeadingZeros_0f7a4 29 = .ok (.bipush 16, 2) := by decide +kernel
theorem dJ6_numberOfLeadingZeros_0f7a4_31 : decode cJ6_numberOfLeadingZeros_0f7a4 31 = .ok (.iushr, 1) := by decide +kernel
theorem dJ6_numberOfLeadingZeros_0f7a4_32 : decode cJ6_numberOfLeadingZeros_0f7a4 32 = .ok (.istore_n 0, 1) := by decide +kernel
theorem dJ6_numberOfLeadingZeros_0f7a4_33 : decode cJ6_numberOfLeadingZeros_0f7a4 33 = .ok (.iload_n 0, 1) := by decide +kernel
theorem dJ6_numberOfLeadingZeros_0f7a4_34 : decode cJ6_numberOfLeadingZeros_0f7a4 34 = .ok (.sipush 256, 3) := by decide +kernel
theorem dJ6_numberOfLeadingZeros_0f7a4_37 : decode cJ6_numberOfLeadingZeros_0f7a4 37 = .ok (.if_icmp .lt 11, 3) := by decide +kernel
theorem dJ6_numberOfLeadingZeros_0f7a4_40 : decode cJ6_numberOfLeadingZeros_0f7a4 40 = .ok (.iinc 1 (-8), 3) := by decide +kernel
theorem dJ6_numberOfLeadingZeros_0f7a4_43 : decode cJ6_numberOfLeadingZeros_0f7a4 43 = .ok (.iload_n 0, 1) := by decide +kernel
theorem dJ6_numberOfLeadingZeros_0f7a4_44 : decode cJ6_numberOfLeadingZeros_0f7a4 44 = .ok (.bipush 8, 2) := by decide +kernel
theorem dJ6_numberOfLeadingZeros_0f7a4_46 : decode cJ6_numberOfLeadingZeros_0f7a4 46 = .ok (.iushr, 1) := by decide +kernel
theorem dJ6_numberOfLeadingZeros_0f7a4_47 : decode cJ6_numberOfLeadingZeros_0f7a4 47 = .ok (.istore_n 0, 1) := by decide +kernel
theorem dJ6_numberOfLeadingZeros_0f7a4_48 : decode cJ6_numberOfLeadingZeros_0f7a4 48 = .ok (.iload_n 0, 1) := by decide +kernel
theorem dJ6_numberOfLeadingZeros_0f7a4_49 : decode cJ6_numberOfLeadingZeros_0f7a4 49 = .ok (.bipush 16, 2) := by decide +kernel
theorem dJ6_numberOfLeadingZeros_0f7a4_51 : decode cJ6_numberOfLeadingZeros_0f7a4 51 = .ok (.if_icmp .lt 10, 3) := by decide +kernel
theorem dJ6_numberOfLeadingZeros_0f7a4_54 : decode cJ6_numberOfLeadingZeros_0f7a4 54 = .ok (.iinc 1 (-4), 3) := by decide +kernel
theorem dJ6_numberOfLeadingZeros_0f7a4_57 : decode cJ6_numberOfLeadingZeros_0f7a4 57 = .ok (.iload_n 0, 1) := by decide +kernel
theorem dJ6_numberOfLeadingZeros_0f7a4_58 : decode cJ6_numberOfLeadingZeros_0f7a4 58 = .ok (.iconst 4, 1) := by decide +kernel
theorem dJ6_numberOfLeadingZeros_0f7a4_59 : decode cJ6_numberOfLeadingZeros_0f7a4 59 = .ok (.iushr, 1) := by decide +kernel
theorem dJ6_numberOfLeadingZeros_0f7a4_60 : decode cJ6_numberOfLeadingZeros_0f7a4 60 = .ok (.istore_n 0, 1) := by decide +kernel
theorem dJ6_numberOfLeadingZeros_0f7a4_61 : decode cJ6_numberOfLeadingZeros_0f7a4 61 = .ok (.iload_n 0, 1) := by decide +kernel
theorem dJ6_numberOfLeadingZeros_0f7a4_62 : decode cJ6_numberOfLeadingZeros_0f7a4 62 = .ok (.iconst 4, 1) := by decide +kernel
theorem dJ6_numberOfLeadingZeros_0f7a4_63 : decode cJ6_numberOfLeadingZeros_0f7a4 63 = .ok (.if_icmp .lt 10, 3) := by decide +kernel
theorem dJ6_numberOfLeadingZeros_0f7a4_66 : decode cJ6_numberOfLeadingZeros_0f7a4 66 = .ok (.iinc 1 (-2), 3) := by decide +kernel
theorem dJ6_numberOfLeadingZeros_0f7a4_69 : decode cJ6_numberOfLeadingZeros_0f7a4 69 = .ok (.iload_n 0, 1) := by decide +kernel
theorem dJ6_numberOfLeadingZeros_0f7a4_70 : decode cJ6_numberOfLeadingZeros_0f7a4 70 = .ok (.iconst 2, 1) := by decide +kernel
theorem dJ6_numberOfLeadingZeros_0f7a4_71 : decode cJ6_numberOfLeadingZeros_0f7a4 71 = .ok (.iushr, 1) := by decide +kernel
theorem dJ6_numberOfLeadingZeros_0f7a4_72 : decode cJ6_numberOfLeadingZeros_0f7a4 72 = .ok (.istore_n 0, 1) := by decide +kernel
theorem dJ6_numberOfLeadingZeros_0f7a4_73 : decode cJ6_numberOfLeadingZeros_0f7a4 73 = .ok (.iload_n 1, 1) := by decide +kernel
theorem dJ6_numberOfLeadingZeros_0f7a4_74 : decode cJ6_numberOfLeadingZeros_0f7a4 74 = .ok (.iload_n 0, 1) := by decide +kernel
theorem dJ6_numberOfLeadingZeros_0f7a4_75 : decode cJ6_numberOfLeadingZeros_0f7a4 75 = .ok (.iconst 1, 1) := by decide +kernel
theorem dJ6_numberOfLeadingZeros_0f7a4_76 : decode cJ6_numberOfLeadingZeros_0f7a4 76 = .ok (.iushr, 1) := by decide +kernel
theorem dJ6_numberOfLeadingZeros_0f7a4_77 : decode cJ6_numberOfLeadingZeros_0f7a4 77 = .ok (.isub, 1) := by decide +kernel
theorem dJ6_numberOfLeadingZeros_0f7a4_78 : decode cJ6_numberOfLeadingZeros_0f7a4 78 = .ok (.ireturn, 1) := by decide +kernel
theorem dJ9_multiplyHigh_f86c9_0 : decode cJ9_multiplyHigh_f86c9 0 = .ok (.lload_n 0, 1) := by decide +kernel
theorem dJ9_multiplyHigh_f86c9_1 : decode cJ9_multiplyHigh_f86c9 1 = .ok (.bipush 32, 2) := by decide +kernel
theorem dJ9_multiplyHigh_f86c9_3 : decode cJ9_multiplyHigh_f86c9 3 = .ok (.lshr, 1) := by decide +kernel
theorem dJ9_multiplyHigh_f86c9_4 : decode cJ9_multiplyHigh_f86c9 4 = .ok (.lstore 4, 2) := by decide +kernel
theorem dJ9_multiplyHigh_f86c9_6 : decode cJ9_multiplyHigh_f86c9 6 = .ok (.lload_n 0, 1) := by decide +kernel
theorem dJ9_multiplyHigh_f86c9_7 : decode cJ9_multiplyHigh_f86c9 7 = .ok (.ldc2_w 138, 3) := by decide +kernel
theorem dJ9_multiplyHigh_f86c9_10 : decode cJ9_multiplyHigh_f86c9 10 = .ok (.land, 1) := by decide +kernel
theorem dJ9_multiplyHigh_f86c9_11 : decode cJ9_multiplyHigh_f86c9 11 = .ok (.lstore 6, 2) := by decide +kernel
theorem dJ9_multiplyHigh_f86c9_13 : decode cJ9_multiplyHigh_f86c9 13 = .ok (.lload_n 2, 1) := by decide +kernel
theorem dJ9_multiplyHigh_f86c9_14 : decode cJ9_multiplyHigh_f86c9 14 = .ok (.bipush 32, 2) := by decide +kernel
theorem dJ9_multiplyHigh_f86c9_16 : decode cJ9_multiplyHigh_f86c9 16 = .ok (.lshr, 1) := by decide +kernel
theorem dJ9_multiplyHigh_f86c9_17 : decode cJ9_multiplyHigh_f86c9 17 = .ok (.lstore 8, 2) := by decide +kernel
theorem dJ9_multiplyHigh_f86c9_19 : decode cJ9_multiplyHigh_f86c9 19 = .ok (.lload_n 2, 1) := by decide +kernel
theorem dJ9_multiplyHigh_f86c9_20 : decode cJ9_multiplyHigh_f86c9 20 = .ok (.ldc2_w 138, 3) := by decide +kernel
theorem dJ9_multiplyHigh_f86c9_23 : decode cJ9_multiplyHigh_f86c9 23 = .ok (.land, 1) := by decide +kernel
theorem dJ9_multiplyHigh_f86c9_24 : decode cJ9_multiplyHigh_f86c9 24 = .ok (.lstore 10, 2) := by decide +kernel
theorem dJ9_multiplyHigh_f86c9_26 : decode cJ9_multiplyHigh_f86c9 26 = .ok (.lload 6, 2) := by decide +kernel
theorem dJ9_multiplyHigh_f86c9_28 : decode cJ9_multiplyHigh_f86c9 28 = .ok (.lload 10, 2) := by decide +kernel
theorem dJ9_multiplyHigh_f86c9_30 : decode cJ9_multiplyHigh_f86c9 30 = .ok (.lmul, 1) := by decide +kernel
theorem dJ9_multiplyHigh_f86c9_31 : decode cJ9_multiplyHigh_f86c9 31 = .ok (.lstore 12, 2) := by decide +kernel
theorem dJ9_multiplyHigh_f86c9_33 : decode cJ9_multiplyHigh_f86c9 33 = .ok (.lload 4, 2) := by decide +kernel
theorem dJ9_multiplyHigh_f86c9_35 : decode cJ9_multiplyHigh_f86c9 35 = .ok (.lload 10, 2) := by decide +kernel
theorem dJ9_multiplyHigh_f86c9_37 : decode cJ9_multiplyHigh_f86c9 37 = .ok (.lmul, 1) := by decide +kernel
theorem dJ9_multiplyHigh_f86c9_38 : decode cJ9_multiplyHigh_f86c9 38 = .ok (.lload 12, 2) := by decide +kernel
theorem dJ9_multiplyHigh_f86c9_40 : decode cJ9_multiplyHigh_f86c9 40 = .ok (.bipush 32, 2) := by decide +kernel
theorem dJ9_multiplyHigh_f86c9_42 : decode cJ9_multiplyHigh_f86c9 42 = .ok (.lushr, 1) := by decide +kernel
theorem dJ9_multiplyHigh_f86c9_43 : decode cJ9_multiplyHigh_f86c9 43 = .ok (.ladd, 1) := by decide +kernel
theorem dJ9_multiplyHigh_f86c9_44 : decode cJ9_multiplyHigh_f86c9 44 = .ok (.lstore 14, 2) := by decide +kernel
theorem dJ9_multiplyHigh_f86c9_46 : decode cJ9_multiplyHigh_f86c9 46 = .ok (.lload 14, 2) := by decide +kernel
theorem dJ9_multiplyHigh_f86c9_48 : decode cJ9_multiplyHigh_f86c9 48 = .ok (.ldc2_w 138, 3) := by decide +kernel
theorem dJ9_multiplyHigh_f86c9_51 : decode cJ9_multiplyHigh_f86c9 51 = .ok (.land, 1) := by decide +kernel
theorem dJ9_multiplyHigh_f86c9_52 : decode cJ9_multiplyHigh_f86c9 52 = .ok (.lstore 16, 2) := by decide +kernel
theorem dJ9_multiplyHigh_f86c9_54 : decode cJ9_multiplyHigh_f86c9 54 = .ok (.lload 14, 2) := by decide +kernel
theorem dJ9_multiplyHigh_f86c9_56 : decode cJ9_multiplyHigh_f86c9 56 = .ok (.bipush 32, 2) := by decide +kernel
theorem dJ9_multiplyHigh_f86c9_58 : decode cJ9_multiplyHigh_f86c9 58 = .ok (.lshr, 1) := by decide +kernel
theorem dJ9_multiplyHigh_f86c9_59 : decode cJ9_multiplyHigh_f86c9 59 = .ok (.lstore 18, 2) := by decide +kernel
theorem dJ9_multiplyHigh_f86c9_61 : decode cJ9_multiplyHigh_f86c9 61 = .ok (.lload 16, 2) := by decide +kernel
theorem dJ9_multiplyHigh_f86c9_63 : decode cJ9_multiplyHigh_f86c9 63 = .ok (.lload 6, 2) := by decide +kernel
theorem dJ9_multiplyHigh_f86c9_65 : decode cJ9_multiplyHigh_f86c9 65 = .ok (.lload 8, 2) := by decide +kernel
theorem dJ9_multiplyHigh_f86c9_67 : decode cJ9_multiplyHigh_f86c9 67 = .ok (.lmul, 1) := by decide +kernel
theorem dJ9_multiplyHigh_f86c9_68 : decode cJ9_multiplyHigh_f86c9 68 = .ok (.ladd, 1) := by decide +kernel
theorem dJ9_multiplyHigh_f86c9_69 : decode cJ9_multiplyHigh_f86c9 69 = .ok (.lstore 16, 2) := by decide +kernel
theorem dJ9_multiplyHigh_f86c9_71 : decode cJ9_multiplyHigh_f86c9 71 = .ok (.lload 4, 2) := by decide +kernel
theorem dJ9_multiplyHigh_f86c9_73 : decode cJ9_multiplyHigh_f86c9 73 = .ok (.lload 8, 2) := by decide +kernel
theorem dJ9_multiplyHigh_f86c9_75 : decode cJ9_multiplyHigh_f86c9 75 = .ok (.lmul, 1) := by decide +kernel
theorem dJ9_multiplyHigh_f86c9_76 : decode cJ9_multiplyHigh_f86c9 76 = .ok (.lload 18, 2) := by decide +kernel
theorem dJ9_multiplyHigh_f86c9_78 : decode cJ9_multiplyHigh_f86c9 78 = .ok (.ladd, 1) := by decide +kernel
theorem dJ9_multiplyHigh_f86c9_79 : decode cJ9_multiplyHigh_f86c9 79 = .ok (.lload 16, 2) := by decide +kernel
theorem dJ9_multiplyHigh_f86c9_81 : decode cJ9_multiplyHigh_f86c9 81 = .ok (.bipush 32, 2) := by decide +kernel
theorem dJ9_multiplyHigh_f86c9_83 : decode cJ9_multiplyHigh_f86c9 83 = .ok (.lshr, 1) := by decide +kernel
theorem dJ9_multiplyHigh_f86c9_84 : decode cJ9_multiplyHigh_f86c9 84 = .ok (.ladd, 1) := by decide +kernel
theorem dJ9_multiplyHigh_f86c9_85 : decode cJ9_multiplyHigh_f86c9 85 = .ok (.lreturn, 1) := by decide +kernel
theorem dJ9_floorDiv_7cf53_0 : decode cJ9_floorDiv_7cf53 0 = .ok (.iload_n 0, 1) := by decide +kernel
theorem dJ9_floorDiv_7cf53_1 : decode cJ9_floorDiv_7cf53 1 = .ok (.iload_n 1, 1) := by decide +kernel
theorem dJ9_floorDiv_7cf53_2 : decode cJ9_floorDiv_7cf53 2 = .ok (.idiv, 1) := by decide +kernel
theorem dJ9_floorDiv_7cf53_3 : decode cJ9_floorDiv_7cf53 3 = .ok (.istore_n 2, 1) := by decide +kernel
theorem dJ9_floorDiv_7cf53_4 : decode cJ9_floorDiv_7cf53 4 = .ok (.iload_n 0, 1) := by decide +kernel
theorem dJ9_floorDiv_7cf53_5 : decode cJ9_floorDiv_7cf53 5 = .ok (.iload_n 1, 1) := by decide +kernel
theorem dJ9_floorDiv_7cf53_6 : decode cJ9_floorDiv_7cf53 6 = .ok (.ixor, 1) := by decide +kernel
theorem dJ9_floorDiv_7cf53_7 : decode cJ9_floorDiv_7cf53 7 = .ok (.ifCond .ge 14, 3) := by decide +kernel
theorem dJ9_floorDiv_7cf53_10 : decode cJ9_floorDiv_7cf53 10 = .ok (.iload_n 2, 1) := by decide +kernel
theorem dJ9_floorDiv_7cf53_11 : decode cJ9_floorDiv_7cf53 11 = .ok (.iload_n 1, 1) := by decide +kernel
theorem dJ9_floorDiv_7cf53_12 : decode cJ9_floorDiv_7cf53 12 = .ok (.imul, 1) := by decide +kernel
theorem dJ9_floorDiv_7cf53_13 : decode cJ9_floorDiv_7cf53 13 = .ok (.iload_n 0, 1) := by decide +kernel
theorem dJ9_floorDiv_7cf53_14 : decode cJ9_floorDiv_7cf53 14 = .ok (.if_icmp .eq 7, 3) := by decide +kernel
theorem dJ9_floorDiv_7cf53_17 : decode cJ9_floorDiv_7cf53 17 = .ok (.iload_n 2, 1) := by decide +kernel
theorem dJ9_floorDiv_7cf53_18 : decode cJ9_floorDiv_7cf53 18 = .ok (.iconst 1, 1) := by decide +kernel
theorem dJ9_floorDiv_7cf53_19 : decode cJ9_floorDiv_7cf53 19 = .ok (.isub, 1) := by decide +kernel
theorem dJ9_floorDiv_7cf53_20 : decode cJ9_floorDiv_7cf53 20 = .ok (.ireturn, 1) := by decide +kernel
theorem dJ9_floorDiv_7cf53_21 : decode cJ9_floorDiv_7cf53 21 = .ok (.iload_n 2, 1) := by decide +kernel
theorem dJ9_floorDiv_7cf53_22 : decode cJ9_floorDiv_7cf53 22 = .ok (.ireturn, 1) := by decide +kernel
theorem dJ9_abs_0f7a4_0 : decode cJ9_abs_0f7a4 0 = .ok (.iload_n 0, 1) := by decide +kernel
theorem dJ9_abs_0f7a4_1 : decode cJ9_abs_0f7a4 1 = .ok (.ifCond .ge 8, 3) := by decide +kernel
theorem dJ9_abs_0f7a4_4 : decode cJ9_abs_0f7a4 4 = .ok (.iload_n 0, 1) := by decide +kernel
theorem dJ9_abs_0f7a4_5 : decode cJ9_abs_0f7a4 5 = .ok (.ineg, 1) := by decide +kernel
theorem dJ9_abs_0f7a4_6 : decode cJ9_abs_0f7a4 6 = .ok (.goto 4, 3) := by decide +kernel
theorem dJ9_abs_0f7a4_9 : decode cJ9_abs_0f7a4 9 = .ok (.iload_n 0, 1) := by decide +kernel
theorem dJ9_abs_0f7a4_10 : decode cJ9_abs_0f7a4 10 = .ok (.ireturn, 1) := by decide +kernel
theorem dJ9_max_7cf53_0 : decode cJ9_max_7cf53 0 = .ok (.iload_n 0, 1) := by decide +kernel
theorem dJ9_max_7cf53_1 : decode cJ9_max_7cf53 1 = .ok (.iload_n 1, 1) := by decide +kernel
theorem dJ9_max_7cf53_2 : decode cJ9_max_7cf53 2 = .ok (.if_icmp .lt 7, 3) := by decide +kernel
theorem dJ9_max_7cf53_5 : decode cJ9_max_7cf53 5 = .ok (.iload_n 0, 1) := by decide +kernel
theorem dJ9_max_7cf53_6 : decode cJ9_max_7cf53 6 = .ok (.goto 4, 3) := by decide +kernel
theorem dJ9_max_7cf53_9 : decode cJ9_max_7cf53 9 = .ok (.iload_n 1, 1) := by decide +kernel
theorem dJ9_max_7cf53_10 : decode cJ9_max_7cf53 10 = .ok (.ireturn, 1) := by decide +kernel
theorem dJ9_min_7cf53_0 : decode cJ9_min_7cf53 0 = .ok (.iload_n 0, 1) := by decide +kernel
theorem dJ9_min_7cf53_1 : decode cJ9_min_7cf53 1 = .ok (.iload_n 1, 1) := by decide +kernel
theorem dJ9_min_7cf53_2 : decode cJ9_min_7cf53 2 = .ok (.if_icmp .gt 7, 3) := by decide +kernel
theorem dJ9_min_7cf53_5 : decode cJ9_min_7cf53 5 = .ok (.iload_n 0, 1) := by decide +kernel
theorem dJ9_min_7cf53_6 : decode cJ9_min_7cf53 6 = .ok (.goto 4, 3) := by decide +kernel
theorem dJ9_min_7cf53_9 : decode cJ9_min_7cf53 9 = .ok (.iload_n 1, 1) := by decide +kernel
theorem dJ9_min_7cf53_10 : decode cJ9_min_7cf53 10 = .ok (.ireturn, 1) := by decide +kernel
theorem dJ0_init_81219_0 : decode cJ0_init_81219 0 = .ok (.aload_n 0, 1) := by decide +kernel
theorem dJ0_init_81219_1 : decode cJ0_init_81219 1 = .ok (.aload_n 1, 1) := by decide +kernel
theorem dJ0_init_81219_2 : decode cJ0_init_81219 2 = .ok (.aconst_null, 1) := by decide +kernel
theorem dJ0_init_81219_3 : decode cJ0_init_81219 3 = .ok (.invokespecial 489, 3) := by decide +kernel
theorem dJ0_init_81219_6 : decode cJ0_init_81219 6 = .ok (.return_, 1) := by decide +kernel
theorem dJ0_length_8abf5_0 : decode cJ0_length_8abf5 0 = .ok (.aload_n 0, 1) := by decide +kernel
theorem dJ0_length_8abf5_1 : decode cJ0_length_8abf5 1 = .ok (.getfield 9, 3) := by decide +kernel
theorem dJ0_length_8abf5_4 : decode cJ0_length_8abf5 4 = .ok (.arraylength, 1) := by decide +kernel
theorem dJ0_length_8abf5_5 : decode cJ0_length_8abf5 5 = .ok (.aload_n 0, 1) := by decide +kernel
theorem dJ0_length_8abf5_6 : decode cJ0_length_8abf5 6 = .ok (.invokevirtual 335, 3) := by decide +kernel
theorem dJ0_length_8abf5_9 : decode cJ0_length_8abf5 9 = .ok (.ishr, 1) := by decide +kernel
theorem dJ0_length_8abf5_10 : decode cJ0_length_8abf5 10 = .ok (.ireturn, 1) := by decide +kernel
theorem dJ0_charAt_5068e_0 : decode cJ0_charAt_5068e 0 = .ok (.aload_n 0, 1) := by decide +kernel
theorem dJ0_charAt_5068e_1 : decode cJ0_charAt_5068e 1 = .ok (.invokevirtual 492, 3) := by decide +kernel
theorem dJ0_charAt_5068e_4 : decode cJ0_charAt_5068e 4 = .ok (.ifCond .eq 12, 3) := by decide +kernel
theorem dJ0_charAt_5068e_7 : decode cJ0_charAt_5068e 7 = .ok (.aload_n 0, 1) := by decide +kernel
theorem dJ0_charAt_5068e_8 : decode cJ0_charAt_5068e 8 = .ok (.getfield 9, 3) := by decide +kernel
theorem dJ0_charAt_5068e_11 : decode cJ0_charAt_5068e 11 = .ok (.iload_n 1, 1) := by decide +kernel
theorem dJ0_charAt_5068e_12 : decode cJ0_charAt_5068e 12 = .ok (.invokestatic 495, 3) := by decide +kernel
theorem dJ0_charAt_5068e_15 : decode cJ0_charAt_5068e 15 = .ok (.ireturn, 1) := by decide +kernel
theorem dJ0_charAt_5068e_16 : decode cJ0_charAt_5068e 16 = .ok (.aload_n 0, 1) := by decide +kernel
theorem dJ0_charAt_5068e_17 : decode cJ0_charAt_5068e 17 = .ok (.getfield 9, 3) := by decide +kernel
theorem dJ0_charAt_5068e_20 : decode cJ0_charAt_5068e 20 = .ok (.iload_n 1, 1) := by decide +kernel
theorem dJ0_charAt_5068e_21 : decode cJ0_charAt_5068e 21 = .ok (.invokestatic 498, 3) := by decide +kernel
theorem dJ0_charAt_5068e_24 : decode cJ0_charAt_5068e 24 = .ok (.ireturn, 1) := by decide +kernel
theorem dJ0_equals_9ea2d_0 : decode cJ0_equals_9ea2d 0 = .ok (.aload_n 0, 1) := by decide +kernel
theorem dJ0_equals_9ea2d_1 : decode cJ0_equals_9ea2d 1 = .ok (.aload_n 1, 1) := by decide +kernel
theorem dJ0_equals_9ea2d_2 : decode cJ0_equals_9ea2d 2 = .ok (.if_acmp .ne 5, 3) := by decide +kernel
theorem dJ0_equals_9ea2d_5 : decode cJ0_equals_9ea2d 5 = .ok (.iconst 1, 1) := by decide +kernel
theorem dJ0_equals_9ea2d_6 : decode cJ0_equals_9ea2d 6 = .ok (.ireturn, 1) := by decide +kernel
theorem dJ0_equals_9ea2d_7 : decode cJ0_equals_9ea2d 7 = .ok (.aload_n 1, 1) := by decide +kernel
theorem dJ0_equals_9ea2d_8 : decode cJ0_equals_9ea2d 8 = .ok (.instanceof 10, 3) := by decide +kernel
theorem dJ0_equals_9ea2d_11 : decode cJ0_equals_9ea2d 11 = .ok (.ifCond .eq 43, 3) := by decide +kernel
theorem dJ0_equals_9ea2d_14 : decode cJ0_equals_9ea2d 14 = .ok (.aload_n 1, 1) := by decide +kernel
theorem dJ0_equals_9ea2d_15 : decode cJ0_equals_9ea2d 15 = .ok (.checkcast 10, 3) := by decide +kernel
theorem dJ0_equals_9ea2d_18 : decode cJ0_equals_9ea2d 18 = .ok (.astore_n 2, 1) := by decide +kernel
theorem dJ0_equals_9ea2d_19 : decode cJ0_equals_9ea2d 19 = .ok (.getstatic 38, 3) := by decide +kernel
theorem dJ0_equals_9ea2d_22 : decode cJ0_equals_9ea2d 22 = .ok (.ifCond .eq 14, 3) := by decide +kernel
theorem dJ0_equals_9ea2d_25 : decode cJ0_equals_9ea2d 25 = .ok (.aload_n 0, 1) := by decide +kernel
theorem dJ0_equals_9ea2d_26 : decode cJ0_equals_9ea2d 26 = .ok (.getfield 15, 3) := by decide +kernel
theorem dJ0_equals_9ea2d_29 : decode cJ0_equals_9ea2d 29 = .ok (.aload_n 2, 1) := by decide +kernel
theorem dJ0_equals_9ea2d_30 : decode cJ0_equals_9ea2d 30 = .ok (.getfield 15, 3) := by decide +kernel
theorem dJ0_equals_9ea2d_33 : decode cJ0_equals_9ea2d 33 = .ok (.if_icmp .ne 21, 3) := by decide +kernel
theorem dJ0_equals_9ea2d_36 : decode cJ0_equals_9ea2d 36 = .ok (.aload_n 0, 1) := by decide +kernel
theorem dJ0_equals_9ea2d_37 : decode cJ0_equals_9ea2d 37 = .ok (.getfield 9, 3) := by decide +kernel
theorem dJ0_equals_9ea2d_40 : decode cJ0_equals_9ea2d 40 = .ok (.aload_n 2, 1) := by decide +kernel
theorem dJ0_equals_9ea2d_41 : decode cJ0_equals_9ea2d 41 = .ok (.getfield 9, 3) := by decide +kernel
theorem dJ0_equals_9ea2d_44 : decode cJ0_equals_9ea2d 44 = .ok (.invokestatic 541, 3) := by decide +kernel
theorem dJ0_equals_9ea2d_47 : decode cJ0_equals_9ea2d 47 = .ok (.ifCond .eq 7, 3) := by decide +kernel
theorem dJ0_equals_9ea2d_50 : decode cJ0_equals_9ea2d 50 = .ok (.iconst 1, 1) := by decide +kernel
theorem dJ0_equals_9ea2d_51 : decode cJ0_equals_9ea2d 51 = .ok (.goto 4, 3) := by decide +kernel
theorem dJ0_equals_9ea2d_54 : decode cJ0_equals_9ea2d 54 = .ok (.iconst 0, 1) := by decide +kernel
theorem dJ0_equals_9ea2d_55 : decode cJ0_equals_9ea2d 55 = .ok (.ireturn, 1) := by decide +kernel
theorem dJ0_getBytes_840e7_0 : decode cJ0_getBytes_840e7 0 = .ok (.aload_n 0, 1) := by decide +kernel
theorem dJ0_getBytes_840e7_1 : decode cJ0_getBytes_840e7 1 = .ok (.invokevirtual 335, 3) := by decide +kernel
theorem dJ0_getBytes_840e7_4 : decode cJ0_getBytes_840e7 4 = .ok (.iload_n 3, 1) := by decide +kernel
theorem dJ0_getBytes_840e7_5 : decode cJ0_getBytes_840e7 5 = .ok (.if_icmp .ne 23, 3) := by decide +kernel
theorem dJ0_getBytes_840e7_8 : decode cJ0_getBytes_840e7 8 = .ok (.aload_n 0, 1) := by decide +kernel
theorem dJ0_getBytes_840e7_9 : decode cJ0_getBytes_840e7 9 = .ok (.getfield 9, 3) := by decide +kernel
theorem dJ0_getBytes_840e7_12 : decode cJ0_getBytes_840e7 12 = .ok (.iconst 0, 1) := by decide +kernel
theorem dJ0_getBytes_840e7_13 : decode cJ0_getBytes_840e7 13 = .ok (.aload_n 1, 1) := by decide +kernel
theorem dJ0_getBytes_840e7_14 : decode cJ0_getBytes_840e7 14 = .ok (.iload_n 2, 1) := by decide +kernel
theorem dJ0_getBytes_840e7_15 : decode cJ0_getBytes_840e7 15 = .ok (.iload_n 3, 1) := by decide +kernel
theorem dJ0_getBytes_840e7_16 : decode cJ0_getBytes_840e7 16 = .ok (.ishl, 1) := by decide +kernel
theorem dJ0_getBytes_840e7_17 : decode cJ0_getBytes_840e7 17 = .ok (.aload_n 0, 1) := by decide +kernel
theorem dJ0_getBytes_840e7_18 : decode cJ0_getBytes_840e7 18 = .ok (.getfield 9, 3) := by decide +kernel
theorem dJ0_getBytes_840e7_21 : decode cJ0_getBytes_840e7 21 = .ok (.arraylength, 1) := by decide +kernel
theorem dJ0_getBytes_840e7_22 : decode cJ0_getBytes_840e7 22 = .ok (.invokestatic 212, 3) := by decide +kernel
theorem dJ0_getBytes_840e7_25 : decode cJ0_getBytes_840e7 25 = .ok (.goto 18, 3) := by decide +kernel
theorem dJ0_getBytes_840e7_28 : decode cJ0_getBytes_840e7 28 = .ok (.aload_n 0, 1) := by decide +kernel
theorem dJ0_getBytes_840e7_29 : decode cJ0_getBytes_840e7 29 = .ok (.getfield 9, 3) := by decide +kernel
theorem dJ0_getBytes_840e7_32 : decode cJ0_getBytes_840e7 32 = .ok (.iconst 0, 1) := by decide +kernel
theorem dJ0_getBytes_840e7_33 : decode cJ0_getBytes_840e7 33 = .ok (.aload_n 1, 1) := by decide +kernel
theorem dJ0_getBytes_840e7_34 : decode cJ0_getBytes_840e7 34 = .ok (.iload_n 2, 1) := by decide +kernel
theorem dJ0_getBytes_840e7_35 : decode cJ0_getBytes_840e7 35 = .ok (.aload_n 0, 1) := by decide +kernel
theorem dJ0_getBytes_840e7_36 : decode cJ0_getBytes_840e7 36 = .ok (.getfield 9, 3) := by decide +kernel
theorem dJ0_getBytes_840e7_39 : decode cJ0_getBytes_840e7 39 = .ok (.arraylength, 1) := by decide +kernel
theorem dJ0_getBytes_840e7_40 : decode cJ0_getBytes_840e7 40 = .ok (.invokestatic 106, 3) := by decide +kernel
theorem dJ0_getBytes_840e7_43 : decode cJ0_getBytes_840e7 43 = .ok (.return_, 1) := by decide +kernel
theorem dJ0_init_db425_0 : decode cJ0_init_db425 0 = .ok (.aload_n 0, 1) := by decide +kernel
theorem dJ0_init_db425_1 : decode cJ0_init_db425 1 = .ok (.invokespecial 1, 3) := by decide +kernel
theorem dJ0_init_db425_4 : decode cJ0_init_db425 4 = .ok (.aload_n 1, 1) := by decide +kernel
theorem dJ0_init_db425_5 : decode cJ0_init_db425 5 = .ok (.invokevirtual 552, 3) := by decide +kernel
theorem dJ0_init_db425_8 : decode cJ0_init_db425 8 = .ok (.astore_n 3, 1) := by decide +kernel
theorem dJ0_init_db425_9 : decode cJ0_init_db425 9 = .ok (.aload_n 1, 1) := by decide +kernel
theorem dJ0_init_db425_10 : decode cJ0_init_db425 10 = .ok (.invokevirtual 549, 3) := by decide +kernel
theorem dJ0_init_db425_13 : decode cJ0_init_db425 13 = .ok (.istore 4, 2) := by decide +kernel
theorem dJ0_init_db425_15 : decode cJ0_init_db425 15 = .ok (.aload_n 1, 1) := by decide +kernel
theorem dJ0_init_db425_16 : decode cJ0_init_db425 16 = .ok (.invokevirtual 1047, 3) := by decide +kernel
theorem dJ0_init_db425_19 : decode cJ0_init_db425 19 = .ok (.ifCond .eq 22, 3) := by decide +kernel
theorem dJ0_init_db425_22 : decode cJ0_init_db425 22 = .ok (.aload_n 0, 1) := by decide +kernel
theorem dJ0_init_db425_23 : decode cJ0_init_db425 23 = .ok (.iconst 0, 1) := by decide +kernel
theorem dJ0_init_db425_24 : decode cJ0_init_db425 24 = .ok (.putfield 15, 3) := by decide +kernel
theorem dJ0_init_db425_27 : decode cJ0_init_db425 27 = .ok (.aload_n 0, 1) := by decide +kernel
theorem dJ0_init_db425_28 : decode cJ0_init_db425 28 = .ok (.aload_n 3, 1) := by decide +kernel
theorem dJ0_init_db425_29 : decode cJ0_init_db425 29 = .ok (.iconst 0, 1) := by decide +kernel
theorem dJ0_init_db425_30 : decode cJ0_init_db425 30 = .ok (.iload 4, 2) := by decide +kernel
theorem dJ0_init_db425_32 : decode cJ0_init_db425 32 = .ok (.invokestatic 54, 3) := by decide +kernel
theorem dJ0_init_db425_35 : decode cJ0_init_db425 35 = .ok (.putfield 9, 3) := by decide +kernel
theorem dJ0_init_db425_38 : decode cJ0_init_db425 38 = .ok (.goto 59, 3) := by decide +kernel
theorem dJ0_init_db425_41 : decode cJ0_init_db425 41 = .ok (.getstatic 38, 3) := by decide +kernel
theorem dJ0_init_db425_44 : decode cJ0_init_db425 44 = .ok (.ifCond .eq 35, 3) := by decide +kernel
theorem dJ0_init_db425_47 : decode cJ0_init_db425 47 = .ok (.aload_n 1, 1) := by decide +kernel
theorem dJ0_init_db425_48 : decode cJ0_init_db425 48 = .ok (.getfield 1048, 3) := by decide +kernel
theorem dJ0_init_db425_51 : decode cJ0_init_db425 51 = .ok (.ifCond .eq 28, 3) := by decide +kernel
theorem dJ0_init_db425_54 : decode cJ0_init_db425 54 = .ok (.aload_n 0, 1) := by decide +kernel
theorem dJ0_init_db425_55 : decode cJ0_init_db425 55 = .ok (.aload_n 3, 1) := by decide +kernel
theorem dJ0_init_db425_56 : decode cJ0_init_db425 56 = .ok (.iconst 0, 1) := by decide +kernel
theorem dJ0_init_db425_57 : decode cJ0_init_db425 57 = .ok (.iload 4, 2) := by decide +kernel
theorem dJ0_init_db425_59 : decode cJ0_init_db425 59 = .ok (.invokestatic 1051, 3) := by decide +kernel
theorem dJ0_init_db425_62 : decode cJ0_init_db425 62 = .ok (.putfield 9, 3) := by decide +kernel
theorem dJ0_init_db425_65 : decode cJ0_init_db425 65 = .ok (.aload_n 0, 1) := by decide +kernel
theorem dJ0_init_db425_66 : decode cJ0_init_db425 66 = .ok (.aload_n 0, 1) := by decide +kernel
theorem dJ0_init_db425_67 : decode cJ0_init_db425 67 = .ok (.getfield 9, 3) := by decide +kernel
theorem dJ0_init_db425_70 : decode cJ0_init_db425 70 = .ok (.iload 4, 2) := by decide +kernel
theorem dJ0_init_db425_72 : decode cJ0_init_db425 72 = .ok (.invokestatic 47, 3) := by decide +kernel
theorem dJ0_init_db425_75 : decode cJ0_init_db425 75 = .ok (.putfield 15, 3) := by decide +kernel
theorem dJ0_init_db425_78 : decode cJ0_init_db425 78 = .ok (.return_, 1) := by decide +kernel
theorem dJ0_init_db425_79 : decode cJ0_init_db425 79 = .ok (.aload_n 0, 1) := by decide +kernel
theorem dJ0_init_db425_80 : decode cJ0_init_db425 80 = .ok (.iconst 1, 1) := by decide +kernel
theorem dJ0_init_db425_81 : decode cJ0_init_db425 81 = .ok (.putfield 15, 3) := by decide +kernel
theorem dJ0_init_db425_84 : decode cJ0_init_db425 84 = .ok (.aload_n 0, 1) := by decide +kernel
theorem dJ0_init_db425_85 : decode cJ0_init_db425 85 = .ok (.aload_n 3, 1) := by decide +kernel
theorem dJ0_init_db425_86 : decode cJ0_init_db425 86 = .ok (.iconst 0, 1) := by decide +kernel
theorem dJ0_init_db425_87 : decode cJ0_init_db425 87 = .ok (.iload 4, 2) := by decide +kernel
theorem dJ0_init_db425_89 : decode cJ0_init_db425 89 = .ok (.iconst 1, 1) := by decide +kernel
theorem dJ0_init_db425_90 : decode cJ0_init_db425 90 = .ok (.ishl, 1) := by decide +kernel
theorem dJ0_init_db425_91 : decode cJ0_init_db425 91 = .ok (.invokestatic 54, 3) := by decide +kernel
theorem dJ0_init_db425_94 : decode cJ0_init_db425 94 = .ok (.putfield 9, 3) := by decide +kernel
theorem dJ0_init_db425_97 : decode cJ0_init_db425 97 = .ok (.return_, 1) := by decide +kernel
theorem dJ0_coder_7d493_0 : decode cJ0_coder_7d493 0 = .ok (.getstatic 38, 3) := by decide +kernel
theorem dJ0_coder_7d493_3 : decode cJ0_coder_7d493 3 = .ok (.ifCond .eq 10, 3) := by decide +kernel
theorem dJ0_coder_7d493_6 : decode cJ0_coder_7d493 6 = .ok (.aload_n 0, 1) := by decide +kernel
theorem dJ0_coder_7d493_7 : decode cJ0_coder_7d493 7 = .ok (.getfield 15, 3) := by decide +kernel
theorem dJ0_coder_7d493_10 : decode cJ0_coder_7d493 10 = .ok (.goto 4, 3) := by decide +kernel
theorem dJ0_coder_7d493_13 : decode cJ0_coder_7d493 13 = .ok (.iconst 1, 1) := by decide +kernel
theorem dJ0_coder_7d493_14 : decode cJ0_coder_7d493 14 = .ok (.ireturn, 1) := by decide +kernel
theorem dJ0_value_6d5f1_0 : decode cJ0_value_6d5f1 0 = .ok (.aload_n 0, 1) := by decide +kernel
theorem dJ0_value_6d5f1_1 : decode cJ0_value_6d5f1 1 = .ok (.getfield 9, 3) := by decide +kernel
theorem dJ0_value_6d5f1_4 : decode cJ0_value_6d5f1 4 = .ok (.areturn, 1) := by decide +kernel
theorem dJ0_isLatin1_aae02_0 : decode cJ0_isLatin1_aae02 0 = .ok (.getstatic 38, 3) := by decide +kernel
theorem dJ0_isLatin1_aae02_3 : decode cJ0_isLatin1_aae02 3 = .ok (.ifCond .eq 14, 3) := by decide +kernel
theorem dJ0_isLatin1_aae02_6 : decode cJ0_isLatin1_aae02 6 = .ok (.aload_n 0, 1) := by decide +kernel
theorem dJ0_isLatin1_aae02_7 : decode cJ0_isLatin1_aae02 7 = .ok (.getfield 15, 3) := by decide +kernel
theorem dJ0_isLatin1_aae02_10 : decode cJ0_isLatin1_aae02 10 = .ok (.ifCond .ne 7, 3) := by decide +kernel
theorem dJ0_isLatin1_aae02_13 : decode cJ0_isLatin1_aae02 13 = .ok (.iconst 1, 1) := by decide +kernel
theorem dJ0_isLatin1_aae02_14 : decode cJ0_isLatin1_aae02 14 = .ok (.goto 4, 3) := by decide +kernel
theorem dJ0_isLatin1_aae02_17 : decode cJ0_isLatin1_aae02 17 = .ok (.iconst 0, 1) := by decide +kernel
theorem dJ0_isLatin1_aae02_18 : decode cJ0_isLatin1_aae02 18 = .ok (.ireturn, 1) := by decide +kernel
theorem dJ0_checkIndex_df160_0 : decode cJ0_checkIndex_df160 0 = .ok (.iload_n 0, 1) := by decide +kernel
theorem dJ0_checkIndex_df160_1 : decode cJ0_checkIndex_df160 1 = .ok (.iload_n 1, 1) := by decide +kernel
theorem dJ0_checkIndex_df160_2 : decode cJ0_checkIndex_df160 2 = .ok (.getstatic 1053, 3) := by decide +kernel
theorem dJ0_checkIndex_df160_5 : decode cJ0_checkIndex_df160 5 = .ok (.invokestatic 1059, 3) := by decide +kernel
theorem dJ0_checkIndex_df160_8 : decode cJ0_checkIndex_df160 8 = .ok (.pop, 1) := by decide +kernel
theorem dJ0_checkIndex_df160_9 : decode cJ0_checkIndex_df160 9 = .ok (.return_, 1) := by decide +kernel
theorem dJ0_checkBoundsOffCount_cabcc_0 : decode cJ0_checkBoundsOffCount_cabcc 0 = .ok (.iload_n 0, 1) := by decide +kernel
theorem dJ0_checkBoundsOffCount_cabcc_1 : decode cJ0_checkBoundsOffCount_cabcc 1 = .ok (.iload_n 1, 1) := by decide +kernel
theorem dJ0_checkBoundsOffCount_cabcc_2 : decode cJ0_checkBoundsOffCount_cabcc 2 = .ok (.iload_n 2, 1) := by decide +kernel
theorem dJ0_checkBoundsOffCount_cabcc_3 : decode cJ0_checkBoundsOffCount_cabcc 3 = .ok (.getstatic 1053, 3) := by decide +kernel
theorem dJ0_checkBoundsOffCount_cabcc_6 : decode cJ0_checkBoundsOffCount_cabcc 6 = .ok (.invokestatic 1065, 3) := by decide +kernel
theorem dJ0_checkBoundsOffCount_cabcc_9 : decode cJ0_checkBoundsOffCount_cabcc 9 = .ok (.ireturn, 1) := by decide +kernel
theorem dJ0_checkBoundsBeginEnd_23922_0 : decode cJ0_checkBoundsBeginEnd_23922 0 = .ok (.iload_n 0, 1) := by decide +kernel
theorem dJ0_checkBoundsBeginEnd_23922_1 : decode cJ0_checkBoundsBeginEnd_23922 1 = .ok (.iload_n 1, 1) := by decide +kernel
theorem dJ0_checkBoundsBeginEnd_23922_2 : decode cJ0_checkBoundsBeginEnd_23922 2 = .ok (.iload_n 2, 1) := by decide +kernel
theorem dJ0_checkBoundsBeginEnd_23922_3 : decode cJ0_checkBoundsBeginEnd_23922 3 = .ok (.getstatic 1053, 3) := by decide +kernel
theorem dJ0_checkBoundsBeginEnd_23922_6 : decode cJ0_checkBoundsBeginEnd_23922 6 = .ok (.invokestatic 1062, 3) := by decide +kernel
theorem dJ0_checkBoundsBeginEnd_23922_9 : decode cJ0_checkBoundsBeginEnd_23922 9 = .ok (.pop, 1) := by decide +kernel
theorem dJ0_checkBoundsBeginEnd_23922_10 : decode cJ0_checkBoundsBeginEnd_23922 10 = .ok (.return_, 1) := by decide +kernel
theorem dJxe8eeb_append_b568b_0 : decode cJxe8eeb_append_b568b 0 = .ok (.aload_n 0, 1) := by decide +kernel
theorem dJxe8eeb_append_b568b_1 : decode cJxe8eeb_append_b568b 1 = .ok (.aconst_null, 1) := by decide +kernel
theorem dJxe8eeb_append_b568b_2 : decode cJxe8eeb_append_b568b 2 = .ok (.putfield 34, 3) := by decide +kernel
theorem dJxe8eeb_append_b568b_5 : decode cJxe8eeb_append_b568b 5 = .ok (.aload_n 0, 1) := by decide +kernel
theorem dJxe8eeb_append_b568b_6 : decode cJxe8eeb_append_b568b 6 = .ok (.aload_n 1, 1) := by decide +kernel
theorem dJxe8eeb_append_b568b_7 : decode cJxe8eeb_append_b568b 7 = .ok (.invokespecial 89, 3) := by decide +kernel
theorem dJxe8eeb_append_b568b_10 : decode cJxe8eeb_append_b568b 10 = .ok (.pop, 1) := by decide +kernel
theorem dJxe8eeb_append_b568b_11 : decode cJxe8eeb_append_b568b 11 = .ok (.aload_n 0, 1) := by decide +kernel
theorem dJxe8eeb_append_b568b_12 : decode cJxe8eeb_append_b568b 12 = .ok (.areturn, 1) := by decide +kernel
theorem dJ4_init_da8c8_0 : decode cJ4_init_da8c8 0 = .ok (.aload_n 0, 1) := by decide +kernel
theorem dJ4_init_da8c8_1 : decode cJ4_init_da8c8 1 = .ok (.bipush 16, 2) := by decide +kernel
theorem dJ4_init_da8c8_3 : decode cJ4_init_da8c8 3 = .ok (.invokespecial 1, 3) := by decide +kernel
theorem dJ4_init_da8c8_6 : decode cJ4_init_da8c8 6 = .ok (.return_, 1) := by decide +kernel
theorem dJ4_append_15ec4_0 : decode cJ4_append_15ec4 0 = .ok (.aload_n 0, 1) := by decide +kernel
theorem dJ4_append_15ec4_1 : decode cJ4_append_15ec4 1 = .ok (.aload_n 1, 1) := by decide +kernel
theorem dJ4_append_15ec4_2 : decode cJ4_append_15ec4 2 = .ok (.invokespecial 29, 3) := by decide +kernel
theorem dJ4_append_15ec4_5 : decode cJ4_append_15ec4 5 = .ok (.pop, 1) := by decide +kernel
theorem dJ4_append_15ec4_6 : decode cJ4_append_15ec4 6 = .ok (.aload_n 0, 1) := by decide +kernel
theorem dJ4_append_15ec4_7 : decode cJ4_append_15ec4 7 = .ok (.areturn, 1) := by decide +kernel
theorem dJ4_append_1fab5_0 : decode cJ4_append_1fab5 0 = .ok (.aload_n 0, 1) := by decide +kernel
theorem dJ4_append_1fab5_1 : decode cJ4_append_1fab5 1 = .ok (.aload_n 1, 1) := by decide +kernel
theorem dJ4_append_1fab5_2 : decode cJ4_append_1fab5 2 = .ok (.invokespecial 35, 3) := by decide +kernel
theorem dJ4_append_1fab5_5 : decode cJ4_append_1fab5 5 = .ok (.pop, 1) := by decide +kernel
theorem dJ4_append_1fab5_6 : decode cJ4_append_1fab5 6 = .ok (.aload_n 0, 1) := by decide +kernel
theorem dJ4_append_1fab5_7 : decode cJ4_append_1fab5 7 = .ok (.areturn, 1) := by decide +kernel
theorem dJ4_append_69d29_0 : decode cJ4_append_69d29 0 = .ok (.aload_n 0, 1) := by decide +kernel
theorem dJ4_append_69d29_1 : decode cJ4_append_69d29 1 = .ok (.aload_n 1, 1) := by decide +kernel
theorem dJ4_append_69d29_2 : decode cJ4_append_69d29 2 = .ok (.iload_n 2, 1) := by decide +kernel
theorem dJ4_append_69d29_3 : decode cJ4_append_69d29 3 = .ok (.iload_n 3, 1) := by decide +kernel
theorem dJ4_append_69d29_4 : decode cJ4_append_69d29 4 = .ok (.invokespecial 38, 3) := by decide +kernel
theorem dJ4_append_69d29_7 : decode cJ4_append_69d29 7 = .ok (.pop, 1) := by decide +kernel
theorem dJ4_append_69d29_8 : decode cJ4_append_69d29 8 = .ok (.aload_n 0, 1) := by decide +kernel
theorem dJ4_append_69d29_9 : decode cJ4_append_69d29 9 = .ok (.areturn, 1) := by decide +kernel
theorem dJ4_append_37e8c_0 : decode cJ4_append_37e8c 0 = .ok (.aload_n 0, 1) := by decide +kernel
theorem dJ4_append_37e8c_1 : decode cJ4_append_37e8c 1 = .ok (.aload_n 1, 1) := by decide +kernel
theorem dJ4_append_37e8c_2 : decode cJ4_append_37e8c 2 = .ok (.invokespecial 41, 3) := by decide +kernel
theorem dJ4_append_37e8c_5 : decode cJ4_append_37e8c 5 = .ok (.pop, 1) := by decide +kernel
theorem dJ4_append_37e8c_6 : decode cJ4_append_37e8c 6 = .ok (.aload_n 0, 1) := by decide +kernel
theorem dJ4_append_37e8c_7 : decode cJ4_append_37e8c 7 = .ok (.areturn, 1) := by decide +kernel
theorem dJ4_append_9f485_0 : decode cJ4_append_9f485 0 = .ok (.aload_n 0, 1) := by decide +kernel
theorem dJ4_append_9f485_1 : decode cJ4_append_9f485 1 = .ok (.iload_n 1, 1) := by decide +kernel
theorem dJ4_append_9f485_2 : decode cJ4_append_9f485 2 = .ok (.invokespecial 47, 3) := by decide +kernel
theorem dJ4_append_9f485_5 : decode cJ4_append_9f485 5 = .ok (.pop, 1) := by decide +kernel
theorem dJ4_append_9f485_6 : decode cJ4_append_9f485 6 = .ok (.aload_n 0, 1) := by decide +kernel
theorem dJ4_append_9f485_7 : decode cJ4_append_9f485 7 = .ok (.areturn, 1) := by decide +kernel
theorem dJ4_append_cf468_0 : decode cJ4_append_cf468 0 = .ok (.aload_n 0, 1) := by decide +kernel
theorem dJ4_append_cf468_1 : decode cJ4_append_cf468 1 = .ok (.iload_n 1, 1) := by decide +kernel
theorem dJ4_append_cf468_2 : decode cJ4_append_cf468 2 = .ok (.invokespecial 50, 3) := by decide +kernel
theorem dJ4_append_cf468_5 : decode cJ4_append_cf468 5 = .ok (.pop, 1) := by decide +kernel
theorem dJ4_append_cf468_6 : decode cJ4_append_cf468 6 = .ok (.aload_n 0, 1) := by decide +kernel
theorem dJ4_append_cf468_7 : decode cJ4_append_cf468 7 = .ok (.areturn, 1) := by decide +kernel
theorem dJ4_append_bf812_0 : decode cJ4_append_bf812 0 = .ok (.aload_n 0, 1) := by decide +kernel
theorem dJ4_append_bf812_1 : decode cJ4_append_bf812 1 = .ok (.iload_n 1, 1) := by decide +kernel
theorem dJ4_append_bf812_2 : decode cJ4_append_bf812 2 = .ok (.invokespecial 53, 3) := by decide +kernel
theorem dJ4_append_bf812_5 : decode cJ4_append_bf812 5 = .ok (.pop, 1) := by decide +kernel
theorem dJ4_append_bf812_6 : decode cJ4_append_bf812 6 = .ok (.aload_n 0, 1) := by decide +kernel
theorem dJ4_append_bf812_7 : decode cJ4_append_bf812 7 = .ok (.areturn, 1) := by decide +kernel
theorem dJ4_append_9d4c8_0 : decode cJ4_append_9d4c8 0 = .ok (.aload_n 0, 1) := by decide +kernel
theorem dJ4_append_9d4c8_1 : decode cJ4_append_9d4c8 1 = .ok (.fload_n 1, 1) := by decide +kernel
theorem dJ4_append_9d4c8_2 : decode cJ4_append_9d4c8 2 = .ok (.invokespecial 59, 3) := by decide +kernel
theorem dJ4_append_9d4c8_5 : decode cJ4_append_9d4c8 5 = .ok (.pop, 1) := by decide +kernel
theorem dJ4_append_9d4c8_6 : decode cJ4_append_9d4c8 6 = .ok (.aload_n 0, 1) := by decide +kernel
theorem dJ4_append_9d4c8_7 : decode cJ4_append_9d4c8 7 = .ok (.areturn, 1) := by decide +kernel
theorem dJ4_toString_0e30d_0 : decode cJ4_toString_0e30d 0 = .ok (.new 18, 3) := by decide +kernel
theorem dJ4_toString_0e30d_3 : decode cJ4_toString_0e30d 3 = .ok (.dup, 1) := by decide +kernel
theorem dJ4_toString_0e30d_4 : decode cJ4_toString_0e30d 4 = .ok (.aload_n 0, 1) := by decide +kernel
theorem dJ4_toString_0e30d_5 : decode cJ4_toString_0e30d 5 = .ok (.invokespecial 137, 3) := by decide +kernel
theorem dJ4_toString_0e30d_8 : decode cJ4_toString_0e30d 8 = .ok (.areturn, 1) := by decide +kernel
theorem dJ4_append_e1f22_0 : decode cJ4_append_e1f22 0 = .ok (.aload_n 0, 1) := by decide +kernel
theorem dJ4_append_e1f22_1 : decode cJ4_append_e1f22 1 = .ok (.aload_n 1, 1) := by decide +kernel
theorem dJ4_append_e1f22_2 : decode cJ4_append_e1f22 2 = .ok (.iload_n 2, 1) := by decide +kernel
theorem dJ4_append_e1f22_3 : decode cJ4_append_e1f22 3 = .ok (.iload_n 3, 1) := by decide +kernel
theorem dJ4_append_e1f22_4 : decode cJ4_append_e1f22 4 = .ok (.invokevirtual 296, 3) := by decide +kernel
theorem dJ4_append_e1f22_7 : decode cJ4_append_e1f22 7 = .ok (.areturn, 1) := by decide +kernel
theorem dJ4_append_cf1ce_0 : decode cJ4_append_cf1ce 0 = .ok (.aload_n 0, 1) := by decide +kernel
theorem dJ4_append_cf1ce_1 : decode cJ4_append_cf1ce 1 = .ok (.aload_n 1, 1) := by decide +kernel
theorem dJ4_append_cf1ce_2 : decode cJ4_append_cf1ce 2 = .ok (.invokevirtual 23, 3) := by decide +kernel
theorem dJ4_append_cf1ce_5 : decode cJ4_append_cf1ce 5 = .ok (.areturn, 1) := by decide +kernel
theorem dJ4_charAt_5068e_0 : decode cJ4_charAt_5068e 0 = .ok (.aload_n 0, 1) := by decide +kernel
theorem dJ4_charAt_5068e_1 : decode cJ4_charAt_5068e 1 = .ok (.iload_n 1, 1) := by decide +kernel
theorem dJ4_charAt_5068e_2 : decode cJ4_charAt_5068e 2 = .ok (.invokespecial 329, 3) := by decide +kernel
theorem dJ4_charAt_5068e_5 : decode cJ4_charAt_5068e 5 = .ok (.ireturn, 1) := by decide +kernel
theorem dJ4_length_8abf5_0 : decode cJ4_length_8abf5 0 = .ok (.aload_n 0, 1) := by decide +kernel
theorem dJ4_length_8abf5_1 : decode cJ4_length_8abf5 1 = .ok (.invokespecial 343, 3) := by decide +kernel
theorem dJ4_length_8abf5_4 : decode cJ4_length_8abf5 4 = .ok (.ireturn, 1) := by decide +kernel
theorem dJ4_append_b3078_0 : decode cJ4_append_b3078 0 = .ok (.aload_n 0, 1) := by decide +kernel
theorem dJ4_append_b3078_1 : decode cJ4_append_b3078 1 = .ok (.iload_n 1, 1) := by decide +kernel
theorem dJ4_append_b3078_2 : decode cJ4_append_b3078 2 = .ok (.invokevirtual 284, 3) := by decide +kernel
theorem dJ4_append_b3078_5 : decode cJ4_append_b3078 5 = .ok (.areturn, 1) := by decide +kernel
theorem dJ4_append_996db_0 : decode cJ4_append_996db 0 = .ok (.aload_n 0, 1) := by decide +kernel
theorem dJ4_append_996db_1 : decode cJ4_append_996db 1 = .ok (.aload_n 1, 1) := by decide +kernel
theorem dJ4_append_996db_2 : decode cJ4_append_996db 2 = .ok (.invokevirtual 299, 3) := by decide +kernel
theorem dJ4_append_996db_5 : decode cJ4_append_996db 5 = .ok (.areturn, 1) := by decide +kernel
theorem dJ1_charAt_3b067_0 : decode cJ1_charAt_3b067 0 = .ok (.iload_n 1, 1) := by decide +kernel
theorem dJ1_charAt_3b067_1 : decode cJ1_charAt_3b067 1 = .ok (.aload_n 0, 1) := by decide +kernel
theorem dJ1_charAt_3b067_2 : decode cJ1_charAt_3b067 2 = .ok (.arraylength, 1) := by decide +kernel
theorem dJ1_charAt_3b067_3 : decode cJ1_charAt_3b067 3 = .ok (.invokestatic 9, 3) := by decide +kernel
theorem dJ1_charAt_3b067_6 : decode cJ1_charAt_3b067 6 = .ok (.aload_n 0, 1) := by decide +kernel
theorem dJ1_charAt_3b067_7 : decode cJ1_charAt_3b067 7 = .ok (.iload_n 1, 1) := by decide +kernel
theorem dJ1_charAt_3b067_8 : decode cJ1_charAt_3b067 8 = .ok (.baload, 1) := by decide +kernel
theorem dJ1_charAt_3b067_9 : decode cJ1_charAt_3b067 9 = .ok (.sipush 255, 3) := by decide +kernel
theorem dJ1_charAt_3b067_12 : decode cJ1_charAt_3b067 12 = .ok (.iand, 1) := by decide +kernel
theorem dJ1_charAt_3b067_13 : decode cJ1_charAt_3b067 13 = .ok (.i2c, 1) := by decide +kernel
theorem dJ1_charAt_3b067_14 : decode cJ1_charAt_3b067 14 = .ok (.ireturn, 1) := by decide +kernel
theorem dJ1_canEncode_fc78d_0 : decode cJ1_canEncode_fc78d 0 = .ok (.iload_n 0, 1) := by decide +kernel
theorem dJ1_canEncode_fc78d_1 : decode cJ1_canEncode_fc78d 1 = .ok (.sipush 255, 3) := by decide +kernel
theorem dJ1_canEncode_fc78d_4 : decode cJ1_canEncode_fc78d 4 = .ok (.if_icmp .gt 7, 3) := by decide +kernel
theorem dJ1_canEncode_fc78d_7 : decode cJ1_canEncode_fc78d 7 = .ok (.iconst 1, 1) := by decide +kernel
theorem dJ1_canEncode_fc78d_8 : decode cJ1_canEncode_fc78d 8 = .ok (.goto 4, 3) := by decide +kernel
theorem dJ1_canEncode_fc78d_11 : decode cJ1_canEncode_fc78d 11 = .ok (.iconst 0, 1) := by decide +kernel
theorem dJ1_canEncode_fc78d_12 : decode cJ1_canEncode_fc78d 12 = .ok (.ireturn, 1) := by decide +kernel
theorem dJ1_equals_b5fdf_0 : decode cJ1_equals_b5fdf 0 = .ok (.aload_n 0, 1) := by decide +kernel
theorem dJ1_equals_b5fdf_1 : decode cJ1_equals_b5fdf 1 = .ok (.arraylength, 1) := by decide +kernel
theorem dJ1_equals_b5fdf_2 : decode cJ1_equals_b5fdf 2 = .ok (.aload_n 1, 1) := by decide +kernel
theorem dJ1_equals_b5fdf_3 : decode cJ1_equals_b5fdf 3 = .ok (.arraylength, 1) := by decide +kernel
theorem dJ1_equals_b5fdf_4 : decode cJ1_equals_b5fdf 4 = .ok (.if_icmp .ne 30, 3) := by decide +kernel
theorem dJ1_equals_b5fdf_7 : decode cJ1_equals_b5fdf 7 = .ok (.iconst 0, 1) := by decide +kernel
theorem dJ1_equals_b5fdf_8 : decode cJ1_equals_b5fdf 8 = .ok (.istore_n 2, 1) := by decide +kernel
theorem dJ1_equals_b5fdf_9 : decode cJ1_equals_b5fdf 9 = .ok (.iload_n 2, 1) := by decide +kernel
theorem dJ1_equals_b5fdf_10 : decode cJ1_equals_b5fdf 10 = .ok (.aload_n 0, 1) := by decide +kernel
theorem dJ1_equals_b5fdf_11 : decode cJ1_equals_b5fdf 11 = .ok (.arraylength, 1) := by decide +kernel
theorem dJ1_equals_b5fdf_12 : decode cJ1_equals_b5fdf 12 = .ok (.if_icmp .ge 20, 3) := by decide +kernel
theorem dJ1_equals_b5fdf_15 : decode cJ1_equals_b5fdf 15 = .ok (.aload_n 0, 1) := by decide +kernel
theorem dJ1_equals_b5fdf_16 : decode cJ1_equals_b5fdf 16 = .ok (.iload_n 2, 1) := by decide +kernel
theorem dJ1_equals_b5fdf_17 : decode cJ1_equals_b5fdf 17 = .ok (.baload, 1) := by decide +kernel
theorem dJ1_equals_b5fdf_18 : decode cJ1_equals_b5fdf 18 = .ok (.aload_n 1, 1) := by decide +kernel
theorem dJ1_equals_b5fdf_19 : decode cJ1_equals_b5fdf 19 = .ok (.iload_n 2, 1) := by decide +kernel
theorem dJ1_equals_b5fdf_20 : decode cJ1_equals_b5fdf 20 = .ok (.baload, 1) := by decide +kernel
theorem dJ1_equals_b5fdf_21 : decode cJ1_equals_b5fdf 21 = .ok (.if_icmp .eq 5, 3) := by decide +kernel
theorem dJ1_equals_b5fdf_24 : decode cJ1_equals_b5fdf 24 = .ok (.iconst 0, 1) := by decide +kernel
theorem dJ1_equals_b5fdf_25 : decode cJ1_equals_b5fdf 25 = .ok (.ireturn, 1) := by decide +kernel
theorem dJ1_equals_b5fdf_26 : decode cJ1_equals_b5fdf 26 = .ok (.iinc 2 1, 3) := by decide +kernel
theorem dJ1_equals_b5fdf_29 : decode cJ1_equals_b5fdf 29 = .ok (.goto (-20), 3) := by decide +kernel
theorem dJ1_equals_b5fdf_32 : decode cJ1_equals_b5fdf 32 = .ok (.iconst 1, 1) := by decide +kernel
theorem dJ1_equals_b5fdf_33 : decode cJ1_equals_b5fdf 33 = .ok (.ireturn, 1) := by decide +kernel
theorem dJ1_equals_b5fdf_34 : decode cJ1_equals_b5fdf 34 = .ok (.iconst 0, 1) := by decide +kernel
theorem dJ1_equals_b5fdf_35 : decode cJ1_equals_b5fdf 35 = .ok (.ireturn, 1) := by decide +kernel
theorem dJ1_inflate_0e8fd_0 : decode cJ1_inflate_0e8fd 0 = .ok (.aload_n 0, 1) := by decide +kernel
theorem dJ1_inflate_0e8fd_1 : decode cJ1_inflate_0e8fd 1 = .ok (.iload_n 1, 1) := by decide +kernel
theorem dJ1_inflate_0e8fd_2 : decode cJ1_inflate_0e8fd 2 = .ok (.aload_n 2, 1) := by decide +kernel
theorem dJ1_inflate_0e8fd_3 : decode cJ1_inflate_0e8fd 3 = .ok (.iload_n 3, 1) := by decide +kernel
theorem dJ1_inflate_0e8fd_4 : decode cJ1_inflate_0e8fd 4 = .ok (.iload 4, 2) := by decide +kernel
theorem dJ1_inflate_0e8fd_6 : decode cJ1_inflate_0e8fd 6 = .ok (.invokestatic 240, 3) := by decide +kernel
theorem dJ1_inflate_0e8fd_9 : decode cJ1_inflate_0e8fd 9 = .ok (.return_, 1) := by decide +kernel
theorem dJ2_newBytesFor_77867_0 : decode cJ2_newBytesFor_77867 0 = .ok (.iload_n 0, 1) := by decide +kernel
theorem dJ2_newBytesFor_77867_1 : decode cJ2_newBytesFor_77867 1 = .ok (.invokestatic 11, 3) := by decide +kernel
theorem dJ2_newBytesFor_77867_4 : decode cJ2_newBytesFor_77867 4 = .ok (.newarray .byte, 2) := by decide +kernel
theorem dJ2_newBytesFor_77867_6 : decode cJ2_newBytesFor_77867 6 = .ok (.areturn, 1) := by decide +kernel
theorem dJ2_newBytesLength_0f7a4_0 : decode cJ2_newBytesLength_0f7a4 0 = .ok (.iload_n 0, 1) := by decide +kernel
theorem dJ2_newBytesLength_0f7a4_1 : decode cJ2_newBytesLength_0f7a4 1 = .ok (.ifCond .ge 11, 3) := by decide +kernel
theorem dJ2_newBytesLength_0f7a4_4 : decode cJ2_newBytesLength_0f7a4 4 = .ok (.new 17, 3) := by decide +kernel
theorem dJ2_newBytesLength_0f7a4_7 : decode cJ2_newBytesLength_0f7a4 7 = .ok (.dup, 1) := by decide +kernel
theorem dJ2_newBytesLength_0f7a4_8 : decode cJ2_newBytesLength_0f7a4 8 = .ok (.invokespecial 19, 3) := by decide +kernel
theorem dJ2_newBytesLength_0f7a4_11 : decode cJ2_newBytesLength_0f7a4 11 = .ok (.athrow, 1) := by decide +kernel
theorem dJ2_newBytesLength_0f7a4_12 : decode cJ2_newBytesLength_0f7a4 12 = .ok (.iload_n 0, 1) := by decide +kernel
theorem dJ2_newBytesLength_0f7a4_13 : decode cJ2_newBytesLength_0f7a4 13 = .ok (.ldc 20, 2) := by decide +kernel
theorem dJ2_newBytesLength_0f7a4_15 : decode cJ2_newBytesLength_0f7a4 15 = .ok (.if_icmp .lt 40, 3) := by decide +kernel
theorem dJ2_newBytesLength_0f7a4_18 : decode cJ2_newBytesLength_0f7a4 18 = .ok (.new 21, 3) := by decide +kernel
theorem dJ2_newBytesLength_0f7a4_21 : decode cJ2_newBytesLength_0f7a4 21 = .ok (.dup, 1) := by decide +kernel
theorem dJ2_newBytesLength_0f7a4_22 : decode cJ2_newBytesLength_0f7a4 22 = .ok (.new 23, 3) := by decide +kernel
theorem dJ2_newBytesLength_0f7a4_25 : decode cJ2_newBytesLength_0f7a4 25 = .ok (.dup, 1) := by decide +kernel
theorem dJ2_newBytesLength_0f7a4_26 : decode cJ2_newBytesLength_0f7a4 26 = .ok (.invokespecial 25, 3) := by decide +kernel
theorem dJ2_newBytesLength_0f7a4_29 : decode cJ2_newBytesLength_0f7a4 29 = .ok (.ldc 26, 2) := by decide +kernel
theorem dJ2_newBytesLength_0f7a4_31 : decode cJ2_newBytesLength_0f7a4 31 = .ok (.invokevirtual 28, 3) := by decide +kernel
theorem dJ2_newBytesLength_0f7a4_34 : decode cJ2_newBytesLength_0f7a4 34 = .ok (.iload_n 0, 1) := by decide +kernel
theorem dJ2_newBytesLength_0f7a4_35 : decode cJ2_newBytesLength_0f7a4 35 = .ok (.invokevirtual 32, 3) := by decide +kernel
theorem dJ2_newBytesLength_0f7a4_38 : decode cJ2_newBytesLength_0f7a4 38 = .ok (.ldc 35, 2) := by decide +kernel
theorem dJ2_newBytesLength_0f7a4_40 : decode cJ2_newBytesLength_0f7a4 40 = .ok (.invokevirtual 28, 3) := by decide +kernel
theorem dJ2_newBytesLength_0f7a4_43 : decode cJ2_newBytesLength_0f7a4 43 = .ok (.ldc 20, 2) := by decide +kernel
theorem dJ2_newBytesLength_0f7a4_45 : decode cJ2_newBytesLength_0f7a4 45 = .ok (.invokevirtual 32, 3) := by decide +kernel
theorem dJ2_newBytesLength_0f7a4_48 : decode cJ2_newBytesLength_0f7a4 48 = .ok (.invokevirtual 37, 3) := by decide +kernel
theorem dJ2_newBytesLength_0f7a4_51 : decode cJ2_newBytesLength_0f7a4 51 = .ok (.invokespecial 41, 3) := by decide +kernel
theorem dJ2_newBytesLength_0f7a4_54 : decode cJ2_newBytesLength_0f7a4 54 = .ok (.athrow, 1) := by decide +kernel
theorem dJ2_newBytesLength_0f7a4_55 : decode cJ2_newBytesLength_0f7a4 55 = .ok (.iload_n 0, 1) := by decide +kernel
theorem dJ2_newBytesLength_0f7a4_56 : decode cJ2_newBytesLength_0f7a4 56 = .ok (.iconst 1, 1) := by decide +kernel
theorem dJ2_newBytesLength_0f7a4_57 : decode cJ2_newBytesLength_0f7a4 57 = .ok (.ishl, 1) := by decide +kernel
theorem dJ2_newBytesLength_0f7a4_58 : decode cJ2_newBytesLength_0f7a4 58 = .ok (.ireturn, 1) := by decide +kernel
theorem dJ2_putChar_b72d1_0 : decode cJ2_putChar_b72d1 0 = .ok (.getstatic 44, 3) := by decide +kernel
theorem dJ2_putChar_b72d1_3 : decode cJ2_putChar_b72d1 3 = .ok (.ifCond .ne 25, 3) := by decide +kernel
theorem dJ2_putChar_b72d1_6 : decode cJ2_putChar_b72d1 6 = .ok (.iload_n 1, 1) := by decide +kernel
theorem dJ2_putChar_b72d1_7 : decode cJ2_putChar_b72d1 7 = .ok (.ifCond .lt 11, 3) := by decide +kernel
theorem dJ2_putChar_b72d1_10 : decode cJ2_putChar_b72d1 10 = .ok (.iload_n 1, 1) := by decide +kernel
theorem dJ2_putChar_b72d1_11 : decode cJ2_putChar_b72d1 11 = .ok (.aload_n 0, 1) := by decide +kernel
theorem dJ2_putChar_b72d1_12 : decode cJ2_putChar_b72d1 12 = .ok (.invokestatic 48, 3) := by decide +kernel
theorem dJ2_putChar_b72d1_15 : decode cJ2_putChar_b72d1 15 = .ok (.if_icmp .lt 13, 3) := by decide +kernel
theorem dJ2_putChar_b72d1_18 : decode cJ2_putChar_b72d1 18 = .ok (.new 52, 3) := by decide +kernel
theorem dJ2_putChar_b72d1_21 : decode cJ2_putChar_b72d1 21 = .ok (.dup, 1) := by decide +kernel
theorem dJ2_putChar_b72d1_22 : decode cJ2_putChar_b72d1 22 = .ok (.ldc 54, 2) := by decide +kernel
theorem dJ2_putChar_b72d1_24 : decode cJ2_putChar_b72d1 24 = .ok (.invokespecial 56, 3) := by decide +kernel
theorem dJ2_putChar_b72d1_27 : decode cJ2_putChar_b72d1 27 = .ok (.athrow, 1) := by decide +kernel
theorem dJ2_putChar_b72d1_28 : decode cJ2_putChar_b72d1 28 = .ok (.iload_n 1, 1) := by decide +kernel
theorem dJ2_putChar_b72d1_29 : decode cJ2_putChar_b72d1 29 = .ok (.iconst 1, 1) := by decide +kernel
theorem dJ2_putChar_b72d1_30 : decode cJ2_putChar_b72d1 30 = .ok (.ishl, 1) := by decide +kernel
theorem dJ2_putChar_b72d1_31 : decode cJ2_putChar_b72d1 31 = .ok (.istore_n 1, 1) := by decide +kernel
theorem dJ2_putChar_b72d1_32 : decode cJ2_putChar_b72d1 32 = .ok (.aload_n 0, 1) := by decide +kernel
theorem dJ2_putChar_b72d1_33 : decode cJ2_putChar_b72d1 33 = .ok (.iload_n 1, 1) := by decide +kernel
theorem dJ2_putChar_b72d1_34 : decode cJ2_putChar_b72d1 34 = .ok (.iinc 1 1, 3) := by decide +kernel
theorem dJ2_putChar_b72d1_37 : decode cJ2_putChar_b72d1 37 = .ok (.iload_n 2, 1) := by decide +kernel
theorem dJ2_putChar_b72d1_38 : decode cJ2_putChar_b72d1 38 = .ok (.getstatic 59, 3) := by decide +kernel
theorem dJ2_putChar_b72d1_41 : decode cJ2_putChar_b72d1 41 = .ok (.ishr, 1) := by decide +kernel
theorem dJ2_putChar_b72d1_42 : decode cJ2_putChar_b72d1 42 = .ok (.i2b, 1) := by decide +kernel
theorem dJ2_putChar_b72d1_43 : decode cJ2_putChar_b72d1 43 = .ok (.bastore, 1) := by decide +kernel
theorem dJ2_putChar_b72d1_44 : decode cJ2_putChar_b72d1 44 = .ok (.aload_n 0, 1) := by decide +kernel
theorem dJ2_putChar_b72d1_45 : decode cJ2_putChar_b72d1 45 = .ok (.iload_n 1, 1) := by decide +kernel
theorem dJ2_putChar_b72d1_46 : decode cJ2_putChar_b72d1 46 = .ok (.iload_n 2, 1) := by decide +kernel
theorem dJ2_putChar_b72d1_47 : decode cJ2_putChar_b72d1 47 = .ok (.getstatic 63, 3) := by decide +kernel
theorem dJ2_putChar_b72d1_50 : decode cJ2_putChar_b72d1 50 = .ok (.ishr, 1) := by decide +kernel
theorem dJ2_putChar_b72d1_51 : decode cJ2_putChar_b72d1 51 = .ok (.i2b, 1) := by decide +kernel
theorem dJ2_putChar_b72d1_52 : decode cJ2_putChar_b72d1 52 = .ok (.bastore, 1) := by decide +kernel
theorem dJ2_putChar_b72d1_53 : decode cJ2_putChar_b72d1 53 = .ok (.return_, 1) := by decide +kernel
theorem dJ2_getChar_3b067_0 : decode cJ2_getChar_3b067 0 = .ok (.getstatic 44, 3) := by decide +kernel
theorem dJ2_getChar_3b067_3 : decode cJ2_getChar_3b067 3 = .ok (.ifCond .ne 25, 3) := by decide +kernel
theorem dJ2_getChar_3b067_6 : decode cJ2_getChar_3b067 6 = .ok (.iload_n 1, 1) := by decide +kernel
theorem dJ2_getChar_3b067_7 : decode cJ2_getChar_3b067 7 = .ok (.ifCond .lt 11, 3) := by decide +kernel
theorem dJ2_getChar_3b067_10 : decode cJ2_getChar_3b067 10 = .ok (.iload_n 1, 1) := by decide +kernel
theorem dJ2_getChar_3b067_11 : decode cJ2_getChar_3b067 11 = .ok (.aload_n 0, 1) := by decide +kernel
theorem dJ2_getChar_3b067_12 : decode cJ2_getChar_3b067 12 = .ok (.invokestatic 48, 3) := by decide +kernel
theorem dJ2_getChar_3b067_15 : decode cJ2_getChar_3b067 15 = .ok (.if_icmp .lt 13, 3) := by decide +kernel
theorem dJ2_getChar_3b067_18 : decode cJ2_getChar_3b067 18 = .ok (.new 52, 3) := by decide +kernel
theorem dJ2_getChar_3b067_21 : decode cJ2_getChar_3b067 21 = .ok (.dup, 1) := by decide +kernel
theorem dJ2_getChar_3b067_22 : decode cJ2_getChar_3b067 22 = .ok (.ldc 54, 2) := by decide +kernel
theorem dJ2_getChar_3b067_24 : decode cJ2_getChar_3b067 24 = .ok (.invokespecial 56, 3) := by decide +kernel
theorem dJ2_getChar_3b067_27 : decode cJ2_getChar_3b067 27 = .ok (.athrow, 1) := by decide +kernel
theorem dJ2_getChar_3b067_28 : decode cJ2_getChar_3b067 28 = .ok (.iload_n 1, 1) := by decide +kernel
theorem dJ2_getChar_3b067_29 : decode cJ2_getChar_3b067 29 = .ok (.iconst 1, 1) := by decide +kernel
theorem dJ2_getChar_3b067_30 : decode cJ2_getChar_3b067 30 = .ok (.ishl, 1) := by decide +kernel
theorem dJ2_getChar_3b067_31 : decode cJ2_getChar_3b067 31 = .ok (.istore_n 1, 1) := by decide +kernel
theorem dJ2_getChar_3b067_32 : decode cJ2_getChar_3b067 32 = .ok (.aload_n 0, 1) := by decide +kernel
theorem dJ2_getChar_3b067_33 : decode cJ2_getChar_3b067 33 = .ok (.iload_n 1, 1) := by decide +kernel
theorem dJ2_getChar_3b067_34 : decode cJ2_getChar_3b067 34 = .ok (.iinc 1 1, 3) := by decide +kernel
theorem dJ2_getChar_3b067_37 : decode cJ2_getChar_3b067 37 = .ok (.baload, 1) := by decide +kernel
theorem dJ2_getChar_3b067_38 : decode cJ2_getChar_3b067 38 = .ok (.sipush 255, 3) := by decide +kernel
theorem dJ2_getChar_3b067_41 : decode cJ2_getChar_3b067 41 = .ok (.iand, 1) := by decide +kernel
theorem dJ2_getChar_3b067_42 : decode cJ2_getChar_3b067 42 = .ok (.getstatic 59, 3) := by decide +kernel
theorem dJ2_getChar_3b067_45 : decode cJ2_getChar_3b067 45 = .ok (.ishl, 1) := by decide +kernel
theorem dJ2_getChar_3b067_46 : decode cJ2_getChar_3b067 46 = .ok (.aload_n 0, 1) := by decide +kernel
theorem dJ2_getChar_3b067_47 : decode cJ2_getChar_3b067 47 = .ok (.iload_n 1, 1) := by decide +kernel
theorem dJ2_getChar_3b067_48 : decode cJ2_getChar_3b067 48 = .ok (.baload, 1) := by decide +kernel
theorem dJ2_getChar_3b067_49 : decode cJ2_getChar_3b067 49 = .ok (.sipush 255, 3) := by decide +kernel
theorem dJ2_getChar_3b067_52 : decode cJ2_getChar_3b067 52 = .ok (.iand, 1) := by decide +kernel
theorem dJ2_getChar_3b067_53 : decode cJ2_getChar_3b067 53 = .ok (.getstatic 63, 3) := by decide +kernel
theorem dJ2_getChar_3b067_56 : decode cJ2_getChar_3b067 56 = .ok (.ishl, 1) := by decide +kernel
theorem dJ2_getChar_3b067_57 : decode cJ2_getChar_3b067 57 = .ok (.ior, 1) := by decide +kernel
theorem dJ2_getChar_3b067_58 : decode cJ2_getChar_3b067 58 = .ok (.i2c, 1) := by decide +kernel
theorem dJ2_getChar_3b067_59 : decode cJ2_getChar_3b067 59 = .ok (.ireturn, 1) := by decide +kernel
theorem dJ2_length_9d52b_0 : decode cJ2_length_9d52b 0 = .ok (.aload_n 0, 1) := by decide +kernel
theorem dJ2_length_9d52b_1 : decode cJ2_length_9d52b 1 = .ok (.arraylength, 1) := by decide +kernel
theorem dJ2_length_9d52b_2 : decode cJ2_length_9d52b 2 = .ok (.iconst 1, 1) := by decide +kernel
theorem dJ2_length_9d52b_3 : decode cJ2_length_9d52b 3 = .ok (.ishr, 1) := by decide +kernel
theorem dJ2_length_9d52b_4 : decode cJ2_length_9d52b 4 = .ok (.ireturn, 1) := by decide +kernel
theorem dJ2_coderFromArrayLen_85cad_0 : decode cJ2_coderFromArrayLen_85cad 0 = .ok (.iload_n 1, 1) := by decide +kernel
theorem dJ2_coderFromArrayLen_85cad_1 : decode cJ2_coderFromArrayLen_85cad 1 = .ok (.aload_n 0, 1) := by decide +kernel
theorem dJ2_coderFromArrayLen_85cad_2 : decode cJ2_coderFromArrayLen_85cad 2 = .ok (.arraylength, 1) := by decide +kernel
theorem dJ2_coderFromArrayLen_85cad_3 : decode cJ2_coderFromArrayLen_85cad 3 = .ok (.isub, 1) := by decide +kernel
theorem dJ2_coderFromArrayLen_85cad_4 : decode cJ2_coderFromArrayLen_85cad 4 = .ok (.bipush 31, 2) := by decide +kernel
theorem dJ2_coderFromArrayLen_85cad_6 : decode cJ2_coderFromArrayLen_85cad 6 = .ok (.iushr, 1) := by decide +kernel
theorem dJ2_coderFromArrayLen_85cad_7 : decode cJ2_coderFromArrayLen_85cad 7 = .ok (.i2b, 1) := by decide +kernel
theorem dJ2_coderFromArrayLen_85cad_8 : decode cJ2_coderFromArrayLen_85cad 8 = .ok (.ireturn, 1) := by decide +kernel
theorem dJ2_compress_39247_0 : decode cJ2_compress_39247 0 = .ok (.iload_n 2, 1) := by decide +kernel
theorem dJ2_compress_39247_1 : decode cJ2_compress_39247 1 = .ok (.newarray .byte, 2) := by decide +kernel
theorem dJ2_compress_39247_3 : decode cJ2_compress_39247 3 = .ok (.astore_n 3, 1) := by decide +kernel
theorem dJ2_compress_39247_4 : decode cJ2_compress_39247 4 = .ok (.aload_n 0, 1) := by decide +kernel
theorem dJ2_compress_39247_5 : decode cJ2_compress_39247 5 = .ok (.iload_n 1, 1) := by decide +kernel
theorem dJ2_compress_39247_6 : decode cJ2_compress_39247 6 = .ok (.aload_n 3, 1) := by decide +kernel
theorem dJ2_compress_39247_7 : decode cJ2_compress_39247 7 = .ok (.iconst 0, 1) := by decide +kernel
theorem dJ2_compress_39247_8 : decode cJ2_compress_39247 8 = .ok (.iload_n 2, 1) := by decide +kernel
theorem dJ2_compress_39247_9 : decode cJ2_compress_39247 9 = .ok (.invokestatic 123, 3) := by decide +kernel
theorem dJ2_compress_39247_12 : decode cJ2_compress_39247 12 = .ok (.istore 4, 2) := by decide +kernel
theorem dJ2_compress_39247_14 : decode cJ2_compress_39247 14 = .ok (.iload 4, 2) := by decide +kernel
theorem dJ2_compress_39247_16 : decode cJ2_compress_39247 16 = .ok (.iload_n 2, 1) := by decide +kernel
theorem dJ2_compress_39247_17 : decode cJ2_compress_39247 17 = .ok (.if_icmp .eq 47, 3) := by decide +kernel
theorem dJ2_compress_39247_20 : decode cJ2_compress_39247 20 = .ok (.aload_n 0, 1) := by decide +kernel
theorem dJ2_compress_39247_21 : decode cJ2_compress_39247 21 = .ok (.iload_n 1, 1) := by decide +kernel
theorem dJ2_compress_39247_22 : decode cJ2_compress_39247 22 = .ok (.iconst 1, 1) := by decide +kernel
theorem dJ2_compress_39247_23 : decode cJ2_compress_39247 23 = .ok (.ishl, 1) := by decide +kernel
theorem dJ2_compress_39247_24 : decode cJ2_compress_39247 24 = .ok (.iload_n 1, 1) := by decide +kernel
theorem dJ2_compress_39247_25 : decode cJ2_compress_39247 25 = .ok (.iload_n 2, 1) := by decide +kernel
theorem dJ2_compress_39247_26 : decode cJ2_compress_39247 26 = .ok (.iadd, 1) := by decide +kernel
theorem dJ2_compress_39247_27 : decode cJ2_compress_39247 27 = .ok (.invokestatic 11, 3) := by decide +kernel
theorem dJ2_compress_39247_30 : decode cJ2_compress_39247 30 = .ok (.invokestatic 126, 3) := by decide +kernel
theorem dJ2_compress_39247_33 : decode cJ2_compress_39247 33 = .ok (.astore 5, 2) := by decide +kernel
theorem dJ2_compress_39247_35 : decode cJ2_compress_39247 35 = .ok (.aload 5, 2) := by decide +kernel
theorem dJ2_compress_39247_37 : decode cJ2_compress_39247 37 = .ok (.iload 4, 2) := by decide +kernel
theorem dJ2_compress_39247_39 : decode cJ2_compress_39247 39 = .ok (.invokestatic 71, 3) := by decide +kernel
theorem dJ2_compress_39247_42 : decode cJ2_compress_39247 42 = .ok (.sipush 255, 3) := by decide +kernel
theorem dJ2_compress_39247_45 : decode cJ2_compress_39247 45 = .ok (.if_icmp .gt 16, 3) := by decide +kernel
theorem dJ2_compress_39247_48 : decode cJ2_compress_39247 48 = .ok (.aload 5, 2) := by decide +kernel
theorem dJ2_compress_39247_50 : decode cJ2_compress_39247 50 = .ok (.iconst 0, 1) := by decide +kernel
theorem dJ2_compress_39247_51 : decode cJ2_compress_39247 51 = .ok (.aload_n 3, 1) := by decide +kernel
theorem dJ2_compress_39247_52 : decode cJ2_compress_39247 52 = .ok (.iconst 0, 1) := by decide +kernel
theorem dJ2_compress_39247_53 : decode cJ2_compress_39247 53 = .ok (.iload_n 2, 1) := by decide +kernel
theorem dJ2_compress_39247_54 : decode cJ2_compress_39247 54 = .ok (.invokestatic 123, 3) := by decide +kernel
theorem dJ2_compress_39247_57 : decode cJ2_compress_39247 57 = .ok (.iload_n 2, 1) := by decide +kernel
theorem dJ2_compress_39247_58 : decode cJ2_compress_39247 58 = .ok (.if_icmp .eq 6, 3) := by decide +kernel
theorem dJ2_compress_39247_61 : decode cJ2_compress_39247 61 = .ok (.aload 5, 2) := by decide +kernel
theorem dJ2_compress_39247_63 : decode cJ2_compress_39247 63 = .ok (.areturn, 1) := by decide +kernel
theorem dJ2_compress_39247_64 : decode cJ2_compress_39247 64 = .ok (.aload_n 3, 1) := by decide +kernel
theorem dJ2_compress_39247_65 : decode cJ2_compress_39247 65 = .ok (.areturn, 1) := by decide +kernel
theorem dJ2_compress_5af95_0 : decode cJ2_compress_5af95 0 = .ok (.iload_n 1, 1) := by decide +kernel
theorem dJ2_compress_5af95_1 : decode cJ2_compress_5af95 1 = .ok (.iload 4, 2) := by decide +kernel
theorem dJ2_compress_5af95_3 : decode cJ2_compress_5af95 3 = .ok (.aload_n 0, 1) := by decide +kernel
theorem dJ2_compress_5af95_4 : decode cJ2_compress_5af95 4 = .ok (.invokestatic 173, 3) := by decide +kernel
theorem dJ2_compress_5af95_7 : decode cJ2_compress_5af95 7 = .ok (.iconst 0, 1) := by decide +kernel
theorem dJ2_compress_5af95_8 : decode cJ2_compress_5af95 8 = .ok (.istore 5, 2) := by decide +kernel
theorem dJ2_compress_5af95_10 : decode cJ2_compress_5af95 10 = .ok (.iload 5, 2) := by decide +kernel
theorem dJ2_compress_5af95_12 : decode cJ2_compress_5af95 12 = .ok (.iload 4, 2) := by decide +kernel
theorem dJ2_compress_5af95_14 : decode cJ2_compress_5af95 14 = .ok (.if_icmp .ge 39, 3) := by decide +kernel
theorem dJ2_compress_5af95_17 : decode cJ2_compress_5af95 17 = .ok (.aload_n 0, 1) := by decide +kernel
theorem dJ2_compress_5af95_18 : decode cJ2_compress_5af95 18 = .ok (.iload_n 1, 1) := by decide +kernel
theorem dJ2_compress_5af95_19 : decode cJ2_compress_5af95 19 = .ok (.invokestatic 71, 3) := by decide +kernel
theorem dJ2_compress_5af95_22 : decode cJ2_compress_5af95 22 = .ok (.istore 6, 2) := by decide +kernel
theorem dJ2_compress_5af95_24 : decode cJ2_compress_5af95 24 = .ok (.iload 6, 2) := by decide +kernel
theorem dJ2_compress_5af95_26 : decode cJ2_compress_5af95 26 = .ok (.sipush 255, 3) := by decide +kernel
theorem dJ2_compress_5af95_29 : decode cJ2_compress_5af95 29 = .ok (.if_icmp .le 6, 3) := by decide +kernel
theorem dJ2_compress_5af95_32 : decode cJ2_compress_5af95 32 = .ok (.iload 5, 2) := by decide +kernel
theorem dJ2_compress_5af95_34 : decode cJ2_compress_5af95 34 = .ok (.ireturn, 1) := by decide +kernel
theorem dJ2_compress_5af95_35 : decode cJ2_compress_5af95 35 = .ok (.aload_n 2, 1) := by decide +kernel
theorem dJ2_compress_5af95_36 : decode cJ2_compress_5af95 36 = .ok (.iload_n 3, 1) := by decide +kernel
theorem dJ2_compress_5af95_37 : decode cJ2_compress_5af95 37 = .ok (.iload 6, 2) := by decide +kernel
theorem dJ2_compress_5af95_39 : decode cJ2_compress_5af95 39 = .ok (.i2b, 1) := by decide +kernel
theorem dJ2_compress_5af95_40 : decode cJ2_compress_5af95 40 = .ok (.bastore, 1) := by decide +kernel
theorem dJ2_compress_5af95_41 : decode cJ2_compress_5af95 41 = .ok (.iinc 1 1, 3) := by decide +kernel
theorem dJ2_compress_5af95_44 : decode cJ2_compress_5af95 44 = .ok (.iinc 3 1, 3) := by decide +kernel
theorem dJ2_compress_5af95_47 : decode cJ2_compress_5af95 47 = .ok (.iinc 5 1, 3) := by decide +kernel
theorem dJ2_compress_5af95_50 : decode cJ2_compress_5af95 50 = .ok (.goto (-40), 3) := by decide +kernel
theorem dJ2_compress_5af95_53 : decode cJ2_compress_5af95 53 = .ok (.iload 4, 2) := by decide +kernel
theorem dJ2_compress_5af95_55 : decode cJ2_compress_5af95 55 = .ok (.ireturn, 1) := by decide +kernel
theorem dJ2_putChars_03870_0 : decode cJ2_putChars_03870 0 = .ok (.iload_n 3, 1) := by decide +kernel
theorem dJ2_putChars_03870_1 : decode cJ2_putChars_03870 1 = .ok (.iload 4, 2) := by decide +kernel
theorem dJ2_putChars_03870_3 : decode cJ2_putChars_03870 3 = .ok (.if_icmp .ge 20, 3) := by decide +kernel
theorem dJ2_putChars_03870_6 : decode cJ2_putChars_03870 6 = .ok (.aload_n 0, 1) := by decide +kernel
theorem dJ2_putChars_03870_7 : decode cJ2_putChars_03870 7 = .ok (.iload_n 1, 1) := by decide +kernel
theorem dJ2_putChars_03870_8 : decode cJ2_putChars_03870 8 = .ok (.iinc 1 1, 3) := by decide +kernel
theorem dJ2_putChars_03870_11 : decode cJ2_putChars_03870 11 = .ok (.aload_n 2, 1) := by decide +kernel
theorem dJ2_putChars_03870_12 : decode cJ2_putChars_03870 12 = .ok (.iload_n 3, 1) := by decide +kernel
theorem dJ2_putChars_03870_13 : decode cJ2_putChars_03870 13 = .ok (.iinc 3 1, 3) := by decide +kernel
theorem dJ2_putChars_03870_16 : decode cJ2_putChars_03870 16 = .ok (.caload, 1) := by decide +kernel
theorem dJ2_putChars_03870_17 : decode cJ2_putChars_03870 17 = .ok (.invokestatic 111, 3) := by decide +kernel
theorem dJ2_putChars_03870_20 : decode cJ2_putChars_03870 20 = .ok (.goto (-20), 3) := by decide +kernel
theorem dJ2_putChars_03870_23 : decode cJ2_putChars_03870 23 = .ok (.return_, 1) := by decide +kernel
theorem dJ2_putCharSB_b72d1_0 : decode cJ2_putCharSB_b72d1 0 = .ok (.iload_n 1, 1) := by decide +kernel
theorem dJ2_putCharSB_b72d1_1 : decode cJ2_putCharSB_b72d1 1 = .ok (.aload_n 0, 1) := by decide +kernel
theorem dJ2_putCharSB_b72d1_2 : decode cJ2_putCharSB_b72d1 2 = .ok (.invokestatic 67, 3) := by decide +kernel
theorem dJ2_putCharSB_b72d1_5 : decode cJ2_putCharSB_b72d1 5 = .ok (.aload_n 0, 1) := by decide +kernel
theorem dJ2_putCharSB_b72d1_6 : decode cJ2_putCharSB_b72d1 6 = .ok (.iload_n 1, 1) := by decide +kernel
theorem dJ2_putCharSB_b72d1_7 : decode cJ2_putCharSB_b72d1 7 = .ok (.iload_n 2, 1) := by decide +kernel
theorem dJ2_putCharSB_b72d1_8 : decode cJ2_putCharSB_b72d1 8 = .ok (.invokestatic 111, 3) := by decide +kernel
theorem dJ2_putCharSB_b72d1_11 : decode cJ2_putCharSB_b72d1 11 = .ok (.return_, 1) := by decide +kernel
theorem dJ2_putCharsSB_03870_0 : decode cJ2_putCharsSB_03870 0 = .ok (.iload_n 1, 1) := by decide +kernel
theorem dJ2_putCharsSB_03870_1 : decode cJ2_putCharsSB_03870 1 = .ok (.iload_n 1, 1) := by decide +kernel
theorem dJ2_putCharsSB_03870_2 : decode cJ2_putCharsSB_03870 2 = .ok (.iload 4, 2) := by decide +kernel
theorem dJ2_putCharsSB_03870_4 : decode cJ2_putCharsSB_03870 4 = .ok (.iadd, 1) := by decide +kernel
theorem dJ2_putCharsSB_03870_5 : decode cJ2_putCharsSB_03870 5 = .ok (.iload_n 3, 1) := by decide +kernel
theorem dJ2_putCharsSB_03870_6 : decode cJ2_putCharsSB_03870 6 = .ok (.isub, 1) := by decide +kernel
theorem dJ2_putCharsSB_03870_7 : decode cJ2_putCharsSB_03870 7 = .ok (.aload_n 0, 1) := by decide +kernel
theorem dJ2_putCharsSB_03870_8 : decode cJ2_putCharsSB_03870 8 = .ok (.invokestatic 96, 3) := by decide +kernel
theorem dJ2_putCharsSB_03870_11 : decode cJ2_putCharsSB_03870 11 = .ok (.aload_n 0, 1) := by decide +kernel
theorem dJ2_putCharsSB_03870_12 : decode cJ2_putCharsSB_03870 12 = .ok (.iload_n 1, 1) := by decide +kernel
theorem dJ2_putCharsSB_03870_13 : decode cJ2_putCharsSB_03870 13 = .ok (.aload_n 2, 1) := by decide +kernel
theorem dJ2_putCharsSB_03870_14 : decode cJ2_putCharsSB_03870 14 = .ok (.iload_n 3, 1) := by decide +kernel
theorem dJ2_putCharsSB_03870_15 : decode cJ2_putCharsSB_03870 15 = .ok (.iload 4, 2) := by decide +kernel
theorem dJ2_putCharsSB_03870_17 : decode cJ2_putCharsSB_03870 17 = .ok (.invokestatic 384, 3) := by decide +kernel
theorem dJ2_putCharsSB_03870_20 : decode cJ2_putCharsSB_03870 20 = .ok (.return_, 1) := by decide +kernel
theorem dJ2_putCharsSB_8fd6a_0 : decode cJ2_putCharsSB_8fd6a 0 = .ok (.iload_n 1, 1) := by decide +kernel
theorem dJ2_putCharsSB_8fd6a_1 : decode cJ2_putCharsSB_8fd6a 1 = .ok (.iload_n 1, 1) := by decide +kernel
theorem dJ2_putCharsSB_8fd6a_2 : decode cJ2_putCharsSB_8fd6a 2 = .ok (.iload 4, 2) := by decide +kernel
theorem dJ2_putCharsSB_8fd6a_4 : decode cJ2_putCharsSB_8fd6a 4 = .ok (.iadd, 1) := by decide +kernel
theorem dJ2_putCharsSB_8fd6a_5 : decode cJ2_putCharsSB_8fd6a 5 = .ok (.iload_n 3, 1) := by decide +kernel
theorem dJ2_putCharsSB_8fd6a_6 : decode cJ2_putCharsSB_8fd6a 6 = .ok (.isub, 1) := by decide +kernel
theorem dJ2_putCharsSB_8fd6a_7 : decode cJ2_putCharsSB_8fd6a 7 = .ok (.aload_n 0, 1) := by decide +kernel
theorem dJ2_putCharsSB_8fd6a_8 : decode cJ2_putCharsSB_8fd6a 8 = .ok (.invokestatic 96, 3) := by decide +kernel
theorem dJ2_putCharsSB_8fd6a_11 : decode cJ2_putCharsSB_8fd6a 11 = .ok (.iload_n 3, 1) := by decide +kernel
theorem dJ2_putCharsSB_8fd6a_12 : decode cJ2_putCharsSB_8fd6a 12 = .ok (.istore 5, 2) := by decide +kernel
theorem dJ2_putCharsSB_8fd6a_14 : decode cJ2_putCharsSB_8fd6a 14 = .ok (.iload 5, 2) := by decide +kernel
theorem dJ2_putCharsSB_8fd6a_16 : decode cJ2_putCharsSB_8fd6a 16 = .ok (.iload 4, 2) := by decide +kernel
theorem dJ2_putCharsSB_8fd6a_18 : decode cJ2_putCharsSB_8fd6a 18 = .ok (.if_icmp .ge 25, 3) := by decide +kernel
theorem dJ2_putCharsSB_8fd6a_21 : decode cJ2_putCharsSB_8fd6a 21 = .ok (.aload_n 0, 1) := by decide +kernel
theorem dJ2_putCharsSB_8fd6a_22 : decode cJ2_putCharsSB_8fd6a 22 = .ok (.iload_n 1, 1) := by decide +kernel
theorem dJ2_putCharsSB_8fd6a_23 : decode cJ2_putCharsSB_8fd6a 23 = .ok (.iinc 1 1, 3) := by decide +kernel
theorem dJ2_putCharsSB_8fd6a_26 : decode cJ2_putCharsSB_8fd6a 26 = .ok (.aload_n 2, 1) := by decide +kernel
theorem dJ2_putCharsSB_8fd6a_27 : decode cJ2_putCharsSB_8fd6a 27 = .ok (.iload 5, 2) := by decide +kernel
theorem dJ2_putCharsSB_8fd6a_29 : decode cJ2_putCharsSB_8fd6a 29 = .ok (.invokeinterface 388 2, 5) := by decide +kernel
theorem dJ2_putCharsSB_8fd6a_34 : decode cJ2_putCharsSB_8fd6a 34 = .ok (.invokestatic 111, 3) := by decide +kernel
theorem dJ2_putCharsSB_8fd6a_37 : decode cJ2_putCharsSB_8fd6a 37 = .ok (.iinc 5 1, 3) := by decide +kernel
theorem dJ2_putCharsSB_8fd6a_40 : decode cJ2_putCharsSB_8fd6a 40 = .ok (.goto (-26), 3) := by decide +kernel
theorem dJ2_putCharsSB_8fd6a_43 : decode cJ2_putCharsSB_8fd6a 43 = .ok (.return_, 1) := by decide +kernel
theorem dJ2_getChars_46870_0 : decode cJ2_getChars_46870 0 = .ok (.iload_n 1, 1) := by decide +kernel
theorem dJ2_getChars_46870_1 : decode cJ2_getChars_46870 1 = .ok (.iload_n 2, 1) := by decide +kernel
theorem dJ2_getChars_46870_2 : decode cJ2_getChars_46870 2 = .ok (.aload_n 3, 1) := by decide +kernel
theorem dJ2_getChars_46870_3 : decode cJ2_getChars_46870 3 = .ok (.invokestatic 96, 3) := by decide +kernel
theorem dJ2_getChars_46870_6 : decode cJ2_getChars_46870 6 = .ok (.iload_n 0, 1) := by decide +kernel
theorem dJ2_getChars_46870_7 : decode cJ2_getChars_46870 7 = .ok (.iload_n 2, 1) := by decide +kernel
theorem dJ2_getChars_46870_8 : decode cJ2_getChars_46870 8 = .ok (.aload_n 3, 1) := by decide +kernel
theorem dJ2_getChars_46870_9 : decode cJ2_getChars_46870 9 = .ok (.invokestatic 393, 3) := by decide +kernel
theorem dJ2_getChars_46870_12 : decode cJ2_getChars_46870 12 = .ok (.istore 4, 2) := by decide +kernel
theorem dJ2_getChars_46870_14 : decode cJ2_getChars_46870 14 = .ok (.getstatic 44, 3) := by decide +kernel
theorem dJ2_getChars_46870_17 : decode cJ2_getChars_46870 17 = .ok (.ifCond .ne 17, 3) := by decide +kernel
theorem dJ2_getChars_46870_20 : decode cJ2_getChars_46870 20 = .ok (.iload_n 1, 1) := by decide +kernel
theorem dJ2_getChars_46870_21 : decode cJ2_getChars_46870 21 = .ok (.iload 4, 2) := by decide +kernel
theorem dJ2_getChars_46870_23 : decode cJ2_getChars_46870 23 = .ok (.if_icmp .eq 11, 3) := by decide +kernel
theorem dJ2_getChars_46870_26 : decode cJ2_getChars_46870 26 = .ok (.new 52, 3) := by decide +kernel
theorem dJ2_getChars_46870_29 : decode cJ2_getChars_46870 29 = .ok (.dup, 1) := by decide +kernel
theorem dJ2_getChars_46870_30 : decode cJ2_getChars_46870 30 = .ok (.invokespecial 66, 3) := by decide +kernel
theorem dJ2_getChars_46870_33 : decode cJ2_getChars_46870 33 = .ok (.athrow, 1) := by decide +kernel
theorem dJ2_getChars_46870_34 : decode cJ2_getChars_46870 34 = .ok (.iload 4, 2) := by decide +kernel
theorem dJ2_getChars_46870_36 : decode cJ2_getChars_46870 36 = .ok (.ireturn, 1) := by decide +kernel
theorem dJ2_putCharsAt_cd4e5_0 : decode cJ2_putCharsAt_cd4e5 0 = .ok (.iload_n 1, 1) := by decide +kernel
theorem dJ2_putCharsAt_cd4e5_1 : decode cJ2_putCharsAt_cd4e5 1 = .ok (.iconst 4, 1) := by decide +kernel
theorem dJ2_putCharsAt_cd4e5_2 : decode cJ2_putCharsAt_cd4e5 2 = .ok (.iadd, 1) := by decide +kernel
theorem dJ2_putCharsAt_cd4e5_3 : decode cJ2_putCharsAt_cd4e5 3 = .ok (.istore 6, 2) := by decide +kernel
theorem dJ2_putCharsAt_cd4e5_5 : decode cJ2_putCharsAt_cd4e5 5 = .ok (.iload_n 1, 1) := by decide +kernel
theorem dJ2_putCharsAt_cd4e5_6 : decode cJ2_putCharsAt_cd4e5 6 = .ok (.iload 6, 2) := by decide +kernel
theorem dJ2_putCharsAt_cd4e5_8 : decode cJ2_putCharsAt_cd4e5 8 = .ok (.aload_n 0, 1) := by decide +kernel
theorem dJ2_putCharsAt_cd4e5_9 : decode cJ2_putCharsAt_cd4e5 9 = .ok (.invokestatic 96, 3) := by decide +kernel
theorem dJ2_putCharsAt_cd4e5_12 : decode cJ2_putCharsAt_cd4e5 12 = .ok (.aload_n 0, 1) := by decide +kernel
theorem dJ2_putCharsAt_cd4e5_13 : decode cJ2_putCharsAt_cd4e5 13 = .ok (.iload_n 1, 1) := by decide +kernel
theorem dJ2_putCharsAt_cd4e5_14 : decode cJ2_putCharsAt_cd4e5 14 = .ok (.iinc 1 1, 3) := by decide +kernel
theorem dJ2_putCharsAt_cd4e5_17 : decode cJ2_putCharsAt_cd4e5 17 = .ok (.iload_n 2, 1) := by decide +kernel
theorem dJ2_putCharsAt_cd4e5_18 : decode cJ2_putCharsAt_cd4e5 18 = .ok (.invokestatic 111, 3) := by decide +kernel
theorem dJ2_putCharsAt_cd4e5_21 : decode cJ2_putCharsAt_cd4e5 21 = .ok (.aload_n 0, 1) := by decide +kernel
theorem dJ2_putCharsAt_cd4e5_22 : decode cJ2_putCharsAt_cd4e5 22 = .ok (.iload_n 1, 1) := by decide +kernel
theorem dJ2_putCharsAt_cd4e5_23 : decode cJ2_putCharsAt_cd4e5 23 = .ok (.iinc 1 1, 3) := by decide +kernel
theorem dJ2_putCharsAt_cd4e5_26 : decode cJ2_putCharsAt_cd4e5 26 = .ok (.iload_n 3, 1) := by decide +kernel
theorem dJ2_putCharsAt_cd4e5_27 : decode cJ2_putCharsAt_cd4e5 27 = .ok (.invokestatic 111, 3) := by decide +kernel
theorem dJ2_putCharsAt_cd4e5_30 : decode cJ2_putCharsAt_cd4e5 30 = .ok (.aload_n 0, 1) := by decide +kernel
theorem dJ2_putCharsAt_cd4e5_31 : decode cJ2_putCharsAt_cd4e5 31 = .ok (.iload_n 1, 1) := by decide +kernel
theorem dJ2_putCharsAt_cd4e5_32 : decode cJ2_putCharsAt_cd4e5 32 = .ok (.iinc 1 1, 3) := by decide +kernel
theorem dJ2_putCharsAt_cd4e5_35 : decode cJ2_putCharsAt_cd4e5 35 = .ok (.iload 4, 2) := by decide +kernel
theorem dJ2_putCharsAt_cd4e5_37 : decode cJ2_putCharsAt_cd4e5 37 = .ok (.invokestatic 111, 3) := by decide +kernel
theorem dJ2_putCharsAt_cd4e5_40 : decode cJ2_putCharsAt_cd4e5 40 = .ok (.aload_n 0, 1) := by decide +kernel
theorem dJ2_putCharsAt_cd4e5_41 : decode cJ2_putCharsAt_cd4e5 41 = .ok (.iload_n 1, 1) := by decide +kernel
theorem dJ2_putCharsAt_cd4e5_42 : decode cJ2_putCharsAt_cd4e5 42 = .ok (.iinc 1 1, 3) := by decide +kernel
theorem dJ2_putCharsAt_cd4e5_45 : decode cJ2_putCharsAt_cd4e5 45 = .ok (.iload 5, 2) := by decide +kernel
theorem dJ2_putCharsAt_cd4e5_47 : decode cJ2_putCharsAt_cd4e5 47 = .ok (.invokestatic 111, 3) := by decide +kernel
theorem dJ2_putCharsAt_cd4e5_50 : decode cJ2_putCharsAt_cd4e5 50 = .ok (.getstatic 44, 3) := by decide +kernel
theorem dJ2_putCharsAt_cd4e5_53 : decode cJ2_putCharsAt_cd4e5 53 = .ok (.ifCond .ne 17, 3) := by decide +kernel
theorem dJ2_putCharsAt_cd4e5_56 : decode cJ2_putCharsAt_cd4e5 56 = .ok (.iload_n 1, 1) := by decide +kernel
theorem dJ2_putCharsAt_cd4e5_57 : decode cJ2_putCharsAt_cd4e5 57 = .ok (.iload 6, 2) := by decide +kernel
theorem dJ2_putCharsAt_cd4e5_59 : decode cJ2_putCharsAt_cd4e5 59 = .ok (.if_icmp .eq 11, 3) := by decide +kernel
theorem dJ2_putCharsAt_cd4e5_62 : decode cJ2_putCharsAt_cd4e5 62 = .ok (.new 52, 3) := by decide +kernel
theorem dJ2_putCharsAt_cd4e5_65 : decode cJ2_putCharsAt_cd4e5 65 = .ok (.dup, 1) := by decide +kernel
theorem dJ2_putCharsAt_cd4e5_66 : decode cJ2_putCharsAt_cd4e5 66 = .ok (.invokespecial 66, 3) := by decide +kernel
theorem dJ2_putCharsAt_cd4e5_69 : decode cJ2_putCharsAt_cd4e5 69 = .ok (.athrow, 1) := by decide +kernel
theorem dJ2_putCharsAt_cd4e5_70 : decode cJ2_putCharsAt_cd4e5 70 = .ok (.iload 6, 2) := by decide +kernel
theorem dJ2_putCharsAt_cd4e5_72 : decode cJ2_putCharsAt_cd4e5 72 = .ok (.ireturn, 1) := by decide +kernel
theorem dJ2_putCharsAt_1b622_0 : decode cJ2_putCharsAt_1b622 0 = .ok (.iload_n 1, 1) := by decide +kernel
theorem dJ2_putCharsAt_1b622_1 : decode cJ2_putCharsAt_1b622 1 = .ok (.iconst 5, 1) := by decide +kernel
theorem dJ2_putCharsAt_1b622_2 : decode cJ2_putCharsAt_1b622 2 = .ok (.iadd, 1) := by decide +kernel
theorem dJ2_putCharsAt_1b622_3 : decode cJ2_putCharsAt_1b622 3 = .ok (.istore 7, 2) := by decide +kernel
theorem dJ2_putCharsAt_1b622_5 : decode cJ2_putCharsAt_1b622 5 = .ok (.iload_n 1, 1) := by decide +kernel
theorem dJ2_putCharsAt_1b622_6 : decode cJ2_putCharsAt_1b622 6 = .ok (.iload 7, 2) := by decide +kernel
theorem dJ2_putCharsAt_1b622_8 : decode cJ2_putCharsAt_1b622 8 = .ok (.aload_n 0, 1) := by decide +kernel
theorem dJ2_putCharsAt_1b622_9 : decode cJ2_putCharsAt_1b622 9 = .ok (.invokestatic 96, 3) := by decide +kernel
theorem dJ2_putCharsAt_1b622_12 : decode cJ2_putCharsAt_1b622 12 = .ok (.aload_n 0, 1) := by decide +kernel
theorem dJ2_putCharsAt_1b622_13 : decode cJ2_putCharsAt_1b622 13 = .ok (.iload_n 1, 1) := by decide +kernel
theorem dJ2_putCharsAt_1b622_14 : decode cJ2_putCharsAt_1b622 14 = .ok (.iinc 1 1, 3) := by decide +kernel
theorem dJ2_putCharsAt_1b622_17 : decode cJ2_putCharsAt_1b622 17 = .ok (.iload_n 2, 1) := by decide +kernel
theorem dJ2_putCharsAt_1b622_18 : decode cJ2_putCharsAt_1b622 18 = .ok (.invokestatic 111, 3) := by decide +kernel
theorem dJ2_putCharsAt_1b622_21 : decode cJ2_putCharsAt_1b622 21 = .ok (.aload_n 0, 1) := by decide +kernel
theorem dJ2_putCharsAt_1b622_22 : decode cJ2_putCharsAt_1b622 22 = .ok (.iload_n 1, 1) := by decide +kernel
theorem dJ2_putCharsAt_1b622_23 : decode cJ2_putCharsAt_1b622 23 = .ok (.iinc 1 1, 3) := by decide +kernel
theorem dJ2_putCharsAt_1b622_26 : decode cJ2_putCharsAt_1b622 26 = .ok (.iload_n 3, 1) := by decide +kernel
theorem dJ2_putCharsAt_1b622_27 : decode cJ2_putCharsAt_1b622 27 = .ok (.invokestatic 111, 3) := by decide +kernel
theorem dJ2_putCharsAt_1b622_30 : decode cJ2_putCharsAt_1b622 30 = .ok (.aload_n 0, 1) := by decide +kernel
theorem dJ2_putCharsAt_1b622_31 : decode cJ2_putCharsAt_1b622 31 = .ok (.iload_n 1, 1) := by decide +kernel
theorem dJ2_putCharsAt_1b622_32 : decode cJ2_putCharsAt_1b622 32 = .ok (.iinc 1 1, 3) := by decide +kernel
theorem dJ2_putCharsAt_1b622_35 : decode cJ2_putCharsAt_1b622 35 = .ok (.iload 4, 2) := by decide +kernel
theorem dJ2_putCharsAt_1b622_37 : decode cJ2_putCharsAt_1b622 37 = .ok (.invokestatic 111, 3) := by decide +kernel
theorem dJ2_putCharsAt_1b622_40 : decode cJ2_putCharsAt_1b622 40 = .ok (.aload_n 0, 1) := by decide +kernel
theorem dJ2_putCharsAt_1b622_41 : decode cJ2_putCharsAt_1b622 41 = .ok (.iload_n 1, 1) := by decide +kernel
theorem dJ2_putCharsAt_1b622_42 : decode cJ2_putCharsAt_1b622 42 = .ok (.iinc 1 1, 3) := by decide +kernel
theorem dJ2_putCharsAt_1b622_45 : decode cJ2_putCharsAt_1b622 45 = .ok (.iload 5, 2) := by decide +kernel
theorem dJ2_putCharsAt_1b622_47 : decode cJ2_putCharsAt_1b622 47 = .ok (.invokestatic 111, 3) := by decide +kernel
theorem dJ2_putCharsAt_1b622_50 : decode cJ2_putCharsAt_1b622 50 = .ok (.aload_n 0, 1) := by decide +kernel
theorem dJ2_putCharsAt_1b622_51 : decode cJ2_putCharsAt_1b622 51 = .ok (.iload_n 1, 1) := by decide +kernel
theorem dJ2_putCharsAt_1b622_52 : decode cJ2_putCharsAt_1b622 52 = .ok (.iinc 1 1, 3) := by decide +kernel
theorem dJ2_putCharsAt_1b622_55 : decode cJ2_putCharsAt_1b622 55 = .ok (.iload 6, 2) := by decide +kernel
theorem dJ2_putCharsAt_1b622_57 : decode cJ2_putCharsAt_1b622 57 = .ok (.invokestatic 111, 3) := by decide +kernel
theorem dJ2_putCharsAt_1b622_60 : decode cJ2_putCharsAt_1b622 60 = .ok (.getstatic 44, 3) := by decide +kernel
theorem dJ2_putCharsAt_1b622_63 : decode cJ2_putCharsAt_1b622 63 = .ok (.ifCond .ne 17, 3) := by decide +kernel
theorem dJ2_putCharsAt_1b622_66 : decode cJ2_putCharsAt_1b622 66 = .ok (.iload_n 1, 1) := by decide +kernel
theorem dJ2_putCharsAt_1b622_67 : decode cJ2_putCharsAt_1b622 67 = .ok (.iload 7, 2) := by decide +kernel
theorem dJ2_putCharsAt_1b622_69 : decode cJ2_putCharsAt_1b622 69 = .ok (.if_icmp .eq 11, 3) := by decide +kernel
theorem dJ2_putCharsAt_1b622_72 : decode cJ2_putCharsAt_1b622 72 = .ok (.new 52, 3) := by decide +kernel
theorem dJ2_putCharsAt_1b622_75 : decode cJ2_putCharsAt_1b622 75 = .ok (.dup, 1) := by decide +kernel
theorem dJ2_putCharsAt_1b622_76 : decode cJ2_putCharsAt_1b622 76 = .ok (.invokespecial 66, 3) := by decide +kernel
theorem dJ2_putCharsAt_1b622_79 : decode cJ2_putCharsAt_1b622 79 = .ok (.athrow, 1) := by decide +kernel
theorem dJ2_putCharsAt_1b622_80 : decode cJ2_putCharsAt_1b622 80 = .ok (.iload 7, 2) := by decide +kernel
theorem dJ2_putCharsAt_1b622_82 : decode cJ2_putCharsAt_1b622 82 = .ok (.ireturn, 1) := by decide +kernel
theorem dJ2_charAt_3b067_0 : decode cJ2_charAt_3b067 0 = .ok (.iload_n 1, 1) := by decide +kernel
theorem dJ2_charAt_3b067_1 : decode cJ2_charAt_3b067 1 = .ok (.aload_n 0, 1) := by decide +kernel
theorem dJ2_charAt_3b067_2 : decode cJ2_charAt_3b067 2 = .ok (.invokestatic 67, 3) := by decide +kernel
theorem dJ2_charAt_3b067_5 : decode cJ2_charAt_3b067 5 = .ok (.aload_n 0, 1) := by decide +kernel
theorem dJ2_charAt_3b067_6 : decode cJ2_charAt_3b067 6 = .ok (.iload_n 1, 1) := by decide +kernel
theorem dJ2_charAt_3b067_7 : decode cJ2_charAt_3b067 7 = .ok (.invokestatic 71, 3) := by decide +kernel
theorem dJ2_charAt_3b067_10 : decode cJ2_charAt_3b067 10 = .ok (.ireturn, 1) := by decide +kernel
theorem dJ2_inflate_0e8fd_0 : decode cJ2_inflate_0e8fd 0 = .ok (.iload_n 3, 1) := by decide +kernel
theorem dJ2_inflate_0e8fd_1 : decode cJ2_inflate_0e8fd 1 = .ok (.iload 4, 2) := by decide +kernel
theorem dJ2_inflate_0e8fd_3 : decode cJ2_inflate_0e8fd 3 = .ok (.aload_n 2, 1) := by decide +kernel
theorem dJ2_inflate_0e8fd_4 : decode cJ2_inflate_0e8fd 4 = .ok (.invokestatic 173, 3) := by decide +kernel
theorem dJ2_inflate_0e8fd_7 : decode cJ2_inflate_0e8fd 7 = .ok (.iconst 0, 1) := by decide +kernel
theorem dJ2_inflate_0e8fd_8 : decode cJ2_inflate_0e8fd 8 = .ok (.istore 5, 2) := by decide +kernel
theorem dJ2_inflate_0e8fd_10 : decode cJ2_inflate_0e8fd 10 = .ok (.iload 5, 2) := by decide +kernel
theorem dJ2_inflate_0e8fd_12 : decode cJ2_inflate_0e8fd 12 = .ok (.iload 4, 2) := by decide +kernel
theorem dJ2_inflate_0e8fd_14 : decode cJ2_inflate_0e8fd 14 = .ok (.if_icmp .ge 27, 3) := by decide +kernel
theorem dJ2_inflate_0e8fd_17 : decode cJ2_inflate_0e8fd 17 = .ok (.aload_n 2, 1) := by decide +kernel
theorem dJ2_inflate_0e8fd_18 : decode cJ2_inflate_0e8fd 18 = .ok (.iload_n 3, 1) := by decide +kernel
theorem dJ2_inflate_0e8fd_19 : decode cJ2_inflate_0e8fd 19 = .ok (.iinc 3 1, 3) := by decide +kernel
theorem dJ2_inflate_0e8fd_22 : decode cJ2_inflate_0e8fd 22 = .ok (.aload_n 0, 1) := by decide +kernel
theorem dJ2_inflate_0e8fd_23 : decode cJ2_inflate_0e8fd 23 = .ok (.iload_n 1, 1) := by decide +kernel
theorem dJ2_inflate_0e8fd_24 : decode cJ2_inflate_0e8fd 24 = .ok (.iinc 1 1, 3) := by decide +kernel
theorem dJ2_inflate_0e8fd_27 : decode cJ2_inflate_0e8fd 27 = .ok (.baload, 1) := by decide +kernel
theorem dJ2_inflate_0e8fd_28 : decode cJ2_inflate_0e8fd 28 = .ok (.sipush 255, 3) := by decide +kernel
theorem dJ2_inflate_0e8fd_31 : decode cJ2_inflate_0e8fd 31 = .ok (.iand, 1) := by decide +kernel
theorem dJ2_inflate_0e8fd_32 : decode cJ2_inflate_0e8fd 32 = .ok (.invokestatic 111, 3) := by decide +kernel
theorem dJ2_inflate_0e8fd_35 : decode cJ2_inflate_0e8fd 35 = .ok (.iinc 5 1, 3) := by decide +kernel
theorem dJ2_inflate_0e8fd_38 : decode cJ2_inflate_0e8fd 38 = .ok (.goto (-28), 3) := by decide +kernel
theorem dJ2_inflate_0e8fd_41 : decode cJ2_inflate_0e8fd 41 = .ok (.return_, 1) := by decide +kernel
theorem dJ2_getChars_ba4f3_0 : decode cJ2_getChars_ba4f3 0 = .ok (.iload_n 1, 1) := by decide +kernel
theorem dJ2_getChars_ba4f3_1 : decode cJ2_getChars_ba4f3 1 = .ok (.istore 5, 2) := by decide +kernel
theorem dJ2_getChars_ba4f3_3 : decode cJ2_getChars_ba4f3 3 = .ok (.iload_n 0, 1) := by decide +kernel
theorem dJ2_getChars_ba4f3_4 : decode cJ2_getChars_ba4f3 4 = .ok (.ifCond .ge 7, 3) := by decide +kernel
theorem dJ2_getChars_ba4f3_7 : decode cJ2_getChars_ba4f3 7 = .ok (.iconst 1, 1) := by decide +kernel
theorem dJ2_getChars_ba4f3_8 : decode cJ2_getChars_ba4f3 8 = .ok (.goto 4, 3) := by decide +kernel
theorem dJ2_getChars_ba4f3_11 : decode cJ2_getChars_ba4f3 11 = .ok (.iconst 0, 1) := by decide +kernel
theorem dJ2_getChars_ba4f3_12 : decode cJ2_getChars_ba4f3 12 = .ok (.istore 6, 2) := by decide +kernel
theorem dJ2_getChars_ba4f3_14 : decode cJ2_getChars_ba4f3 14 = .ok (.iload 6, 2) := by decide +kernel
theorem dJ2_getChars_ba4f3_16 : decode cJ2_getChars_ba4f3 16 = .ok (.ifCond .ne 6, 3) := by decide +kernel
theorem dJ2_getChars_ba4f3_19 : decode cJ2_getChars_ba4f3 19 = .ok (.iload_n 0, 1) := by decide +kernel
theorem dJ2_getChars_ba4f3_20 : decode cJ2_getChars_ba4f3 20 = .ok (.ineg, 1) := by decide +kernel
theorem dJ2_getChars_ba4f3_21 : decode cJ2_getChars_ba4f3 21 = .ok (.istore_n 0, 1) := by decide +kernel
theorem dJ2_getChars_ba4f3_22 : decode cJ2_getChars_ba4f3 22 = .ok (.iload_n 0, 1) := by decide +kernel
theorem dJ2_getChars_ba4f3_23 : decode cJ2_getChars_ba4f3 23 = .ok (.bipush (-100), 2) := by decide +kernel
theorem dJ2_getChars_ba4f3_25 : decode cJ2_getChars_ba4f3 25 = .ok (.if_icmp .gt 51, 3) := by decide +kernel
theorem dJ2_getChars_ba4f3_28 : decode cJ2_getChars_ba4f3 28 = .ok (.iload_n 0, 1) := by decide +kernel
theorem dJ2_getChars_ba4f3_29 : decode cJ2_getChars_ba4f3 29 = .ok (.bipush 100, 2) := by decide +kernel
theorem dJ2_getChars_ba4f3_31 : decode cJ2_getChars_ba4f3 31 = .ok (.idiv, 1) := by decide +kernel
theorem dJ2_getChars_ba4f3_32 : decode cJ2_getChars_ba4f3 32 = .ok (.istore_n 3, 1) := by decide +kernel
theorem dJ2_getChars_ba4f3_33 : decode cJ2_getChars_ba4f3 33 = .ok (.iload_n 3, 1) := by decide +kernel
theorem dJ2_getChars_ba4f3_34 : decode cJ2_getChars_ba4f3 34 = .ok (.bipush 100, 2) := by decide +kernel
theorem dJ2_getChars_ba4f3_36 : decode cJ2_getChars_ba4f3 36 = .ok (.imul, 1) := by decide +kernel
theorem dJ2_getChars_ba4f3_37 : decode cJ2_getChars_ba4f3 37 = .ok (.iload_n 0, 1) := by decide +kernel
theorem dJ2_getChars_ba4f3_38 : decode cJ2_getChars_ba4f3 38 = .ok (.isub, 1) := by decide +kernel
theorem dJ2_getChars_ba4f3_39 : decode cJ2_getChars_ba4f3 39 = .ok (.istore 4, 2) := by decide +kernel
theorem dJ2_getChars_ba4f3_41 : decode cJ2_getChars_ba4f3 41 = .ok (.iload_n 3, 1) := by decide +kernel
theorem dJ2_getChars_ba4f3_42 : decode cJ2_getChars_ba4f3 42 = .ok (.istore_n 0, 1) := by decide +kernel
theorem dJ2_getChars_ba4f3_43 : decode cJ2_getChars_ba4f3 43 = .ok (.aload_n 2, 1) := by decide +kernel
theorem dJ2_getChars_ba4f3_44 : decode cJ2_getChars_ba4f3 44 = .ok (.iinc 5 (-1), 3) := by decide +kernel
theorem dJ2_getChars_ba4f3_47 : decode cJ2_getChars_ba4f3 47 = .ok (.iload 5, 2) := by decide +kernel
theorem dJ2_getChars_ba4f3_49 : decode cJ2_getChars_ba4f3 49 = .ok (.getstatic 403, 3) := by decide +kernel
theorem dJ2_getChars_ba4f3_52 : decode cJ2_getChars_ba4f3 52 = .ok (.iload 4, 2) := by decide +kernel
theorem dJ2_getChars_ba4f3_54 : decode cJ2_getChars_ba4f3 54 = .ok (.baload, 1) := by decide +kernel
theorem dJ2_getChars_ba4f3_55 : decode cJ2_getChars_ba4f3 55 = .ok (.invokestatic 111, 3) := by decide +kernel
theorem dJ2_getChars_ba4f3_58 : decode cJ2_getChars_ba4f3 58 = .ok (.aload_n 2, 1) := by decide +kernel
theorem dJ2_getChars_ba4f3_59 : decode cJ2_getChars_ba4f3 59 = .ok (.iinc 5 (-1), 3) := by decide +kernel
theorem dJ2_getChars_ba4f3_62 : decode cJ2_getChars_ba4f3 62 = .ok (.iload 5, 2) := by decide +kernel
theorem dJ2_getChars_ba4f3_64 : decode cJ2_getChars_ba4f3 64 = .ok (.getstatic 407, 3) := by decide +kernel
theorem dJ2_getChars_ba4f3_67 : decode cJ2_getChars_ba4f3 67 = .ok (.iload 4, 2) := by decide +kernel
theorem dJ2_getChars_ba4f3_69 : decode cJ2_getChars_ba4f3 69 = .ok (.baload, 1) := by decide +kernel
theorem dJ2_getChars_ba4f3_70 : decode cJ2_getChars_ba4f3 70 = .ok (.invokestatic 111, 3) := by decide +kernel
theorem dJ2_getChars_ba4f3_73 : decode cJ2_getChars_ba4f3 73 = .ok (.goto (-51), 3) := by decide +kernel
theorem dJ2_getChars_ba4f3_76 : decode cJ2_getChars_ba4f3 76 = .ok (.aload_n 2, 1) := by decide +kernel
theorem dJ2_getChars_ba4f3_77 : decode cJ2_getChars_ba4f3 77 = .ok (.iinc 5 (-1), 3) := by decide +kernel
theorem dJ2_getChars_ba4f3_80 : decode cJ2_getChars_ba4f3 80 = .ok (.iload 5, 2) := by decide +kernel
theorem dJ2_getChars_ba4f3_82 : decode cJ2_getChars_ba4f3 82 = .ok (.getstatic 403, 3) := by decide +kernel
theorem dJ2_getChars_ba4f3_85 : decode cJ2_getChars_ba4f3 85 = .ok (.iload_n 0, 1) := by decide +kernel
theorem dJ2_getChars_ba4f3_86 : decode cJ2_getChars_ba4f3 86 = .ok (.ineg, 1) := by decide +kernel
theorem dJ2_getChars_ba4f3_87 : decode cJ2_getChars_ba4f3 87 = .ok (.baload, 1) := by decide +kernel
theorem dJ2_getChars_ba4f3_88 : decode cJ2_getChars_ba4f3 88 = .ok (.invokestatic 111, 3) := by decide +kernel
theorem dJ2_getChars_ba4f3_91 : decode cJ2_getChars_ba4f3 91 = .ok (.iload_n 0, 1) := by decide +kernel
theorem dJ2_getChars_ba4f3_92 : decode cJ2_getChars_ba4f3 92 = .ok (.bipush (-9), 2) := by decide +kernel
theorem dJ2_getChars_ba4f3_94 : decode cJ2_getChars_ba4f3 94 = .ok (.if_icmp .ge 18, 3) := by decide +kernel
theorem dJ2_getChars_ba4f3_97 : decode cJ2_getChars_ba4f3 97 = .ok (.aload_n 2, 1) := by decide +kernel
theorem dJ2_getChars_ba4f3_98 : decode cJ2_getChars_ba4f3 98 = .ok (.iinc 5 (-1), 3) := by decide +kernel
theorem dJ2_getChars_ba4f3_101 : decode cJ2_getChars_ba4f3 101 = .ok (.iload 5, 2) := by decide +kernel
theorem dJ2_getChars_ba4f3_103 : decode cJ2_getChars_ba4f3 103 = .ok (.getstatic 407, 3) := by decide +kernel
theorem dJ2_getChars_ba4f3_106 : decode cJ2_getChars_ba4f3 106 = .ok (.iload_n 0, 1) := by decide +kernel
theorem dJ2_getChars_ba4f3_107 : decode cJ2_getChars_ba4f3 107 = .ok (.ineg, 1) := by decide +kernel
theorem dJ2_getChars_ba4f3_108 : decode cJ2_getChars_ba4f3 108 = .ok (.baload, 1) := by decide +kernel
theorem dJ2_getChars_ba4f3_109 : decode cJ2_getChars_ba4f3 109 = .ok (.invokestatic 111, 3) := by decide +kernel
theorem dJ2_getChars_ba4f3_112 : decode cJ2_getChars_ba4f3 112 = .ok (.iload 6, 2) := by decide +kernel
theorem dJ2_getChars_ba4f3_114 : decode cJ2_getChars_ba4f3 114 = .ok (.ifCond .eq 14, 3) := by decide +kernel
theorem dJ2_getChars_ba4f3_117 : decode cJ2_getChars_ba4f3 117 = .ok (.aload_n 2, 1) := by decide +kernel
theorem dJ2_getChars_ba4f3_118 : decode cJ2_getChars_ba4f3 118 = .ok (.iinc 5 (-1), 3) := by decide +kernel
theorem dJ2_getChars_ba4f3_121 : decode cJ2_getChars_ba4f3 121 = .ok (.iload 5, 2) := by decide +kernel
theorem dJ2_getChars_ba4f3_123 : decode cJ2_getChars_ba4f3 123 = .ok (.bipush 45, 2) := by decide +kernel
theorem dJ2_getChars_ba4f3_125 : decode cJ2_getChars_ba4f3 125 = .ok (.invokestatic 111, 3) := by decide +kernel
theorem dJ2_getChars_ba4f3_128 : decode cJ2_getChars_ba4f3 128 = .ok (.iload 5, 2) := by decide +kernel
theorem dJ2_getChars_ba4f3_130 : decode cJ2_getChars_ba4f3 130 = .ok (.ireturn, 1) := by decide +kernel
theorem dJ2_checkIndex_2214a_0 : decode cJ2_checkIndex_2214a 0 = .ok (.iload_n 0, 1) := by decide +kernel
theorem dJ2_checkIndex_2214a_1 : decode cJ2_checkIndex_2214a 1 = .ok (.aload_n 1, 1) := by decide +kernel
theorem dJ2_checkIndex_2214a_2 : decode cJ2_checkIndex_2214a 2 = .ok (.invokestatic 48, 3) := by decide +kernel
theorem dJ2_checkIndex_2214a_5 : decode cJ2_checkIndex_2214a 5 = .ok (.invokestatic 414, 3) := by decide +kernel
theorem dJ2_checkIndex_2214a_8 : decode cJ2_checkIndex_2214a 8 = .ok (.return_, 1) := by decide +kernel
theorem dJ2_checkBoundsBeginEnd_d044e_0 : decode cJ2_checkBoundsBeginEnd_d044e 0 = .ok (.iload_n 0, 1) := by decide +kernel
theorem dJ2_checkBoundsBeginEnd_d044e_1 : decode cJ2_checkBoundsBeginEnd_d044e 1 = .ok (.iload_n 1, 1) := by decide +kernel
theorem dJ2_checkBoundsBeginEnd_d044e_2 : decode cJ2_checkBoundsBeginEnd_d044e 2 = .ok (.aload_n 2, 1) := by decide +kernel
theorem dJ2_checkBoundsBeginEnd_d044e_3 : decode cJ2_checkBoundsBeginEnd_d044e 3 = .ok (.invokestatic 48, 3) := by decide +kernel
theorem dJ2_checkBoundsBeginEnd_d044e_6 : decode cJ2_checkBoundsBeginEnd_d044e 6 = .ok (.invokestatic 241, 3) := by decide +kernel
theorem dJ2_checkBoundsBeginEnd_d044e_9 : decode cJ2_checkBoundsBeginEnd_d044e 9 = .ok (.return_, 1) := by decide +kernel
theorem dJ2_checkBoundsOffCount_d044e_0 : decode cJ2_checkBoundsOffCount_d044e 0 = .ok (.iload_n 0, 1) := by decide +kernel
theorem dJ2_checkBoundsOffCount_d044e_1 : decode cJ2_checkBoundsOffCount_d044e 1 = .ok (.iload_n 1, 1) := by decide +kernel
theorem dJ2_checkBoundsOffCount_d044e_2 : decode cJ2_checkBoundsOffCount_d044e 2 = .ok (.aload_n 2, 1) := by decide +kernel
theorem dJ2_checkBoundsOffCount_d044e_3 : decode cJ2_checkBoundsOffCount_d044e 3 = .ok (.invokestatic 48, 3) := by decide +kernel
theorem dJ2_checkBoundsOffCount_d044e_6 : decode cJ2_checkBoundsOffCount_d044e 6 = .ok (.invokestatic 419, 3) := by decide +kernel
theorem dJ2_checkBoundsOffCount_d044e_9 : decode cJ2_checkBoundsOffCount_d044e 9 = .ok (.pop, 1) := by decide +kernel
theorem dJ2_checkBoundsOffCount_d044e_10 : decode cJ2_checkBoundsOffCount_d044e 10 = .ok (.return_, 1) := by decide +kernel
theorem dJ7_fill_53178_0 : decode cJ7_fill_53178 0 = .ok (.iconst 0, 1) := by decide +kernel
theorem dJ7_fill_53178_1 : decode cJ7_fill_53178 1 = .ok (.istore_n 2, 1) := by decide +kernel
theorem dJ7_fill_53178_2 : decode cJ7_fill_53178 2 = .ok (.aload_n 0, 1) := by decide +kernel
theorem dJ7_fill_53178_3 : decode cJ7_fill_53178 3 = .ok (.arraylength, 1) := by decide +kernel
theorem dJ7_fill_53178_4 : decode cJ7_fill_53178 4 = .ok (.istore_n 3, 1) := by decide +kernel
theorem dJ7_fill_53178_5 : decode cJ7_fill_53178 5 = .ok (.iload_n 2, 1) := by decide +kernel
theorem dJ7_fill_53178_6 : decode cJ7_fill_53178 6 = .ok (.iload_n 3, 1) := by decide +kernel
theorem dJ7_fill_53178_7 : decode cJ7_fill_53178 7 = .ok (.if_icmp .ge 13, 3) := by decide +kernel
theorem dJ7_fill_53178_10 : decode cJ7_fill_53178 10 = .ok (.aload_n 0, 1) := by decide +kernel
theorem dJ7_fill_53178_11 : decode cJ7_fill_53178 11 = .ok (.iload_n 2, 1) := by decide +kernel
theorem dJ7_fill_53178_12 : decode cJ7_fill_53178 12 = .ok (.iload_n 1, 1) := by decide +kernel
theorem dJ7_fill_53178_13 : decode cJ7_fill_53178 13 = .ok (.iastore, 1) := by decide +kernel
theorem dJ7_fill_53178_14 : decode cJ7_fill_53178 14 = .ok (.iinc 2 1, 3) := by decide +kernel
theorem dJ7_fill_53178_17 : decode cJ7_fill_53178 17 = .ok (.goto (-12), 3) := by decide +kernel
theorem dJ7_fill_53178_20 : decode cJ7_fill_53178 20 = .ok (.return_, 1) := by decide +kernel
theorem dJ7_copyOf_9075b_0 : decode cJ7_copyOf_9075b 0 = .ok (.iload_n 1, 1) := by decide +kernel
theorem dJ7_copyOf_9075b_1 : decode cJ7_copyOf_9075b 1 = .ok (.aload_n 0, 1) := by decide +kernel
theorem dJ7_copyOf_9075b_2 : decode cJ7_copyOf_9075b 2 = .ok (.arraylength, 1) := by decide +kernel
theorem dJ7_copyOf_9075b_3 : decode cJ7_copyOf_9075b 3 = .ok (.if_icmp .ne 11, 3) := by decide +kernel
theorem dJ7_copyOf_9075b_6 : decode cJ7_copyOf_9075b 6 = .ok (.aload_n 0, 1) := by decide +kernel
theorem dJ7_copyOf_9075b_7 : decode cJ7_copyOf_9075b 7 = .ok (.invokevirtual 310, 3) := by decide +kernel
theorem dJ7_copyOf_9075b_10 : decode cJ7_copyOf_9075b 10 = .ok (.checkcast 311, 3) := by decide +kernel
theorem dJ7_copyOf_9075b_13 : decode cJ7_copyOf_9075b 13 = .ok (.areturn, 1) := by decide +kernel
theorem dJ7_copyOf_9075b_14 : decode cJ7_copyOf_9075b 14 = .ok (.iload_n 1, 1) := by decide +kernel
theorem dJ7_copyOf_9075b_15 : decode cJ7_copyOf_9075b 15 = .ok (.newarray .byte, 2) := by decide +kernel
theorem dJ7_copyOf_9075b_17 : decode cJ7_copyOf_9075b 17 = .ok (.astore_n 2, 1) := by decide +kernel
theorem dJ7_copyOf_9075b_18 : decode cJ7_copyOf_9075b 18 = .ok (.aload_n 0, 1) := by decide +kernel
theorem dJ7_copyOf_9075b_19 : decode cJ7_copyOf_9075b 19 = .ok (.iconst 0, 1) := by decide +kernel
theorem dJ7_copyOf_9075b_20 : decode cJ7_copyOf_9075b 20 = .ok (.aload_n 2, 1) := by decide +kernel
theorem dJ7_copyOf_9075b_21 : decode cJ7_copyOf_9075b 21 = .ok (.iconst 0, 1) := by decide +kernel
theorem dJ7_copyOf_9075b_22 : decode cJ7_copyOf_9075b 22 = .ok (.aload_n 0, 1) := by decide +kernel
theorem dJ7_copyOf_9075b_23 : decode cJ7_copyOf_9075b 23 = .ok (.arraylength, 1) := by decide +kernel
theorem dJ7_copyOf_9075b_24 : decode cJ7_copyOf_9075b 24 = .ok (.iload_n 1, 1) := by decide +kernel
theorem dJ7_copyOf_9075b_25 : decode cJ7_copyOf_9075b 25 = .ok (.invokestatic 304, 3) := by decide +kernel
theorem dJ7_copyOf_9075b_28 : decode cJ7_copyOf_9075b 28 = .ok (.invokestatic 150, 3) := by decide +kernel
theorem dJ7_copyOf_9075b_31 : decode cJ7_copyOf_9075b 31 = .ok (.aload_n 2, 1) := by decide +kernel
theorem dJ7_copyOf_9075b_32 : decode cJ7_copyOf_9075b 32 = .ok (.areturn, 1) := by decide +kernel
theorem dJ7_copyOf_59c91_0 : decode cJ7_copyOf_59c91 0 = .ok (.iload_n 1, 1) := by decide +kernel
theorem dJ7_copyOf_59c91_1 : decode cJ7_copyOf_59c91 1 = .ok (.aload_n 0, 1) := by decide +kernel
theorem dJ7_copyOf_59c91_2 : decode cJ7_copyOf_59c91 2 = .ok (.arraylength, 1) := by decide +kernel
theorem dJ7_copyOf_59c91_3 : decode cJ7_copyOf_59c91 3 = .ok (.if_icmp .ne 11, 3) := by decide +kernel
theorem dJ7_copyOf_59c91_6 : decode cJ7_copyOf_59c91 6 = .ok (.aload_n 0, 1) := by decide +kernel
theorem dJ7_copyOf_59c91_7 : decode cJ7_copyOf_59c91 7 = .ok (.invokevirtual 316, 3) := by decide +kernel
theorem dJ7_copyOf_59c91_10 : decode cJ7_copyOf_59c91 10 = .ok (.checkcast 317, 3) := by decide +kernel
theorem dJ7_copyOf_59c91_13 : decode cJ7_copyOf_59c91 13 = .ok (.areturn, 1) := by decide +kernel
theorem dJ7_copyOf_59c91_14 : decode cJ7_copyOf_59c91 14 = .ok (.iload_n 1, 1) := by decide +kernel
theorem dJ7_copyOf_59c91_15 : decode cJ7_copyOf_59c91 15 = .ok (.newarray .int, 2) := by decide +kernel
theorem dJ7_copyOf_59c91_17 : decode cJ7_copyOf_59c91 17 = .ok (.astore_n 2, 1) := by decide +kernel
theorem dJ7_copyOf_59c91_18 : decode cJ7_copyOf_59c91 18 = .ok (.aload_n 0, 1) := by decide +kernel
theorem dJ7_copyOf_59c91_19 : decode cJ7_copyOf_59c91 19 = .ok (.iconst 0, 1) := by decide +kernel
theorem dJ7_copyOf_59c91_20 : decode cJ7_copyOf_59c91 20 = .ok (.aload_n 2, 1) := by decide +kernel
theorem dJ7_copyOf_59c91_21 : decode cJ7_copyOf_59c91 21 = .ok (.iconst 0, 1) := by decide +kernel
theorem dJ7_copyOf_59c91_22 : decode cJ7_copyOf_59c91 22 = .ok (.aload_n 0, 1) := by decide +kernel
theorem dJ7_copyOf_59c91_23 : decode cJ7_copyOf_59c91 23 = .ok (.arraylength, 1) := by decide +kernel
theorem dJ7_copyOf_59c91_24 : decode cJ7_copyOf_59c91 24 = .ok (.iload_n 1, 1) := by decide +kernel
theorem dJ7_copyOf_59c91_25 : decode cJ7_copyOf_59c91 25 = .ok (.invokestatic 304, 3) := by decide +kernel
theorem dJ7_copyOf_59c91_28 : decode cJ7_copyOf_59c91 28 = .ok (.invokestatic 150, 3) := by decide +kernel
theorem dJ7_copyOf_59c91_31 : decode cJ7_copyOf_59c91 31 = .ok (.aload_n 2, 1) := by decide +kernel
theorem dJ7_copyOf_59c91_32 : decode cJ7_copyOf_59c91 32 = .ok (.areturn, 1) := by decide +kernel
theorem dJ7_checkLength_df160_0 : decode cJ7_checkLength_df160 0 = .ok (.iload_n 1, 1) := by decide +kernel
theorem dJ7_checkLength_df160_1 : decode cJ7_checkLength_df160 1 = .ok (.iload_n 0, 1) := by decide +kernel
theorem dJ7_checkLength_df160_2 : decode cJ7_checkLength_df160 2 = .ok (.if_icmp .ge 35, 3) := by decide +kernel
theorem dJ7_checkLength_df160_5 : decode cJ7_checkLength_df160 5 = .ok (.new 43, 3) := by decide +kernel
theorem dJ7_checkLength_df160_8 : decode cJ7_checkLength_df160 8 = .ok (.dup, 1) := by decide +kernel
theorem dJ7_checkLength_df160_9 : decode cJ7_checkLength_df160 9 = .ok (.new 45, 3) := by decide +kernel
theorem dJ7_checkLength_df160_12 : decode cJ7_checkLength_df160 12 = .ok (.dup, 1) := by decide +kernel
theorem dJ7_checkLength_df160_13 : decode cJ7_checkLength_df160 13 = .ok (.invokespecial 47, 3) := by decide +kernel
theorem dJ7_checkLength_df160_16 : decode cJ7_checkLength_df160 16 = .ok (.iload_n 0, 1) := by decide +kernel
theorem dJ7_checkLength_df160_17 : decode cJ7_checkLength_df160 17 = .ok (.invokevirtual 54, 3) := by decide +kernel
theorem dJ7_checkLength_df160_20 : decode cJ7_checkLength_df160 20 = .ok (.ldc_w 337, 3) := by decide +kernel
theorem dJ7_checkLength_df160_23 : decode cJ7_checkLength_df160 23 = .ok (.invokevirtual 50, 3) := by decide +kernel
theorem dJ7_checkLength_df160_26 : decode cJ7_checkLength_df160 26 = .ok (.iload_n 1, 1) := by decide +kernel
theorem dJ7_checkLength_df160_27 : decode cJ7_checkLength_df160 27 = .ok (.invokevirtual 54, 3) := by decide +kernel
theorem dJ7_checkLength_df160_30 : decode cJ7_checkLength_df160 30 = .ok (.invokevirtual 61, 3) := by decide +kernel
theorem dJ7_checkLength_df160_33 : decode cJ7_checkLength_df160 33 = .ok (.invokespecial 65, 3) := by decide +kernel
theorem dJ7_checkLength_df160_36 : decode cJ7_checkLength_df160 36 = .ok (.athrow, 1) := by decide +kernel
theorem dJ7_checkLength_df160_37 : decode cJ7_checkLength_df160 37 = .ok (.return_, 1) := by decide +kernel
theorem dJ7_copyOfRange_39247_0 : decode cJ7_copyOfRange_39247 0 = .ok (.iload_n 1, 1) := by decide +kernel
theorem dJ7_copyOfRange_39247_1 : decode cJ7_copyOfRange_39247 1 = .ok (.ifCond .ne 9, 3) := by decide +kernel
theorem dJ7_copyOfRange_39247_4 : decode cJ7_copyOfRange_39247 4 = .ok (.iload_n 2, 1) := by decide +kernel
theorem dJ7_copyOfRange_39247_5 : decode cJ7_copyOfRange_39247 5 = .ok (.aload_n 0, 1) := by decide +kernel
theorem dJ7_copyOfRange_39247_6 : decode cJ7_copyOfRange_39247 6 = .ok (.arraylength, 1) := by decide +kernel
theorem dJ7_copyOfRange_39247_7 : decode cJ7_copyOfRange_39247 7 = .ok (.if_icmp .eq 10, 3) := by decide +kernel
theorem dJ7_copyOfRange_39247_10 : decode cJ7_copyOfRange_39247 10 = .ok (.aload_n 0, 1) := by decide +kernel
theorem dJ7_copyOfRange_39247_11 : decode cJ7_copyOfRange_39247 11 = .ok (.iload_n 1, 1) := by decide +kernel
theorem dJ7_copyOfRange_39247_12 : decode cJ7_copyOfRange_39247 12 = .ok (.iload_n 2, 1) := by decide +kernel
theorem dJ7_copyOfRange_39247_13 : decode cJ7_copyOfRange_39247 13 = .ok (.invokestatic 339, 3) := by decide +kernel
theorem dJ7_copyOfRange_39247_16 : decode cJ7_copyOfRange_39247 16 = .ok (.areturn, 1) := by decide +kernel
theorem dJ7_copyOfRange_39247_17 : decode cJ7_copyOfRange_39247 17 = .ok (.aload_n 0, 1) := by decide +kernel
theorem dJ7_copyOfRange_39247_18 : decode cJ7_copyOfRange_39247 18 = .ok (.invokevirtual 310, 3) := by decide +kernel
theorem dJ7_copyOfRange_39247_21 : decode cJ7_copyOfRange_39247 21 = .ok (.checkcast 311, 3) := by decide +kernel
theorem dJ7_copyOfRange_39247_24 : decode cJ7_copyOfRange_39247 24 = .ok (.areturn, 1) := by decide +kernel
theorem dJ7_copyOfRangeByte_39247_0 : decode cJ7_copyOfRangeByte_39247 0 = .ok (.iload_n 1, 1) := by decide +kernel
theorem dJ7_copyOfRangeByte_39247_1 : decode cJ7_copyOfRangeByte_39247 1 = .ok (.iload_n 2, 1) := by decide +kernel
theorem dJ7_copyOfRangeByte_39247_2 : decode cJ7_copyOfRangeByte_39247 2 = .ok (.invokestatic 343, 3) := by decide +kernel
theorem dJ7_copyOfRangeByte_39247_5 : decode cJ7_copyOfRangeByte_39247 5 = .ok (.iload_n 2, 1) := by decide +kernel
theorem dJ7_copyOfRangeByte_39247_6 : decode cJ7_copyOfRangeByte_39247 6 = .ok (.iload_n 1, 1) := by decide +kernel
theorem dJ7_copyOfRangeByte_39247_7 : decode cJ7_copyOfRangeByte_39247 7 = .ok (.isub, 1) := by decide +kernel
theorem dJ7_copyOfRangeByte_39247_8 : decode cJ7_copyOfRangeByte_39247 8 = .ok (.istore_n 3, 1) := by decide +kernel
theorem dJ7_copyOfRangeByte_39247_9 : decode cJ7_copyOfRangeByte_39247 9 = .ok (.iload_n 3, 1) := by decide +kernel
theorem dJ7_copyOfRangeByte_39247_10 : decode cJ7_copyOfRangeByte_39247 10 = .ok (.newarray .byte, 2) := by decide +kernel
theorem dJ7_copyOfRangeByte_39247_12 : decode cJ7_copyOfRangeByte_39247 12 = .ok (.astore 4, 2) := by decide +kernel
theorem dJ7_copyOfRangeByte_39247_14 : decode cJ7_copyOfRangeByte_39247 14 = .ok (.aload_n 0, 1) := by decide +kernel
theorem dJ7_copyOfRangeByte_39247_15 : decode cJ7_copyOfRangeByte_39247 15 = .ok (.iload_n 1, 1) := by decide +kernel
theorem dJ7_copyOfRangeByte_39247_16 : decode cJ7_copyOfRangeByte_39247 16 = .ok (.aload 4, 2) := by decide +kernel
theorem dJ7_copyOfRangeByte_39247_18 : decode cJ7_copyOfRangeByte_39247 18 = .ok (.iconst 0, 1) := by decide +kernel
theorem dJ7_copyOfRangeByte_39247_19 : decode cJ7_copyOfRangeByte_39247 19 = .ok (.aload_n 0, 1) := by decide +kernel
theorem dJ7_copyOfRangeByte_39247_20 : decode cJ7_copyOfRangeByte_39247 20 = .ok (.arraylength, 1) := by decide +kernel
theorem dJ7_copyOfRangeByte_39247_21 : decode cJ7_copyOfRangeByte_39247 21 = .ok (.iload_n 1, 1) := by decide +kernel
theorem dJ7_copyOfRangeByte_39247_22 : decode cJ7_copyOfRangeByte_39247 22 = .ok (.isub, 1) := by decide +kernel
theorem dJ7_copyOfRangeByte_39247_23 : decode cJ7_copyOfRangeByte_39247 23 = .ok (.iload_n 3, 1) := by decide +kernel
theorem dJ7_copyOfRangeByte_39247_24 : decode cJ7_copyOfRangeByte_39247 24 = .ok (.invokestatic 304, 3) := by decide +kernel
theorem dJ7_copyOfRangeByte_39247_27 : decode cJ7_copyOfRangeByte_39247 27 = .ok (.invokestatic 150, 3) := by decide +kernel
theorem dJ7_copyOfRangeByte_39247_30 : decode cJ7_copyOfRangeByte_39247 30 = .ok (.aload 4, 2) := by decide +kernel
theorem dJ7_copyOfRangeByte_39247_32 : decode cJ7_copyOfRangeByte_39247 32 = .ok (.areturn, 1) := by decide +kernel
theorem dJx40b00_init_da8c8_0 : decode cJx40b00_init_da8c8 0 = .ok (.aload_n 0, 1) := by decide +kernel
theorem dJx40b00_init_da8c8_1 : decode cJx40b00_init_da8c8 1 = .ok (.invokespecial 5, 3) := by decide +kernel
theorem dJx40b00_init_da8c8_4 : decode cJx40b00_init_da8c8 4 = .ok (.aload_n 0, 1) := by decide +kernel
theorem dJx40b00_init_da8c8_5 : decode cJx40b00_init_da8c8 5 = .ok (.bipush 15, 2) := by decide +kernel
theorem dJx40b00_init_da8c8_7 : decode cJx40b00_init_da8c8 7 = .ok (.newarray .byte, 2) := by decide +kernel
theorem dJx40b00_init_da8c8_9 : decode cJx40b00_init_da8c8 9 = .ok (.putfield 11, 3) := by decide +kernel
theorem dJx40b00_init_da8c8_12 : decode cJx40b00_init_da8c8 12 = .ok (.return_, 1) := by decide +kernel
theorem dJx40b00_appendTo_8d9f2_0 : decode cJx40b00_appendTo_8d9f2 0 = .ok (.new 3, 3) := by decide +kernel
theorem dJx40b00_appendTo_8d9f2_3 : decode cJx40b00_appendTo_8d9f2 3 = .ok (.dup, 1) := by decide +kernel
theorem dJx40b00_appendTo_8d9f2_4 : decode cJx40b00_appendTo_8d9f2 4 = .ok (.invokespecial 15, 3) := by decide +kernel
theorem dJx40b00_appendTo_8d9f2_7 : decode cJx40b00_appendTo_8d9f2 7 = .ok (.fload_n 0, 1) := by decide +kernel
theorem dJx40b00_appendTo_8d9f2_8 : decode cJx40b00_appendTo_8d9f2 8 = .ok (.aload_n 1, 1) := by decide +kernel
theorem dJx40b00_appendTo_8d9f2_9 : decode cJx40b00_appendTo_8d9f2 9 = .ok (.invokevirtual 20, 3) := by decide +kernel
theorem dJx40b00_appendTo_8d9f2_12 : decode cJx40b00_appendTo_8d9f2 12 = .ok (.areturn, 1) := by decide +kernel
theorem dJx40b00_appendDecimalTo_8d9f2_0 : decode cJx40b00_appendDecimalTo_8d9f2 0 = .ok (.aload_n 0, 1) := by decide +kernel
theorem dJx40b00_appendDecimalTo_8d9f2_1 : decode cJx40b00_appendDecimalTo_8d9f2 1 = .ok (.fload_n 1, 1) := by decide +kernel
theorem dJx40b00_appendDecimalTo_8d9f2_2 : decode cJx40b00_appendDecimalTo_8d9f2 2 = .ok (.invokevirtual 24, 3) := by decide +kernel
theorem dJx40b00_appendDecimalTo_8d9f2_5 : decode cJx40b00_appendDecimalTo_8d9f2 5 = .ok (.tableswitch 190 0 4 #[35, 154, 163, 172, 181], 35) := by decide +kernel
theorem dJx40b00_appendDecimalTo_8d9f2_40 : decode cJx40b00_appendDecimalTo_8d9f2 40 = .ok (.aload_n 0, 1) := by decide +kernel
theorem dJx40b00_appendDecimalTo_8d9f2_41 : decode cJx40b00_appendDecimalTo_8d9f2 41 = .ok (.getfield 42, 3) := by decide +kernel
theorem dJx40b00_appendDecimalTo_8d9f2_44 : decode cJx40b00_appendDecimalTo_8d9f2 44 = .ok (.iconst 1, 1) := by decide +kernel
theorem dJx40b00_appendDecimalTo_8d9f2_45 : decode cJx40b00_appendDecimalTo_8d9f2 45 = .ok (.iadd, 1) := by decide +kernel
theorem dJx40b00_appendDecimalTo_8d9f2_46 : decode cJx40b00_appendDecimalTo_8d9f2 46 = .ok (.newarray .char, 2) := by decide +kernel
theorem dJx40b00_appendDecimalTo_8d9f2_48 : decode cJx40b00_appendDecimalTo_8d9f2 48 = .ok (.astore_n 3, 1) := by decide +kernel
theorem dJx40b00_appendDecimalTo_8d9f2_49 : decode cJx40b00_appendDecimalTo_8d9f2 49 = .ok (.iconst 0, 1) := by decide +kernel
theorem dJx40b00_appendDecimalTo_8d9f2_50 : decode cJx40b00_appendDecimalTo_8d9f2 50 = .ok (.istore 4, 2) := by decide +kernel
theorem dJx40b00_appendDecimalTo_8d9f2_52 : decode cJx40b00_appendDecimalTo_8d9f2 52 = .ok (.iload 4, 2) := by decide +kernel
theorem dJx40b00_appendDecimalTo_8d9f2_54 : decode cJx40b00_appendDecimalTo_8d9f2 54 = .ok (.aload_n 3, 1) := by decide +kernel
theorem dJx40b00_appendDecimalTo_8d9f2_55 : decode cJx40b00_appendDecimalTo_8d9f2 55 = .ok (.arraylength, 1) := by decide +kernel
theorem dJx40b00_appendDecimalTo_8d9f2_56 : decode cJx40b00_appendDecimalTo_8d9f2 56 = .ok (.if_icmp .ge 21, 3) := by decide +kernel
theorem dJx40b00_appendDecimalTo_8d9f2_59 : decode cJx40b00_appendDecimalTo_8d9f2 59 = .ok (.aload_n 3, 1) := by decide +kernel
theorem dJx40b00_appendDecimalTo_8d9f2_60 : decode cJx40b00_appendDecimalTo_8d9f2 60 = .ok (.iload 4, 2) := by decide +kernel
theorem dJx40b00_appendDecimalTo_8d9f2_62 : decode cJx40b00_appendDecimalTo_8d9f2 62 = .ok (.aload_n 0, 1) := by decide +kernel
theorem dJx40b00_appendDecimalTo_8d9f2_63 : decode cJx40b00_appendDecimalTo_8d9f2 63 = .ok (.getfield 11, 3) := by decide +kernel
theorem dJx40b00_appendDecimalTo_8d9f2_66 : decode cJx40b00_appendDecimalTo_8d9f2 66 = .ok (.iload 4, 2) := by decide +kernel
theorem dJx40b00_appendDecimalTo_8d9f2_68 : decode cJx40b00_appendDecimalTo_8d9f2 68 = .ok (.baload, 1) := by decide +kernel
theorem dJx40b00_appendDecimalTo_8d9f2_69 : decode cJx40b00_appendDecimalTo_8d9f2 69 = .ok (.i2c, 1) := by decide +kernel
theorem dJx40b00_appendDecimalTo_8d9f2_70 : decode cJx40b00_appendDecimalTo_8d9f2 70 = .ok (.castore, 1) := by decide +kernel
theorem dJx40b00_appendDecimalTo_8d9f2_71 : decode cJx40b00_appendDecimalTo_8d9f2 71 = .ok (.iinc 4 1, 3) := by decide +kernel
theorem dJx40b00_appendDecimalTo_8d9f2_74 : decode cJx40b00_appendDecimalTo_8d9f2 74 = .ok (.goto (-22), 3) := by decide +kernel
theorem dJx40b00_appendDecimalTo_8d9f2_77 : decode cJx40b00_appendDecimalTo_8d9f2 77 = .ok (.aload_n 2, 1) := by decide +kernel
theorem dJx40b00_appendDecimalTo_8d9f2_78 : decode cJx40b00_appendDecimalTo_8d9f2 78 = .ok (.instanceof 46, 3) := by decide +kernel
theorem dJx40b00_appendDecimalTo_8d9f2_81 : decode cJx40b00_appendDecimalTo_8d9f2 81 = .ok (.ifCond .eq 16, 3) := by decide +kernel
theorem dJx40b00_appendDecimalTo_8d9f2_84 : decode cJx40b00_appendDecimalTo_8d9f2 84 = .ok (.aload_n 2, 1) := by decide +kernel
theorem dJx40b00_appendDecimalTo_8d9f2_85 : decode cJx40b00_appendDecimalTo_8d9f2 85 = .ok (.checkcast 46, 3) := by decide +kernel
theorem dJx40b00_appendDecimalTo_8d9f2_88 : decode cJx40b00_appendDecimalTo_8d9f2 88 = .ok (.astore 4, 2) := by decide +kernel
theorem dJx40b00_appendDecimalTo_8d9f2_90 : decode cJx40b00_appendDecimalTo_8d9f2 90 = .ok (.aload 4, 2) := by decide +kernel
theorem dJx40b00_appendDecimalTo_8d9f2_92 : decode cJx40b00_appendDecimalTo_8d9f2 92 = .ok (.aload_n 3, 1) := by decide +kernel
theorem dJx40b00_appendDecimalTo_8d9f2_93 : decode cJx40b00_appendDecimalTo_8d9f2 93 = .ok (.invokevirtual 48, 3) := by decide +kernel
theorem dJx40b00_appendDecimalTo_8d9f2_96 : decode cJx40b00_appendDecimalTo_8d9f2 96 = .ok (.areturn, 1) := by decide +kernel
theorem dJx40b00_appendDecimalTo_8d9f2_97 : decode cJx40b00_appendDecimalTo_8d9f2 97 = .ok (.aload_n 2, 1) := by decide +kernel
theorem dJx40b00_appendDecimalTo_8d9f2_98 : decode cJx40b00_appendDecimalTo_8d9f2 98 = .ok (.instanceof 52, 3) := by decide +kernel
theorem dJx40b00_appendDecimalTo_8d9f2_101 : decode cJx40b00_appendDecimalTo_8d9f2 101 = .ok (.ifCond .eq 16, 3) := by decide +kernel
theorem dJx40b00_appendDecimalTo_8d9f2_104 : decode cJx40b00_appendDecimalTo_8d9f2 104 = .ok (.aload_n 2, 1) := by decide +kernel
theorem dJx40b00_appendDecimalTo_8d9f2_105 : decode cJx40b00_appendDecimalTo_8d9f2 105 = .ok (.checkcast 52, 3) := by decide +kernel
theorem dJx40b00_appendDecimalTo_8d9f2_108 : decode cJx40b00_appendDecimalTo_8d9f2 108 = .ok (.astore 4, 2) := by decide +kernel
theorem dJx40b00_appendDecimalTo_8d9f2_110 : decode cJx40b00_appendDecimalTo_8d9f2 110 = .ok (.aload 4, 2) := by decide +kernel
theorem dJx40b00_appendDecimalTo_8d9f2_112 : decode cJx40b00_appendDecimalTo_8d9f2 112 = .ok (.aload_n 3, 1) := by decide +kernel
theorem dJx40b00_appendDecimalTo_8d9f2_113 : decode cJx40b00_appendDecimalTo_8d9f2 113 = .ok (.invokevirtual 54, 3) := by decide +kernel
theorem dJx40b00_appendDecimalTo_8d9f2_116 : decode cJx40b00_appendDecimalTo_8d9f2 116 = .ok (.areturn, 1) := by decide +kernel
theorem dJx40b00_appendDecimalTo_8d9f2_117 : decode cJx40b00_appendDecimalTo_8d9f2 117 = .ok (.aload_n 3, 1) := by decide +kernel
theorem dJx40b00_appendDecimalTo_8d9f2_118 : decode cJx40b00_appendDecimalTo_8d9f2 118 = .ok (.astore 4, 2) := by decide +kernel
theorem dJx40b00_appendDecimalTo_8d9f2_120 : decode cJx40b00_appendDecimalTo_8d9f2 120 = .ok (.aload 4, 2) := by decide +kernel
theorem dJx40b00_appendDecimalTo_8d9f2_122 : decode cJx40b00_appendDecimalTo_8d9f2 122 = .ok (.arraylength, 1) := by decide +kernel
theorem dJx40b00_appendDecimalTo_8d9f2_123 : decode cJx40b00_appendDecimalTo_8d9f2 123 = .ok (.istore 5, 2) := by decide +kernel
theorem dJx40b00_appendDecimalTo_8d9f2_125 : decode cJx40b00_appendDecimalTo_8d9f2 125 = .ok (.iconst 0, 1) := by decide +kernel
theorem dJx40b00_appendDecimalTo_8d9f2_126 : decode cJx40b00_appendDecimalTo_8d9f2 126 = .ok (.istore 6, 2) := by decide +kernel
theorem dJx40b00_appendDecimalTo_8d9f2_128 : decode cJx40b00_appendDecimalTo_8d9f2 128 = .ok (.iload 6, 2) := by decide +kernel
theorem dJx40b00_appendDecimalTo_8d9f2_130 : decode cJx40b00_appendDecimalTo_8d9f2 130 = .ok (.iload 5, 2) := by decide +kernel
theorem dJx40b00_appendDecimalTo_8d9f2_132 : decode cJx40b00_appendDecimalTo_8d9f2 132 = .ok (.if_icmp .ge 25, 3) := by decide +kernel
theorem dJx40b00_appendDecimalTo_8d9f2_135 : decode cJx40b00_appendDecimalTo_8d9f2 135 = .ok (.aload 4, 2) := by decide +kernel
theorem dJx40b00_appendDecimalTo_8d9f2_137 : decode cJx40b00_appendDecimalTo_8d9f2 137 = .ok (.iload 6, 2) := by decide +kernel
theorem dJx40b00_appendDecimalTo_8d9f2_139 : decode cJx40b00_appendDecimalTo_8d9f2 139 = .ok (.caload, 1) := by decide +kernel
theorem dJx40b00_appendDecimalTo_8d9f2_140 : decode cJx40b00_appendDecimalTo_8d9f2 140 = .ok (.istore 7, 2) := by decide +kernel
theorem dJx40b00_appendDecimalTo_8d9f2_142 : decode cJx40b00_appendDecimalTo_8d9f2 142 = .ok (.aload_n 2, 1) := by decide +kernel
theorem dJx40b00_appendDecimalTo_8d9f2_143 : decode cJx40b00_appendDecimalTo_8d9f2 143 = .ok (.iload 7, 2) := by decide +kernel
theorem dJx40b00_appendDecimalTo_8d9f2_145 : decode cJx40b00_appendDecimalTo_8d9f2 145 = .ok (.invokeinterface 57 2, 5) := by decide +kernel
theorem dJx40b00_appendDecimalTo_8d9f2_150 : decode cJx40b00_appendDecimalTo_8d9f2 150 = .ok (.pop, 1) := by decide +kernel
theorem dJx40b00_appendDecimalTo_8d9f2_151 : decode cJx40b00_appendDecimalTo_8d9f2 151 = .ok (.iinc 6 1, 3) := by decide +kernel
theorem dJx40b00_appendDecimalTo_8d9f2_154 : decode cJx40b00_appendDecimalTo_8d9f2 154 = .ok (.goto (-26), 3) := by decide +kernel
theorem dJx40b00_appendDecimalTo_8d9f2_157 : decode cJx40b00_appendDecimalTo_8d9f2 157 = .ok (.aload_n 2, 1) := by decide +kernel
theorem dJx40b00_appendDecimalTo_8d9f2_158 : decode cJx40b00_appendDecimalTo_8d9f2 158 = .ok (.areturn, 1) := by decide +kernel
theorem dJx40b00_appendDecimalTo_8d9f2_159 : decode cJx40b00_appendDecimalTo_8d9f2 159 = .ok (.aload_n 2, 1) := by decide +kernel
theorem dJx40b00_appendDecimalTo_8d9f2_160 : decode cJx40b00_appendDecimalTo_8d9f2 160 = .ok (.ldc 32, 2) := by decide +kernel
theorem dJx40b00_appendDecimalTo_8d9f2_162 : decode cJx40b00_appendDecimalTo_8d9f2 162 = .ok (.invokeinterface 62 2, 5) := by decide +kernel
theorem dJx40b00_appendDecimalTo_8d9f2_167 : decode cJx40b00_appendDecimalTo_8d9f2 167 = .ok (.areturn, 1) := by decide +kernel
theorem dJx40b00_appendDecimalTo_8d9f2_168 : decode cJx40b00_appendDecimalTo_8d9f2 168 = .ok (.aload_n 2, 1) := by decide +kernel
theorem dJx40b00_appendDecimalTo_8d9f2_169 : decode cJx40b00_appendDecimalTo_8d9f2 169 = .ok (.ldc 34, 2) := by decide +kernel
theorem dJx40b00_appendDecimalTo_8d9f2_171 : decode cJx40b00_appendDecimalTo_8d9f2 171 = .ok (.invokeinterface 62 2, 5) := by decide +kernel
theorem dJx40b00_appendDecimalTo_8d9f2_176 : decode cJx40b00_appendDecimalTo_8d9f2 176 = .ok (.areturn, 1) := by decide +kernel
theorem dJx40b00_appendDecimalTo_8d9f2_177 : decode cJx40b00_appendDecimalTo_8d9f2 177 = .ok (.aload_n 2, 1) := by decide +kernel
theorem dJx40b00_appendDecimalTo_8d9f2_178 : decode cJx40b00_appendDecimalTo_8d9f2 178 = .ok (.ldc 36, 2) := by decide +kernel
theorem dJx40b00_appendDecimalTo_8d9f2_180 : decode cJx40b00_appendDecimalTo_8d9f2 180 = .ok (.invokeinterface 62 2, 5) := by decide +kernel
theorem dJx40b00_appendDecimalTo_8d9f2_185 : decode cJx40b00_appendDecimalTo_8d9f2 185 = .ok (.areturn, 1) := by decide +kernel
theorem dJx40b00_appendDecimalTo_8d9f2_186 : decode cJx40b00_appendDecimalTo_8d9f2 186 = .ok (.aload_n 2, 1) := by decide +kernel
theorem dJx40b00_appendDecimalTo_8d9f2_187 : decode cJx40b00_appendDecimalTo_8d9f2 187 = .ok (.ldc 38, 2) := by decide +kernel
theorem dJx40b00_appendDecimalTo_8d9f2_189 : decode cJx40b00_appendDecimalTo_8d9f2 189 = .ok (.invokeinterface 62 2, 5) := by decide +kernel
theorem dJx40b00_appendDecimalTo_8d9f2_194 : decode cJx40b00_appendDecimalTo_8d9f2 194 = .ok (.areturn, 1) := by decide +kernel
theorem dJx40b00_appendDecimalTo_8d9f2_195 : decode cJx40b00_appendDecimalTo_8d9f2 195 = .ok (.aload_n 2, 1) := by decide +kernel
theorem dJx40b00_appendDecimalTo_8d9f2_196 : decode cJx40b00_appendDecimalTo_8d9f2 196 = .ok (.ldc 40, 2) := by decide +kernel
theorem dJx40b00_appendDecimalTo_8d9f2_198 : decode cJx40b00_appendDecimalTo_8d9f2 198 = .ok (.invokeinterface 62 2, 5) := by decide +kernel
theorem dJx40b00_appendDecimalTo_8d9f2_203 : decode cJx40b00_appendDecimalTo_8d9f2 203 = .ok (.areturn, 1) := by decide +kernel
theorem dJx40b00_toDecimal_5c35a_0 : decode cJx40b00_toDecimal_5c35a 0 = .ok (.fload_n 1, 1) := by decide +kernel
theorem dJx40b00_toDecimal_5c35a_1 : decode cJx40b00_toDecimal_5c35a 1 = .ok (.invokestatic 65, 3) := by decide +kernel
theorem dJx40b00_toDecimal_5c35a_4 : decode cJx40b00_toDecimal_5c35a 4 = .ok (.istore_n 2, 1) := by decide +kernel
theorem dJx40b00_toDecimal_5c35a_5 : decode cJx40b00_toDecimal_5c35a 5 = .ok (.iload_n 2, 1) := by decide +kernel
theorem dJx40b00_toDecimal_5c35a_6 : decode cJx40b00_toDecimal_5c35a 6 = .ok (.ldc 68, 2) := by decide +kernel
theorem dJx40b00_toDecimal_5c35a_8 : decode cJx40b00_toDecimal_5c35a 8 = .ok (.iand, 1) := by decide +kernel
theorem dJx40b00_toDecimal_5c35a_9 : decode cJx40b00_toDecimal_5c35a 9 = .ok (.istore_n 3, 1) := by decide +kernel
theorem dJx40b00_toDecimal_5c35a_10 : decode cJx40b00_toDecimal_5c35a 10 = .ok (.iload_n 2, 1) := by decide +kernel
theorem dJx40b00_toDecimal_5c35a_11 : decode cJx40b00_toDecimal_5c35a 11 = .ok (.bipush 23, 2) := by decide +kernel
theorem dJx40b00_toDecimal_5c35a_13 : decode cJx40b00_toDecimal_5c35a 13 = .ok (.iushr, 1) := by decide +kernel
theorem dJx40b00_toDecimal_5c35a_14 : decode cJx40b00_toDecimal_5c35a 14 = .ok (.sipush 255, 3) := by decide +kernel
theorem dJx40b00_toDecimal_5c35a_17 : decode cJx40b00_toDecimal_5c35a 17 = .ok (.iand, 1) := by decide +kernel
theorem dJx40b00_toDecimal_5c35a_18 : decode cJx40b00_toDecimal_5c35a 18 = .ok (.istore 4, 2) := by decide +kernel
theorem dJx40b00_toDecimal_5c35a_20 : decode cJx40b00_toDecimal_5c35a 20 = .ok (.iload 4, 2) := by decide +kernel
theorem dJx40b00_toDecimal_5c35a_22 : decode cJx40b00_toDecimal_5c35a 22 = .ok (.sipush 255, 3) := by decide +kernel
theorem dJx40b00_toDecimal_5c35a_25 : decode cJx40b00_toDecimal_5c35a 25 = .ok (.if_icmp .ge 145, 3) := by decide +kernel
theorem dJx40b00_toDecimal_5c35a_28 : decode cJx40b00_toDecimal_5c35a 28 = .ok (.aload_n 0, 1) := by decide +kernel
theorem dJx40b00_toDecimal_5c35a_29 : decode cJx40b00_toDecimal_5c35a 29 = .ok (.iconst (-1), 1) := by decide +kernel
theorem dJx40b00_toDecimal_5c35a_30 : decode cJx40b00_toDecimal_5c35a 30 = .ok (.putfield 42, 3) := by decide +kernel
theorem dJx40b00_toDecimal_5c35a_33 : decode cJx40b00_toDecimal_5c35a 33 = .ok (.iload_n 2, 1) := by decide +kernel
theorem dJx40b00_toDecimal_5c35a_34 : decode cJx40b00_toDecimal_5c35a 34 = .ok (.ifCond .ge 9, 3) := by decide +kernel
theorem dJx40b00_toDecimal_5c35a_37 : decode cJx40b00_toDecimal_5c35a 37 = .ok (.aload_n 0, 1) := by decide +kernel
theorem dJx40b00_toDecimal_5c35a_38 : decode cJx40b00_toDecimal_5c35a 38 = .ok (.bipush 45, 2) := by decide +kernel
theorem dJx40b00_toDecimal_5c35a_40 : decode cJx40b00_toDecimal_5c35a 40 = .ok (.invokevirtual 69, 3) := by decide +kernel
theorem dJx40b00_toDecimal_5c35a_43 : decode cJx40b00_toDecimal_5c35a 43 = .ok (.iload 4, 2) := by decide +kernel
theorem dJx40b00_toDecimal_5c35a_45 : decode cJx40b00_toDecimal_5c35a 45 = .ok (.ifCond .eq 80, 3) := by decide +kernel
theorem dJx40b00_toDecimal_5c35a_48 : decode cJx40b00_toDecimal_5c35a 48 = .ok (.sipush 150, 3) := by decide +kernel
theorem dJx40b00_toDecimal_5c35a_51 : decode cJx40b00_toDecimal_5c35a 51 = .ok (.iload 4, 2) := by decide +kernel
theorem dJx40b00_toDecimal_5c35a_53 : decode cJx40b00_toDecimal_5c35a 53 = .ok (.isub, 1) := by decide +kernel
theorem dJx40b00_toDecimal_5c35a_54 : decode cJx40b00_toDecimal_5c35a 54 = .ok (.istore 5, 2) := by decide +kernel
theorem dJx40b00_toDecimal_5c35a_56 : decode cJx40b00_toDecimal_5c35a 56 = .ok (.ldc 72, 2) := by decide +kernel
theorem dJx40b00_toDecimal_5c35a_58 : decode cJx40b00_toDecimal_5c35a 58 = .ok (.iload_n 3, 1) := by decide +kernel
theorem dJx40b00_toDecimal_5c35a_59 : decode cJx40b00_toDecimal_5c35a 59 = .ok (.ior, 1) := by decide +kernel
theorem dJx40b00_toDecimal_5c35a_60 : decode cJx40b00_toDecimal_5c35a 60 = .ok (.istore 6, 2) := by decide +kernel
theorem dJx40b00_toDecimal_5c35a_62 : decode cJx40b00_toDecimal_5c35a 62 = .ok (.iconst 0, 1) := by decide +kernel
theorem dJx40b00_toDecimal_5c35a_63 : decode cJx40b00_toDecimal_5c35a 63 = .ok (.iload 5, 2) := by decide +kernel
theorem dJx40b00_toDecimal_5c35a_65 : decode cJx40b00_toDecimal_5c35a 65 = .ok (.if_icmp .ge 7, 3) := by decide +kernel
theorem dJx40b00_toDecimal_5c35a_68 : decode cJx40b00_toDecimal_5c35a 68 = .ok (.iconst 1, 1) := by decide +kernel
theorem dJx40b00_toDecimal_5c35a_69 : decode cJx40b00_toDecimal_5c35a 69 = .ok (.goto 4, 3) := by decide +kernel
theorem dJx40b00_toDecimal_5c35a_72 : decode cJx40b00_toDecimal_5c35a 72 = .ok (.iconst 0, 1) := by decide +kernel
theorem dJx40b00_toDecimal_5c35a_73 : decode cJx40b00_toDecimal_5c35a 73 = .ok (.iload 5, 2) := by decide +kernel
theorem dJx40b00_toDecimal_5c35a_75 : decode cJx40b00_toDecimal_5c35a 75 = .ok (.bipush 24, 2) := by decide +kernel
theorem dJx40b00_toDecimal_5c35a_77 : decode cJx40b00_toDecimal_5c35a 77 = .ok (.if_icmp .ge 7, 3) := by decide +kernel
theorem dJx40b00_toDecimal_5c35a_80 : decode cJx40b00_toDecimal_5c35a 80 = .ok (.iconst 1, 1) := by decide +kernel
theorem dJx40b00_toDecimal_5c35a_81 : decode cJx40b00_toDecimal_5c35a 81 = .ok (.goto 4, 3) := by decide +kernel
theorem dJx40b00_toDecimal_5c35a_84 : decode cJx40b00_toDecimal_5c35a 84 = .ok (.iconst 0, 1) := by decide +kernel
theorem dJx40b00_toDecimal_5c35a_85 : decode cJx40b00_toDecimal_5c35a 85 = .ok (.iand, 1) := by decide +kernel
theorem dJx40b00_toDecimal_5c35a_86 : decode cJx40b00_toDecimal_5c35a 86 = .ok (.ifCond .eq 28, 3) := by decide +kernel
theorem dJx40b00_toDecimal_5c35a_89 : decode cJx40b00_toDecimal_5c35a 89 = .ok (.iload 6, 2) := by decide +kernel
theorem dJx40b00_toDecimal_5c35a_91 : decode cJx40b00_toDecimal_5c35a 91 = .ok (.iload 5, 2) := by decide +kernel
theorem dJx40b00_toDecimal_5c35a_93 : decode cJx40b00_toDecimal_5c35a 93 = .ok (.ishr, 1) := by decide +kernel
theorem dJx40b00_toDecimal_5c35a_94 : decode cJx40b00_toDecimal_5c35a 94 = .ok (.istore 7, 2) := by decide +kernel
theorem dJx40b00_toDecimal_5c35a_96 : decode cJx40b00_toDecimal_5c35a 96 = .ok (.iload 7, 2) := by decide +kernel
theorem dJx40b00_toDecimal_5c35a_98 : decode cJx40b00_toDecimal_5c35a 98 = .ok (.iload 5, 2) := by decide +kernel
theorem dJx40b00_toDecimal_5c35a_100 : decode cJx40b00_toDecimal_5c35a 100 = .ok (.ishl, 1) := by decide +kernel
theorem dJx40b00_toDecimal_5c35a_101 : decode cJx40b00_toDecimal_5c35a 101 = .ok (.iload 6, 2) := by decide +kernel
theorem dJx40b00_toDecimal_5c35a_103 : decode cJx40b00_toDecimal_5c35a 103 = .ok (.if_icmp .ne 11, 3) := by decide +kernel
theorem dJx40b00_toDecimal_5c35a_106 : decode cJx40b00_toDecimal_5c35a 106 = .ok (.aload_n 0, 1) := by decide +kernel
theorem dJx40b00_toDecimal_5c35a_107 : decode cJx40b00_toDecimal_5c35a 107 = .ok (.iload 7, 2) := by decide +kernel
theorem dJx40b00_toDecimal_5c35a_109 : decode cJx40b00_toDecimal_5c35a 109 = .ok (.iconst 0, 1) := by decide +kernel
theorem dJx40b00_toDecimal_5c35a_110 : decode cJx40b00_toDecimal_5c35a 110 = .ok (.invokevirtual 73, 3) := by decide +kernel
theorem dJx40b00_toDecimal_5c35a_113 : decode cJx40b00_toDecimal_5c35a 113 = .ok (.ireturn, 1) := by decide +kernel
theorem dJx40b00_toDecimal_5c35a_114 : decode cJx40b00_toDecimal_5c35a 114 = .ok (.aload_n 0, 1) := by decide +kernel
theorem dJx40b00_toDecimal_5c35a_115 : decode cJx40b00_toDecimal_5c35a 115 = .ok (.iload 5, 2) := by decide +kernel
theorem dJx40b00_toDecimal_5c35a_117 : decode cJx40b00_toDecimal_5c35a 117 = .ok (.ineg, 1) := by decide +kernel
theorem dJx40b00_toDecimal_5c35a_118 : decode cJx40b00_toDecimal_5c35a 118 = .ok (.iload 6, 2) := by decide +kernel
theorem dJx40b00_toDecimal_5c35a_120 : decode cJx40b00_toDecimal_5c35a 120 = .ok (.iconst 0, 1) := by decide +kernel
theorem dJx40b00_toDecimal_5c35a_121 : decode cJx40b00_toDecimal_5c35a 121 = .ok (.invokevirtual 77, 3) := by decide +kernel
theorem dJx40b00_toDecimal_5c35a_124 : decode cJx40b00_toDecimal_5c35a 124 = .ok (.ireturn, 1) := by decide +kernel
theorem dJx40b00_toDecimal_5c35a_125 : decode cJx40b00_toDecimal_5c35a 125 = .ok (.iload_n 3, 1) := by decide +kernel
theorem dJx40b00_toDecimal_5c35a_126 : decode cJx40b00_toDecimal_5c35a 126 = .ok (.ifCond .eq 34, 3) := by decide +kernel
theorem dJx40b00_toDecimal_5c35a_129 : decode cJx40b00_toDecimal_5c35a 129 = .ok (.iload_n 3, 1) := by decide +kernel
theorem dJx40b00_toDecimal_5c35a_130 : decode cJx40b00_toDecimal_5c35a 130 = .ok (.bipush 8, 2) := by decide +kernel
theorem dJx40b00_toDecimal_5c35a_132 : decode cJx40b00_toDecimal_5c35a 132 = .ok (.if_icmp .ge 18, 3) := by decide +kernel
theorem dJx40b00_toDecimal_5c35a_135 : decode cJx40b00_toDecimal_5c35a 135 = .ok (.aload_n 0, 1) := by decide +kernel
theorem dJx40b00_toDecimal_5c35a_136 : decode cJx40b00_toDecimal_5c35a 136 = .ok (.sipush (-149), 3) := by decide +kernel
theorem dJx40b00_toDecimal_5c35a_139 : decode cJx40b00_toDecimal_5c35a 139 = .ok (.bipush 10, 2) := by decide +kernel
theorem dJx40b00_toDecimal_5c35a_141 : decode cJx40b00_toDecimal_5c35a 141 = .ok (.iload_n 3, 1) := by decide +kernel
theorem dJx40b00_toDecimal_5c35a_142 : decode cJx40b00_toDecimal_5c35a 142 = .ok (.imul, 1) := by decide +kernel
theorem dJx40b00_toDecimal_5c35a_143 : decode cJx40b00_toDecimal_5c35a 143 = .ok (.iconst (-1), 1) := by decide +kernel
theorem dJx40b00_toDecimal_5c35a_144 : decode cJx40b00_toDecimal_5c35a 144 = .ok (.invokevirtual 77, 3) := by decide +kernel
theorem dJx40b00_toDecimal_5c35a_147 : decode cJx40b00_toDecimal_5c35a 147 = .ok (.goto 12, 3) := by decide +kernel
theorem dJx40b00_toDecimal_5c35a_150 : decode cJx40b00_toDecimal_5c35a 150 = .ok (.aload_n 0, 1) := by decide +kernel
theorem dJx40b00_toDecimal_5c35a_151 : decode cJx40b00_toDecimal_5c35a 151 = .ok (.sipush (-149), 3) := by decide +kernel
theorem dJx40b00_toDecimal_5c35a_154 : decode cJx40b00_toDecimal_5c35a 154 = .ok (.iload_n 3, 1) := by decide +kernel
theorem dJx40b00_toDecimal_5c35a_155 : decode cJx40b00_toDecimal_5c35a 155 = .ok (.iconst 0, 1) := by decide +kernel
theorem dJx40b00_toDecimal_5c35a_156 : decode cJx40b00_toDecimal_5c35a 156 = .ok (.invokevirtual 77, 3) := by decide +kernel
theorem dJx40b00_toDecimal_5c35a_159 : decode cJx40b00_toDecimal_5c35a 159 = .ok (.ireturn, 1) := by decide +kernel
theorem dJx40b00_toDecimal_5c35a_160 : decode cJx40b00_toDecimal_5c35a 160 = .ok (.iload_n 2, 1) := by decide +kernel
theorem dJx40b00_toDecimal_5c35a_161 : decode cJx40b00_toDecimal_5c35a 161 = .ok (.ifCond .ne 7, 3) := by decide +kernel
theorem dJx40b00_toDecimal_5c35a_164 : decode cJx40b00_toDecimal_5c35a 164 = .ok (.iconst 1, 1) := by decide +kernel
theorem dJx40b00_toDecimal_5c35a_165 : decode cJx40b00_toDecimal_5c35a 165 = .ok (.goto 4, 3) := by decide +kernel
theorem dJx40b00_toDecimal_5c35a_168 : decode cJx40b00_toDecimal_5c35a 168 = .ok (.iconst 2, 1) := by decide +kernel
theorem dJx40b00_toDecimal_5c35a_169 : decode cJx40b00_toDecimal_5c35a 169 = .ok (.ireturn, 1) := by decide +kernel
theorem dJx40b00_toDecimal_5c35a_170 : decode cJx40b00_toDecimal_5c35a 170 = .ok (.iload_n 3, 1) := by decide +kernel
theorem dJx40b00_toDecimal_5c35a_171 : decode cJx40b00_toDecimal_5c35a 171 = .ok (.ifCond .eq 5, 3) := by decide +kernel
theorem dJx40b00_toDecimal_5c35a_174 : decode cJx40b00_toDecimal_5c35a 174 = .ok (.iconst 5, 1) := by decide +kernel
theorem dJx40b00_toDecimal_5c35a_175 : decode cJx40b00_toDecimal_5c35a 175 = .ok (.ireturn, 1) := by decide +kernel
theorem dJx40b00_toDecimal_5c35a_176 : decode cJx40b00_toDecimal_5c35a 176 = .ok (.iload_n 2, 1) := by decide +kernel
theorem dJx40b00_toDecimal_5c35a_177 : decode cJx40b00_toDecimal_5c35a 177 = .ok (.ifCond .le 7, 3) := by decide +kernel
theorem dJx40b00_toDecimal_5c35a_180 : decode cJx40b00_toDecimal_5c35a 180 = .ok (.iconst 3, 1) := by decide +kernel
theorem dJx40b00_toDecimal_5c35a_181 : decode cJx40b00_toDecimal_5c35a 181 = .ok (.goto 4, 3) := by decide +kernel
theorem dJx40b00_toDecimal_5c35a_184 : decode cJx40b00_toDecimal_5c35a 184 = .ok (.iconst 4, 1) := by decide +kernel
theorem dJx40b00_toDecimal_5c35a_185 : decode cJx40b00_toDecimal_5c35a 185 = .ok (.ireturn, 1) := by decide +kernel
theorem dJx40b00_toDecimal_cabcc_0 : decode cJx40b00_toDecimal_cabcc 0 = .ok (.iload_n 2, 1) := by decide +kernel
theorem dJx40b00_toDecimal_cabcc_1 : decode cJx40b00_toDecimal_cabcc 1 = .ok (.iconst 1, 1) := by decide +kernel
theorem dJx40b00_toDecimal_cabcc_2 : decode cJx40b00_toDecimal_cabcc 2 = .ok (.iand, 1) := by decide +kernel
theorem dJx40b00_toDecimal_cabcc_3 : decode cJx40b00_toDecimal_cabcc 3 = .ok (.istore 4, 2) := by decide +kernel
theorem dJx40b00_toDecimal_cabcc_5 : decode cJx40b00_toDecimal_cabcc 5 = .ok (.iload_n 2, 1) := by decide +kernel
theorem dJx40b00_toDecimal_cabcc_6 : decode cJx40b00_toDecimal_cabcc 6 = .ok (.iconst 2, 1) := by decide +kernel
theorem dJx40b00_toDecimal_cabcc_7 : decode cJx40b00_toDecimal_cabcc 7 = .ok (.ishl, 1) := by decide +kernel
theorem dJx40b00_toDecimal_cabcc_8 : decode cJx40b00_toDecimal_cabcc 8 = .ok (.i2l, 1) := by decide +kernel
theorem dJx40b00_toDecimal_cabcc_9 : decode cJx40b00_toDecimal_cabcc 9 = .ok (.lstore 5, 2) := by decide +kernel
theorem dJx40b00_toDecimal_cabcc_11 : decode cJx40b00_toDecimal_cabcc 11 = .ok (.lload 5, 2) := by decide +kernel
theorem dJx40b00_toDecimal_cabcc_13 : decode cJx40b00_toDecimal_cabcc 13 = .ok (.ldc2_w 80, 3) := by decide +kernel
theorem dJx40b00_toDecimal_cabcc_16 : decode cJx40b00_toDecimal_cabcc 16 = .ok (.ladd, 1) := by decide +kernel
theorem dJx40b00_toDecimal_cabcc_17 : decode cJx40b00_toDecimal_cabcc 17 = .ok (.lstore 7, 2) := by decide +kernel
theorem dJx40b00_toDecimal_cabcc_19 : decode cJx40b00_toDecimal_cabcc 19 = .ok (.iload_n 2, 1) := by decide +kernel
theorem dJx40b00_toDecimal_cabcc_20 : decode cJx40b00_toDecimal_cabcc 20 = .ok (.ldc 72, 2) := by decide +kernel
theorem dJx40b00_toDecimal_cabcc_22 : decode cJx40b00_toDecimal_cabcc 22 = .ok (.if_icmp .eq 7, 3) := by decide +kernel
theorem dJx40b00_toDecimal_cabcc_25 : decode cJx40b00_toDecimal_cabcc 25 = .ok (.iconst 1, 1) := by decide +kernel
theorem dJx40b00_toDecimal_cabcc_26 : decode cJx40b00_toDecimal_cabcc 26 = .ok (.goto 4, 3) := by decide +kernel
theorem dJx40b00_toDecimal_cabcc_29 : decode cJx40b00_toDecimal_cabcc 29 = .ok (.iconst 0, 1) := by decide +kernel
theorem dJx40b00_toDecimal_cabcc_30 : decode cJx40b00_toDecimal_cabcc 30 = .ok (.iload_n 1, 1) := by decide +kernel
theorem dJx40b00_toDecimal_cabcc_31 : decode cJx40b00_toDecimal_cabcc 31 = .ok (.sipush (-149), 3) := by decide +kernel
theorem dJx40b00_toDecimal_cabcc_34 : decode cJx40b00_toDecimal_cabcc 34 = .ok (.if_icmp .ne 7, 3) := by decide +kernel
theorem dJx40b00_toDecimal_cabcc_37 : decode cJx40b00_toDecimal_cabcc 37 = .ok (.iconst 1, 1) := by decide +kernel
theorem dJx40b00_toDecimal_cabcc_38 : decode cJx40b00_toDecimal_cabcc 38 = .ok (.goto 4, 3) := by decide +kernel
theorem dJx40b00_toDecimal_cabcc_41 : decode cJx40b00_toDecimal_cabcc 41 = .ok (.iconst 0, 1) := by decide +kernel
theorem dJx40b00_toDecimal_cabcc_42 : decode cJx40b00_toDecimal_cabcc 42 = .ok (.ior, 1) := by decide +kernel
theorem dJx40b00_toDecimal_cabcc_43 : decode cJx40b00_toDecimal_cabcc 43 = .ok (.ifCond .eq 20, 3) := by decide +kernel
theorem dJx40b00_toDecimal_cabcc_46 : decode cJx40b00_toDecimal_cabcc 46 = .ok (.lload 5, 2) := by decide +kernel
theorem dJx40b00_toDecimal_cabcc_48 : decode cJx40b00_toDecimal_cabcc 48 = .ok (.ldc2_w 80, 3) := by decide +kernel
theorem dJx40b00_toDecimal_cabcc_51 : decode cJx40b00_toDecimal_cabcc 51 = .ok (.lsub, 1) := by decide +kernel
theorem dJx40b00_toDecimal_cabcc_52 : decode cJx40b00_toDecimal_cabcc 52 = .ok (.lstore 9, 2) := by decide +kernel
theorem dJx40b00_toDecimal_cabcc_54 : decode cJx40b00_toDecimal_cabcc 54 = .ok (.iload_n 1, 1) := by decide +kernel
theorem dJx40b00_toDecimal_cabcc_55 : decode cJx40b00_toDecimal_cabcc 55 = .ok (.invokestatic 82, 3) := by decide +kernel
theorem dJx40b00_toDecimal_cabcc_58 : decode cJx40b00_toDecimal_cabcc 58 = .ok (.istore 11, 2) := by decide +kernel
theorem dJx40b00_toDecimal_cabcc_60 : decode cJx40b00_toDecimal_cabcc 60 = .ok (.goto 15, 3) := by decide +kernel
theorem dJx40b00_toDecimal_cabcc_63 : decode cJx40b00_toDecimal_cabcc 63 = .ok (.lload 5, 2) := by decide +kernel
theorem dJx40b00_toDecimal_cabcc_65 : decode cJx40b00_toDecimal_cabcc 65 = .ok (.lconst 1, 1) := by decide +kernel
theorem dJx40b00_toDecimal_cabcc_66 : decode cJx40b00_toDecimal_cabcc 66 = .ok (.lsub, 1) := by decide +kernel
theorem dJx40b00_toDecimal_cabcc_67 : decode cJx40b00_toDecimal_cabcc 67 = .ok (.lstore 9, 2) := by decide +kernel
theorem dJx40b00_toDecimal_cabcc_69 : decode cJx40b00_toDecimal_cabcc 69 = .ok (.iload_n 1, 1) := by decide +kernel
theorem dJx40b00_toDecimal_cabcc_70 : decode cJx40b00_toDecimal_cabcc 70 = .ok (.invokestatic 88, 3) := by decide +kernel
theorem dJx40b00_toDecimal_cabcc_73 : decode cJx40b00_toDecimal_cabcc 73 = .ok (.istore 11, 2) := by decide +kernel
theorem dJx40b00_toDecimal_cabcc_75 : decode cJx40b00_toDecimal_cabcc 75 = .ok (.iload_n 1, 1) := by decide +kernel
theorem dJx40b00_toDecimal_cabcc_76 : decode cJx40b00_toDecimal_cabcc 76 = .ok (.iload 11, 2) := by decide +kernel
theorem dJx40b00_toDecimal_cabcc_78 : decode cJx40b00_toDecimal_cabcc 78 = .ok (.ineg, 1) := by decide +kernel
theorem dJx40b00_toDecimal_cabcc_79 : decode cJx40b00_toDecimal_cabcc 79 = .ok (.invokestatic 91, 3) := by decide +kernel
theorem dJx40b00_toDecimal_cabcc_82 : decode cJx40b00_toDecimal_cabcc 82 = .ok (.iadd, 1) := by decide +kernel
theorem dJx40b00_toDecimal_cabcc_83 : decode cJx40b00_toDecimal_cabcc 83 = .ok (.bipush 33, 2) := by decide +kernel
theorem dJx40b00_toDecimal_cabcc_85 : decode cJx40b00_toDecimal_cabcc 85 = .ok (.iadd, 1) := by decide +kernel
theorem dJx40b00_toDecimal_cabcc_86 : decode cJx40b00_toDecimal_cabcc 86 = .ok (.istore 12, 2) := by decide +kernel
theorem dJx40b00_toDecimal_cabcc_88 : decode cJx40b00_toDecimal_cabcc 88 = .ok (.iload 11, 2) := by decide +kernel
theorem dJx40b00_toDecimal_cabcc_90 : decode cJx40b00_toDecimal_cabcc 90 = .ok (.invokestatic 94, 3) := by decide +kernel
theorem dJx40b00_toDecimal_cabcc_93 : decode cJx40b00_toDecimal_cabcc 93 = .ok (.lconst 1, 1) := by decide +kernel
theorem dJx40b00_toDecimal_cabcc_94 : decode cJx40b00_toDecimal_cabcc 94 = .ok (.ladd, 1) := by decide +kernel
theorem dJx40b00_toDecimal_cabcc_95 : decode cJx40b00_toDecimal_cabcc 95 = .ok (.lstore 13, 2) := by decide +kernel
theorem dJx40b00_toDecimal_cabcc_97 : decode cJx40b00_toDecimal_cabcc 97 = .ok (.lload 13, 2) := by decide +kernel
theorem dJx40b00_toDecimal_cabcc_99 : decode cJx40b00_toDecimal_cabcc 99 = .ok (.lload 5, 2) := by decide +kernel
theorem dJx40b00_toDecimal_cabcc_101 : decode cJx40b00_toDecimal_cabcc 101 = .ok (.iload 12, 2) := by decide +kernel
theorem dJx40b00_toDecimal_cabcc_103 : decode cJx40b00_toDecimal_cabcc 103 = .ok (.lshl, 1) := by decide +kernel
theorem dJx40b00_toDecimal_cabcc_104 : decode cJx40b00_toDecimal_cabcc 104 = .ok (.invokestatic 98, 3) := by decide +kernel
theorem dJx40b00_toDecimal_cabcc_107 : decode cJx40b00_toDecimal_cabcc 107 = .ok (.istore 15, 2) := by decide +kernel
theorem dJx40b00_toDecimal_cabcc_109 : decode cJx40b00_toDecimal_cabcc 109 = .ok (.lload 13, 2) := by decide +kernel
theorem dJx40b00_toDecimal_cabcc_111 : decode cJx40b00_toDecimal_cabcc 111 = .ok (.lload 9, 2) := by decide +kernel
theorem dJx40b00_toDecimal_cabcc_113 : decode cJx40b00_toDecimal_cabcc 113 = .ok (.iload 12, 2) := by decide +kernel
theorem dJx40b00_toDecimal_cabcc_115 : decode cJx40b00_toDecimal_cabcc 115 = .ok (.lshl, 1) := by decide +kernel
theorem dJx40b00_toDecimal_cabcc_116 : decode cJx40b00_toDecimal_cabcc 116 = .ok (.invokestatic 98, 3) := by decide +kernel
theorem dJx40b00_toDecimal_cabcc_119 : decode cJx40b00_toDecimal_cabcc 119 = .ok (.istore 16, 2) := by decide +kernel
theorem dJx40b00_toDecimal_cabcc_121 : decode cJx40b00_toDecimal_cabcc 121 = .ok (.lload 13, 2) := by decide +kernel
theorem dJx40b00_toDecimal_cabcc_123 : decode cJx40b00_toDecimal_cabcc 123 = .ok (.lload 7, 2) := by decide +kernel
theorem dJx40b00_toDecimal_cabcc_125 : decode cJx40b00_toDecimal_cabcc 125 = .ok (.iload 12, 2) := by decide +kernel
theorem dJx40b00_toDecimal_cabcc_127 : decode cJx40b00_toDecimal_cabcc 127 = .ok (.lshl, 1) := by decide +kernel
theorem dJx40b00_toDecimal_cabcc_128 : decode cJx40b00_toDecimal_cabcc 128 = .ok (.invokestatic 98, 3) := by decide +kernel
theorem dJx40b00_toDecimal_cabcc_131 : decode cJx40b00_toDecimal_cabcc 131 = .ok (.istore 17, 2) := by decide +kernel
theorem dJx40b00_toDecimal_cabcc_133 : decode cJx40b00_toDecimal_cabcc 133 = .ok (.iload 15, 2) := by decide +kernel
theorem dJx40b00_toDecimal_cabcc_135 : decode cJx40b00_toDecimal_cabcc 135 = .ok (.iconst 2, 1) := by decide +kernel
theorem dJx40b00_toDecimal_cabcc_136 : decode cJx40b00_toDecimal_cabcc 136 = .ok (.ishr, 1) := by decide +kernel
theorem dJx40b00_toDecimal_cabcc_137 : decode cJx40b00_toDecimal_cabcc 137 = .ok (.istore 18, 2) := by decide +kernel
theorem dJx40b00_toDecimal_cabcc_139 : decode cJx40b00_toDecimal_cabcc 139 = .ok (.iload 18, 2) := by decide +kernel
theorem dJx40b00_toDecimal_cabcc_141 : decode cJx40b00_toDecimal_cabcc 141 = .ok (.bipush 100, 2) := by decide +kernel
theorem dJx40b00_toDecimal_cabcc_143 : decode cJx40b00_toDecimal_cabcc 143 = .ok (.if_icmp .lt 90, 3) := by decide +kernel
theorem dJx40b00_toDecimal_cabcc_146 : decode cJx40b00_toDecimal_cabcc 146 = .ok (.bipush 10, 2) := by decide +kernel
theorem dJx40b00_toDecimal_cabcc_148 : decode cJx40b00_toDecimal_cabcc 148 = .ok (.iload 18, 2) := by decide +kernel
theorem dJx40b00_toDecimal_cabcc_150 : decode cJx40b00_toDecimal_cabcc 150 = .ok (.i2l, 1) := by decide +kernel
theorem dJx40b00_toDecimal_cabcc_151 : decode cJx40b00_toDecimal_cabcc 151 = .ok (.ldc2_w 102, 3) := by decide +kernel
theorem dJx40b00_toDecimal_cabcc_154 : decode cJx40b00_toDecimal_cabcc 154 = .ok (.lmul, 1) := by decide +kernel
theorem dJx40b00_toDecimal_cabcc_155 : decode cJx40b00_toDecimal_cabcc 155 = .ok (.bipush 34, 2) := by decide +kernel
theorem dJx40b00_toDecimal_cabcc_157 : decode cJx40b00_toDecimal_cabcc 157 = .ok (.lushr, 1) := by decide +kernel
theorem dJx40b00_toDecimal_cabcc_158 : decode cJx40b00_toDecimal_cabcc 158 = .ok (.l2i, 1) := by decide +kernel
theorem dJx40b00_toDecimal_cabcc_159 : decode cJx40b00_toDecimal_cabcc 159 = .ok (.imul, 1) := by decide +kernel
theorem dJx40b00_toDecimal_cabcc_160 : decode cJx40b00_toDecimal_cabcc 160 = .ok (.istore 19, 2) := by decide +kernel
theorem dJx40b00_toDecimal_cabcc_162 : decode cJx40b00_toDecimal_cabcc 162 = .ok (.iload 19, 2) := by decide +kernel
theorem dJx40b00_toDecimal_cabcc_164 : decode cJx40b00_toDecimal_cabcc 164 = .ok (.bipush 10, 2) := by decide +kernel
theorem dJx40b00_toDecimal_cabcc_166 : decode cJx40b00_toDecimal_cabcc 166 = .ok (.iadd, 1) := by decide +kernel
theorem dJx40b00_toDecimal_cabcc_167 : decode cJx40b00_toDecimal_cabcc 167 = .ok (.istore 20, 2) := by decide +kernel
theorem dJx40b00_toDecimal_cabcc_169 : decode cJx40b00_toDecimal_cabcc 169 = .ok (.iload 16, 2) := by decide +kernel
theorem dJx40b00_toDecimal_cabcc_171 : decode cJx40b00_toDecimal_cabcc 171 = .ok (.iload 4, 2) := by decide +kernel
theorem dJx40b00_toDecimal_cabcc_173 : decode cJx40b00_toDecimal_cabcc 173 = .ok (.iadd, 1) := by decide +kernel
theorem dJx40b00_toDecimal_cabcc_174 : decode cJx40b00_toDecimal_cabcc 174 = .ok (.iload 19, 2) := by decide +kernel
theorem dJx40b00_toDecimal_cabcc_176 : decode cJx40b00_toDecimal_cabcc 176 = .ok (.iconst 2, 1) := by decide +kernel
theorem dJx40b00_toDecimal_cabcc_177 : decode cJx40b00_toDecimal_cabcc 177 = .ok (.ishl, 1) := by decide +kernel
theorem dJx40b00_toDecimal_cabcc_178 : decode cJx40b00_toDecimal_cabcc 178 = .ok (.if_icmp .gt 7, 3) := by decide +kernel
theorem dJx40b00_toDecimal_cabcc_181 : decode cJx40b00_toDecimal_cabcc 181 = .ok (.iconst 1, 1) := by decide +kernel
theorem dJx40b00_toDecimal_cabcc_182 : decode cJx40b00_toDecimal_cabcc 182 = .ok (.goto 4, 3) := by decide +kernel
theorem dJx40b00_toDecimal_cabcc_185 : decode cJx40b00_toDecimal_cabcc 185 = .ok (.iconst 0, 1) := by decide +kernel
theorem dJx40b00_toDecimal_cabcc_186 : decode cJx40b00_toDecimal_cabcc 186 = .ok (.istore 21, 2) := by decide +kernel
theorem dJx40b00_toDecimal_cabcc_188 : decode cJx40b00_toDecimal_cabcc 188 = .ok (.iload 20, 2) := by decide +kernel
theorem dJx40b00_toDecimal_cabcc_190 : decode cJx40b00_toDecimal_cabcc 190 = .ok (.iconst 2, 1) := by decide +kernel
theorem dJx40b00_toDecimal_cabcc_191 : decode cJx40b00_toDecimal_cabcc 191 = .ok (.ishl, 1) := by decide +kernel
theorem dJx40b00_toDecimal_cabcc_192 : decode cJx40b00_toDecimal_cabcc 192 = .ok (.iload 4, 2) := by decide +kernel
theorem dJx40b00_toDecimal_cabcc_194 : decode cJx40b00_toDecimal_cabcc 194 = .ok (.iadd, 1) := by decide +kernel
theorem dJx40b00_toDecimal_cabcc_195 : decode cJx40b00_toDecimal_cabcc 195 = .ok (.iload 17, 2) := by decide +kernel
theorem dJx40b00_toDecimal_cabcc_197 : decode cJx40b00_toDecimal_cabcc 197 = .ok (.if_icmp .gt 7, 3) := by decide +kernel
theorem dJx40b00_toDecimal_cabcc_200 : decode cJx40b00_toDecimal_cabcc 200 = .ok (.iconst 1, 1) := by decide +kernel
theorem dJx40b00_toDecimal_cabcc_201 : decode cJx40b00_toDecimal_cabcc 201 = .ok (.goto 4, 3) := by decide +kernel
theorem dJx40b00_toDecimal_cabcc_204 : decode cJx40b00_toDecimal_cabcc 204 = .ok (.iconst 0, 1) := by decide +kernel
theorem dJx40b00_toDecimal_cabcc_205 : decode cJx40b00_toDecimal_cabcc 205 = .ok (.istore 22, 2) := by decide +kernel
theorem dJx40b00_toDecimal_cabcc_207 : decode cJx40b00_toDecimal_cabcc 207 = .ok (.iload 21, 2) := by decide +kernel
theorem dJx40b00_toDecimal_cabcc_209 : decode cJx40b00_toDecimal_cabcc 209 = .ok (.iload 22, 2) := by decide +kernel
theorem dJx40b00_toDecimal_cabcc_211 : decode cJx40b00_toDecimal_cabcc 211 = .ok (.if_icmp .eq 22, 3) := by decide +kernel
theorem dJx40b00_toDecimal_cabcc_214 : decode cJx40b00_toDecimal_cabcc 214 = .ok (.aload_n 0, 1) := by decide +kernel
theorem dJx40b00_toDecimal_cabcc_215 : decode cJx40b00_toDecimal_cabcc 215 = .ok (.iload 21, 2) := by decide +kernel
theorem dJx40b00_toDecimal_cabcc_217 : decode cJx40b00_toDecimal_cabcc 217 = .ok (.ifCond .eq 8, 3) := by decide +kernel
theorem dJx40b00_toDecimal_cabcc_220 : decode cJx40b00_toDecimal_cabcc 220 = .ok (.iload 19, 2) := by decide +kernel
theorem dJx40b00_toDecimal_cabcc_222 : decode cJx40b00_toDecimal_cabcc 222 = .ok (.goto 5, 3) := by decide +kernel
theorem dJx40b00_toDecimal_cabcc_225 : decode cJx40b00_toDecimal_cabcc 225 = .ok (.iload 20, 2) := by decide +kernel
theorem dJx40b00_toDecimal_cabcc_227 : decode cJx40b00_toDecimal_cabcc 227 = .ok (.iload 11, 2) := by decide +kernel
theorem dJx40b00_toDecimal_cabcc_229 : decode cJx40b00_toDecimal_cabcc 229 = .ok (.invokevirtual 73, 3) := by decide +kernel
theorem dJx40b00_toDecimal_cabcc_232 : decode cJx40b00_toDecimal_cabcc 232 = .ok (.ireturn, 1) := by decide +kernel
theorem dJx40b00_toDecimal_cabcc_233 : decode cJx40b00_toDecimal_cabcc 233 = .ok (.iload 18, 2) := by decide +kernel
theorem dJx40b00_toDecimal_cabcc_235 : decode cJx40b00_toDecimal_cabcc 235 = .ok (.iconst 1, 1) := by decide +kernel
theorem dJx40b00_toDecimal_cabcc_236 : decode cJx40b00_toDecimal_cabcc 236 = .ok (.iadd, 1) := by decide +kernel
theorem dJx40b00_toDecimal_cabcc_237 : decode cJx40b00_toDecimal_cabcc 237 = .ok (.istore 19, 2) := by decide +kernel
theorem dJx40b00_toDecimal_cabcc_239 : decode cJx40b00_toDecimal_cabcc 239 = .ok (.iload 16, 2) := by decide +kernel
theorem dJx40b00_toDecimal_cabcc_241 : decode cJx40b00_toDecimal_cabcc 241 = .ok (.iload 4, 2) := by decide +kernel
theorem dJx40b00_toDecimal_cabcc_243 : decode cJx40b00_toDecimal_cabcc 243 = .ok (.iadd, 1) := by decide +kernel
theorem dJx40b00_toDecimal_cabcc_244 : decode cJx40b00_toDecimal_cabcc 244 = .ok (.iload 18, 2) := by decide +kernel
theorem dJx40b00_toDecimal_cabcc_246 : decode cJx40b00_toDecimal_cabcc 246 = .ok (.iconst 2, 1) := by decide +kernel
theorem dJx40b00_toDecimal_cabcc_247 : decode cJx40b00_toDecimal_cabcc 247 = .ok (.ishl, 1) := by decide +kernel
theorem dJx40b00_toDecimal_cabcc_248 : decode cJx40b00_toDecimal_cabcc 248 = .ok (.if_icmp .gt 7, 3) := by decide +kernel
theorem dJx40b00_toDecimal_cabcc_251 : decode cJx40b00_toDecimal_cabcc 251 = .ok (.iconst 1, 1) := by decide +kernel
theorem dJx40b00_toDecimal_cabcc_252 : decode cJx40b00_toDecimal_cabcc 252 = .ok (.goto 4, 3) := by decide +kernel
theorem dJx40b00_toDecimal_cabcc_255 : decode cJx40b00_toDecimal_cabcc 255 = .ok (.iconst 0, 1) := by decide +kernel
theorem dJx40b00_toDecimal_cabcc_256 : decode cJx40b00_toDecimal_cabcc 256 = .ok (.istore 20, 2) := by decide +kernel
theorem dJx40b00_toDecimal_cabcc_258 : decode cJx40b00_toDecimal_cabcc 258 = .ok (.iload 19, 2) := by decide +kernel
theorem dJx40b00_toDecimal_cabcc_260 : decode cJx40b00_toDecimal_cabcc 260 = .ok (.iconst 2, 1) := by decide +kernel
theorem dJx40b00_toDecimal_cabcc_261 : decode cJx40b00_toDecimal_cabcc 261 = .ok (.ishl, 1) := by decide +kernel
theorem dJx40b00_toDecimal_cabcc_262 : decode cJx40b00_toDecimal_cabcc 262 = .ok (.iload 4, 2) := by decide +kernel
theorem dJx40b00_toDecimal_cabcc_264 : decode cJx40b00_toDecimal_cabcc 264 = .ok (.iadd, 1) := by decide +kernel
theorem dJx40b00_toDecimal_cabcc_265 : decode cJx40b00_toDecimal_cabcc 265 = .ok (.iload 17, 2) := by decide +kernel
theorem dJx40b00_toDecimal_cabcc_267 : decode cJx40b00_toDecimal_cabcc 267 = .ok (.if_icmp .gt 7, 3) := by decide +kernel
theorem dJx40b00_toDecimal_cabcc_270 : decode cJx40b00_toDecimal_cabcc 270 = .ok (.iconst 1, 1) := by decide +kernel
theorem dJx40b00_toDecimal_cabcc_271 : decode cJx40b00_toDecimal_cabcc 271 = .ok (.goto 4, 3) := by decide +kernel
theorem dJx40b00_toDecimal_cabcc_274 : decode cJx40b00_toDecimal_cabcc 274 = .ok (.iconst 0, 1) := by decide +kernel
theorem dJx40b00_toDecimal_cabcc_275 : decode cJx40b00_toDecimal_cabcc 275 = .ok (.istore 21, 2) := by decide +kernel
theorem dJx40b00_toDecimal_cabcc_277 : decode cJx40b00_toDecimal_cabcc 277 = .ok (.iload 20, 2) := by decide +kernel
theorem dJx40b00_toDecimal_cabcc_279 : decode cJx40b00_toDecimal_cabcc 279 = .ok (.iload 21, 2) := by decide +kernel
theorem dJx40b00_toDecimal_cabcc_281 : decode cJx40b00_toDecimal_cabcc 281 = .ok (.if_icmp .eq 24, 3) := by decide +kernel
theorem dJx40b00_toDecimal_cabcc_284 : decode cJx40b00_toDecimal_cabcc 284 = .ok (.aload_n 0, 1) := by decide +kernel
theorem dJx40b00_toDecimal_cabcc_285 : decode cJx40b00_toDecimal_cabcc 285 = .ok (.iload 20, 2) := by decide +kernel
theorem dJx40b00_toDecimal_cabcc_287 : decode cJx40b00_toDecimal_cabcc 287 = .ok (.ifCond .eq 8, 3) := by decide +kernel
theorem dJx40b00_toDecimal_cabcc_290 : decode cJx40b00_toDecimal_cabcc 290 = .ok (.iload 18, 2) := by decide +kernel
theorem dJx40b00_toDecimal_cabcc_292 : decode cJx40b00_toDecimal_cabcc 292 = .ok (.goto 5, 3) := by decide +kernel
theorem dJx40b00_toDecimal_cabcc_295 : decode cJx40b00_toDecimal_cabcc 295 = .ok (.iload 19, 2) := by decide +kernel
theorem dJx40b00_toDecimal_cabcc_297 : decode cJx40b00_toDecimal_cabcc 297 = .ok (.iload 11, 2) := by decide +kernel
theorem dJx40b00_toDecimal_cabcc_299 : decode cJx40b00_toDecimal_cabcc 299 = .ok (.iload_n 3, 1) := by decide +kernel
theorem dJx40b00_toDecimal_cabcc_300 : decode cJx40b00_toDecimal_cabcc 300 = .ok (.iadd, 1) := by decide +kernel
theorem dJx40b00_toDecimal_cabcc_301 : decode cJx40b00_toDecimal_cabcc 301 = .ok (.invokevirtual 73, 3) := by decide +kernel
theorem dJx40b00_toDecimal_cabcc_304 : decode cJx40b00_toDecimal_cabcc 304 = .ok (.ireturn, 1) := by decide +kernel
theorem dJx40b00_toDecimal_cabcc_305 : decode cJx40b00_toDecimal_cabcc 305 = .ok (.iload 15, 2) := by decide +kernel
theorem dJx40b00_toDecimal_cabcc_307 : decode cJx40b00_toDecimal_cabcc 307 = .ok (.iload 18, 2) := by decide +kernel
theorem dJx40b00_toDecimal_cabcc_309 : decode cJx40b00_toDecimal_cabcc 309 = .ok (.iload 19, 2) := by decide +kernel
theorem dJx40b00_toDecimal_cabcc_311 : decode cJx40b00_toDecimal_cabcc 311 = .ok (.iadd, 1) := by decide +kernel
theorem dJx40b00_toDecimal_cabcc_312 : decode cJx40b00_toDecimal_cabcc 312 = .ok (.iconst 1, 1) := by decide +kernel
theorem dJx40b00_toDecimal_cabcc_313 : decode cJx40b00_toDecimal_cabcc 313 = .ok (.ishl, 1) := by decide +kernel
theorem dJx40b00_toDecimal_cabcc_314 : decode cJx40b00_toDecimal_cabcc 314 = .ok (.isub, 1) := by decide +kernel
theorem dJx40b00_toDecimal_cabcc_315 : decode cJx40b00_toDecimal_cabcc 315 = .ok (.istore 22, 2) := by decide +kernel
theorem dJx40b00_toDecimal_cabcc_317 : decode cJx40b00_toDecimal_cabcc 317 = .ok (.aload_n 0, 1) := by decide +kernel
theorem dJx40b00_toDecimal_cabcc_318 : decode cJx40b00_toDecimal_cabcc 318 = .ok (.iload 22, 2) := by decide +kernel
theorem dJx40b00_toDecimal_cabcc_320 : decode cJx40b00_toDecimal_cabcc 320 = .ok (.ifCond .lt 15, 3) := by decide +kernel
theorem dJx40b00_toDecimal_cabcc_323 : decode cJx40b00_toDecimal_cabcc 323 = .ok (.iload 22, 2) := by decide +kernel
theorem dJx40b00_toDecimal_cabcc_325 : decode cJx40b00_toDecimal_cabcc 325 = .ok (.ifCond .ne 15, 3) := by decide +kernel
theorem dJx40b00_toDecimal_cabcc_328 : decode cJx40b00_toDecimal_cabcc 328 = .ok (.iload 18, 2) := by decide +kernel
theorem dJx40b00_toDecimal_cabcc_330 : decode cJx40b00_toDecimal_cabcc 330 = .ok (.iconst 1, 1) := by decide +kernel
theorem dJx40b00_toDecimal_cabcc_331 : decode cJx40b00_toDecimal_cabcc 331 = .ok (.iand, 1) := by decide +kernel
theorem dJx40b00_toDecimal_cabcc_332 : decode cJx40b00_toDecimal_cabcc 332 = .ok (.ifCond .ne 8, 3) := by decide +kernel
theorem dJx40b00_toDecimal_cabcc_335 : decode cJx40b00_toDecimal_cabcc 335 = .ok (.iload 18, 2) := by decide +kernel
theorem dJx40b00_toDecimal_cabcc_337 : decode cJx40b00_toDecimal_cabcc 337 = .ok (.goto 5, 3) := by decide +kernel
theorem dJx40b00_toDecimal_cabcc_340 : decode cJx40b00_toDecimal_cabcc 340 = .ok (.iload 19, 2) := by decide +kernel
theorem dJx40b00_toDecimal_cabcc_342 : decode cJx40b00_toDecimal_cabcc 342 = .ok (.iload 11, 2) := by decide +kernel
theorem dJx40b00_toDecimal_cabcc_344 : decode cJx40b00_toDecimal_cabcc 344 = .ok (.iload_n 3, 1) := by decide +kernel
theorem dJx40b00_toDecimal_cabcc_345 : decode cJx40b00_toDecimal_cabcc 345 = .ok (.iadd, 1) := by decide +kernel
theorem dJx40b00_toDecimal_cabcc_346 : decode cJx40b00_toDecimal_cabcc 346 = .ok (.invokevirtual 73, 3) := by decide +kernel
theorem dJx40b00_toDecimal_cabcc_349 : decode cJx40b00_toDecimal_cabcc 349 = .ok (.ireturn, 1) := by decide +kernel
theorem dJx40b00_rop_74951_0 : decode cJx40b00_rop_74951 0 = .ok (.lload_n 0, 1) := by decide +kernel
theorem dJx40b00_rop_74951_1 : decode cJx40b00_rop_74951 1 = .ok (.lload_n 2, 1) := by decide +kernel
theorem dJx40b00_rop_74951_2 : decode cJx40b00_rop_74951 2 = .ok (.invokestatic 104, 3) := by decide +kernel
theorem dJx40b00_rop_74951_5 : decode cJx40b00_rop_74951 5 = .ok (.lstore 4, 2) := by decide +kernel
theorem dJx40b00_rop_74951_7 : decode cJx40b00_rop_74951 7 = .ok (.lload 4, 2) := by decide +kernel
theorem dJx40b00_rop_74951_9 : decode cJx40b00_rop_74951 9 = .ok (.bipush 31, 2) := by decide +kernel
theorem dJx40b00_rop_74951_11 : decode cJx40b00_rop_74951 11 = .ok (.lushr, 1) := by decide +kernel
theorem dJx40b00_rop_74951_12 : decode cJx40b00_rop_74951 12 = .ok (.lstore 6, 2) := by decide +kernel
theorem dJx40b00_rop_74951_14 : decode cJx40b00_rop_74951 14 = .ok (.lload 6, 2) := by decide +kernel
theorem dJx40b00_rop_74951_16 : decode cJx40b00_rop_74951 16 = .ok (.lload 4, 2) := by decide +kernel
theorem dJx40b00_rop_74951_18 : decode cJx40b00_rop_74951 18 = .ok (.ldc2_w 110, 3) := by decide +kernel
theorem dJx40b00_rop_74951_21 : decode cJx40b00_rop_74951 21 = .ok (.land, 1) := by decide +kernel
theorem dJx40b00_rop_74951_22 : decode cJx40b00_rop_74951 22 = .ok (.ldc2_w 110, 3) := by decide +kernel
theorem dJx40b00_rop_74951_25 : decode cJx40b00_rop_74951 25 = .ok (.ladd, 1) := by decide +kernel
theorem dJx40b00_rop_74951_26 : decode cJx40b00_rop_74951 26 = .ok (.bipush 32, 2) := by decide +kernel
theorem dJx40b00_rop_74951_28 : decode cJx40b00_rop_74951 28 = .ok (.lushr, 1) := by decide +kernel
theorem dJx40b00_rop_74951_29 : decode cJx40b00_rop_74951 29 = .ok (.lor, 1) := by decide +kernel
theorem dJx40b00_rop_74951_30 : decode cJx40b00_rop_74951 30 = .ok (.l2i, 1) := by decide +kernel
theorem dJx40b00_rop_74951_31 : decode cJx40b00_rop_74951 31 = .ok (.ireturn, 1) := by decide +kernel
theorem dJx40b00_toChars_7cf53_0 : decode cJx40b00_toChars_7cf53 0 = .ok (.bipush 32, 2) := by decide +kernel
theorem dJx40b00_toChars_7cf53_2 : decode cJx40b00_toChars_7cf53 2 = .ok (.iload_n 1, 1) := by decide +kernel
theorem dJx40b00_toChars_7cf53_3 : decode cJx40b00_toChars_7cf53 3 = .ok (.invokestatic 114, 3) := by decide +kernel
theorem dJx40b00_toChars_7cf53_6 : decode cJx40b00_toChars_7cf53 6 = .ok (.isub, 1) := by decide +kernel
theorem dJx40b00_toChars_7cf53_7 : decode cJx40b00_toChars_7cf53 7 = .ok (.invokestatic 82, 3) := by decide +kernel
theorem dJx40b00_toChars_7cf53_10 : decode cJx40b00_toChars_7cf53 10 = .ok (.istore_n 3, 1) := by decide +kernel
theorem dJx40b00_toChars_7cf53_11 : decode cJx40b00_toChars_7cf53 11 = .ok (.iload_n 1, 1) := by decide +kernel
theorem dJx40b00_toChars_7cf53_12 : decode cJx40b00_toChars_7cf53 12 = .ok (.i2l, 1) := by decide +kernel
theorem dJx40b00_toChars_7cf53_13 : decode cJx40b00_toChars_7cf53 13 = .ok (.iload_n 3, 1) := by decide +kernel
theorem dJx40b00_toChars_7cf53_14 : decode cJx40b00_toChars_7cf53 14 = .ok (.invokestatic 117, 3) := by decide +kernel
theorem dJx40b00_toChars_7cf53_17 : decode cJx40b00_toChars_7cf53 17 = .ok (.lcmp, 1) := by decide +kernel
theorem dJx40b00_toChars_7cf53_18 : decode cJx40b00_toChars_7cf53 18 = .ok (.ifCond .lt 6, 3) := by decide +kernel
theorem dJx40b00_toChars_7cf53_21 : decode cJx40b00_toChars_7cf53 21 = .ok (.iinc 3 1, 3) := by decide +kernel
theorem dJx40b00_toChars_7cf53_24 : decode cJx40b00_toChars_7cf53 24 = .ok (.iload_n 1, 1) := by decide +kernel
theorem dJx40b00_toChars_7cf53_25 : decode cJx40b00_toChars_7cf53 25 = .ok (.bipush 9, 2) := by decide +kernel
theorem dJx40b00_toChars_7cf53_27 : decode cJx40b00_toChars_7cf53 27 = .ok (.iload_n 3, 1) := by decide +kernel
theorem dJx40b00_toChars_7cf53_28 : decode cJx40b00_toChars_7cf53 28 = .ok (.isub, 1) := by decide +kernel
theorem dJx40b00_toChars_7cf53_29 : decode cJx40b00_toChars_7cf53 29 = .ok (.invokestatic 117, 3) := by decide +kernel
theorem dJx40b00_toChars_7cf53_32 : decode cJx40b00_toChars_7cf53 32 = .ok (.l2i, 1) := by decide +kernel
theorem dJx40b00_toChars_7cf53_33 : decode cJx40b00_toChars_7cf53 33 = .ok (.imul, 1) := by decide +kernel
theorem dJx40b00_toChars_7cf53_34 : decode cJx40b00_toChars_7cf53 34 = .ok (.istore_n 1, 1) := by decide +kernel
theorem dJx40b00_toChars_7cf53_35 : decode cJx40b00_toChars_7cf53 35 = .ok (.iload_n 2, 1) := by decide +kernel
theorem dJx40b00_toChars_7cf53_36 : decode cJx40b00_toChars_7cf53 36 = .ok (.iload_n 3, 1) := by decide +kernel
theorem dJx40b00_toChars_7cf53_37 : decode cJx40b00_toChars_7cf53 37 = .ok (.iadd, 1) := by decide +kernel
theorem dJx40b00_toChars_7cf53_38 : decode cJx40b00_toChars_7cf53 38 = .ok (.istore_n 2, 1) := by decide +kernel
theorem dJx40b00_toChars_7cf53_39 : decode cJx40b00_toChars_7cf53 39 = .ok (.iload_n 1, 1) := by decide +kernel
theorem dJx40b00_toChars_7cf53_40 : decode cJx40b00_toChars_7cf53 40 = .ok (.i2l, 1) := by decide +kernel
theorem dJx40b00_toChars_7cf53_41 : decode cJx40b00_toChars_7cf53 41 = .ok (.ldc2_w 120, 3) := by decide +kernel
theorem dJx40b00_toChars_7cf53_44 : decode cJx40b00_toChars_7cf53 44 = .ok (.lmul, 1) := by decide +kernel
theorem dJx40b00_toChars_7cf53_45 : decode cJx40b00_toChars_7cf53 45 = .ok (.bipush 57, 2) := by decide +kernel
theorem dJx40b00_toChars_7cf53_47 : decode cJx40b00_toChars_7cf53 47 = .ok (.lushr, 1) := by decide +kernel
theorem dJx40b00_toChars_7cf53_48 : decode cJx40b00_toChars_7cf53 48 = .ok (.l2i, 1) := by decide +kernel
theorem dJx40b00_toChars_7cf53_49 : decode cJx40b00_toChars_7cf53 49 = .ok (.istore 4, 2) := by decide +kernel
theorem dJx40b00_toChars_7cf53_51 : decode cJx40b00_toChars_7cf53 51 = .ok (.iload_n 1, 1) := by decide +kernel
theorem dJx40b00_toChars_7cf53_52 : decode cJx40b00_toChars_7cf53 52 = .ok (.ldc 122, 2) := by decide +kernel
theorem dJx40b00_toChars_7cf53_54 : decode cJx40b00_toChars_7cf53 54 = .ok (.iload 4, 2) := by decide +kernel
theorem dJx40b00_toChars_7cf53_56 : decode cJx40b00_toChars_7cf53 56 = .ok (.imul, 1) := by decide +kernel
theorem dJx40b00_toChars_7cf53_57 : decode cJx40b00_toChars_7cf53 57 = .ok (.isub, 1) := by decide +kernel
theorem dJx40b00_toChars_7cf53_58 : decode cJx40b00_toChars_7cf53 58 = .ok (.istore 5, 2) := by decide +kernel
theorem dJx40b00_toChars_7cf53_60 : decode cJx40b00_toChars_7cf53 60 = .ok (.iconst 0, 1) := by decide +kernel
theorem dJx40b00_toChars_7cf53_61 : decode cJx40b00_toChars_7cf53 61 = .ok (.iload_n 2, 1) := by decide +kernel
theorem dJx40b00_toChars_7cf53_62 : decode cJx40b00_toChars_7cf53 62 = .ok (.if_icmp .ge 19, 3) := by decide +kernel
theorem dJx40b00_toChars_7cf53_65 : decode cJx40b00_toChars_7cf53 65 = .ok (.iload_n 2, 1) := by decide +kernel
theorem dJx40b00_toChars_7cf53_66 : decode cJx40b00_toChars_7cf53 66 = .ok (.bipush 7, 2) := by decide +kernel
theorem dJx40b00_toChars_7cf53_68 : decode cJx40b00_toChars_7cf53 68 = .ok (.if_icmp .gt 13, 3) := by decide +kernel
theorem dJx40b00_toChars_7cf53_71 : decode cJx40b00_toChars_7cf53 71 = .ok (.aload_n 0, 1) := by decide +kernel
theorem dJx40b00_toChars_7cf53_72 : decode cJx40b00_toChars_7cf53 72 = .ok (.iload 4, 2) := by decide +kernel
theorem dJx40b00_toChars_7cf53_74 : decode cJx40b00_toChars_7cf53 74 = .ok (.iload 5, 2) := by decide +kernel
theorem dJx40b00_toChars_7cf53_76 : decode cJx40b00_toChars_7cf53 76 = .ok (.iload_n 2, 1) := by decide +kernel
theorem dJx40b00_toChars_7cf53_77 : decode cJx40b00_toChars_7cf53 77 = .ok (.invokevirtual 123, 3) := by decide +kernel
theorem dJx40b00_toChars_7cf53_80 : decode cJx40b00_toChars_7cf53 80 = .ok (.ireturn, 1) := by decide +kernel
theorem dJx40b00_toChars_7cf53_81 : decode cJx40b00_toChars_7cf53 81 = .ok (.bipush (-3), 2) := by decide +kernel
theorem dJx40b00_toChars_7cf53_83 : decode cJx40b00_toChars_7cf53 83 = .ok (.iload_n 2, 1) := by decide +kernel
theorem dJx40b00_toChars_7cf53_84 : decode cJx40b00_toChars_7cf53 84 = .ok (.if_icmp .ge 17, 3) := by decide +kernel
theorem dJx40b00_toChars_7cf53_87 : decode cJx40b00_toChars_7cf53 87 = .ok (.iload_n 2, 1) := by decide +kernel
theorem dJx40b00_toChars_7cf53_88 : decode cJx40b00_toChars_7cf53 88 = .ok (.ifCond .gt 13, 3) := by decide +kernel
theorem dJx40b00_toChars_7cf53_91 : decode cJx40b00_toChars_7cf53 91 = .ok (.aload_n 0, 1) := by decide +kernel
theorem dJx40b00_toChars_7cf53_92 : decode cJx40b00_toChars_7cf53 92 = .ok (.iload 4, 2) := by decide +kernel
theorem dJx40b00_toChars_7cf53_94 : decode cJx40b00_toChars_7cf53 94 = .ok (.iload 5, 2) := by decide +kernel
theorem dJx40b00_toChars_7cf53_96 : decode cJx40b00_toChars_7cf53 96 = .ok (.iload_n 2, 1) := by decide +kernel
theorem dJx40b00_toChars_7cf53_97 : decode cJx40b00_toChars_7cf53 97 = .ok (.invokevirtual 126, 3) := by decide +kernel
theorem dJx40b00_toChars_7cf53_100 : decode cJx40b00_toChars_7cf53 100 = .ok (.ireturn, 1) := by decide +kernel
theorem dJx40b00_toChars_7cf53_101 : decode cJx40b00_toChars_7cf53 101 = .ok (.aload_n 0, 1) := by decide +kernel
theorem dJx40b00_toChars_7cf53_102 : decode cJx40b00_toChars_7cf53 102 = .ok (.iload 4, 2) := by decide +kernel
theorem dJx40b00_toChars_7cf53_104 : decode cJx40b00_toChars_7cf53 104 = .ok (.iload 5, 2) := by decide +kernel
theorem dJx40b00_toChars_7cf53_106 : decode cJx40b00_toChars_7cf53 106 = .ok (.iload_n 2, 1) := by decide +kernel
theorem dJx40b00_toChars_7cf53_107 : decode cJx40b00_toChars_7cf53 107 = .ok (.invokevirtual 129, 3) := by decide +kernel
theorem dJx40b00_toChars_7cf53_110 : decode cJx40b00_toChars_7cf53 110 = .ok (.ireturn, 1) := by decide +kernel
theorem dJx40b00_toChars1_cabcc_0 : decode cJx40b00_toChars1_cabcc 0 = .ok (.aload_n 0, 1) := by decide +kernel
theorem dJx40b00_toChars1_cabcc_1 : decode cJx40b00_toChars1_cabcc 1 = .ok (.iload_n 1, 1) := by decide +kernel
theorem dJx40b00_toChars1_cabcc_2 : decode cJx40b00_toChars1_cabcc 2 = .ok (.invokevirtual 132, 3) := by decide +kernel
theorem dJx40b00_toChars1_cabcc_5 : decode cJx40b00_toChars1_cabcc 5 = .ok (.aload_n 0, 1) := by decide +kernel
theorem dJx40b00_toChars1_cabcc_6 : decode cJx40b00_toChars1_cabcc 6 = .ok (.iload_n 2, 1) := by decide +kernel
theorem dJx40b00_toChars1_cabcc_7 : decode cJx40b00_toChars1_cabcc 7 = .ok (.invokevirtual 135, 3) := by decide +kernel
theorem dJx40b00_toChars1_cabcc_10 : decode cJx40b00_toChars1_cabcc 10 = .ok (.istore 4, 2) := by decide +kernel
theorem dJx40b00_toChars1_cabcc_12 : decode cJx40b00_toChars1_cabcc 12 = .ok (.iconst 1, 1) := by decide +kernel
theorem dJx40b00_toChars1_cabcc_13 : decode cJx40b00_toChars1_cabcc 13 = .ok (.istore 6, 2) := by decide +kernel
theorem dJx40b00_toChars1_cabcc_15 : decode cJx40b00_toChars1_cabcc 15 = .ok (.iload 6, 2) := by decide +kernel
theorem dJx40b00_toChars1_cabcc_17 : decode cJx40b00_toChars1_cabcc 17 = .ok (.iload_n 3, 1) := by decide +kernel
theorem dJx40b00_toChars1_cabcc_18 : decode cJx40b00_toChars1_cabcc 18 = .ok (.if_icmp .ge 32, 3) := by decide +kernel
theorem dJx40b00_toChars1_cabcc_21 : decode cJx40b00_toChars1_cabcc 21 = .ok (.bipush 10, 2) := by decide +kernel
theorem dJx40b00_toChars1_cabcc_23 : decode cJx40b00_toChars1_cabcc 23 = .ok (.iload 4, 2) := by decide +kernel
theorem dJx40b00_toChars1_cabcc_25 : decode cJx40b00_toChars1_cabcc 25 = .ok (.imul, 1) := by decide +kernel
theorem dJx40b00_toChars1_cabcc_26 : decode cJx40b00_toChars1_cabcc 26 = .ok (.istore 5, 2) := by decide +kernel
theorem dJx40b00_toChars1_cabcc_28 : decode cJx40b00_toChars1_cabcc 28 = .ok (.aload_n 0, 1) := by decide +kernel
theorem dJx40b00_toChars1_cabcc_29 : decode cJx40b00_toChars1_cabcc 29 = .ok (.iload 5, 2) := by decide +kernel
theorem dJx40b00_toChars1_cabcc_31 : decode cJx40b00_toChars1_cabcc 31 = .ok (.bipush 28, 2) := by decide +kernel
theorem dJx40b00_toChars1_cabcc_33 : decode cJx40b00_toChars1_cabcc 33 = .ok (.iushr, 1) := by decide +kernel
theorem dJx40b00_toChars1_cabcc_34 : decode cJx40b00_toChars1_cabcc 34 = .ok (.invokevirtual 132, 3) := by decide +kernel
theorem dJx40b00_toChars1_cabcc_37 : decode cJx40b00_toChars1_cabcc 37 = .ok (.iload 5, 2) := by decide +kernel
theorem dJx40b00_toChars1_cabcc_39 : decode cJx40b00_toChars1_cabcc 39 = .ok (.ldc 138, 2) := by decide +kernel
theorem dJx40b00_toChars1_cabcc_41 : decode cJx40b00_toChars1_cabcc 41 = .ok (.iand, 1) := by decide +kernel
theorem dJx40b00_toChars1_cabcc_42 : decode cJx40b00_toChars1_cabcc 42 = .ok (.istore 4, 2) := by decide +kernel
theorem dJx40b00_toChars1_cabcc_44 : decode cJx40b00_toChars1_cabcc 44 = .ok (.iinc 6 1, 3) := by decide +kernel
theorem dJx40b00_toChars1_cabcc_47 : decode cJx40b00_toChars1_cabcc 47 = .ok (.goto (-32), 3) := by decide +kernel
theorem dJx40b00_toChars1_cabcc_50 : decode cJx40b00_toChars1_cabcc 50 = .ok (.aload_n 0, 1) := by decide +kernel
theorem dJx40b00_toChars1_cabcc_51 : decode cJx40b00_toChars1_cabcc 51 = .ok (.bipush 46, 2) := by decide +kernel
theorem dJx40b00_toChars1_cabcc_53 : decode cJx40b00_toChars1_cabcc 53 = .ok (.invokevirtual 69, 3) := by decide +kernel
theorem dJx40b00_toChars1_cabcc_56 : decode cJx40b00_toChars1_cabcc 56 = .ok (.iload 6, 2) := by decide +kernel
theorem dJx40b00_toChars1_cabcc_58 : decode cJx40b00_toChars1_cabcc 58 = .ok (.bipush 8, 2) := by decide +kernel
theorem dJx40b00_toChars1_cabcc_60 : decode cJx40b00_toChars1_cabcc 60 = .ok (.if_icmp .gt 32, 3) := by decide +kernel
theorem dJx40b00_toChars1_cabcc_63 : decode cJx40b00_toChars1_cabcc 63 = .ok (.bipush 10, 2) := by decide +kernel
theorem dJx40b00_toChars1_cabcc_65 : decode cJx40b00_toChars1_cabcc 65 = .ok (.iload 4, 2) := by decide +kernel
theorem dJx40b00_toChars1_cabcc_67 : decode cJx40b00_toChars1_cabcc 67 = .ok (.imul, 1) := by decide +kernel
theorem dJx40b00_toChars1_cabcc_68 : decode cJx40b00_toChars1_cabcc 68 = .ok (.istore 5, 2) := by decide +kernel
theorem dJx40b00_toChars1_cabcc_70 : decode cJx40b00_toChars1_cabcc 70 = .ok (.aload_n 0, 1) := by decide +kernel
theorem dJx40b00_toChars1_cabcc_71 : decode cJx40b00_toChars1_cabcc 71 = .ok (.iload 5, 2) := by decide +kernel
theorem dJx40b00_toChars1_cabcc_73 : decode cJx40b00_toChars1_cabcc 73 = .ok (.bipush 28, 2) := by decide +kernel
theorem dJx40b00_toChars1_cabcc_75 : decode cJx40b00_toChars1_cabcc 75 = .ok (.iushr, 1) := by decide +kernel
theorem dJx40b00_toChars1_cabcc_76 : decode cJx40b00_toChars1_cabcc 76 = .ok (.invokevirtual 132, 3) := by decide +kernel
theorem dJx40b00_toChars1_cabcc_79 : decode cJx40b00_toChars1_cabcc 79 = .ok (.iload 5, 2) := by decide +kernel
theorem dJx40b00_toChars1_cabcc_81 : decode cJx40b00_toChars1_cabcc 81 = .ok (.ldc 138, 2) := by decide +kernel
theorem dJx40b00_toChars1_cabcc_83 : decode cJx40b00_toChars1_cabcc 83 = .ok (.iand, 1) := by decide +kernel
theorem dJx40b00_toChars1_cabcc_84 : decode cJx40b00_toChars1_cabcc 84 = .ok (.istore 4, 2) := by decide +kernel
theorem dJx40b00_toChars1_cabcc_86 : decode cJx40b00_toChars1_cabcc 86 = .ok (.iinc 6 1, 3) := by decide +kernel
theorem dJx40b00_toChars1_cabcc_89 : decode cJx40b00_toChars1_cabcc 89 = .ok (.goto (-33), 3) := by decide +kernel
theorem dJx40b00_toChars1_cabcc_92 : decode cJx40b00_toChars1_cabcc 92 = .ok (.aload_n 0, 1) := by decide +kernel
theorem dJx40b00_toChars1_cabcc_93 : decode cJx40b00_toChars1_cabcc 93 = .ok (.invokevirtual 139, 3) := by decide +kernel
theorem dJx40b00_toChars1_cabcc_96 : decode cJx40b00_toChars1_cabcc 96 = .ok (.iconst 0, 1) := by decide +kernel
theorem dJx40b00_toChars1_cabcc_97 : decode cJx40b00_toChars1_cabcc 97 = .ok (.ireturn, 1) := by decide +kernel
theorem dJx40b00_toChars2_cabcc_0 : decode cJx40b00_toChars2_cabcc 0 = .ok (.aload_n 0, 1) := by decide +kernel
theorem dJx40b00_toChars2_cabcc_1 : decode cJx40b00_toChars2_cabcc 1 = .ok (.iconst 0, 1) := by decide +kernel
theorem dJx40b00_toChars2_cabcc_2 : decode cJx40b00_toChars2_cabcc 2 = .ok (.invokevirtual 132, 3) := by decide +kernel
theorem dJx40b00_toChars2_cabcc_5 : decode cJx40b00_toChars2_cabcc 5 = .ok (.aload_n 0, 1) := by decide +kernel
theorem dJx40b00_toChars2_cabcc_6 : decode cJx40b00_toChars2_cabcc 6 = .ok (.bipush 46, 2) := by decide +kernel
theorem dJx40b00_toChars2_cabcc_8 : decode cJx40b00_toChars2_cabcc 8 = .ok (.invokevirtual 69, 3) := by decide +kernel
theorem dJx40b00_toChars2_cabcc_11 : decode cJx40b00_toChars2_cabcc 11 = .ok (.iload_n 3, 1) := by decide +kernel
theorem dJx40b00_toChars2_cabcc_12 : decode cJx40b00_toChars2_cabcc 12 = .ok (.ifCond .ge 14, 3) := by decide +kernel
theorem dJx40b00_toChars2_cabcc_15 : decode cJx40b00_toChars2_cabcc 15 = .ok (.aload_n 0, 1) := by decide +kernel
theorem dJx40b00_toChars2_cabcc_16 : decode cJx40b00_toChars2_cabcc 16 = .ok (.iconst 0, 1) := by decide +kernel
theorem dJx40b00_toChars2_cabcc_17 : decode cJx40b00_toChars2_cabcc 17 = .ok (.invokevirtual 132, 3) := by decide +kernel
theorem dJx40b00_toChars2_cabcc_20 : decode cJx40b00_toChars2_cabcc 20 = .ok (.iinc 3 1, 3) := by decide +kernel
theorem dJx40b00_toChars2_cabcc_23 : decode cJx40b00_toChars2_cabcc 23 = .ok (.goto (-12), 3) := by decide +kernel
theorem dJx40b00_toChars2_cabcc_26 : decode cJx40b00_toChars2_cabcc 26 = .ok (.aload_n 0, 1) := by decide +kernel
theorem dJx40b00_toChars2_cabcc_27 : decode cJx40b00_toChars2_cabcc 27 = .ok (.iload_n 1, 1) := by decide +kernel
theorem dJx40b00_toChars2_cabcc_28 : decode cJx40b00_toChars2_cabcc 28 = .ok (.invokevirtual 132, 3) := by decide +kernel
theorem dJx40b00_toChars2_cabcc_31 : decode cJx40b00_toChars2_cabcc 31 = .ok (.aload_n 0, 1) := by decide +kernel
theorem dJx40b00_toChars2_cabcc_32 : decode cJx40b00_toChars2_cabcc 32 = .ok (.iload_n 2, 1) := by decide +kernel
theorem dJx40b00_toChars2_cabcc_33 : decode cJx40b00_toChars2_cabcc 33 = .ok (.invokevirtual 142, 3) := by decide +kernel
theorem dJx40b00_toChars2_cabcc_36 : decode cJx40b00_toChars2_cabcc 36 = .ok (.aload_n 0, 1) := by decide +kernel
theorem dJx40b00_toChars2_cabcc_37 : decode cJx40b00_toChars2_cabcc 37 = .ok (.invokevirtual 139, 3) := by decide +kernel
theorem dJx40b00_toChars2_cabcc_40 : decode cJx40b00_toChars2_cabcc 40 = .ok (.iconst 0, 1) := by decide +kernel
theorem dJx40b00_toChars2_cabcc_41 : decode cJx40b00_toChars2_cabcc 41 = .ok (.ireturn, 1) := by decide +kernel
theorem dJx40b00_toChars3_cabcc_0 : decode cJx40b00_toChars3_cabcc 0 = .ok (.aload_n 0, 1) := by decide +kernel
theorem dJx40b00_toChars3_cabcc_1 : decode cJx40b00_toChars3_cabcc 1 = .ok (.iload_n 1, 1) := by decide +kernel
theorem dJx40b00_toChars3_cabcc_2 : decode cJx40b00_toChars3_cabcc 2 = .ok (.invokevirtual 132, 3) := by decide +kernel
theorem dJx40b00_toChars3_cabcc_5 : decode cJx40b00_toChars3_cabcc 5 = .ok (.aload_n 0, 1) := by decide +kernel
theorem dJx40b00_toChars3_cabcc_6 : decode cJx40b00_toChars3_cabcc 6 = .ok (.bipush 46, 2) := by decide +kernel
theorem dJx40b00_toChars3_cabcc_8 : decode cJx40b00_toChars3_cabcc 8 = .ok (.invokevirtual 69, 3) := by decide +kernel
theorem dJx40b00_toChars3_cabcc_11 : decode cJx40b00_toChars3_cabcc 11 = .ok (.aload_n 0, 1) := by decide +kernel
theorem dJx40b00_toChars3_cabcc_12 : decode cJx40b00_toChars3_cabcc 12 = .ok (.iload_n 2, 1) := by decide +kernel
theorem dJx40b00_toChars3_cabcc_13 : decode cJx40b00_toChars3_cabcc 13 = .ok (.invokevirtual 142, 3) := by decide +kernel
theorem dJx40b00_toChars3_cabcc_16 : decode cJx40b00_toChars3_cabcc 16 = .ok (.aload_n 0, 1) := by decide +kernel
theorem dJx40b00_toChars3_cabcc_17 : decode cJx40b00_toChars3_cabcc 17 = .ok (.invokevirtual 139, 3) := by decide +kernel
theorem dJx40b00_toChars3_cabcc_20 : decode cJx40b00_toChars3_cabcc 20 = .ok (.aload_n 0, 1) := by decide +kernel
theorem dJx40b00_toChars3_cabcc_21 : decode cJx40b00_toChars3_cabcc 21 = .ok (.iload_n 3, 1) := by decide +kernel
theorem dJx40b00_toChars3_cabcc_22 : decode cJx40b00_toChars3_cabcc 22 = .ok (.iconst 1, 1) := by decide +kernel
theorem dJx40b00_toChars3_cabcc_23 : decode cJx40b00_toChars3_cabcc 23 = .ok (.isub, 1) := by decide +kernel
theorem dJx40b00_toChars3_cabcc_24 : decode cJx40b00_toChars3_cabcc 24 = .ok (.invokevirtual 145, 3) := by decide +kernel
theorem dJx40b00_toChars3_cabcc_27 : decode cJx40b00_toChars3_cabcc 27 = .ok (.iconst 0, 1) := by decide +kernel
theorem dJx40b00_toChars3_cabcc_28 : decode cJx40b00_toChars3_cabcc 28 = .ok (.ireturn, 1) := by decide +kernel
theorem dJx40b00_append8Digits_d00df_0 : decode cJx40b00_append8Digits_d00df 0 = .ok (.aload_n 0, 1) := by decide +kernel
theorem dJx40b00_append8Digits_d00df_1 : decode cJx40b00_append8Digits_d00df 1 = .ok (.iload_n 1, 1) := by decide +kernel
theorem dJx40b00_append8Digits_d00df_2 : decode cJx40b00_append8Digits_d00df 2 = .ok (.invokevirtual 135, 3) := by decide +kernel
theorem dJx40b00_append8Digits_d00df_5 : decode cJx40b00_append8Digits_d00df 5 = .ok (.istore_n 2, 1) := by decide +kernel
theorem dJx40b00_append8Digits_d00df_6 : decode cJx40b00_append8Digits_d00df 6 = .ok (.iconst 0, 1) := by decide +kernel
theorem dJx40b00_append8Digits_d00df_7 : decode cJx40b00_append8Digits_d00df 7 = .ok (.istore_n 3, 1) := by decide +kernel
theorem dJx40b00_append8Digits_d00df_8 : decode cJx40b00_append8Digits_d00df 8 = .ok (.iload_n 3, 1) := by decide +kernel
theorem dJx40b00_append8Digits_d00df_9 : decode cJx40b00_append8Digits_d00df 9 = .ok (.bipush 8, 2) := by decide +kernel
theorem dJx40b00_append8Digits_d00df_11 : decode cJx40b00_append8Digits_d00df 11 = .ok (.if_icmp .ge 30, 3) := by decide +kernel
theorem dJx40b00_append8Digits_d00df_14 : decode cJx40b00_append8Digits_d00df 14 = .ok (.bipush 10, 2) := by decide +kernel
theorem dJx40b00_append8Digits_d00df_16 : decode cJx40b00_append8Digits_d00df 16 = .ok (.iload_n 2, 1) := by decide +kernel
theorem dJx40b00_append8Digits_d00df_17 : decode cJx40b00_append8Digits_d00df 17 = .ok (.imul, 1) := by decide +kernel
theorem dJx40b00_append8Digits_d00df_18 : decode cJx40b00_append8Digits_d00df 18 = .ok (.istore 4, 2) := by decide +kernel
theorem dJx40b00_append8Digits_d00df_20 : decode cJx40b00_append8Digits_d00df 20 = .ok (.aload_n 0, 1) := by decide +kernel
theorem dJx40b00_append8Digits_d00df_21 : decode cJx40b00_append8Digits_d00df 21 = .ok (.iload 4, 2) := by decide +kernel
theorem dJx40b00_append8Digits_d00df_23 : decode cJx40b00_append8Digits_d00df 23 = .ok (.bipush 28, 2) := by decide +kernel
theorem dJx40b00_append8Digits_d00df_25 : decode cJx40b00_append8Digits_d00df 25 = .ok (.iushr, 1) := by decide +kernel
theorem dJx40b00_append8Digits_d00df_26 : decode cJx40b00_append8Digits_d00df 26 = .ok (.invokevirtual 132, 3) := by decide +kernel
theorem dJx40b00_append8Digits_d00df_29 : decode cJx40b00_append8Digits_d00df 29 = .ok (.iload 4, 2) := by decide +kernel
theorem dJx40b00_append8Digits_d00df_31 : decode cJx40b00_append8Digits_d00df 31 = .ok (.ldc 138, 2) := by decide +kernel
theorem dJx40b00_append8Digits_d00df_33 : decode cJx40b00_append8Digits_d00df 33 = .ok (.iand, 1) := by decide +kernel
theorem dJx40b00_append8Digits_d00df_34 : decode cJx40b00_append8Digits_d00df 34 = .ok (.istore_n 2, 1) := by decide +kernel
theorem dJx40b00_append8Digits_d00df_35 : decode cJx40b00_append8Digits_d00df 35 = .ok (.iinc 3 1, 3) := by decide +kernel
theorem dJx40b00_append8Digits_d00df_38 : decode cJx40b00_append8Digits_d00df 38 = .ok (.goto (-30), 3) := by decide +kernel
theorem dJx40b00_append8Digits_d00df_41 : decode cJx40b00_append8Digits_d00df 41 = .ok (.return_, 1) := by decide +kernel
theorem dJx40b00_removeTrailingZeroes_da8c8_0 : decode cJx40b00_removeTrailingZeroes_da8c8 0 = .ok (.aload_n 0, 1) := by decide +kernel
theorem dJx40b00_removeTrailingZeroes_da8c8_1 : decode cJx40b00_removeTrailingZeroes_da8c8 1 = .ok (.getfield 11, 3) := by decide +kernel
theorem dJx40b00_removeTrailingZeroes_da8c8_4 : decode cJx40b00_removeTrailingZeroes_da8c8 4 = .ok (.aload_n 0, 1) := by decide +kernel
theorem dJx40b00_removeTrailingZeroes_da8c8_5 : decode cJx40b00_removeTrailingZeroes_da8c8 5 = .ok (.getfield 42, 3) := by decide +kernel
theorem dJx40b00_removeTrailingZeroes_da8c8_8 : decode cJx40b00_removeTrailingZeroes_da8c8 8 = .ok (.baload, 1) := by decide +kernel
theorem dJx40b00_removeTrailingZeroes_da8c8_9 : decode cJx40b00_removeTrailingZeroes_da8c8 9 = .ok (.bipush 48, 2) := by decide +kernel
theorem dJx40b00_removeTrailingZeroes_da8c8_11 : decode cJx40b00_removeTrailingZeroes_da8c8 11 = .ok (.if_icmp .ne 16, 3) := by decide +kernel
theorem dJx40b00_removeTrailingZeroes_da8c8_14 : decode cJx40b00_removeTrailingZeroes_da8c8 14 = .ok (.aload_n 0, 1) := by decide +kernel
theorem dJx40b00_removeTrailingZeroes_da8c8_15 : decode cJx40b00_removeTrailingZeroes_da8c8 15 = .ok (.dup, 1) := by decide +kernel
theorem dJx40b00_removeTrailingZeroes_da8c8_16 : decode cJx40b00_removeTrailingZeroes_da8c8 16 = .ok (.getfield 42, 3) := by decide +kernel
theorem dJx40b00_removeTrailingZeroes_da8c8_19 : decode cJx40b00_removeTrailingZeroes_da8c8 19 = .ok (.iconst 1, 1) := by decide +kernel
theorem dJx40b00_removeTrailingZeroes_da8c8_20 : decode cJx40b00_removeTrailingZeroes_da8c8 20 = .ok (.isub, 1) := by decide +kernel
theorem dJx40b00_removeTrailingZeroes_da8c8_21 : decode cJx40b00_removeTrailingZeroes_da8c8 21 = .ok (.putfield 42, 3) := by decide +kernel
theorem dJx40b00_removeTrailingZeroes_da8c8_24 : decode cJx40b00_removeTrailingZeroes_da8c8 24 = .ok (.goto (-24), 3) := by decide +kernel
theorem dJx40b00_removeTrailingZeroes_da8c8_27 : decode cJx40b00_removeTrailingZeroes_da8c8 27 = .ok (.aload_n 0, 1) := by decide +kernel
theorem dJx40b00_removeTrailingZeroes_da8c8_28 : decode cJx40b00_removeTrailingZeroes_da8c8 28 = .ok (.getfield 11, 3) := by decide +kernel
theorem dJx40b00_removeTrailingZeroes_da8c8_31 : decode cJx40b00_removeTrailingZeroes_da8c8 31 = .ok (.aload_n 0, 1) := by decide +kernel
theorem dJx40b00_removeTrailingZeroes_da8c8_32 : decode cJx40b00_removeTrailingZeroes_da8c8 32 = .ok (.getfield 42, 3) := by decide +kernel
theorem dJx40b00_removeTrailingZeroes_da8c8_35 : decode cJx40b00_removeTrailingZeroes_da8c8 35 = .ok (.baload, 1) := by decide +kernel
theorem dJx40b00_removeTrailingZeroes_da8c8_36 : decode cJx40b00_removeTrailingZeroes_da8c8 36 = .ok (.bipush 46, 2) := by decide +kernel
theorem dJx40b00_removeTrailingZeroes_da8c8_38 : decode cJx40b00_removeTrailingZeroes_da8c8 38 = .ok (.if_icmp .ne 13, 3) := by decide +kernel
theorem dJx40b00_removeTrailingZeroes_da8c8_41 : decode cJx40b00_removeTrailingZeroes_da8c8 41 = .ok (.aload_n 0, 1) := by decide +kernel
theorem dJx40b00_removeTrailingZeroes_da8c8_42 : decode cJx40b00_removeTrailingZeroes_da8c8 42 = .ok (.dup, 1) := by decide +kernel
theorem dJx40b00_removeTrailingZeroes_da8c8_43 : decode cJx40b00_removeTrailingZeroes_da8c8 43 = .ok (.getfield 42, 3) := by decide +kernel
theorem dJx40b00_removeTrailingZeroes_da8c8_46 : decode cJx40b00_removeTrailingZeroes_da8c8 46 = .ok (.iconst 1, 1) := by decide +kernel
theorem dJx40b00_removeTrailingZeroes_da8c8_47 : decode cJx40b00_removeTrailingZeroes_da8c8 47 = .ok (.iadd, 1) := by decide +kernel
theorem dJx40b00_removeTrailingZeroes_da8c8_48 : decode cJx40b00_removeTrailingZeroes_da8c8 48 = .ok (.putfield 42, 3) := by decide +kernel
theorem dJx40b00_removeTrailingZeroes_da8c8_51 : decode cJx40b00_removeTrailingZeroes_da8c8 51 = .ok (.return_, 1) := by decide +kernel
theorem dJx40b00_y_0f7a4_0 : decode cJx40b00_y_0f7a4 0 = .ok (.iload_n 1, 1) := by decide +kernel
theorem dJx40b00_y_0f7a4_1 : decode cJx40b00_y_0f7a4 1 = .ok (.iconst 1, 1) := by decide +kernel
theorem dJx40b00_y_0f7a4_2 : decode cJx40b00_y_0f7a4 2 = .ok (.iadd, 1) := by decide +kernel
theorem dJx40b00_y_0f7a4_3 : decode cJx40b00_y_0f7a4 3 = .ok (.i2l, 1) := by decide +kernel
theorem dJx40b00_y_0f7a4_4 : decode cJx40b00_y_0f7a4 4 = .ok (.bipush 28, 2) := by decide +kernel
theorem dJx40b00_y_0f7a4_6 : decode cJx40b00_y_0f7a4 6 = .ok (.lshl, 1) := by decide +kernel
theorem dJx40b00_y_0f7a4_7 : decode cJx40b00_y_0f7a4 7 = .ok (.ldc2_w 148, 3) := by decide +kernel
theorem dJx40b00_y_0f7a4_10 : decode cJx40b00_y_0f7a4 10 = .ok (.invokestatic 104, 3) := by decide +kernel
theorem dJx40b00_y_0f7a4_13 : decode cJx40b00_y_0f7a4 13 = .ok (.bipush 20, 2) := by decide +kernel
theorem dJx40b00_y_0f7a4_15 : decode cJx40b00_y_0f7a4 15 = .ok (.lushr, 1) := by decide +kernel
theorem dJx40b00_y_0f7a4_16 : decode cJx40b00_y_0f7a4 16 = .ok (.l2i, 1) := by decide +kernel
theorem dJx40b00_y_0f7a4_17 : decode cJx40b00_y_0f7a4 17 = .ok (.iconst 1, 1) := by decide +kernel
theorem dJx40b00_y_0f7a4_18 : decode cJx40b00_y_0f7a4 18 = .ok (.isub, 1) := by decide +kernel
theorem dJx40b00_y_0f7a4_19 : decode cJx40b00_y_0f7a4 19 = .ok (.ireturn, 1) := by decide +kernel
theorem dJx40b00_exponent_d00df_0 : decode cJx40b00_exponent_d00df 0 = .ok (.aload_n 0, 1) := by decide +kernel
theorem dJx40b00_exponent_d00df_1 : decode cJx40b00_exponent_d00df 1 = .ok (.bipush 69, 2) := by decide +kernel
theorem dJx40b00_exponent_d00df_3 : decode cJx40b00_exponent_d00df 3 = .ok (.invokevirtual 69, 3) := by decide +kernel
theorem dJx40b00_exponent_d00df_6 : decode cJx40b00_exponent_d00df 6 = .ok (.iload_n 1, 1) := by decide +kernel
theorem dJx40b00_exponent_d00df_7 : decode cJx40b00_exponent_d00df 7 = .ok (.ifCond .ge 12, 3) := by decide +kernel
theorem dJx40b00_exponent_d00df_10 : decode cJx40b00_exponent_d00df 10 = .ok (.aload_n 0, 1) := by decide +kernel
theorem dJx40b00_exponent_d00df_11 : decode cJx40b00_exponent_d00df 11 = .ok (.bipush 45, 2) := by decide +kernel
theorem dJx40b00_exponent_d00df_13 : decode cJx40b00_exponent_d00df 13 = .ok (.invokevirtual 69, 3) := by decide +kernel
theorem dJx40b00_exponent_d00df_16 : decode cJx40b00_exponent_d00df 16 = .ok (.iload_n 1, 1) := by decide +kernel
theorem dJx40b00_exponent_d00df_17 : decode cJx40b00_exponent_d00df 17 = .ok (.ineg, 1) := by decide +kernel
theorem dJx40b00_exponent_d00df_18 : decode cJx40b00_exponent_d00df 18 = .ok (.istore_n 1, 1) := by decide +kernel
theorem dJx40b00_exponent_d00df_19 : decode cJx40b00_exponent_d00df 19 = .ok (.iload_n 1, 1) := by decide +kernel
theorem dJx40b00_exponent_d00df_20 : decode cJx40b00_exponent_d00df 20 = .ok (.bipush 10, 2) := by decide +kernel
theorem dJx40b00_exponent_d00df_22 : decode cJx40b00_exponent_d00df 22 = .ok (.if_icmp .ge 9, 3) := by decide +kernel
theorem dJx40b00_exponent_d00df_25 : decode cJx40b00_exponent_d00df 25 = .ok (.aload_n 0, 1) := by decide +kernel
theorem dJx40b00_exponent_d00df_26 : decode cJx40b00_exponent_d00df 26 = .ok (.iload_n 1, 1) := by decide +kernel
theorem dJx40b00_exponent_d00df_27 : decode cJx40b00_exponent_d00df 27 = .ok (.invokevirtual 132, 3) := by decide +kernel
theorem dJx40b00_exponent_d00df_30 : decode cJx40b00_exponent_d00df 30 = .ok (.return_, 1) := by decide +kernel
theorem dJx40b00_exponent_d00df_31 : decode cJx40b00_exponent_d00df 31 = .ok (.iload_n 1, 1) := by decide +kernel
theorem dJx40b00_exponent_d00df_32 : decode cJx40b00_exponent_d00df 32 = .ok (.bipush 103, 2) := by decide +kernel
theorem dJx40b00_exponent_d00df_34 : decode cJx40b00_exponent_d00df 34 = .ok (.imul, 1) := by decide +kernel
theorem dJx40b00_exponent_d00df_35 : decode cJx40b00_exponent_d00df 35 = .ok (.bipush 10, 2) := by decide +kernel
theorem dJx40b00_exponent_d00df_37 : decode cJx40b00_exponent_d00df 37 = .ok (.iushr, 1) := by decide +kernel
theorem dJx40b00_exponent_d00df_38 : decode cJx40b00_exponent_d00df 38 = .ok (.istore_n 2, 1) := by decide +kernel
theorem dJx40b00_exponent_d00df_39 : decode cJx40b00_exponent_d00df 39 = .ok (.aload_n 0, 1) := by decide +kernel
theorem dJx40b00_exponent_d00df_40 : decode cJx40b00_exponent_d00df 40 = .ok (.iload_n 2, 1) := by decide +kernel
theorem dJx40b00_exponent_d00df_41 : decode cJx40b00_exponent_d00df 41 = .ok (.invokevirtual 132, 3) := by decide +kernel
theorem dJx40b00_exponent_d00df_44 : decode cJx40b00_exponent_d00df 44 = .ok (.aload_n 0, 1) := by decide +kernel
theorem dJx40b00_exponent_d00df_45 : decode cJx40b00_exponent_d00df 45 = .ok (.iload_n 1, 1) := by decide +kernel
theorem dJx40b00_exponent_d00df_46 : decode cJx40b00_exponent_d00df 46 = .ok (.bipush 10, 2) := by decide +kernel
theorem dJx40b00_exponent_d00df_48 : decode cJx40b00_exponent_d00df 48 = .ok (.iload_n 2, 1) := by decide +kernel
theorem dJx40b00_exponent_d00df_49 : decode cJx40b00_exponent_d00df 49 = .ok (.imul, 1) := by decide +kernel
theorem dJx40b00_exponent_d00df_50 : decode cJx40b00_exponent_d00df 50 = .ok (.isub, 1) := by decide +kernel
theorem dJx40b00_exponent_d00df_51 : decode cJx40b00_exponent_d00df 51 = .ok (.invokevirtual 132, 3) := by decide +kernel
theorem dJx40b00_exponent_d00df_54 : decode cJx40b00_exponent_d00df 54 = .ok (.return_, 1) := by decide +kernel
theorem dJx40b00_append_d00df_0 : decode cJx40b00_append_d00df 0 = .ok (.aload_n 0, 1) := by decide +kernel
theorem dJx40b00_append_d00df_1 : decode cJx40b00_append_d00df 1 = .ok (.getfield 11, 3) := by decide +kernel
theorem dJx40b00_append_d00df_4 : decode cJx40b00_append_d00df 4 = .ok (.aload_n 0, 1) := by decide +kernel
theorem dJx40b00_append_d00df_5 : decode cJx40b00_append_d00df 5 = .ok (.dup, 1) := by decide +kernel
theorem dJx40b00_append_d00df_6 : decode cJx40b00_append_d00df 6 = .ok (.getfield 42, 3) := by decide +kernel
theorem dJx40b00_append_d00df_9 : decode cJx40b00_append_d00df 9 = .ok (.iconst 1, 1) := by decide +kernel
theorem dJx40b00_append_d00df_10 : decode cJx40b00_append_d00df 10 = .ok (.iadd, 1) := by decide +kernel
theorem dJx40b00_append_d00df_11 : decode cJx40b00_append_d00df 11 = .ok (.dup_x1, 1) := by decide +kernel
theorem dJx40b00_append_d00df_12 : decode cJx40b00_append_d00df 12 = .ok (.putfield 42, 3) := by decide +kernel
theorem dJx40b00_append_d00df_15 : decode cJx40b00_append_d00df 15 = .ok (.iload_n 1, 1) := by decide +kernel
theorem dJx40b00_append_d00df_16 : decode cJx40b00_append_d00df 16 = .ok (.i2b, 1) := by decide +kernel
theorem dJx40b00_append_d00df_17 : decode cJx40b00_append_d00df 17 = .ok (.bastore, 1) := by decide +kernel
theorem dJx40b00_append_d00df_18 : decode cJx40b00_append_d00df 18 = .ok (.return_, 1) := by decide +kernel
theorem dJx40b00_appendDigit_d00df_0 : decode cJx40b00_appendDigit_d00df 0 = .ok (.aload_n 0, 1) := by decide +kernel
theorem dJx40b00_appendDigit_d00df_1 : decode cJx40b00_appendDigit_d00df 1 = .ok (.getfield 11, 3) := by decide +kernel
theorem dJx40b00_appendDigit_d00df_4 : decode cJx40b00_appendDigit_d00df 4 = .ok (.aload_n 0, 1) := by decide +kernel
theorem dJx40b00_appendDigit_d00df_5 : decode cJx40b00_appendDigit_d00df 5 = .ok (.dup, 1) := by decide +kernel
theorem dJx40b00_appendDigit_d00df_6 : decode cJx40b00_appendDigit_d00df 6 = .ok (.getfield 42, 3) := by decide +kernel
theorem dJx40b00_appendDigit_d00df_9 : decode cJx40b00_appendDigit_d00df 9 = .ok (.iconst 1, 1) := by decide +kernel
theorem dJx40b00_appendDigit_d00df_10 : decode cJx40b00_appendDigit_d00df 10 = .ok (.iadd, 1) := by decide +kernel
theorem dJx40b00_appendDigit_d00df_11 : decode cJx40b00_appendDigit_d00df 11 = .ok (.dup_x1, 1) := by decide +kernel
theorem dJx40b00_appendDigit_d00df_12 : decode cJx40b00_appendDigit_d00df 12 = .ok (.putfield 42, 3) := by decide +kernel
theorem dJx40b00_appendDigit_d00df_15 : decode cJx40b00_appendDigit_d00df 15 = .ok (.bipush 48, 2) := by decide +kernel
theorem dJx40b00_appendDigit_d00df_17 : decode cJx40b00_appendDigit_d00df 17 = .ok (.iload_n 1, 1) := by decide +kernel
theorem dJx40b00_appendDigit_d00df_18 : decode cJx40b00_appendDigit_d00df 18 = .ok (.iadd, 1) := by decide +kernel
theorem dJx40b00_appendDigit_d00df_19 : decode cJx40b00_appendDigit_d00df 19 = .ok (.i2b, 1) := by decide +kernel
theorem dJx40b00_appendDigit_d00df_20 : decode cJx40b00_appendDigit_d00df 20 = .ok (.bastore, 1) := by decide +kernel
theorem dJx40b00_appendDigit_d00df_21 : decode cJx40b00_appendDigit_d00df 21 = .ok (.return_, 1) := by decide +kernel
theorem dJx25f51_pow10_3e8ac_0 : decode cJx25f51_pow10_3e8ac 0 = .ok (.getstatic 14, 3) := by decide +kernel
theorem dJx25f51_pow10_3e8ac_3 : decode cJx25f51_pow10_3e8ac 3 = .ok (.iload_n 0, 1) := by decide +kernel
theorem dJx25f51_pow10_3e8ac_4 : decode cJx25f51_pow10_3e8ac 4 = .ok (.laload, 1) := by decide +kernel
theorem dJx25f51_pow10_3e8ac_5 : decode cJx25f51_pow10_3e8ac 5 = .ok (.lreturn, 1) := by decide +kernel
theorem dJx25f51_flog10pow2_0f7a4_0 : decode cJx25f51_flog10pow2_0f7a4 0 = .ok (.iload_n 0, 1) := by decide +kernel
theorem dJx25f51_flog10pow2_0f7a4_1 : decode cJx25f51_flog10pow2_0f7a4 1 = .ok (.i2l, 1) := by decide +kernel
theorem dJx25f51_flog10pow2_0f7a4_2 : decode cJx25f51_flog10pow2_0f7a4 2 = .ok (.ldc2_w 20, 3) := by decide +kernel
theorem dJx25f51_flog10pow2_0f7a4_5 : decode cJx25f51_flog10pow2_0f7a4 5 = .ok (.lmul, 1) := by decide +kernel
theorem dJx25f51_flog10pow2_0f7a4_6 : decode cJx25f51_flog10pow2_0f7a4 6 = .ok (.bipush 41, 2) := by decide +kernel
theorem dJx25f51_flog10pow2_0f7a4_8 : decode cJx25f51_flog10pow2_0f7a4 8 = .ok (.lshr, 1) := by decide +kernel
theorem dJx25f51_flog10pow2_0f7a4_9 : decode cJx25f51_flog10pow2_0f7a4 9 = .ok (.l2i, 1) := by decide +kernel
theorem dJx25f51_flog10pow2_0f7a4_10 : decode cJx25f51_flog10pow2_0f7a4 10 = .ok (.ireturn, 1) := by decide +kernel
theorem dJx25f51_flog10threeQuartersPow2_0f7a4_0 : decode cJx25f51_flog10threeQuartersPow2_0f7a4 0 = .ok (.iload_n 0, 1) := by decide +kernel
theorem dJx25f51_flog10threeQuartersPow2_0f7a4_1 : decode cJx25f51_flog10threeQuartersPow2_0f7a4 1 = .ok (.i2l, 1) := by decide +kernel
theorem dJx25f51_flog10threeQuartersPow2_0f7a4_2 : decode cJx25f51_flog10threeQuartersPow2_0f7a4 2 = .ok (.ldc2_w 20, 3) := by decide +kernel
theorem dJx25f51_flog10threeQuartersPow2_0f7a4_5 : decode cJx25f51_flog10threeQuartersPow2_0f7a4 5 = .ok (.lmul, 1) := by decide +kernel
theorem dJx25f51_flog10threeQuartersPow2_0f7a4_6 : decode cJx25f51_flog10threeQuartersPow2_0f7a4 6 = .ok (.ldc2_w 22, 3) := by decide +kernel
theorem dJx25f51_flog10threeQuartersPow2_0f7a4_9 : decode cJx25f51_flog10threeQuartersPow2_0f7a4 9 = .ok (.ladd, 1) := by decide +kernel
theorem dJx25f51_flog10threeQuartersPow2_0f7a4_10 : decode cJx25f51_flog10threeQuartersPow2_0f7a4 10 = .ok (.bipush 41, 2) := by decide +kernel
theorem dJx25f51_flog10threeQuartersPow2_0f7a4_12 : decode cJx25f51_flog10threeQuartersPow2_0f7a4 12 = .ok (.lshr, 1) := by decide +kernel
theorem dJx25f51_flog10threeQuartersPow2_0f7a4_13 : decode cJx25f51_flog10threeQuartersPow2_0f7a4 13 = .ok (.l2i, 1) := by decide +kernel
theorem dJx25f51_flog10threeQuartersPow2_0f7a4_14 : decode cJx25f51_flog10threeQuartersPow2_0f7a4 14 = .ok (.ireturn, 1) := by decide +kernel
theorem dJx25f51_flog2pow10_0f7a4_0 : decode cJx25f51_flog2pow10_0f7a4 0 = .ok (.iload_n 0, 1) := by decide +kernel
theorem dJx25f51_flog2pow10_0f7a4_1 : decode cJx25f51_flog2pow10_0f7a4 1 = .ok (.i2l, 1) := by decide +kernel
theorem dJx25f51_flog2pow10_0f7a4_2 : decode cJx25f51_flog2pow10_0f7a4 2 = .ok (.ldc2_w 24, 3) := by decide +kernel
theorem dJx25f51_flog2pow10_0f7a4_5 : decode cJx25f51_flog2pow10_0f7a4 5 = .ok (.lmul, 1) := by decide +kernel
theorem dJx25f51_flog2pow10_0f7a4_6 : decode cJx25f51_flog2pow10_0f7a4 6 = .ok (.bipush 38, 2) := by decide +kernel
theorem dJx25f51_flog2pow10_0f7a4_8 : decode cJx25f51_flog2pow10_0f7a4 8 = .ok (.lshr, 1) := by decide +kernel
theorem dJx25f51_flog2pow10_0f7a4_9 : decode cJx25f51_flog2pow10_0f7a4 9 = .ok (.l2i, 1) := by decide +kernel
theorem dJx25f51_flog2pow10_0f7a4_10 : decode cJx25f51_flog2pow10_0f7a4 10 = .ok (.ireturn, 1) := by decide +kernel
theorem dJx25f51_g1_3e8ac_0 : decode cJx25f51_g1_3e8ac 0 = .ok (.getstatic 26, 3) := by decide +kernel
theorem dJx25f51_g1_3e8ac_3 : decode cJx25f51_g1_3e8ac 3 = .ok (.iload_n 0, 1) := by decide +kernel
theorem dJx25f51_g1_3e8ac_4 : decode cJx25f51_g1_3e8ac 4 = .ok (.sipush (-324), 3) := by decide +kernel
theorem dJx25f51_g1_3e8ac_7 : decode cJx25f51_g1_3e8ac 7 = .ok (.isub, 1) := by decide +kernel
theorem dJx25f51_g1_3e8ac_8 : decode cJx25f51_g1_3e8ac 8 = .ok (.iconst 1, 1) := by decide +kernel
theorem dJx25f51_g1_3e8ac_9 : decode cJx25f51_g1_3e8ac 9 = .ok (.ishl, 1) := by decide +kernel
theorem dJx25f51_g1_3e8ac_10 : decode cJx25f51_g1_3e8ac 10 = .ok (.laload, 1) := by decide +kernel
theorem dJx25f51_g1_3e8ac_11 : decode cJx25f51_g1_3e8ac 11 = .ok (.lreturn, 1) := by decide +kernel
theorem dJ8_newLength_cabcc_0 : decode cJ8_newLength_cabcc 0 = .ok (.iload_n 0, 1) := by decide +kernel
theorem dJ8_newLength_cabcc_1 : decode cJ8_newLength_cabcc 1 = .ok (.iload_n 1, 1) := by decide +kernel
theorem dJ8_newLength_cabcc_2 : decode cJ8_newLength_cabcc 2 = .ok (.iload_n 2, 1) := by decide +kernel
theorem dJ8_newLength_cabcc_3 : decode cJ8_newLength_cabcc 3 = .ok (.invokestatic 194, 3) := by decide +kernel
theorem dJ8_newLength_cabcc_6 : decode cJ8_newLength_cabcc 6 = .ok (.iadd, 1) := by decide +kernel
theorem dJ8_newLength_cabcc_7 : decode cJ8_newLength_cabcc 7 = .ok (.istore_n 3, 1) := by decide +kernel
theorem dJ8_newLength_cabcc_8 : decode cJ8_newLength_cabcc 8 = .ok (.iconst 0, 1) := by decide +kernel
theorem dJ8_newLength_cabcc_9 : decode cJ8_newLength_cabcc 9 = .ok (.iload_n 3, 1) := by decide +kernel
theorem dJ8_newLength_cabcc_10 : decode cJ8_newLength_cabcc 10 = .ok (.if_icmp .ge 11, 3) := by decide +kernel
theorem dJ8_newLength_cabcc_13 : decode cJ8_newLength_cabcc 13 = .ok (.iload_n 3, 1) := by decide +kernel
theorem dJ8_newLength_cabcc_14 : decode cJ8_newLength_cabcc 14 = .ok (.ldc 200, 2) := by decide +kernel
theorem dJ8_newLength_cabcc_16 : decode cJ8_newLength_cabcc 16 = .ok (.if_icmp .gt 5, 3) := by decide +kernel
theorem dJ8_newLength_cabcc_19 : decode cJ8_newLength_cabcc 19 = .ok (.iload_n 3, 1) := by decide +kernel
theorem dJ8_newLength_cabcc_20 : decode cJ8_newLength_cabcc 20 = .ok (.ireturn, 1) := by decide +kernel
theorem dJ8_newLength_cabcc_21 : decode cJ8_newLength_cabcc 21 = .ok (.iload_n 0, 1) := by decide +kernel
theorem dJ8_newLength_cabcc_22 : decode cJ8_newLength_cabcc 22 = .ok (.iload_n 1, 1) := by decide +kernel
theorem dJ8_newLength_cabcc_23 : decode cJ8_newLength_cabcc 23 = .ok (.invokestatic 201, 3) := by decide +kernel
theorem dJ8_newLength_cabcc_26 : decode cJ8_newLength_cabcc 26 = .ok (.ireturn, 1) := by decide +kernel
theorem dJ8_hugeLength_7cf53_0 : decode cJ8_hugeLength_7cf53 0 = .ok (.iload_n 0, 1) := by decide +kernel
theorem dJ8_hugeLength_7cf53_1 : decode cJ8_hugeLength_7cf53 1 = .ok (.iload_n 1, 1) := by decide +kernel
theorem dJ8_hugeLength_7cf53_2 : decode cJ8_hugeLength_7cf53 2 = .ok (.iadd, 1) := by decide +kernel
theorem dJ8_hugeLength_7cf53_3 : decode cJ8_hugeLength_7cf53 3 = .ok (.istore_n 2, 1) := by decide +kernel
theorem dJ8_hugeLength_7cf53_4 : decode cJ8_hugeLength_7cf53 4 = .ok (.iload_n 2, 1) := by decide +kernel
theorem dJ8_hugeLength_7cf53_5 : decode cJ8_hugeLength_7cf53 5 = .ok (.ifCond .ge 44, 3) := by decide +kernel
theorem dJ8_hugeLength_7cf53_8 : decode cJ8_hugeLength_7cf53 8 = .ok (.new 204, 3) := by decide +kernel
theorem dJ8_hugeLength_7cf53_11 : decode cJ8_hugeLength_7cf53 11 = .ok (.dup, 1) := by decide +kernel
theorem dJ8_hugeLength_7cf53_12 : decode cJ8_hugeLength_7cf53 12 = .ok (.new 89, 3) := by decide +kernel
theorem dJ8_hugeLength_7cf53_15 : decode cJ8_hugeLength_7cf53 15 = .ok (.dup, 1) := by decide +kernel
theorem dJ8_hugeLength_7cf53_16 : decode cJ8_hugeLength_7cf53 16 = .ok (.invokespecial 91, 3) := by decide +kernel
theorem dJ8_hugeLength_7cf53_19 : decode cJ8_hugeLength_7cf53 19 = .ok (.ldc 206, 2) := by decide +kernel
theorem dJ8_hugeLength_7cf53_21 : decode cJ8_hugeLength_7cf53 21 = .ok (.invokevirtual 94, 3) := by decide +kernel
theorem dJ8_hugeLength_7cf53_24 : decode cJ8_hugeLength_7cf53 24 = .ok (.iload_n 0, 1) := by decide +kernel
theorem dJ8_hugeLength_7cf53_25 : decode cJ8_hugeLength_7cf53 25 = .ok (.invokevirtual 98, 3) := by decide +kernel
theorem dJ8_hugeLength_7cf53_28 : decode cJ8_hugeLength_7cf53 28 = .ok (.ldc 208, 2) := by decide +kernel
theorem dJ8_hugeLength_7cf53_30 : decode cJ8_hugeLength_7cf53 30 = .ok (.invokevirtual 94, 3) := by decide +kernel
theorem dJ8_hugeLength_7cf53_33 : decode cJ8_hugeLength_7cf53 33 = .ok (.iload_n 1, 1) := by decide +kernel
theorem dJ8_hugeLength_7cf53_34 : decode cJ8_hugeLength_7cf53 34 = .ok (.invokevirtual 98, 3) := by decide +kernel
theorem dJ8_hugeLength_7cf53_37 : decode cJ8_hugeLength_7cf53 37 = .ok (.ldc 210, 2) := by decide +kernel
theorem dJ8_hugeLength_7cf53_39 : decode cJ8_hugeLength_7cf53 39 = .ok (.invokevirtual 94, 3) := by decide +kernel
theorem dJ8_hugeLength_7cf53_42 : decode cJ8_hugeLength_7cf53 42 = .ok (.invokevirtual 101, 3) := by decide +kernel
theorem dJ8_hugeLength_7cf53_45 : decode cJ8_hugeLength_7cf53 45 = .ok (.invokespecial 212, 3) := by decide +kernel
theorem dJ8_hugeLength_7cf53_48 : decode cJ8_hugeLength_7cf53 48 = .ok (.athrow, 1) := by decide +kernel
theorem dJ8_hugeLength_7cf53_49 : decode cJ8_hugeLength_7cf53 49 = .ok (.iload_n 2, 1) := by decide +kernel
theorem dJ8_hugeLength_7cf53_50 : decode cJ8_hugeLength_7cf53 50 = .ok (.ldc 200, 2) := by decide +kernel
theorem dJ8_hugeLength_7cf53_52 : decode cJ8_hugeLength_7cf53 52 = .ok (.if_icmp .gt 6, 3) := by decide +kernel
theorem dJ8_hugeLength_7cf53_55 : decode cJ8_hugeLength_7cf53 55 = .ok (.ldc 200, 2) := by decide +kernel
theorem dJ8_hugeLength_7cf53_57 : decode cJ8_hugeLength_7cf53 57 = .ok (.ireturn, 1) := by decide +kernel
theorem dJ8_hugeLength_7cf53_58 : decode cJ8_hugeLength_7cf53 58 = .ok (.iload_n 2, 1) := by decide +kernel
theorem dJ8_hugeLength_7cf53_59 : decode cJ8_hugeLength_7cf53 59 = .ok (.ireturn, 1) := by decide +kernel
theorem dJ3_checkIndex_8e157_0 : decode cJ3_checkIndex_8e157 0 = .ok (.iload_n 0, 1) := by decide +kernel
theorem dJ3_checkIndex_8e157_1 : decode cJ3_checkIndex_8e157 1 = .ok (.ifCond .lt 8, 3) := by decide +kernel
theorem dJ3_checkIndex_8e157_4 : decode cJ3_checkIndex_8e157 4 = .ok (.iload_n 0, 1) := by decide +kernel
theorem dJ3_checkIndex_8e157_5 : decode cJ3_checkIndex_8e157 5 = .ok (.iload_n 1, 1) := by decide +kernel
theorem dJ3_checkIndex_8e157_6 : decode cJ3_checkIndex_8e157 6 = .ok (.if_icmp .lt 10, 3) := by decide +kernel
theorem dJ3_checkIndex_8e157_9 : decode cJ3_checkIndex_8e157 9 = .ok (.aload_n 2, 1) := by decide +kernel
theorem dJ3_checkIndex_8e157_10 : decode cJ3_checkIndex_8e157 10 = .ok (.iload_n 0, 1) := by decide +kernel
theorem dJ3_checkIndex_8e157_11 : decode cJ3_checkIndex_8e157 11 = .ok (.iload_n 1, 1) := by decide +kernel
theorem dJ3_checkIndex_8e157_12 : decode cJ3_checkIndex_8e157 12 = .ok (.invokestatic 95, 3) := by decide +kernel
theorem dJ3_checkIndex_8e157_15 : decode cJ3_checkIndex_8e157 15 = .ok (.athrow, 1) := by decide +kernel
theorem dJ3_checkIndex_8e157_16 : decode cJ3_checkIndex_8e157 16 = .ok (.iload_n 0, 1) := by decide +kernel
theorem dJ3_checkIndex_8e157_17 : decode cJ3_checkIndex_8e157 17 = .ok (.ireturn, 1) := by decide +kernel
theorem dJ3_checkFromToIndex_8c36e_0 : decode cJ3_checkFromToIndex_8c36e 0 = .ok (.iload_n 0, 1) := by decide +kernel
theorem dJ3_checkFromToIndex_8c36e_1 : decode cJ3_checkFromToIndex_8c36e 1 = .ok (.ifCond .lt 13, 3) := by decide +kernel
theorem dJ3_checkFromToIndex_8c36e_4 : decode cJ3_checkFromToIndex_8c36e 4 = .ok (.iload_n 0, 1) := by decide +kernel
theorem dJ3_checkFromToIndex_8c36e_5 : decode cJ3_checkFromToIndex_8c36e 5 = .ok (.iload_n 1, 1) := by decide +kernel
theorem dJ3_checkFromToIndex_8c36e_6 : decode cJ3_checkFromToIndex_8c36e 6 = .ok (.if_icmp .gt 8, 3) := by decide +kernel
theorem dJ3_checkFromToIndex_8c36e_9 : decode cJ3_checkFromToIndex_8c36e 9 = .ok (.iload_n 1, 1) := by decide +kernel
theorem dJ3_checkFromToIndex_8c36e_10 : decode cJ3_checkFromToIndex_8c36e 10 = .ok (.iload_n 2, 1) := by decide +kernel
theorem dJ3_checkFromToIndex_8c36e_11 : decode cJ3_checkFromToIndex_8c36e 11 = .ok (.if_icmp .le 11, 3) := by decide +kernel
theorem dJ3_checkFromToIndex_8c36e_14 : decode cJ3_checkFromToIndex_8c36e 14 = .ok (.aload_n 3, 1) := by decide +kernel
theorem dJ3_checkFromToIndex_8c36e_15 : decode cJ3_checkFromToIndex_8c36e 15 = .ok (.iload_n 0, 1) := by decide +kernel
theorem dJ3_checkFromToIndex_8c36e_16 : decode cJ3_checkFromToIndex_8c36e 16 = .ok (.iload_n 1, 1) := by decide +kernel
theorem dJ3_checkFromToIndex_8c36e_17 : decode cJ3_checkFromToIndex_8c36e 17 = .ok (.iload_n 2, 1) := by decide +kernel
theorem dJ3_checkFromToIndex_8c36e_18 : decode cJ3_checkFromToIndex_8c36e 18 = .ok (.invokestatic 99, 3) := by decide +kernel
theorem dJ3_checkFromToIndex_8c36e_21 : decode cJ3_checkFromToIndex_8c36e 21 = .ok (.athrow, 1) := by decide +kernel
theorem dJ3_checkFromToIndex_8c36e_22 : decode cJ3_checkFromToIndex_8c36e 22 = .ok (.iload_n 0, 1) := by decide +kernel
theorem dJ3_checkFromToIndex_8c36e_23 : decode cJ3_checkFromToIndex_8c36e 23 = .ok (.ireturn, 1) := by decide +kernel
theorem dJ3_checkFromIndexSize_8c36e_0 : decode cJ3_checkFromIndexSize_8c36e 0 = .ok (.iload_n 2, 1) := by decide +kernel
theorem dJ3_checkFromIndexSize_8c36e_1 : decode cJ3_checkFromIndexSize_8c36e 1 = .ok (.iload_n 0, 1) := by decide +kernel
theorem dJ3_checkFromIndexSize_8c36e_2 : decode cJ3_checkFromIndexSize_8c36e 2 = .ok (.ior, 1) := by decide +kernel
theorem dJ3_checkFromIndexSize_8c36e_3 : decode cJ3_checkFromIndexSize_8c36e 3 = .ok (.iload_n 1, 1) := by decide +kernel
theorem dJ3_checkFromIndexSize_8c36e_4 : decode cJ3_checkFromIndexSize_8c36e 4 = .ok (.ior, 1) := by decide +kernel
theorem dJ3_checkFromIndexSize_8c36e_5 : decode cJ3_checkFromIndexSize_8c36e 5 = .ok (.ifCond .lt 10, 3) := by decide +kernel
theorem dJ3_checkFromIndexSize_8c36e_8 : decode cJ3_checkFromIndexSize_8c36e 8 = .ok (.iload_n 1, 1) := by decide +kernel
theorem dJ3_checkFromIndexSize_8c36e_9 : decode cJ3_checkFromIndexSize_8c36e 9 = .ok (.iload_n 2, 1) := by decide +kernel
theorem dJ3_checkFromIndexSize_8c36e_10 : decode cJ3_checkFromIndexSize_8c36e 10 = .ok (.iload_n 0, 1) := by decide +kernel
theorem dJ3_checkFromIndexSize_8c36e_11 : decode cJ3_checkFromIndexSize_8c36e 11 = .ok (.isub, 1) := by decide +kernel
theorem dJ3_checkFromIndexSize_8c36e_12 : decode cJ3_checkFromIndexSize_8c36e 12 = .ok (.if_icmp .le 11, 3) := by decide +kernel
theorem dJ3_checkFromIndexSize_8c36e_15 : decode cJ3_checkFromIndexSize_8c36e 15 = .ok (.aload_n 3, 1) := by decide +kernel
theorem dJ3_checkFromIndexSize_8c36e_16 : decode cJ3_checkFromIndexSize_8c36e 16 = .ok (.iload_n 0, 1) := by decide +kernel
theorem dJ3_checkFromIndexSize_8c36e_17 : decode cJ3_checkFromIndexSize_8c36e 17 = .ok (.iload_n 1, 1) := by decide +kernel
theorem dJ3_checkFromIndexSize_8c36e_18 : decode cJ3_checkFromIndexSize_8c36e 18 = .ok (.iload_n 2, 1) := by decide +kernel
theorem dJ3_checkFromIndexSize_8c36e_19 : decode cJ3_checkFromIndexSize_8c36e 19 = .ok (.invokestatic 103, 3) := by decide +kernel
theorem dJ3_checkFromIndexSize_8c36e_22 : decode cJ3_checkFromIndexSize_8c36e 22 = .ok (.athrow, 1) := by decide +kernel
theorem dJ3_checkFromIndexSize_8c36e_23 : decode cJ3_checkFromIndexSize_8c36e 23 = .ok (.iload_n 0, 1) := by decide +kernel
theorem dJ3_checkFromIndexSize_8c36e_24 : decode cJ3_checkFromIndexSize_8c36e 24 = .ok (.ireturn, 1) := by decide +kernel
theorem dL_cell_0 : decode cL_cell 0 = .ok (.aload_n 0, 1) := by decide +kernel
theorem dL_cell_1 : decode cL_cell 1 = .ok (.arraylength, 1) := by decide +kernel
theorem dL_cell_2 : decode cL_cell 2 = .ok (.ifCond .ne 13, 3) := by decide +kernel
theorem dL_cell_5 : decode cL_cell 5 = .ok (.bipush 71, 2) := by decide +kernel
theorem dL_cell_7 : decode cL_cell 7 = .ok (.iload_n 1, 1) := by decide +kernel
theorem dL_cell_8 : decode cL_cell 8 = .ok (.imul, 1) := by decide +kernel
theorem dL_cell_9 : decode cL_cell 9 = .ok (.bipush 13, 2) := by decide +kernel
theorem dL_cell_11 : decode cL_cell 11 = .ok (.iadd, 1) := by decide +kernel
theorem dL_cell_12 : decode cL_cell 12 = .ok (.goto 12, 3) := by decide +kernel
theorem dL_cell_15 : decode cL_cell 15 = .ok (.aload_n 0, 1) := by decide +kernel
theorem dL_cell_16 : decode cL_cell 16 = .ok (.iload_n 1, 1) := by decide +kernel
theorem dL_cell_17 : decode cL_cell 17 = .ok (.ldc 7, 2) := by decide +kernel
theorem dL_cell_19 : decode cL_cell 19 = .ok (.iand, 1) := by decide +kernel
theorem dL_cell_20 : decode cL_cell 20 = .ok (.aload_n 0, 1) := by decide +kernel
theorem dL_cell_21 : decode cL_cell 21 = .ok (.arraylength, 1) := by decide +kernel
theorem dL_cell_22 : decode cL_cell 22 = .ok (.irem, 1) := by decide +kernel
theorem dL_cell_23 : decode cL_cell 23 = .ok (.iaload, 1) := by decide +kernel
theorem dL_cell_24 : decode cL_cell 24 = .ok (.ireturn, 1) := by decide +kernel
theorem dL_resize_0 : decode cL_resize 0 = .ok (.aload_n 0, 1) := by decide +kernel
theorem dL_resize_1 : decode cL_resize 1 = .ok (.iload_n 1, 1) := by decide +kernel
theorem dL_resize_2 : decode cL_resize 2 = .ok (.iload_n 2, 1) := by decide +kernel
theorem dL_resize_3 : decode cL_resize 3 = .ok (.invokevirtual 8, 3) := by decide +kernel
theorem dL_resize_6 : decode cL_resize 6 = .ok (.ireturn, 1) := by decide +kernel
theorem dL_resize_7 : decode cL_resize 7 = .ok (.astore_n 3, 1) := by decide +kernel
theorem dL_resize_8 : decode cL_resize 8 = .ok (.iconst (-1), 1) := by decide +kernel
theorem dL_resize_9 : decode cL_resize 9 = .ok (.ireturn, 1) := by decide +kernel
theorem dL_set_0 : decode cL_set 0 = .ok (.aload_n 0, 1) := by decide +kernel
theorem dL_set_1 : decode cL_set 1 = .ok (.iload_n 1, 1) := by decide +kernel
theorem dL_set_2 : decode cL_set 2 = .ok (.iload_n 2, 1) := by decide +kernel
theorem dL_set_3 : decode cL_set 3 = .ok (.iload_n 3, 1) := by decide +kernel
theorem dL_set_4 : decode cL_set 4 = .ok (.invokevirtual 16, 3) := by decide +kernel
theorem dL_set_7 : decode cL_set 7 = .ok (.ireturn, 1) := by decide +kernel
theorem dL_set_8 : decode cL_set 8 = .ok (.astore 4, 2) := by decide +kernel
theorem dL_set_10 : decode cL_set 10 = .ok (.iconst (-1), 1) := by decide +kernel
theorem dL_set_11 : decode cL_set 11 = .ok (.ireturn, 1) := by decide +kernel
theorem dL_set_12 : decode cL_set 12 = .ok (.astore 4, 2) := by decide +kernel
theorem dL_set_14 : decode cL_set 14 = .ok (.bipush (-2), 2) := by decide +kernel
theorem dL_set_16 : decode cL_set 16 = .ok (.ireturn, 1) := by decide +kernel
theorem dL_fill_0 : decode cL_fill 0 = .ok (.aload_n 0, 1) := by decide +kernel
theorem dL_fill_1 : decode cL_fill 1 = .ok (.iload_n 1, 1) := by decide +kernel
theorem dL_fill_2 : decode cL_fill 2 = .ok (.iload_n 2, 1) := by decide +kernel
theorem dL_fill_3 : decode cL_fill 3 = .ok (.iload_n 3, 1) := by decide +kernel
theorem dL_fill_4 : decode cL_fill 4 = .ok (.iload 4, 2) := by decide +kernel
theorem dL_fill_6 : decode cL_fill 6 = .ok (.iload 5, 2) := by decide +kernel
theorem dL_fill_8 : decode cL_fill 8 = .ok (.invokevirtual 22, 3) := by decide +kernel
theorem dL_fill_11 : decode cL_fill 11 = .ok (.ireturn, 1) := by decide +kernel
theorem dL_fill_12 : decode cL_fill 12 = .ok (.astore 6, 2) := by decide +kernel
theorem dL_fill_14 : decode cL_fill 14 = .ok (.iconst (-1), 1) := by decide +kernel
theorem dL_fill_15 : decode cL_fill 15 = .ok (.ireturn, 1) := by decide +kernel
theorem dL_fill_16 : decode cL_fill 16 = .ok (.astore 6, 2) := by decide +kernel
theorem dL_fill_18 : decode cL_fill 18 = .ok (.bipush (-2), 2) := by decide +kernel
theorem dL_fill_20 : decode cL_fill 20 = .ok (.ireturn, 1) := by decide +kernel
theorem dL_ramp_0 : decode cL_ramp 0 = .ok (.aload_n 0, 1) := by decide +kernel
theorem dL_ramp_1 : decode cL_ramp 1 = .ok (.iload_n 1, 1) := by decide +kernel
theorem dL_ramp_2 : decode cL_ramp 2 = .ok (.iload_n 2, 1) := by decide +kernel
theorem dL_ramp_3 : decode cL_ramp 3 = .ok (.iload_n 3, 1) := by decide +kernel
theorem dL_ramp_4 : decode cL_ramp 4 = .ok (.invokevirtual 26, 3) := by decide +kernel
theorem dL_ramp_7 : decode cL_ramp 7 = .ok (.ireturn, 1) := by decide +kernel
theorem dL_ramp_8 : decode cL_ramp 8 = .ok (.astore 4, 2) := by decide +kernel
theorem dL_ramp_10 : decode cL_ramp 10 = .ok (.iconst (-1), 1) := by decide +kernel
theorem dL_ramp_11 : decode cL_ramp 11 = .ok (.ireturn, 1) := by decide +kernel
theorem dL_pixel_0 : decode cL_pixel 0 = .ok (.aload_n 0, 1) := by decide +kernel
theorem dL_pixel_1 : decode cL_pixel 1 = .ok (.iload_n 1, 1) := by decide +kernel
theorem dL_pixel_2 : decode cL_pixel 2 = .ok (.iload_n 2, 1) := by decide +kernel
theorem dL_pixel_3 : decode cL_pixel 3 = .ok (.invokevirtual 29, 3) := by decide +kernel
theorem dL_pixel_6 : decode cL_pixel 6 = .ok (.ireturn, 1) := by decide +kernel
theorem dL_pixel_7 : decode cL_pixel 7 = .ok (.astore_n 3, 1) := by decide +kernel
theorem dL_pixel_8 : decode cL_pixel 8 = .ok (.iconst (-1), 1) := by decide +kernel
theorem dL_pixel_9 : decode cL_pixel 9 = .ok (.ireturn, 1) := by decide +kernel
theorem dL_setSteps_0 : decode cL_setSteps 0 = .ok (.aload_n 0, 1) := by decide +kernel
theorem dL_setSteps_1 : decode cL_setSteps 1 = .ok (.iload_n 1, 1) := by decide +kernel
theorem dL_setSteps_2 : decode cL_setSteps 2 = .ok (.iload_n 2, 1) := by decide +kernel
theorem dL_setSteps_3 : decode cL_setSteps 3 = .ok (.iload_n 3, 1) := by decide +kernel
theorem dL_setSteps_4 : decode cL_setSteps 4 = .ok (.invokevirtual 32, 3) := by decide +kernel
theorem dL_setSteps_7 : decode cL_setSteps 7 = .ok (.ireturn, 1) := by decide +kernel
theorem dL_setSteps_8 : decode cL_setSteps 8 = .ok (.astore 4, 2) := by decide +kernel
theorem dL_setSteps_10 : decode cL_setSteps 10 = .ok (.iconst (-1), 1) := by decide +kernel
theorem dL_setSteps_11 : decode cL_setSteps 11 = .ok (.ireturn, 1) := by decide +kernel
theorem dL_byteAt_0 : decode cL_byteAt 0 = .ok (.aload_n 0, 1) := by decide +kernel
theorem dL_byteAt_1 : decode cL_byteAt 1 = .ok (.iload_n 1, 1) := by decide +kernel
theorem dL_byteAt_2 : decode cL_byteAt 2 = .ok (.invokevirtual 35, 3) := by decide +kernel
theorem dL_byteAt_5 : decode cL_byteAt 5 = .ok (.ireturn, 1) := by decide +kernel
theorem dL_byteAt_6 : decode cL_byteAt 6 = .ok (.astore_n 2, 1) := by decide +kernel
theorem dL_byteAt_7 : decode cL_byteAt 7 = .ok (.iconst (-1), 1) := by decide +kernel
theorem dL_byteAt_8 : decode cL_byteAt 8 = .ok (.ireturn, 1) := by decide +kernel
theorem dL_setByte_0 : decode cL_setByte 0 = .ok (.aload_n 0, 1) := by decide +kernel
theorem dL_setByte_1 : decode cL_setByte 1 = .ok (.iload_n 1, 1) := by decide +kernel
theorem dL_setByte_2 : decode cL_setByte 2 = .ok (.iload_n 2, 1) := by decide +kernel
theorem dL_setByte_3 : decode cL_setByte 3 = .ok (.invokevirtual 39, 3) := by decide +kernel
theorem dL_setByte_6 : decode cL_setByte 6 = .ok (.ireturn, 1) := by decide +kernel
theorem dL_setByte_7 : decode cL_setByte 7 = .ok (.astore_n 3, 1) := by decide +kernel
theorem dL_setByte_8 : decode cL_setByte 8 = .ok (.iconst (-1), 1) := by decide +kernel
theorem dL_setByte_9 : decode cL_setByte 9 = .ok (.ireturn, 1) := by decide +kernel
theorem dL_setByte_10 : decode cL_setByte 10 = .ok (.astore_n 3, 1) := by decide +kernel
theorem dL_setByte_11 : decode cL_setByte 11 = .ok (.bipush (-2), 2) := by decide +kernel
theorem dL_setByte_13 : decode cL_setByte 13 = .ok (.ireturn, 1) := by decide +kernel
theorem dL_cut_0 : decode cL_cut 0 = .ok (.aload_n 0, 1) := by decide +kernel
theorem dL_cut_1 : decode cL_cut 1 = .ok (.iload_n 1, 1) := by decide +kernel
theorem dL_cut_2 : decode cL_cut 2 = .ok (.invokevirtual 42, 3) := by decide +kernel
theorem dL_cut_5 : decode cL_cut 5 = .ok (.ireturn, 1) := by decide +kernel
theorem dL_cut_6 : decode cL_cut 6 = .ok (.astore_n 2, 1) := by decide +kernel
theorem dL_cut_7 : decode cL_cut 7 = .ok (.iconst (-1), 1) := by decide +kernel
theorem dL_cut_8 : decode cL_cut 8 = .ok (.ireturn, 1) := by decide +kernel
theorem dL_decode_0 : decode cL_decode 0 = .ok (.aload_n 0, 1) := by decide +kernel
theorem dL_decode_1 : decode cL_decode 1 = .ok (.iload_n 1, 1) := by decide +kernel
theorem dL_decode_2 : decode cL_decode 2 = .ok (.invokevirtual 45, 3) := by decide +kernel
theorem dL_decode_5 : decode cL_decode 5 = .ok (.ireturn, 1) := by decide +kernel
theorem dL_decode_6 : decode cL_decode 6 = .ok (.astore_n 2, 1) := by decide +kernel
theorem dL_decode_7 : decode cL_decode 7 = .ok (.iconst (-1), 1) := by decide +kernel
theorem dL_decode_8 : decode cL_decode 8 = .ok (.ireturn, 1) := by decide +kernel
theorem dL_decode_9 : decode cL_decode 9 = .ok (.astore_n 2, 1) := by decide +kernel
theorem dL_decode_10 : decode cL_decode 10 = .ok (.bipush (-2), 2) := by decide +kernel
theorem dL_decode_12 : decode cL_decode 12 = .ok (.ireturn, 1) := by decide +kernel
theorem dL_decodedWidth_0 : decode cL_decodedWidth 0 = .ok (.aload_n 0, 1) := by decide +kernel
theorem dL_decodedWidth_1 : decode cL_decodedWidth 1 = .ok (.invokevirtual 50, 3) := by decide +kernel
theorem dL_decodedWidth_4 : decode cL_decodedWidth 4 = .ok (.ireturn, 1) := by decide +kernel
theorem dL_decodedWidth_5 : decode cL_decodedWidth 5 = .ok (.astore_n 1, 1) := by decide +kernel
theorem dL_decodedWidth_6 : decode cL_decodedWidth 6 = .ok (.iconst (-1), 1) := by decide +kernel
theorem dL_decodedWidth_7 : decode cL_decodedWidth 7 = .ok (.ireturn, 1) := by decide +kernel
theorem dL_decodedHeight_0 : decode cL_decodedHeight 0 = .ok (.aload_n 0, 1) := by decide +kernel
theorem dL_decodedHeight_1 : decode cL_decodedHeight 1 = .ok (.invokevirtual 56, 3) := by decide +kernel
theorem dL_decodedHeight_4 : decode cL_decodedHeight 4 = .ok (.ireturn, 1) := by decide +kernel
theorem dL_decodedHeight_5 : decode cL_decodedHeight 5 = .ok (.astore_n 1, 1) := by decide +kernel
theorem dL_decodedHeight_6 : decode cL_decodedHeight 6 = .ok (.iconst (-1), 1) := by decide +kernel
theorem dL_decodedHeight_7 : decode cL_decodedHeight 7 = .ok (.ireturn, 1) := by decide +kernel
theorem dL_decodedPixel_0 : decode cL_decodedPixel 0 = .ok (.aload_n 0, 1) := by decide +kernel
theorem dL_decodedPixel_1 : decode cL_decodedPixel 1 = .ok (.iload_n 1, 1) := by decide +kernel
theorem dL_decodedPixel_2 : decode cL_decodedPixel 2 = .ok (.iload_n 2, 1) := by decide +kernel
theorem dL_decodedPixel_3 : decode cL_decodedPixel 3 = .ok (.invokevirtual 59, 3) := by decide +kernel
theorem dL_decodedPixel_6 : decode cL_decodedPixel 6 = .ok (.ireturn, 1) := by decide +kernel
theorem dL_decodedPixel_7 : decode cL_decodedPixel 7 = .ok (.astore_n 3, 1) := by decide +kernel
theorem dL_decodedPixel_8 : decode cL_decodedPixel 8 = .ok (.iconst (-1), 1) := by decide +kernel
theorem dL_decodedPixel_9 : decode cL_decodedPixel 9 = .ok (.ireturn, 1) := by decide +kernel
theorem dL_decodedPixel_10 : decode cL_decodedPixel 10 = .ok (.astore_n 3, 1) := by decide +kernel
theorem dL_decodedPixel_11 : decode cL_decodedPixel 11 = .ok (.bipush (-2), 2) := by decide +kernel
theorem dL_decodedPixel_13 : decode cL_decodedPixel 13 = .ok (.ireturn, 1) := by decide +kernel
theorem dL_fault_0 : decode cL_fault 0 = .ok (.aload_n 0, 1) := by decide +kernel
theorem dL_fault_1 : decode cL_fault 1 = .ok (.iload_n 1, 1) := by decide +kernel
theorem dL_fault_2 : decode cL_fault 2 = .ok (.invokevirtual 62, 3) := by decide +kernel
theorem dL_fault_5 : decode cL_fault 5 = .ok (.ireturn, 1) := by decide +kernel
theorem dL_fault_6 : decode cL_fault 6 = .ok (.astore_n 2, 1) := by decide +kernel
theorem dL_fault_7 : decode cL_fault 7 = .ok (.iconst (-1), 1) := by decide +kernel
theorem dL_fault_8 : decode cL_fault 8 = .ok (.ireturn, 1) := by decide +kernel
theorem dL_fault_9 : decode cL_fault 9 = .ok (.astore_n 2, 1) := by decide +kernel
theorem dL_fault_10 : decode cL_fault 10 = .ok (.bipush (-2), 2) := by decide +kernel
theorem dL_fault_12 : decode cL_fault 12 = .ok (.ireturn, 1) := by decide +kernel
theorem dL_layersUsed_0 : decode cL_layersUsed 0 = .ok (.aload_n 0, 1) := by decide +kernel
theorem dL_layersUsed_1 : decode cL_layersUsed 1 = .ok (.iload_n 1, 1) := by decide +kernel
theorem dL_layersUsed_2 : decode cL_layersUsed 2 = .ok (.invokevirtual 66, 3) := by decide +kernel
theorem dL_layersUsed_5 : decode cL_layersUsed 5 = .ok (.ireturn, 1) := by decide +kernel
theorem dL_layersUsed_6 : decode cL_layersUsed 6 = .ok (.astore_n 2, 1) := by decide +kernel
theorem dL_layersUsed_7 : decode cL_layersUsed 7 = .ok (.iconst (-1), 1) := by decide +kernel
theorem dL_layersUsed_8 : decode cL_layersUsed 8 = .ok (.ireturn, 1) := by decide +kernel
theorem dL_layersUsed_9 : decode cL_layersUsed 9 = .ok (.astore_n 2, 1) := by decide +kernel
theorem dL_layersUsed_10 : decode cL_layersUsed 10 = .ok (.bipush (-2), 2) := by decide +kernel
theorem dL_layersUsed_12 : decode cL_layersUsed 12 = .ok (.ireturn, 1) := by decide +kernel
theorem dL_isSame_0 : decode cL_isSame 0 = .ok (.aload_n 0, 1) := by decide +kernel
theorem dL_isSame_1 : decode cL_isSame 1 = .ok (.invokevirtual 69, 3) := by decide +kernel
theorem dL_isSame_4 : decode cL_isSame 4 = .ok (.ifCond .eq 7, 3) := by decide +kernel
theorem dL_isSame_7 : decode cL_isSame 7 = .ok (.iconst 1, 1) := by decide +kernel
theorem dL_isSame_8 : decode cL_isSame 8 = .ok (.goto 4, 3) := by decide +kernel
theorem dL_isSame_11 : decode cL_isSame 11 = .ok (.iconst 0, 1) := by decide +kernel
theorem dL_isSame_12 : decode cL_isSame 12 = .ok (.ireturn, 1) := by decide +kernel
theorem dL_isSame_13 : decode cL_isSame 13 = .ok (.astore_n 1, 1) := by decide +kernel
theorem dL_isSame_14 : decode cL_isSame 14 = .ok (.iconst (-1), 1) := by decide +kernel
theorem dL_isSame_15 : decode cL_isSame 15 = .ok (.ireturn, 1) := by decide +kernel
theorem dL_squaredError_0 : decode cL_squaredError 0 = .ok (.aload_n 0, 1) := by decide +kernel
theorem dL_squaredError_1 : decode cL_squaredError 1 = .ok (.invokevirtual 73, 3) := by decide +kernel
theorem dL_squaredError_4 : decode cL_squaredError 4 = .ok (.ireturn, 1) := by decide +kernel
theorem dL_squaredError_5 : decode cL_squaredError 5 = .ok (.astore_n 1, 1) := by decide +kernel
theorem dL_squaredError_6 : decode cL_squaredError 6 = .ok (.iconst (-1), 1) := by decide +kernel
theorem dL_squaredError_7 : decode cL_squaredError 7 = .ok (.ireturn, 1) := by decide +kernel
theorem dL_squaredError_8 : decode cL_squaredError 8 = .ok (.astore_n 1, 1) := by decide +kernel
theorem dL_squaredError_9 : decode cL_squaredError 9 = .ok (.bipush (-2), 2) := by decide +kernel
theorem dL_squaredError_11 : decode cL_squaredError 11 = .ok (.ireturn, 1) := by decide +kernel
theorem dL_greatestError_0 : decode cL_greatestError 0 = .ok (.aload_n 0, 1) := by decide +kernel
theorem dL_greatestError_1 : decode cL_greatestError 1 = .ok (.invokevirtual 76, 3) := by decide +kernel
theorem dL_greatestError_4 : decode cL_greatestError 4 = .ok (.ireturn, 1) := by decide +kernel
theorem dL_greatestError_5 : decode cL_greatestError 5 = .ok (.astore_n 1, 1) := by decide +kernel
theorem dL_greatestError_6 : decode cL_greatestError 6 = .ok (.iconst (-1), 1) := by decide +kernel
theorem dL_greatestError_7 : decode cL_greatestError 7 = .ok (.ireturn, 1) := by decide +kernel
theorem dL_greatestError_8 : decode cL_greatestError 8 = .ok (.astore_n 1, 1) := by decide +kernel
theorem dL_greatestError_9 : decode cL_greatestError 9 = .ok (.bipush (-2), 2) := by decide +kernel
theorem dL_greatestError_11 : decode cL_greatestError 11 = .ok (.ireturn, 1) := by decide +kernel
theorem dL_blocks_0 : decode cL_blocks 0 = .ok (.aload_n 0, 1) := by decide +kernel
theorem dL_blocks_1 : decode cL_blocks 1 = .ok (.iload_n 1, 1) := by decide +kernel
theorem dL_blocks_2 : decode cL_blocks 2 = .ok (.invokevirtual 79, 3) := by decide +kernel
theorem dL_blocks_5 : decode cL_blocks 5 = .ok (.ireturn, 1) := by decide +kernel
theorem dL_blocks_6 : decode cL_blocks 6 = .ok (.astore_n 2, 1) := by decide +kernel
theorem dL_blocks_7 : decode cL_blocks 7 = .ok (.iconst (-1), 1) := by decide +kernel
theorem dL_blocks_8 : decode cL_blocks 8 = .ok (.ireturn, 1) := by decide +kernel
theorem dL_blocks_9 : decode cL_blocks 9 = .ok (.astore_n 2, 1) := by decide +kernel
theorem dL_blocks_10 : decode cL_blocks 10 = .ok (.bipush (-2), 2) := by decide +kernel
theorem dL_blocks_12 : decode cL_blocks 12 = .ok (.ireturn, 1) := by decide +kernel
theorem dL_blockSize_0 : decode cL_blockSize 0 = .ok (.aload_n 0, 1) := by decide +kernel
theorem dL_blockSize_1 : decode cL_blockSize 1 = .ok (.iload_n 1, 1) := by decide +kernel
theorem dL_blockSize_2 : decode cL_blockSize 2 = .ok (.iload_n 2, 1) := by decide +kernel
theorem dL_blockSize_3 : decode cL_blockSize 3 = .ok (.iload_n 3, 1) := by decide +kernel
theorem dL_blockSize_4 : decode cL_blockSize 4 = .ok (.invokevirtual 82, 3) := by decide +kernel
theorem dL_blockSize_7 : decode cL_blockSize 7 = .ok (.ireturn, 1) := by decide +kernel
theorem dL_blockSize_8 : decode cL_blockSize 8 = .ok (.astore 4, 2) := by decide +kernel
theorem dL_blockSize_10 : decode cL_blockSize 10 = .ok (.iconst (-1), 1) := by decide +kernel
theorem dL_blockSize_11 : decode cL_blockSize 11 = .ok (.ireturn, 1) := by decide +kernel
theorem dL_blockSize_12 : decode cL_blockSize 12 = .ok (.astore 4, 2) := by decide +kernel
theorem dL_blockSize_14 : decode cL_blockSize 14 = .ok (.bipush (-2), 2) := by decide +kernel
theorem dL_blockSize_16 : decode cL_blockSize 16 = .ok (.ireturn, 1) := by decide +kernel
theorem dL_mode_0 : decode cL_mode 0 = .ok (.aload_n 0, 1) := by decide +kernel
theorem dL_mode_1 : decode cL_mode 1 = .ok (.iload_n 1, 1) := by decide +kernel
theorem dL_mode_2 : decode cL_mode 2 = .ok (.iload_n 2, 1) := by decide +kernel
theorem dL_mode_3 : decode cL_mode 3 = .ok (.iload_n 3, 1) := by decide +kernel
theorem dL_mode_4 : decode cL_mode 4 = .ok (.invokevirtual 85, 3) := by decide +kernel
theorem dL_mode_7 : decode cL_mode 7 = .ok (.ireturn, 1) := by decide +kernel
theorem dL_mode_8 : decode cL_mode 8 = .ok (.astore 4, 2) := by decide +kernel
theorem dL_mode_10 : decode cL_mode 10 = .ok (.iconst (-1), 1) := by decide +kernel
theorem dL_mode_11 : decode cL_mode 11 = .ok (.ireturn, 1) := by decide +kernel
theorem dL_mode_12 : decode cL_mode 12 = .ok (.astore 4, 2) := by decide +kernel
theorem dL_mode_14 : decode cL_mode 14 = .ok (.bipush (-2), 2) := by decide +kernel
theorem dL_mode_16 : decode cL_mode 16 = .ok (.ireturn, 1) := by decide +kernel
theorem dL_level_0 : decode cL_level 0 = .ok (.aload_n 0, 1) := by decide +kernel
theorem dL_level_1 : decode cL_level 1 = .ok (.iload_n 1, 1) := by decide +kernel
theorem dL_level_2 : decode cL_level 2 = .ok (.iload_n 2, 1) := by decide +kernel
theorem dL_level_3 : decode cL_level 3 = .ok (.iload_n 3, 1) := by decide +kernel
theorem dL_level_4 : decode cL_level 4 = .ok (.invokevirtual 89, 3) := by decide +kernel
theorem dL_level_7 : decode cL_level 7 = .ok (.ireturn, 1) := by decide +kernel
theorem dL_level_8 : decode cL_level 8 = .ok (.astore 4, 2) := by decide +kernel
theorem dL_level_10 : decode cL_level 10 = .ok (.iconst (-1), 1) := by decide +kernel
theorem dL_level_11 : decode cL_level 11 = .ok (.ireturn, 1) := by decide +kernel
theorem dL_level_12 : decode cL_level 12 = .ok (.astore 4, 2) := by decide +kernel
theorem dL_level_14 : decode cL_level 14 = .ok (.bipush (-2), 2) := by decide +kernel
theorem dL_level_16 : decode cL_level 16 = .ok (.ireturn, 1) := by decide +kernel
theorem dL_cost_0 : decode cL_cost 0 = .ok (.aload_n 0, 1) := by decide +kernel
theorem dL_cost_1 : decode cL_cost 1 = .ok (.iload_n 1, 1) := by decide +kernel
theorem dL_cost_2 : decode cL_cost 2 = .ok (.iload_n 2, 1) := by decide +kernel
theorem dL_cost_3 : decode cL_cost 3 = .ok (.iload_n 3, 1) := by decide +kernel
theorem dL_cost_4 : decode cL_cost 4 = .ok (.invokevirtual 92, 3) := by decide +kernel
theorem dL_cost_7 : decode cL_cost 7 = .ok (.ireturn, 1) := by decide +kernel
theorem dL_cost_8 : decode cL_cost 8 = .ok (.astore 4, 2) := by decide +kernel
theorem dL_cost_10 : decode cL_cost 10 = .ok (.iconst (-1), 1) := by decide +kernel
theorem dL_cost_11 : decode cL_cost 11 = .ok (.ireturn, 1) := by decide +kernel
theorem dL_cost_12 : decode cL_cost 12 = .ok (.astore 4, 2) := by decide +kernel
theorem dL_cost_14 : decode cL_cost 14 = .ok (.bipush (-2), 2) := by decide +kernel
theorem dL_cost_16 : decode cL_cost 16 = .ok (.ireturn, 1) := by decide +kernel
theorem dL_partSize_0 : decode cL_partSize 0 = .ok (.aload_n 0, 1) := by decide +kernel
theorem dL_partSize_1 : decode cL_partSize 1 = .ok (.iload_n 1, 1) := by decide +kernel
theorem dL_partSize_2 : decode cL_partSize 2 = .ok (.iload_n 2, 1) := by decide +kernel
theorem dL_partSize_3 : decode cL_partSize 3 = .ok (.invokevirtual 95, 3) := by decide +kernel
theorem dL_partSize_6 : decode cL_partSize 6 = .ok (.ireturn, 1) := by decide +kernel
theorem dL_partSize_7 : decode cL_partSize 7 = .ok (.astore_n 3, 1) := by decide +kernel
theorem dL_partSize_8 : decode cL_partSize 8 = .ok (.iconst (-1), 1) := by decide +kernel
theorem dL_partSize_9 : decode cL_partSize 9 = .ok (.ireturn, 1) := by decide +kernel
theorem dL_partSize_10 : decode cL_partSize 10 = .ok (.astore_n 3, 1) := by decide +kernel
theorem dL_partSize_11 : decode cL_partSize 11 = .ok (.bipush (-2), 2) := by decide +kernel
theorem dL_partSize_13 : decode cL_partSize 13 = .ok (.ireturn, 1) := by decide +kernel
theorem dL_ratio_0 : decode cL_ratio 0 = .ok (.aload_n 0, 1) := by decide +kernel
theorem dL_ratio_1 : decode cL_ratio 1 = .ok (.invokevirtual 98, 3) := by decide +kernel
theorem dL_ratio_4 : decode cL_ratio 4 = .ok (.freturn, 1) := by decide +kernel
theorem dL_ratio_5 : decode cL_ratio 5 = .ok (.astore_n 1, 1) := by decide +kernel
theorem dL_ratio_6 : decode cL_ratio 6 = .ok (.ldc 102, 2) := by decide +kernel
theorem dL_ratio_8 : decode cL_ratio 8 = .ok (.freturn, 1) := by decide +kernel
theorem dL_digits_0 : decode cL_digits 0 = .ok (.bipush 32, 2) := by decide +kernel
theorem dL_digits_2 : decode cL_digits 2 = .ok (.iload_n 0, 1) := by decide +kernel
theorem dL_digits_3 : decode cL_digits 3 = .ok (.invokestatic 103, 3) := by decide +kernel
theorem dL_digits_6 : decode cL_digits 6 = .ok (.invokestatic 108, 3) := by decide +kernel
theorem dL_digits_9 : decode cL_digits 9 = .ok (.isub, 1) := by decide +kernel
theorem dL_digits_10 : decode cL_digits 10 = .ok (.ireturn, 1) := by decide +kernel
theorem dL_layers_0 : decode cL_layers 0 = .ok (.iconst 0, 1) := by decide +kernel
theorem dL_layers_1 : decode cL_layers 1 = .ok (.istore_n 1, 1) := by decide +kernel
theorem dL_layers_2 : decode cL_layers 2 = .ok (.aload_n 0, 1) := by decide +kernel
theorem dL_layers_3 : decode cL_layers 3 = .ok (.iload_n 1, 1) := by decide +kernel
theorem dL_layers_4 : decode cL_layers 4 = .ok (.invokestatic 113, 3) := by decide +kernel
theorem dL_layers_7 : decode cL_layers 7 = .ok (.ifCond .lt 9, 3) := by decide +kernel
theorem dL_layers_10 : decode cL_layers 10 = .ok (.iinc 1 1, 3) := by decide +kernel
theorem dL_layers_13 : decode cL_layers 13 = .ok (.goto (-11), 3) := by decide +kernel
theorem dL_layers_16 : decode cL_layers 16 = .ok (.iload_n 1, 1) := by decide +kernel
theorem dL_layers_17 : decode cL_layers 17 = .ok (.ireturn, 1) := by decide +kernel
theorem dL_acts_0 : decode cL_acts 0 = .ok (.aload_n 2, 1) := by decide +kernel
theorem dL_acts_1 : decode cL_acts 1 = .ok (.bipush 40, 2) := by decide +kernel
theorem dL_acts_3 : decode cL_acts 3 = .ok (.invokevirtual 118, 3) := by decide +kernel
theorem dL_acts_6 : decode cL_acts 6 = .ok (.ifCond .ne 9, 3) := by decide +kernel
theorem dL_acts_9 : decode cL_acts 9 = .ok (.sipush 256, 3) := by decide +kernel
theorem dL_acts_12 : decode cL_acts 12 = .ok (.goto 10, 3) := by decide +kernel
theorem dL_acts_15 : decode cL_acts 15 = .ok (.aload_n 2, 1) := by decide +kernel
theorem dL_acts_16 : decode cL_acts 16 = .ok (.sipush 256, 3) := by decide +kernel
theorem dL_acts_19 : decode cL_acts 19 = .ok (.invokevirtual 118, 3) := by decide +kernel
theorem dL_acts_22 : decode cL_acts 22 = .ok (.istore_n 3, 1) := by decide +kernel
theorem dL_acts_23 : decode cL_acts 23 = .ok (.aload_n 2, 1) := by decide +kernel
theorem dL_acts_24 : decode cL_acts 24 = .ok (.aload_n 0, 1) := by decide +kernel
theorem dL_acts_25 : decode cL_acts 25 = .ok (.invokevirtual 123, 3) := by decide +kernel
theorem dL_acts_28 : decode cL_acts 28 = .ok (.iconst 1, 1) := by decide +kernel
theorem dL_acts_29 : decode cL_acts 29 = .ok (.iadd, 1) := by decide +kernel
theorem dL_acts_30 : decode cL_acts 30 = .ok (.invokevirtual 118, 3) := by decide +kernel
theorem dL_acts_33 : decode cL_acts 33 = .ok (.istore 4, 2) := by decide +kernel
theorem dL_acts_35 : decode cL_acts 35 = .ok (.aload_n 2, 1) := by decide +kernel
theorem dL_acts_36 : decode cL_acts 36 = .ok (.aload_n 0, 1) := by decide +kernel
theorem dL_acts_37 : decode cL_acts 37 = .ok (.invokevirtual 126, 3) := by decide +kernel
theorem dL_acts_40 : decode cL_acts 40 = .ok (.invokevirtual 118, 3) := by decide +kernel
theorem dL_acts_43 : decode cL_acts 43 = .ok (.istore 5, 2) := by decide +kernel
theorem dL_acts_45 : decode cL_acts 45 = .ok (.iload_n 1, 1) := by decide +kernel
theorem dL_acts_46 : decode cL_acts 46 = .ok (.bipush 16, 2) := by decide +kernel
theorem dL_acts_48 : decode cL_acts 48 = .ok (.irem, 1) := by decide +kernel
theorem dL_acts_49 : decode cL_acts 49 = .ok (.tableswitch 263 0 13 #[71, 119, 119, 129, 129, 129, 154, 154, 173, 173, 222, 227, 232, 248], 71) := by decide +kernel
theorem dL_acts_120 : decode cL_acts 120 = .ok (.aload_n 0, 1) := by decide +kernel
theorem dL_acts_121 : decode cL_acts 121 = .ok (.aload_n 2, 1) := by decide +kernel
theorem dL_acts_122 : decode cL_acts 122 = .ok (.bipush 20, 2) := by decide +kernel
theorem dL_acts_124 : decode cL_acts 124 = .ok (.invokevirtual 118, 3) := by decide +kernel
theorem dL_acts_127 : decode cL_acts 127 = .ok (.ifCond .ne 8, 3) := by decide +kernel
theorem dL_acts_130 : decode cL_acts 130 = .ok (.bipush 17, 2) := by decide +kernel
theorem dL_acts_132 : decode cL_acts 132 = .ok (.goto 11, 3) := by decide +kernel
theorem dL_acts_135 : decode cL_acts 135 = .ok (.iconst 1, 1) := by decide +kernel
theorem dL_acts_136 : decode cL_acts 136 = .ok (.aload_n 2, 1) := by decide +kernel
theorem dL_acts_137 : decode cL_acts 137 = .ok (.bipush 12, 2) := by decide +kernel
theorem dL_acts_139 : decode cL_acts 139 = .ok (.invokevirtual 118, 3) := by decide +kernel
theorem dL_acts_142 : decode cL_acts 142 = .ok (.iadd, 1) := by decide +kernel
theorem dL_acts_143 : decode cL_acts 143 = .ok (.iconst 1, 1) := by decide +kernel
theorem dL_acts_144 : decode cL_acts 144 = .ok (.aload_n 2, 1) := by decide +kernel
theorem dL_acts_145 : decode cL_acts 145 = .ok (.aload_n 2, 1) := by decide +kernel
theorem dL_acts_146 : decode cL_acts 146 = .ok (.iconst 3, 1) := by decide +kernel
theorem dL_acts_147 : decode cL_acts 147 = .ok (.invokevirtual 118, 3) := by decide +kernel
theorem dL_acts_150 : decode cL_acts 150 = .ok (.ifCond .ne 8, 3) := by decide +kernel
theorem dL_acts_153 : decode cL_acts 153 = .ok (.bipush 18, 2) := by decide +kernel
theorem dL_acts_155 : decode cL_acts 155 = .ok (.goto 5, 3) := by decide +kernel
theorem dL_acts_158 : decode cL_acts 158 = .ok (.bipush 9, 2) := by decide +kernel
theorem dL_acts_160 : decode cL_acts 160 = .ok (.invokevirtual 118, 3) := by decide +kernel
theorem dL_acts_163 : decode cL_acts 163 = .ok (.iadd, 1) := by decide +kernel
theorem dL_acts_164 : decode cL_acts 164 = .ok (.invokestatic 129, 3) := by decide +kernel
theorem dL_acts_167 : decode cL_acts 167 = .ok (.ireturn, 1) := by decide +kernel
theorem dL_acts_168 : decode cL_acts 168 = .ok (.aload_n 0, 1) := by decide +kernel
theorem dL_acts_169 : decode cL_acts 169 = .ok (.iload 4, 2) := by decide +kernel
theorem dL_acts_171 : decode cL_acts 171 = .ok (.iload 5, 2) := by decide +kernel
theorem dL_acts_173 : decode cL_acts 173 = .ok (.iload_n 3, 1) := by decide +kernel
theorem dL_acts_174 : decode cL_acts 174 = .ok (.invokestatic 132, 3) := by decide +kernel
theorem dL_acts_177 : decode cL_acts 177 = .ok (.ireturn, 1) := by decide +kernel
theorem dL_acts_178 : decode cL_acts 178 = .ok (.aload_n 0, 1) := by decide +kernel
theorem dL_acts_179 : decode cL_acts 179 = .ok (.iload 4, 2) := by decide +kernel
theorem dL_acts_181 : decode cL_acts 181 = .ok (.iload 5, 2) := by decide +kernel
theorem dL_acts_183 : decode cL_acts 183 = .ok (.iconst 1, 1) := by decide +kernel
theorem dL_acts_184 : decode cL_acts 184 = .ok (.aload_n 2, 1) := by decide +kernel
theorem dL_acts_185 : decode cL_acts 185 = .ok (.bipush 6, 2) := by decide +kernel
theorem dL_acts_187 : decode cL_acts 187 = .ok (.invokevirtual 118, 3) := by decide +kernel
theorem dL_acts_190 : decode cL_acts 190 = .ok (.iadd, 1) := by decide +kernel
theorem dL_acts_191 : decode cL_acts 191 = .ok (.iconst 1, 1) := by decide +kernel
theorem dL_acts_192 : decode cL_acts 192 = .ok (.aload_n 2, 1) := by decide +kernel
theorem dL_acts_193 : decode cL_acts 193 = .ok (.iconst 5, 1) := by decide +kernel
theorem dL_acts_194 : decode cL_acts 194 = .ok (.invokevirtual 118, 3) := by decide +kernel
theorem dL_acts_197 : decode cL_acts 197 = .ok (.iadd, 1) := by decide +kernel
theorem dL_acts_198 : decode cL_acts 198 = .ok (.iload_n 3, 1) := by decide +kernel
theorem dL_acts_199 : decode cL_acts 199 = .ok (.invokestatic 135, 3) := by decide +kernel
theorem dL_acts_202 : decode cL_acts 202 = .ok (.ireturn, 1) := by decide +kernel
theorem dL_acts_203 : decode cL_acts 203 = .ok (.aload_n 0, 1) := by decide +kernel
theorem dL_acts_204 : decode cL_acts 204 = .ok (.iload_n 3, 1) := by decide +kernel
theorem dL_acts_205 : decode cL_acts 205 = .ok (.aload_n 2, 1) := by decide +kernel
theorem dL_acts_206 : decode cL_acts 206 = .ok (.bipush 30, 2) := by decide +kernel
theorem dL_acts_208 : decode cL_acts 208 = .ok (.invokevirtual 118, 3) := by decide +kernel
theorem dL_acts_211 : decode cL_acts 211 = .ok (.aload_n 2, 1) := by decide +kernel
theorem dL_acts_212 : decode cL_acts 212 = .ok (.sipush 256, 3) := by decide +kernel
theorem dL_acts_215 : decode cL_acts 215 = .ok (.invokevirtual 118, 3) := by decide +kernel
theorem dL_acts_218 : decode cL_acts 218 = .ok (.invokestatic 138, 3) := by decide +kernel
theorem dL_acts_221 : decode cL_acts 221 = .ok (.ireturn, 1) := by decide +kernel
theorem dL_acts_222 : decode cL_acts 222 = .ok (.iconst 1, 1) := by decide +kernel
theorem dL_acts_223 : decode cL_acts 223 = .ok (.aload_n 2, 1) := by decide +kernel
theorem dL_acts_224 : decode cL_acts 224 = .ok (.aload_n 2, 1) := by decide +kernel
theorem dL_acts_225 : decode cL_acts 225 = .ok (.iconst 2, 1) := by decide +kernel
theorem dL_acts_226 : decode cL_acts 226 = .ok (.invokevirtual 118, 3) := by decide +kernel
theorem dL_acts_229 : decode cL_acts 229 = .ok (.ifCond .ne 8, 3) := by decide +kernel
theorem dL_acts_232 : decode cL_acts 232 = .ok (.bipush 32, 2) := by decide +kernel
theorem dL_acts_234 : decode cL_acts 234 = .ok (.goto 4, 3) := by decide +kernel
theorem dL_acts_237 : decode cL_acts 237 = .ok (.iconst 4, 1) := by decide +kernel
theorem dL_acts_238 : decode cL_acts 238 = .ok (.invokevirtual 118, 3) := by decide +kernel
theorem dL_acts_241 : decode cL_acts 241 = .ok (.iadd, 1) := by decide +kernel
theorem dL_acts_242 : decode cL_acts 242 = .ok (.istore 6, 2) := by decide +kernel
theorem dL_acts_244 : decode cL_acts 244 = .ok (.aload_n 2, 1) := by decide +kernel
theorem dL_acts_245 : decode cL_acts 245 = .ok (.iload 6, 2) := by decide +kernel
theorem dL_acts_247 : decode cL_acts 247 = .ok (.iconst 1, 1) := by decide +kernel
theorem dL_acts_248 : decode cL_acts 248 = .ok (.iadd, 1) := by decide +kernel
theorem dL_acts_249 : decode cL_acts 249 = .ok (.invokevirtual 118, 3) := by decide +kernel
theorem dL_acts_252 : decode cL_acts 252 = .ok (.istore 7, 2) := by decide +kernel
theorem dL_acts_254 : decode cL_acts 254 = .ok (.aload_n 0, 1) := by decide +kernel
theorem dL_acts_255 : decode cL_acts 255 = .ok (.iload 6, 2) := by decide +kernel
theorem dL_acts_257 : decode cL_acts 257 = .ok (.iload 7, 2) := by decide +kernel
theorem dL_acts_259 : decode cL_acts 259 = .ok (.aload_n 2, 1) := by decide +kernel
theorem dL_acts_260 : decode cL_acts 260 = .ok (.iload 7, 2) := by decide +kernel
theorem dL_acts_262 : decode cL_acts 262 = .ok (.iconst 1, 1) := by decide +kernel
theorem dL_acts_263 : decode cL_acts 263 = .ok (.iadd, 1) := by decide +kernel
theorem dL_acts_264 : decode cL_acts 264 = .ok (.invokevirtual 118, 3) := by decide +kernel
theorem dL_acts_267 : decode cL_acts 267 = .ok (.invokestatic 140, 3) := by decide +kernel
theorem dL_acts_270 : decode cL_acts 270 = .ok (.ireturn, 1) := by decide +kernel
theorem dL_acts_271 : decode cL_acts 271 = .ok (.aload_n 0, 1) := by decide +kernel
theorem dL_acts_272 : decode cL_acts 272 = .ok (.invokevirtual 142, 3) := by decide +kernel
theorem dL_acts_275 : decode cL_acts 275 = .ok (.ireturn, 1) := by decide +kernel
theorem dL_acts_276 : decode cL_acts 276 = .ok (.aload_n 0, 1) := by decide +kernel
theorem dL_acts_277 : decode cL_acts 277 = .ok (.invokevirtual 145, 3) := by decide +kernel
theorem dL_acts_280 : decode cL_acts 280 = .ok (.ireturn, 1) := by decide +kernel
theorem dL_acts_281 : decode cL_acts 281 = .ok (.aload_n 0, 1) := by decide +kernel
theorem dL_acts_282 : decode cL_acts 282 = .ok (.aload_n 2, 1) := by decide +kernel
theorem dL_acts_283 : decode cL_acts 283 = .ok (.aload_n 0, 1) := by decide +kernel
theorem dL_acts_284 : decode cL_acts 284 = .ok (.invokevirtual 148, 3) := by decide +kernel
theorem dL_acts_287 : decode cL_acts 287 = .ok (.iconst 1, 1) := by decide +kernel
theorem dL_acts_288 : decode cL_acts 288 = .ok (.iadd, 1) := by decide +kernel
theorem dL_acts_289 : decode cL_acts 289 = .ok (.invokevirtual 118, 3) := by decide +kernel
theorem dL_acts_292 : decode cL_acts 292 = .ok (.iload_n 3, 1) := by decide +kernel
theorem dL_acts_293 : decode cL_acts 293 = .ok (.invokestatic 151, 3) := by decide +kernel
theorem dL_acts_296 : decode cL_acts 296 = .ok (.ireturn, 1) := by decide +kernel
theorem dL_acts_297 : decode cL_acts 297 = .ok (.aload_n 0, 1) := by decide +kernel
theorem dL_acts_298 : decode cL_acts 298 = .ok (.aload_n 2, 1) := by decide +kernel
theorem dL_acts_299 : decode cL_acts 299 = .ok (.aload_n 0, 1) := by decide +kernel
theorem dL_acts_300 : decode cL_acts 300 = .ok (.invokevirtual 148, 3) := by decide +kernel
theorem dL_acts_303 : decode cL_acts 303 = .ok (.iconst 2, 1) := by decide +kernel
theorem dL_acts_304 : decode cL_acts 304 = .ok (.iadd, 1) := by decide +kernel
theorem dL_acts_305 : decode cL_acts 305 = .ok (.invokevirtual 118, 3) := by decide +kernel
theorem dL_acts_308 : decode cL_acts 308 = .ok (.invokestatic 153, 3) := by decide +kernel
theorem dL_acts_311 : decode cL_acts 311 = .ok (.ireturn, 1) := by decide +kernel
theorem dL_acts_312 : decode cL_acts 312 = .ok (.aload_n 0, 1) := by decide +kernel
theorem dL_acts_313 : decode cL_acts 313 = .ok (.aload_n 2, 1) := by decide +kernel
theorem dL_acts_314 : decode cL_acts 314 = .ok (.bipush 10, 2) := by decide +kernel
theorem dL_acts_316 : decode cL_acts 316 = .ok (.invokevirtual 118, 3) := by decide +kernel
theorem dL_acts_319 : decode cL_acts 319 = .ok (.ifCond .ne 7, 3) := by decide +kernel
theorem dL_acts_322 : decode cL_acts 322 = .ok (.iconst 4, 1) := by decide +kernel
theorem dL_acts_323 : decode cL_acts 323 = .ok (.goto 10, 3) := by decide +kernel
theorem dL_acts_326 : decode cL_acts 326 = .ok (.iconst 1, 1) := by decide +kernel
theorem dL_acts_327 : decode cL_acts 327 = .ok (.aload_n 2, 1) := by decide +kernel
theorem dL_acts_328 : decode cL_acts 328 = .ok (.iconst 3, 1) := by decide +kernel
theorem dL_acts_329 : decode cL_acts 329 = .ok (.invokevirtual 118, 3) := by decide +kernel
theorem dL_acts_332 : decode cL_acts 332 = .ok (.iadd, 1) := by decide +kernel
theorem dL_acts_333 : decode cL_acts 333 = .ok (.invokestatic 155, 3) := by decide +kernel
theorem dL_acts_336 : decode cL_acts 336 = .ok (.ireturn, 1) := by decide +kernel
theorem dL_told_0 : decode cL_told 0 = .ok (.new 157, 3) := by decide +kernel
theorem dL_told_3 : decode cL_told 3 = .ok (.dup, 1) := by decide +kernel
theorem dL_told_4 : decode cL_told 4 = .ok (.invokespecial 159, 3) := by decide +kernel
theorem dL_told_7 : decode cL_told 7 = .ok (.astore_n 1, 1) := by decide +kernel
theorem dL_told_8 : decode cL_told 8 = .ok (.aload_n 1, 1) := by decide +kernel
theorem dL_told_9 : decode cL_told 9 = .ok (.aload_n 0, 1) := by decide +kernel
theorem dL_told_10 : decode cL_told 10 = .ok (.invokevirtual 123, 3) := by decide +kernel
theorem dL_told_13 : decode cL_told 13 = .ok (.invokevirtual 160, 3) := by decide +kernel
theorem dL_told_16 : decode cL_told 16 = .ok (.bipush 47, 2) := by decide +kernel
theorem dL_told_18 : decode cL_told 18 = .ok (.invokevirtual 164, 3) := by decide +kernel
theorem dL_told_21 : decode cL_told 21 = .ok (.aload_n 0, 1) := by decide +kernel
theorem dL_told_22 : decode cL_told 22 = .ok (.invokevirtual 126, 3) := by decide +kernel
theorem dL_told_25 : decode cL_told 25 = .ok (.invokevirtual 160, 3) := by decide +kernel
theorem dL_told_28 : decode cL_told 28 = .ok (.bipush 47, 2) := by decide +kernel
theorem dL_told_30 : decode cL_told 30 = .ok (.invokevirtual 164, 3) := by decide +kernel
theorem dL_told_33 : decode cL_told 33 = .ok (.aload_n 0, 1) := by decide +kernel
theorem dL_told_34 : decode cL_told 34 = .ok (.invokevirtual 148, 3) := by decide +kernel
theorem dL_told_37 : decode cL_told 37 = .ok (.invokevirtual 160, 3) := by decide +kernel
theorem dL_told_40 : decode cL_told 40 = .ok (.bipush 47, 2) := by decide +kernel
theorem dL_told_42 : decode cL_told 42 = .ok (.invokevirtual 164, 3) := by decide +kernel
theorem dL_told_45 : decode cL_told 45 = .ok (.aload_n 0, 1) := by decide +kernel
theorem dL_told_46 : decode cL_told 46 = .ok (.invokestatic 167, 3) := by decide +kernel
theorem dL_told_49 : decode cL_told 49 = .ok (.invokevirtual 160, 3) := by decide +kernel
theorem dL_told_52 : decode cL_told 52 = .ok (.bipush 47, 2) := by decide +kernel
theorem dL_told_54 : decode cL_told 54 = .ok (.invokevirtual 164, 3) := by decide +kernel
theorem dL_told_57 : decode cL_told 57 = .ok (.aload_n 0, 1) := by decide +kernel
theorem dL_told_58 : decode cL_told 58 = .ok (.invokestatic 170, 3) := by decide +kernel
theorem dL_told_61 : decode cL_told 61 = .ok (.invokevirtual 160, 3) := by decide +kernel
theorem dL_told_64 : decode cL_told 64 = .ok (.bipush 47, 2) := by decide +kernel
theorem dL_told_66 : decode cL_told 66 = .ok (.invokevirtual 164, 3) := by decide +kernel
theorem dL_told_69 : decode cL_told 69 = .ok (.aload_n 0, 1) := by decide +kernel
theorem dL_told_70 : decode cL_told 70 = .ok (.invokestatic 172, 3) := by decide +kernel
theorem dL_told_73 : decode cL_told 73 = .ok (.invokevirtual 175, 3) := by decide +kernel
theorem dL_told_76 : decode cL_told 76 = .ok (.bipush 47, 2) := by decide +kernel
theorem dL_told_78 : decode cL_told 78 = .ok (.invokevirtual 164, 3) := by decide +kernel
theorem dL_told_81 : decode cL_told 81 = .ok (.aload_n 0, 1) := by decide +kernel
theorem dL_told_82 : decode cL_told 82 = .ok (.invokestatic 178, 3) := by decide +kernel
theorem dL_told_85 : decode cL_told 85 = .ok (.invokevirtual 160, 3) := by decide +kernel
theorem dL_told_88 : decode cL_told 88 = .ok (.bipush 47, 2) := by decide +kernel
theorem dL_told_90 : decode cL_told 90 = .ok (.invokevirtual 164, 3) := by decide +kernel
theorem dL_told_93 : decode cL_told 93 = .ok (.aload_n 0, 1) := by decide +kernel
theorem dL_told_94 : decode cL_told 94 = .ok (.invokestatic 180, 3) := by decide +kernel
theorem dL_told_97 : decode cL_told 97 = .ok (.invokevirtual 160, 3) := by decide +kernel
theorem dL_told_100 : decode cL_told 100 = .ok (.bipush 47, 2) := by decide +kernel
theorem dL_told_102 : decode cL_told 102 = .ok (.invokevirtual 164, 3) := by decide +kernel
theorem dL_told_105 : decode cL_told 105 = .ok (.aload_n 0, 1) := by decide +kernel
theorem dL_told_106 : decode cL_told 106 = .ok (.invokestatic 182, 3) := by decide +kernel
theorem dL_told_109 : decode cL_told 109 = .ok (.invokevirtual 160, 3) := by decide +kernel
theorem dL_told_112 : decode cL_told 112 = .ok (.bipush 47, 2) := by decide +kernel
theorem dL_told_114 : decode cL_told 114 = .ok (.invokevirtual 164, 3) := by decide +kernel
theorem dL_told_117 : decode cL_told 117 = .ok (.aload_n 0, 1) := by decide +kernel
theorem dL_told_118 : decode cL_told 118 = .ok (.invokevirtual 184, 3) := by decide +kernel
theorem dL_told_121 : decode cL_told 121 = .ok (.invokevirtual 187, 3) := by decide +kernel
theorem dL_told_124 : decode cL_told 124 = .ok (.pop, 1) := by decide +kernel
theorem dL_told_125 : decode cL_told 125 = .ok (.iconst 0, 1) := by decide +kernel
theorem dL_told_126 : decode cL_told 126 = .ok (.istore_n 2, 1) := by decide +kernel
theorem dL_told_127 : decode cL_told 127 = .ok (.iconst 0, 1) := by decide +kernel
theorem dL_told_128 : decode cL_told 128 = .ok (.istore_n 3, 1) := by decide +kernel
theorem dL_told_129 : decode cL_told 129 = .ok (.iload_n 3, 1) := by decide +kernel
theorem dL_told_130 : decode cL_told 130 = .ok (.aload_n 0, 1) := by decide +kernel
theorem dL_told_131 : decode cL_told 131 = .ok (.invokevirtual 126, 3) := by decide +kernel
theorem dL_told_134 : decode cL_told 134 = .ok (.if_icmp .ge 40, 3) := by decide +kernel
theorem dL_told_137 : decode cL_told 137 = .ok (.iconst 0, 1) := by decide +kernel
theorem dL_told_138 : decode cL_told 138 = .ok (.istore 4, 2) := by decide +kernel
theorem dL_told_140 : decode cL_told 140 = .ok (.iload 4, 2) := by decide +kernel
theorem dL_told_142 : decode cL_told 142 = .ok (.aload_n 0, 1) := by decide +kernel
theorem dL_told_143 : decode cL_told 143 = .ok (.invokevirtual 123, 3) := by decide +kernel
theorem dL_told_146 : decode cL_told 146 = .ok (.if_icmp .ge 22, 3) := by decide +kernel
theorem dL_told_149 : decode cL_told 149 = .ok (.bipush 31, 2) := by decide +kernel
theorem dL_told_151 : decode cL_told 151 = .ok (.iload_n 2, 1) := by decide +kernel
theorem dL_told_152 : decode cL_told 152 = .ok (.imul, 1) := by decide +kernel
theorem dL_told_153 : decode cL_told 153 = .ok (.aload_n 0, 1) := by decide +kernel
theorem dL_told_154 : decode cL_told 154 = .ok (.iload 4, 2) := by decide +kernel
theorem dL_told_156 : decode cL_told 156 = .ok (.iload_n 3, 1) := by decide +kernel
theorem dL_told_157 : decode cL_told 157 = .ok (.invokestatic 190, 3) := by decide +kernel
theorem dL_told_160 : decode cL_told 160 = .ok (.iadd, 1) := by decide +kernel
theorem dL_told_161 : decode cL_told 161 = .ok (.istore_n 2, 1) := by decide +kernel
theorem dL_told_162 : decode cL_told 162 = .ok (.iinc 4 1, 3) := by decide +kernel
theorem dL_told_165 : decode cL_told 165 = .ok (.goto (-25), 3) := by decide +kernel
theorem dL_told_168 : decode cL_told 168 = .ok (.iinc 3 1, 3) := by decide +kernel
theorem dL_told_171 : decode cL_told 171 = .ok (.goto (-42), 3) := by decide +kernel
theorem dL_told_174 : decode cL_told 174 = .ok (.iconst 0, 1) := by decide +kernel
theorem dL_told_175 : decode cL_told 175 = .ok (.istore_n 3, 1) := by decide +kernel
theorem dL_told_176 : decode cL_told 176 = .ok (.iload_n 3, 1) := by decide +kernel
theorem dL_told_177 : decode cL_told 177 = .ok (.aload_n 0, 1) := by decide +kernel
theorem dL_told_178 : decode cL_told 178 = .ok (.invokevirtual 148, 3) := by decide +kernel
theorem dL_told_181 : decode cL_told 181 = .ok (.if_icmp .ge 20, 3) := by decide +kernel
theorem dL_told_184 : decode cL_told 184 = .ok (.bipush 31, 2) := by decide +kernel
theorem dL_told_186 : decode cL_told 186 = .ok (.iload_n 2, 1) := by decide +kernel
theorem dL_told_187 : decode cL_told 187 = .ok (.imul, 1) := by decide +kernel
theorem dL_told_188 : decode cL_told 188 = .ok (.aload_n 0, 1) := by decide +kernel
theorem dL_told_189 : decode cL_told 189 = .ok (.iload_n 3, 1) := by decide +kernel
theorem dL_told_190 : decode cL_told 190 = .ok (.invokestatic 192, 3) := by decide +kernel
theorem dL_told_193 : decode cL_told 193 = .ok (.iadd, 1) := by decide +kernel
theorem dL_told_194 : decode cL_told 194 = .ok (.istore_n 2, 1) := by decide +kernel
theorem dL_told_195 : decode cL_told 195 = .ok (.iinc 3 1, 3) := by decide +kernel
theorem dL_told_198 : decode cL_told 198 = .ok (.goto (-22), 3) := by decide +kernel
theorem dL_told_201 : decode cL_told 201 = .ok (.iconst 0, 1) := by decide +kernel
theorem dL_told_202 : decode cL_told 202 = .ok (.istore_n 3, 1) := by decide +kernel
theorem dL_told_203 : decode cL_told 203 = .ok (.iload_n 3, 1) := by decide +kernel
theorem dL_told_204 : decode cL_told 204 = .ok (.iconst 4, 1) := by decide +kernel
theorem dL_told_205 : decode cL_told 205 = .ok (.if_icmp .ge 93, 3) := by decide +kernel
theorem dL_told_208 : decode cL_told 208 = .ok (.aload_n 1, 1) := by decide +kernel
theorem dL_told_209 : decode cL_told 209 = .ok (.bipush 59, 2) := by decide +kernel
theorem dL_told_211 : decode cL_told 211 = .ok (.invokevirtual 164, 3) := by decide +kernel
theorem dL_told_214 : decode cL_told 214 = .ok (.aload_n 0, 1) := by decide +kernel
theorem dL_told_215 : decode cL_told 215 = .ok (.iload_n 3, 1) := by decide +kernel
theorem dL_told_216 : decode cL_told 216 = .ok (.invokestatic 194, 3) := by decide +kernel
theorem dL_told_219 : decode cL_told 219 = .ok (.invokevirtual 160, 3) := by decide +kernel
theorem dL_told_222 : decode cL_told 222 = .ok (.bipush 44, 2) := by decide +kernel
theorem dL_told_224 : decode cL_told 224 = .ok (.invokevirtual 164, 3) := by decide +kernel
theorem dL_told_227 : decode cL_told 227 = .ok (.aload_n 0, 1) := by decide +kernel
theorem dL_told_228 : decode cL_told 228 = .ok (.iload_n 3, 1) := by decide +kernel
theorem dL_told_229 : decode cL_told 229 = .ok (.invokestatic 196, 3) := by decide +kernel
theorem dL_told_232 : decode cL_told 232 = .ok (.invokevirtual 160, 3) := by decide +kernel
theorem dL_told_235 : decode cL_told 235 = .ok (.bipush 44, 2) := by decide +kernel
theorem dL_told_237 : decode cL_told 237 = .ok (.invokevirtual 164, 3) := by decide +kernel
theorem dL_told_240 : decode cL_told 240 = .ok (.aload_n 0, 1) := by decide +kernel
theorem dL_told_241 : decode cL_told 241 = .ok (.iload_n 3, 1) := by decide +kernel
theorem dL_told_242 : decode cL_told 242 = .ok (.invokestatic 113, 3) := by decide +kernel
theorem dL_told_245 : decode cL_told 245 = .ok (.invokevirtual 160, 3) := by decide +kernel
theorem dL_told_248 : decode cL_told 248 = .ok (.bipush 44, 2) := by decide +kernel
theorem dL_told_250 : decode cL_told 250 = .ok (.invokevirtual 164, 3) := by decide +kernel
theorem dL_told_253 : decode cL_told 253 = .ok (.aload_n 0, 1) := by decide +kernel
theorem dL_told_254 : decode cL_told 254 = .ok (.iconst 0, 1) := by decide +kernel
theorem dL_told_255 : decode cL_told 255 = .ok (.iload_n 3, 1) := by decide +kernel
theorem dL_told_256 : decode cL_told 256 = .ok (.invokestatic 198, 3) := by decide +kernel
theorem dL_told_259 : decode cL_told 259 = .ok (.invokevirtual 160, 3) := by decide +kernel
theorem dL_told_262 : decode cL_told 262 = .ok (.bipush 44, 2) := by decide +kernel
theorem dL_told_264 : decode cL_told 264 = .ok (.invokevirtual 164, 3) := by decide +kernel
theorem dL_told_267 : decode cL_told 267 = .ok (.aload_n 0, 1) := by decide +kernel
theorem dL_told_268 : decode cL_told 268 = .ok (.iload_n 3, 1) := by decide +kernel
theorem dL_told_269 : decode cL_told 269 = .ok (.iconst 0, 1) := by decide +kernel
theorem dL_told_270 : decode cL_told 270 = .ok (.iconst 0, 1) := by decide +kernel
theorem dL_told_271 : decode cL_told 271 = .ok (.invokestatic 200, 3) := by decide +kernel
theorem dL_told_274 : decode cL_told 274 = .ok (.invokevirtual 160, 3) := by decide +kernel
theorem dL_told_277 : decode cL_told 277 = .ok (.bipush 44, 2) := by decide +kernel
theorem dL_told_279 : decode cL_told 279 = .ok (.invokevirtual 164, 3) := by decide +kernel
theorem dL_told_282 : decode cL_told 282 = .ok (.aload_n 0, 1) := by decide +kernel
theorem dL_told_283 : decode cL_told 283 = .ok (.iload_n 3, 1) := by decide +kernel
theorem dL_told_284 : decode cL_told 284 = .ok (.iload_n 3, 1) := by decide +kernel
theorem dL_told_285 : decode cL_told 285 = .ok (.invokestatic 202, 3) := by decide +kernel
theorem dL_told_288 : decode cL_told 288 = .ok (.invokevirtual 160, 3) := by decide +kernel
theorem dL_told_291 : decode cL_told 291 = .ok (.pop, 1) := by decide +kernel
theorem dL_told_292 : decode cL_told 292 = .ok (.iinc 3 1, 3) := by decide +kernel
theorem dL_told_295 : decode cL_told 295 = .ok (.goto (-92), 3) := by decide +kernel
theorem dL_told_298 : decode cL_told 298 = .ok (.aload_n 1, 1) := by decide +kernel
theorem dL_told_299 : decode cL_told 299 = .ok (.bipush 47, 2) := by decide +kernel
theorem dL_told_301 : decode cL_told 301 = .ok (.invokevirtual 164, 3) := by decide +kernel
theorem dL_told_304 : decode cL_told 304 = .ok (.iload_n 2, 1) := by decide +kernel
theorem dL_told_305 : decode cL_told 305 = .ok (.invokevirtual 160, 3) := by decide +kernel
theorem dL_told_308 : decode cL_told 308 = .ok (.invokevirtual 204, 3) := by decide +kernel
theorem dL_told_311 : decode cL_told 311 = .ok (.areturn, 1) := by decide +kernel
theorem dL_coded_0 : decode cL_coded 0 = .ok (.aload_n 0, 1) := by decide +kernel
theorem dL_coded_1 : decode cL_coded 1 = .ok (.invokevirtual 142, 3) := by decide +kernel
theorem dL_coded_4 : decode cL_coded 4 = .ok (.istore_n 1, 1) := by decide +kernel
theorem dL_coded_5 : decode cL_coded 5 = .ok (.aload_n 0, 1) := by decide +kernel
theorem dL_coded_6 : decode cL_coded 6 = .ok (.invokestatic 208, 3) := by decide +kernel
theorem dL_coded_9 : decode cL_coded 9 = .ok (.istore_n 2, 1) := by decide +kernel
theorem dL_coded_10 : decode cL_coded 10 = .ok (.iconst 4, 1) := by decide +kernel
theorem dL_coded_11 : decode cL_coded 11 = .ok (.iload_n 2, 1) := by decide +kernel
theorem dL_coded_12 : decode cL_coded 12 = .ok (.iadd, 1) := by decide +kernel
theorem dL_coded_13 : decode cL_coded 13 = .ok (.istore_n 3, 1) := by decide +kernel
theorem dL_coded_14 : decode cL_coded 14 = .ok (.aload_n 0, 1) := by decide +kernel
theorem dL_coded_15 : decode cL_coded 15 = .ok (.invokevirtual 126, 3) := by decide +kernel
theorem dL_coded_18 : decode cL_coded 18 = .ok (.bipush 7, 2) := by decide +kernel
theorem dL_coded_20 : decode cL_coded 20 = .ok (.iadd, 1) := by decide +kernel
theorem dL_coded_21 : decode cL_coded 21 = .ok (.bipush 8, 2) := by decide +kernel
theorem dL_coded_23 : decode cL_coded 23 = .ok (.idiv, 1) := by decide +kernel
theorem dL_coded_24 : decode cL_coded 24 = .ok (.istore 4, 2) := by decide +kernel
theorem dL_coded_26 : decode cL_coded 26 = .ok (.iload_n 2, 1) := by decide +kernel
theorem dL_coded_27 : decode cL_coded 27 = .ok (.iconst 1, 1) := by decide +kernel
theorem dL_coded_28 : decode cL_coded 28 = .ok (.if_icmp .lt 74, 3) := by decide +kernel
theorem dL_coded_31 : decode cL_coded 31 = .ok (.iload_n 2, 1) := by decide +kernel
theorem dL_coded_32 : decode cL_coded 32 = .ok (.iconst 3, 1) := by decide +kernel
theorem dL_coded_33 : decode cL_coded 33 = .ok (.if_icmp .gt 69, 3) := by decide +kernel
theorem dL_coded_36 : decode cL_coded 36 = .ok (.aload_n 0, 1) := by decide +kernel
theorem dL_coded_37 : decode cL_coded 37 = .ok (.iconst 0, 1) := by decide +kernel
theorem dL_coded_38 : decode cL_coded 38 = .ok (.invokestatic 192, 3) := by decide +kernel
theorem dL_coded_41 : decode cL_coded 41 = .ok (.bipush 80, 2) := by decide +kernel
theorem dL_coded_43 : decode cL_coded 43 = .ok (.if_icmp .ne 59, 3) := by decide +kernel
theorem dL_coded_46 : decode cL_coded 46 = .ok (.aload_n 0, 1) := by decide +kernel
theorem dL_coded_47 : decode cL_coded 47 = .ok (.iconst 1, 1) := by decide +kernel
theorem dL_coded_48 : decode cL_coded 48 = .ok (.invokestatic 192, 3) := by decide +kernel
theorem dL_coded_51 : decode cL_coded 51 = .ok (.aload_n 0, 1) := by decide +kernel
theorem dL_coded_52 : decode cL_coded 52 = .ok (.invokevirtual 123, 3) := by decide +kernel
theorem dL_coded_55 : decode cL_coded 55 = .ok (.if_icmp .ne 47, 3) := by decide +kernel
theorem dL_coded_58 : decode cL_coded 58 = .ok (.aload_n 0, 1) := by decide +kernel
theorem dL_coded_59 : decode cL_coded 59 = .ok (.iconst 2, 1) := by decide +kernel
theorem dL_coded_60 : decode cL_coded 60 = .ok (.invokestatic 192, 3) := by decide +kernel
theorem dL_coded_63 : decode cL_coded 63 = .ok (.aload_n 0, 1) := by decide +kernel
theorem dL_coded_64 : decode cL_coded 64 = .ok (.invokevirtual 126, 3) := by decide +kernel
theorem dL_coded_67 : decode cL_coded 67 = .ok (.if_icmp .ne 35, 3) := by decide +kernel
theorem dL_coded_70 : decode cL_coded 70 = .ok (.aload_n 0, 1) := by decide +kernel
theorem dL_coded_71 : decode cL_coded 71 = .ok (.iconst 3, 1) := by decide +kernel
theorem dL_coded_72 : decode cL_coded 72 = .ok (.invokestatic 192, 3) := by decide +kernel
theorem dL_coded_75 : decode cL_coded 75 = .ok (.iload_n 2, 1) := by decide +kernel
theorem dL_coded_76 : decode cL_coded 76 = .ok (.if_icmp .ne 26, 3) := by decide +kernel
theorem dL_coded_79 : decode cL_coded 79 = .ok (.aload_n 0, 1) := by decide +kernel
theorem dL_coded_80 : decode cL_coded 80 = .ok (.iconst 3, 1) := by decide +kernel
theorem dL_coded_81 : decode cL_coded 81 = .ok (.iload_n 2, 1) := by decide +kernel
theorem dL_coded_82 : decode cL_coded 82 = .ok (.iadd, 1) := by decide +kernel
theorem dL_coded_83 : decode cL_coded 83 = .ok (.invokestatic 192, 3) := by decide +kernel
theorem dL_coded_86 : decode cL_coded 86 = .ok (.iconst 1, 1) := by decide +kernel
theorem dL_coded_87 : decode cL_coded 87 = .ok (.if_icmp .ne 7, 3) := by decide +kernel
theorem dL_coded_90 : decode cL_coded 90 = .ok (.iconst 1, 1) := by decide +kernel
theorem dL_coded_91 : decode cL_coded 91 = .ok (.goto 4, 3) := by decide +kernel
theorem dL_coded_94 : decode cL_coded 94 = .ok (.iconst 0, 1) := by decide +kernel
theorem dL_coded_95 : decode cL_coded 95 = .ok (.aload_n 0, 1) := by decide +kernel
theorem dL_coded_96 : decode cL_coded 96 = .ok (.invokevirtual 184, 3) := by decide +kernel
theorem dL_coded_99 : decode cL_coded 99 = .ok (.if_icmp .eq 5, 3) := by decide +kernel
theorem dL_coded_102 : decode cL_coded 102 = .ok (.iconst 0, 1) := by decide +kernel
theorem dL_coded_103 : decode cL_coded 103 = .ok (.ireturn, 1) := by decide +kernel
theorem dL_coded_104 : decode cL_coded 104 = .ok (.iconst 0, 1) := by decide +kernel
theorem dL_coded_105 : decode cL_coded 105 = .ok (.istore 5, 2) := by decide +kernel
theorem dL_coded_107 : decode cL_coded 107 = .ok (.iload 5, 2) := by decide +kernel
theorem dL_coded_109 : decode cL_coded 109 = .ok (.iload_n 2, 1) := by decide +kernel
theorem dL_coded_110 : decode cL_coded 110 = .ok (.if_icmp .ge 223, 3) := by decide +kernel
theorem dL_coded_113 : decode cL_coded 113 = .ok (.iconst 0, 1) := by decide +kernel
theorem dL_coded_114 : decode cL_coded 114 = .ok (.istore 6, 2) := by decide +kernel
theorem dL_coded_116 : decode cL_coded 116 = .ok (.iconst 0, 1) := by decide +kernel
theorem dL_coded_117 : decode cL_coded 117 = .ok (.istore 7, 2) := by decide +kernel
theorem dL_coded_119 : decode cL_coded 119 = .ok (.iload 7, 2) := by decide +kernel
theorem dL_coded_121 : decode cL_coded 121 = .ok (.iload 4, 2) := by decide +kernel
theorem dL_coded_123 : decode cL_coded 123 = .ok (.if_icmp .ge 169, 3) := by decide +kernel
theorem dL_coded_126 : decode cL_coded 126 = .ok (.aload_n 0, 1) := by decide +kernel
theorem dL_coded_127 : decode cL_coded 127 = .ok (.iload 5, 2) := by decide +kernel
theorem dL_coded_129 : decode cL_coded 129 = .ok (.iload 7, 2) := by decide +kernel
theorem dL_coded_131 : decode cL_coded 131 = .ok (.invokestatic 198, 3) := by decide +kernel
theorem dL_coded_134 : decode cL_coded 134 = .ok (.istore 8, 2) := by decide +kernel
theorem dL_coded_136 : decode cL_coded 136 = .ok (.iconst 0, 1) := by decide +kernel
theorem dL_coded_137 : decode cL_coded 137 = .ok (.istore 9, 2) := by decide +kernel
theorem dL_coded_139 : decode cL_coded 139 = .ok (.iconst 0, 1) := by decide +kernel
theorem dL_coded_140 : decode cL_coded 140 = .ok (.istore 10, 2) := by decide +kernel
theorem dL_coded_142 : decode cL_coded 142 = .ok (.iload 10, 2) := by decide +kernel
theorem dL_coded_144 : decode cL_coded 144 = .ok (.iload 8, 2) := by decide +kernel
theorem dL_coded_146 : decode cL_coded 146 = .ok (.if_icmp .ge 33, 3) := by decide +kernel
theorem dL_coded_149 : decode cL_coded 149 = .ok (.iload 9, 2) := by decide +kernel
theorem dL_coded_151 : decode cL_coded 151 = .ok (.iload 10, 2) := by decide +kernel
theorem dL_coded_153 : decode cL_coded 153 = .ok (.iconst 1, 1) := by decide +kernel
theorem dL_coded_154 : decode cL_coded 154 = .ok (.iadd, 1) := by decide +kernel
theorem dL_coded_155 : decode cL_coded 155 = .ok (.aload_n 0, 1) := by decide +kernel
theorem dL_coded_156 : decode cL_coded 156 = .ok (.iload_n 3, 1) := by decide +kernel
theorem dL_coded_157 : decode cL_coded 157 = .ok (.iconst 3, 1) := by decide +kernel
theorem dL_coded_158 : decode cL_coded 158 = .ok (.iadd, 1) := by decide +kernel
theorem dL_coded_159 : decode cL_coded 159 = .ok (.iload 10, 2) := by decide +kernel
theorem dL_coded_161 : decode cL_coded 161 = .ok (.iadd, 1) := by decide +kernel
theorem dL_coded_162 : decode cL_coded 162 = .ok (.invokestatic 192, 3) := by decide +kernel
theorem dL_coded_165 : decode cL_coded 165 = .ok (.imul, 1) := by decide +kernel
theorem dL_coded_166 : decode cL_coded 166 = .ok (.sipush 251, 3) := by decide +kernel
theorem dL_coded_169 : decode cL_coded 169 = .ok (.irem, 1) := by decide +kernel
theorem dL_coded_170 : decode cL_coded 170 = .ok (.iadd, 1) := by decide +kernel
theorem dL_coded_171 : decode cL_coded 171 = .ok (.istore 9, 2) := by decide +kernel
theorem dL_coded_173 : decode cL_coded 173 = .ok (.iinc 10 1, 3) := by decide +kernel
theorem dL_coded_176 : decode cL_coded 176 = .ok (.goto (-34), 3) := by decide +kernel
theorem dL_coded_179 : decode cL_coded 179 = .ok (.iload 8, 2) := by decide +kernel
theorem dL_coded_181 : decode cL_coded 181 = .ok (.iconst 1, 1) := by decide +kernel
theorem dL_coded_182 : decode cL_coded 182 = .ok (.if_icmp .lt 49, 3) := by decide +kernel
theorem dL_coded_185 : decode cL_coded 185 = .ok (.aload_n 0, 1) := by decide +kernel
theorem dL_coded_186 : decode cL_coded 186 = .ok (.iload_n 3, 1) := by decide +kernel
theorem dL_coded_187 : decode cL_coded 187 = .ok (.invokestatic 192, 3) := by decide +kernel
theorem dL_coded_190 : decode cL_coded 190 = .ok (.iload 8, 2) := by decide +kernel
theorem dL_coded_192 : decode cL_coded 192 = .ok (.sipush 256, 3) := by decide +kernel
theorem dL_coded_195 : decode cL_coded 195 = .ok (.idiv, 1) := by decide +kernel
theorem dL_coded_196 : decode cL_coded 196 = .ok (.if_icmp .ne 35, 3) := by decide +kernel
theorem dL_coded_199 : decode cL_coded 199 = .ok (.aload_n 0, 1) := by decide +kernel
theorem dL_coded_200 : decode cL_coded 200 = .ok (.iload_n 3, 1) := by decide +kernel
theorem dL_coded_201 : decode cL_coded 201 = .ok (.iconst 1, 1) := by decide +kernel
theorem dL_coded_202 : decode cL_coded 202 = .ok (.iadd, 1) := by decide +kernel
theorem dL_coded_203 : decode cL_coded 203 = .ok (.invokestatic 192, 3) := by decide +kernel
theorem dL_coded_206 : decode cL_coded 206 = .ok (.iload 8, 2) := by decide +kernel
theorem dL_coded_208 : decode cL_coded 208 = .ok (.sipush 256, 3) := by decide +kernel
theorem dL_coded_211 : decode cL_coded 211 = .ok (.irem, 1) := by decide +kernel
theorem dL_coded_212 : decode cL_coded 212 = .ok (.if_icmp .ne 19, 3) := by decide +kernel
theorem dL_coded_215 : decode cL_coded 215 = .ok (.aload_n 0, 1) := by decide +kernel
theorem dL_coded_216 : decode cL_coded 216 = .ok (.iload_n 3, 1) := by decide +kernel
theorem dL_coded_217 : decode cL_coded 217 = .ok (.iconst 2, 1) := by decide +kernel
theorem dL_coded_218 : decode cL_coded 218 = .ok (.iadd, 1) := by decide +kernel
theorem dL_coded_219 : decode cL_coded 219 = .ok (.invokestatic 192, 3) := by decide +kernel
theorem dL_coded_222 : decode cL_coded 222 = .ok (.iload 9, 2) := by decide +kernel
theorem dL_coded_224 : decode cL_coded 224 = .ok (.sipush 251, 3) := by decide +kernel
theorem dL_coded_227 : decode cL_coded 227 = .ok (.irem, 1) := by decide +kernel
theorem dL_coded_228 : decode cL_coded 228 = .ok (.if_icmp .eq 5, 3) := by decide +kernel
theorem dL_coded_231 : decode cL_coded 231 = .ok (.iconst 0, 1) := by decide +kernel
theorem dL_coded_232 : decode cL_coded 232 = .ok (.ireturn, 1) := by decide +kernel
theorem dL_coded_233 : decode cL_coded 233 = .ok (.iload_n 3, 1) := by decide +kernel
theorem dL_coded_234 : decode cL_coded 234 = .ok (.iconst 3, 1) := by decide +kernel
theorem dL_coded_235 : decode cL_coded 235 = .ok (.iload 8, 2) := by decide +kernel
theorem dL_coded_237 : decode cL_coded 237 = .ok (.iadd, 1) := by decide +kernel
theorem dL_coded_238 : decode cL_coded 238 = .ok (.iadd, 1) := by decide +kernel
theorem dL_coded_239 : decode cL_coded 239 = .ok (.istore_n 3, 1) := by decide +kernel
theorem dL_coded_240 : decode cL_coded 240 = .ok (.iconst 0, 1) := by decide +kernel
theorem dL_coded_241 : decode cL_coded 241 = .ok (.istore 10, 2) := by decide +kernel
theorem dL_coded_243 : decode cL_coded 243 = .ok (.iload 10, 2) := by decide +kernel
theorem dL_coded_245 : decode cL_coded 245 = .ok (.aload_n 0, 1) := by decide +kernel
theorem dL_coded_246 : decode cL_coded 246 = .ok (.invokevirtual 123, 3) := by decide +kernel
theorem dL_coded_249 : decode cL_coded 249 = .ok (.if_icmp .ge 37, 3) := by decide +kernel
theorem dL_coded_252 : decode cL_coded 252 = .ok (.iload 6, 2) := by decide +kernel
theorem dL_coded_254 : decode cL_coded 254 = .ok (.aload_n 0, 1) := by decide +kernel
theorem dL_coded_255 : decode cL_coded 255 = .ok (.iload 5, 2) := by decide +kernel
theorem dL_coded_257 : decode cL_coded 257 = .ok (.iload 10, 2) := by decide +kernel
theorem dL_coded_259 : decode cL_coded 259 = .ok (.bipush 8, 2) := by decide +kernel
theorem dL_coded_261 : decode cL_coded 261 = .ok (.iload 7, 2) := by decide +kernel
theorem dL_coded_263 : decode cL_coded 263 = .ok (.imul, 1) := by decide +kernel
theorem dL_coded_264 : decode cL_coded 264 = .ok (.invokestatic 211, 3) := by decide +kernel
theorem dL_coded_267 : decode cL_coded 267 = .ok (.bipush 8, 2) := by decide +kernel
theorem dL_coded_269 : decode cL_coded 269 = .ok (.if_icmp .ne 7, 3) := by decide +kernel
theorem dL_coded_272 : decode cL_coded 272 = .ok (.iconst 1, 1) := by decide +kernel
theorem dL_coded_273 : decode cL_coded 273 = .ok (.goto 4, 3) := by decide +kernel
theorem dL_coded_276 : decode cL_coded 276 = .ok (.iconst 4, 1) := by decide +kernel
theorem dL_coded_277 : decode cL_coded 277 = .ok (.iadd, 1) := by decide +kernel
theorem dL_coded_278 : decode cL_coded 278 = .ok (.istore 6, 2) := by decide +kernel
theorem dL_coded_280 : decode cL_coded 280 = .ok (.iinc 10 8, 3) := by decide +kernel
theorem dL_coded_283 : decode cL_coded 283 = .ok (.goto (-40), 3) := by decide +kernel
theorem dL_coded_286 : decode cL_coded 286 = .ok (.iinc 7 1, 3) := by decide +kernel
theorem dL_coded_289 : decode cL_coded 289 = .ok (.goto (-170), 3) := by decide +kernel
theorem dL_coded_292 : decode cL_coded 292 = .ok (.aload_n 0, 1) := by decide +kernel
theorem dL_coded_293 : decode cL_coded 293 = .ok (.iload 5, 2) := by decide +kernel
theorem dL_coded_295 : decode cL_coded 295 = .ok (.invokestatic 113, 3) := by decide +kernel
theorem dL_coded_298 : decode cL_coded 298 = .ok (.iload 6, 2) := by decide +kernel
theorem dL_coded_300 : decode cL_coded 300 = .ok (.if_icmp .ne 25, 3) := by decide +kernel
theorem dL_coded_303 : decode cL_coded 303 = .ok (.aload_n 0, 1) := by decide +kernel
theorem dL_coded_304 : decode cL_coded 304 = .ok (.iload 5, 2) := by decide +kernel
theorem dL_coded_306 : decode cL_coded 306 = .ok (.iload 4, 2) := by decide +kernel
theorem dL_coded_308 : decode cL_coded 308 = .ok (.invokestatic 198, 3) := by decide +kernel
theorem dL_coded_311 : decode cL_coded 311 = .ok (.bipush (-2), 2) := by decide +kernel
theorem dL_coded_313 : decode cL_coded 313 = .ok (.if_icmp .ne 12, 3) := by decide +kernel
theorem dL_coded_316 : decode cL_coded 316 = .ok (.aload_n 0, 1) := by decide +kernel
theorem dL_coded_317 : decode cL_coded 317 = .ok (.iload 5, 2) := by decide +kernel
theorem dL_coded_319 : decode cL_coded 319 = .ok (.invokestatic 213, 3) := by decide +kernel
theorem dL_coded_322 : decode cL_coded 322 = .ok (.ifCond .ne 5, 3) := by decide +kernel
theorem dL_coded_325 : decode cL_coded 325 = .ok (.iconst 0, 1) := by decide +kernel
theorem dL_coded_326 : decode cL_coded 326 = .ok (.ireturn, 1) := by decide +kernel
theorem dL_coded_327 : decode cL_coded 327 = .ok (.iinc 5 1, 3) := by decide +kernel
theorem dL_coded_330 : decode cL_coded 330 = .ok (.goto (-223), 3) := by decide +kernel
theorem dL_coded_333 : decode cL_coded 333 = .ok (.aload_n 0, 1) := by decide +kernel
theorem dL_coded_334 : decode cL_coded 334 = .ok (.iconst 3, 1) := by decide +kernel
theorem dL_coded_335 : decode cL_coded 335 = .ok (.invokestatic 155, 3) := by decide +kernel
theorem dL_coded_338 : decode cL_coded 338 = .ok (.ifCond .ne 29, 3) := by decide +kernel
theorem dL_coded_341 : decode cL_coded 341 = .ok (.aload_n 0, 1) := by decide +kernel
theorem dL_coded_342 : decode cL_coded 342 = .ok (.invokestatic 167, 3) := by decide +kernel
theorem dL_coded_345 : decode cL_coded 345 = .ok (.aload_n 0, 1) := by decide +kernel
theorem dL_coded_346 : decode cL_coded 346 = .ok (.invokevirtual 123, 3) := by decide +kernel
theorem dL_coded_349 : decode cL_coded 349 = .ok (.if_icmp .ne 18, 3) := by decide +kernel
theorem dL_coded_352 : decode cL_coded 352 = .ok (.aload_n 0, 1) := by decide +kernel
theorem dL_coded_353 : decode cL_coded 353 = .ok (.invokestatic 170, 3) := by decide +kernel
theorem dL_coded_356 : decode cL_coded 356 = .ok (.aload_n 0, 1) := by decide +kernel
theorem dL_coded_357 : decode cL_coded 357 = .ok (.invokevirtual 126, 3) := by decide +kernel
theorem dL_coded_360 : decode cL_coded 360 = .ok (.if_icmp .ne 7, 3) := by decide +kernel
theorem dL_coded_363 : decode cL_coded 363 = .ok (.iconst 1, 1) := by decide +kernel
theorem dL_coded_364 : decode cL_coded 364 = .ok (.goto 4, 3) := by decide +kernel
theorem dL_coded_367 : decode cL_coded 367 = .ok (.iconst 0, 1) := by decide +kernel
theorem dL_coded_368 : decode cL_coded 368 = .ok (.istore 5, 2) := by decide +kernel
theorem dL_coded_370 : decode cL_coded 370 = .ok (.iconst 0, 1) := by decide +kernel
theorem dL_coded_371 : decode cL_coded 371 = .ok (.istore 6, 2) := by decide +kernel
theorem dL_coded_373 : decode cL_coded 373 = .ok (.iload 6, 2) := by decide +kernel
theorem dL_coded_375 : decode cL_coded 375 = .ok (.iload 4, 2) := by decide +kernel
theorem dL_coded_377 : decode cL_coded 377 = .ok (.if_icmp .ge 40, 3) := by decide +kernel
theorem dL_coded_380 : decode cL_coded 380 = .ok (.iload 5, 2) := by decide +kernel
theorem dL_coded_382 : decode cL_coded 382 = .ok (.aload_n 0, 1) := by decide +kernel
theorem dL_coded_383 : decode cL_coded 383 = .ok (.iload 6, 2) := by decide +kernel
theorem dL_coded_385 : decode cL_coded 385 = .ok (.invokestatic 194, 3) := by decide +kernel
theorem dL_coded_388 : decode cL_coded 388 = .ok (.bipush 110, 2) := by decide +kernel
theorem dL_coded_390 : decode cL_coded 390 = .ok (.if_icmp .ne 17, 3) := by decide +kernel
theorem dL_coded_393 : decode cL_coded 393 = .ok (.aload_n 0, 1) := by decide +kernel
theorem dL_coded_394 : decode cL_coded 394 = .ok (.iload 6, 2) := by decide +kernel
theorem dL_coded_396 : decode cL_coded 396 = .ok (.invokestatic 196, 3) := by decide +kernel
theorem dL_coded_399 : decode cL_coded 399 = .ok (.iload_n 2, 1) := by decide +kernel
theorem dL_coded_400 : decode cL_coded 400 = .ok (.if_icmp .ne 7, 3) := by decide +kernel
theorem dL_coded_403 : decode cL_coded 403 = .ok (.iconst 1, 1) := by decide +kernel
theorem dL_coded_404 : decode cL_coded 404 = .ok (.goto 4, 3) := by decide +kernel
theorem dL_coded_407 : decode cL_coded 407 = .ok (.iconst 0, 1) := by decide +kernel
theorem dL_coded_408 : decode cL_coded 408 = .ok (.iand, 1) := by decide +kernel
theorem dL_coded_409 : decode cL_coded 409 = .ok (.istore 5, 2) := by decide +kernel
theorem dL_coded_411 : decode cL_coded 411 = .ok (.iinc 6 1, 3) := by decide +kernel
theorem dL_coded_414 : decode cL_coded 414 = .ok (.goto (-41), 3) := by decide +kernel
theorem dL_coded_417 : decode cL_coded 417 = .ok (.iload 5, 2) := by decide +kernel
theorem dL_coded_419 : decode cL_coded 419 = .ok (.ifCond .eq 124, 3) := by decide +kernel
theorem dL_coded_422 : decode cL_coded 422 = .ok (.iload_n 3, 1) := by decide +kernel
theorem dL_coded_423 : decode cL_coded 423 = .ok (.iload_n 1, 1) := by decide +kernel
theorem dL_coded_424 : decode cL_coded 424 = .ok (.if_icmp .ne 119, 3) := by decide +kernel
theorem dL_coded_427 : decode cL_coded 427 = .ok (.aload_n 0, 1) := by decide +kernel
theorem dL_coded_428 : decode cL_coded 428 = .ok (.invokevirtual 148, 3) := by decide +kernel
theorem dL_coded_431 : decode cL_coded 431 = .ok (.iload_n 1, 1) := by decide +kernel
theorem dL_coded_432 : decode cL_coded 432 = .ok (.if_icmp .ne 111, 3) := by decide +kernel
theorem dL_coded_435 : decode cL_coded 435 = .ok (.aload_n 0, 1) := by decide +kernel
theorem dL_coded_436 : decode cL_coded 436 = .ok (.iload_n 2, 1) := by decide +kernel
theorem dL_coded_437 : decode cL_coded 437 = .ok (.invokestatic 113, 3) := by decide +kernel
theorem dL_coded_440 : decode cL_coded 440 = .ok (.bipush (-2), 2) := by decide +kernel
theorem dL_coded_442 : decode cL_coded 442 = .ok (.if_icmp .ne 101, 3) := by decide +kernel
theorem dL_coded_445 : decode cL_coded 445 = .ok (.aload_n 0, 1) := by decide +kernel
theorem dL_coded_446 : decode cL_coded 446 = .ok (.invokestatic 172, 3) := by decide +kernel
theorem dL_coded_449 : decode cL_coded 449 = .ok (.iload_n 1, 1) := by decide +kernel
theorem dL_coded_450 : decode cL_coded 450 = .ok (.i2f, 1) := by decide +kernel
theorem dL_coded_451 : decode cL_coded 451 = .ok (.iconst 3, 1) := by decide +kernel
theorem dL_coded_452 : decode cL_coded 452 = .ok (.aload_n 0, 1) := by decide +kernel
theorem dL_coded_453 : decode cL_coded 453 = .ok (.invokevirtual 123, 3) := by decide +kernel
theorem dL_coded_456 : decode cL_coded 456 = .ok (.aload_n 0, 1) := by decide +kernel
theorem dL_coded_457 : decode cL_coded 457 = .ok (.invokevirtual 126, 3) := by decide +kernel
theorem dL_coded_460 : decode cL_coded 460 = .ok (.imul, 1) := by decide +kernel
theorem dL_coded_461 : decode cL_coded 461 = .ok (.iadd, 1) := by decide +kernel
theorem dL_coded_462 : decode cL_coded 462 = .ok (.i2f, 1) := by decide +kernel
theorem dL_coded_463 : decode cL_coded 463 = .ok (.fdiv, 1) := by decide +kernel
theorem dL_coded_464 : decode cL_coded 464 = .ok (.fcmp .l, 1) := by decide +kernel
theorem dL_coded_465 : decode cL_coded 465 = .ok (.ifCond .ne 78, 3) := by decide +kernel
theorem dL_coded_468 : decode cL_coded 468 = .ok (.aload_n 0, 1) := by decide +kernel
theorem dL_coded_469 : decode cL_coded 469 = .ok (.invokevirtual 184, 3) := by decide +kernel
theorem dL_coded_472 : decode cL_coded 472 = .ok (.ifCond .eq 11, 3) := by decide +kernel
theorem dL_coded_475 : decode cL_coded 475 = .ok (.aload_n 0, 1) := by decide +kernel
theorem dL_coded_476 : decode cL_coded 476 = .ok (.invokestatic 178, 3) := by decide +kernel
theorem dL_coded_479 : decode cL_coded 479 = .ok (.iconst 1, 1) := by decide +kernel
theorem dL_coded_480 : decode cL_coded 480 = .ok (.if_icmp .ne 63, 3) := by decide +kernel
theorem dL_coded_483 : decode cL_coded 483 = .ok (.aload_n 0, 1) := by decide +kernel
theorem dL_coded_484 : decode cL_coded 484 = .ok (.invokestatic 178, 3) := by decide +kernel
theorem dL_coded_487 : decode cL_coded 487 = .ok (.iconst 1, 1) := by decide +kernel
theorem dL_coded_488 : decode cL_coded 488 = .ok (.if_icmp .ne 7, 3) := by decide +kernel
theorem dL_coded_491 : decode cL_coded 491 = .ok (.iconst 1, 1) := by decide +kernel
theorem dL_coded_492 : decode cL_coded 492 = .ok (.goto 4, 3) := by decide +kernel
theorem dL_coded_495 : decode cL_coded 495 = .ok (.iconst 0, 1) := by decide +kernel
theorem dL_coded_496 : decode cL_coded 496 = .ok (.aload_n 0, 1) := by decide +kernel
theorem dL_coded_497 : decode cL_coded 497 = .ok (.invokestatic 182, 3) := by decide +kernel
theorem dL_coded_500 : decode cL_coded 500 = .ok (.ifCond .ne 7, 3) := by decide +kernel
theorem dL_coded_503 : decode cL_coded 503 = .ok (.iconst 1, 1) := by decide +kernel
theorem dL_coded_504 : decode cL_coded 504 = .ok (.goto 4, 3) := by decide +kernel
theorem dL_coded_507 : decode cL_coded 507 = .ok (.iconst 0, 1) := by decide +kernel
theorem dL_coded_508 : decode cL_coded 508 = .ok (.if_icmp .ne 35, 3) := by decide +kernel
theorem dL_coded_511 : decode cL_coded 511 = .ok (.aload_n 0, 1) := by decide +kernel
theorem dL_coded_512 : decode cL_coded 512 = .ok (.invokestatic 180, 3) := by decide +kernel
theorem dL_coded_515 : decode cL_coded 515 = .ok (.ifCond .ne 7, 3) := by decide +kernel
theorem dL_coded_518 : decode cL_coded 518 = .ok (.iconst 1, 1) := by decide +kernel
theorem dL_coded_519 : decode cL_coded 519 = .ok (.goto 4, 3) := by decide +kernel
theorem dL_coded_522 : decode cL_coded 522 = .ok (.iconst 0, 1) := by decide +kernel
theorem dL_coded_523 : decode cL_coded 523 = .ok (.aload_n 0, 1) := by decide +kernel
theorem dL_coded_524 : decode cL_coded 524 = .ok (.invokestatic 178, 3) := by decide +kernel
theorem dL_coded_527 : decode cL_coded 527 = .ok (.iconst 1, 1) := by decide +kernel
theorem dL_coded_528 : decode cL_coded 528 = .ok (.if_icmp .ne 7, 3) := by decide +kernel
theorem dL_coded_531 : decode cL_coded 531 = .ok (.iconst 1, 1) := by decide +kernel
theorem dL_coded_532 : decode cL_coded 532 = .ok (.goto 4, 3) := by decide +kernel
theorem dL_coded_535 : decode cL_coded 535 = .ok (.iconst 0, 1) := by decide +kernel
theorem dL_coded_536 : decode cL_coded 536 = .ok (.if_icmp .ne 7, 3) := by decide +kernel
theorem dL_coded_539 : decode cL_coded 539 = .ok (.iconst 1, 1) := by decide +kernel
theorem dL_coded_540 : decode cL_coded 540 = .ok (.goto 4, 3) := by decide +kernel
theorem dL_coded_543 : decode cL_coded 543 = .ok (.iconst 0, 1) := by decide +kernel
theorem dL_coded_544 : decode cL_coded 544 = .ok (.ireturn, 1) := by decide +kernel
theorem dL_costs_0 : decode cL_costs 0 = .ok (.iconst 0, 1) := by decide +kernel
theorem dL_costs_1 : decode cL_costs 1 = .ok (.istore_n 2, 1) := by decide +kernel
theorem dL_costs_2 : decode cL_costs 2 = .ok (.iload_n 2, 1) := by decide +kernel
theorem dL_costs_3 : decode cL_costs 3 = .ok (.iconst 4, 1) := by decide +kernel
theorem dL_costs_4 : decode cL_costs 4 = .ok (.iadd, 1) := by decide +kernel
theorem dL_costs_5 : decode cL_costs 5 = .ok (.aload_n 0, 1) := by decide +kernel
theorem dL_costs_6 : decode cL_costs 6 = .ok (.invokevirtual 126, 3) := by decide +kernel
theorem dL_costs_9 : decode cL_costs 9 = .ok (.if_icmp .gt 227, 3) := by decide +kernel
theorem dL_costs_12 : decode cL_costs 12 = .ok (.iconst 0, 1) := by decide +kernel
theorem dL_costs_13 : decode cL_costs 13 = .ok (.istore_n 3, 1) := by decide +kernel
theorem dL_costs_14 : decode cL_costs 14 = .ok (.iload_n 3, 1) := by decide +kernel
theorem dL_costs_15 : decode cL_costs 15 = .ok (.iconst 4, 1) := by decide +kernel
theorem dL_costs_16 : decode cL_costs 16 = .ok (.iadd, 1) := by decide +kernel
theorem dL_costs_17 : decode cL_costs 17 = .ok (.aload_n 0, 1) := by decide +kernel
theorem dL_costs_18 : decode cL_costs 18 = .ok (.invokevirtual 123, 3) := by decide +kernel
theorem dL_costs_21 : decode cL_costs 21 = .ok (.if_icmp .gt 209, 3) := by decide +kernel
theorem dL_costs_24 : decode cL_costs 24 = .ok (.aload_n 0, 1) := by decide +kernel
theorem dL_costs_25 : decode cL_costs 25 = .ok (.iload_n 1, 1) := by decide +kernel
theorem dL_costs_26 : decode cL_costs 26 = .ok (.iload_n 3, 1) := by decide +kernel
theorem dL_costs_27 : decode cL_costs 27 = .ok (.iload_n 2, 1) := by decide +kernel
theorem dL_costs_28 : decode cL_costs 28 = .ok (.invokestatic 211, 3) := by decide +kernel
theorem dL_costs_31 : decode cL_costs 31 = .ok (.istore 4, 2) := by decide +kernel
theorem dL_costs_33 : decode cL_costs 33 = .ok (.iload 4, 2) := by decide +kernel
theorem dL_costs_35 : decode cL_costs 35 = .ok (.iconst 4, 1) := by decide +kernel
theorem dL_costs_36 : decode cL_costs 36 = .ok (.if_icmp .eq 10, 3) := by decide +kernel
theorem dL_costs_39 : decode cL_costs 39 = .ok (.iload 4, 2) := by decide +kernel
theorem dL_costs_41 : decode cL_costs 41 = .ok (.bipush 8, 2) := by decide +kernel
theorem dL_costs_43 : decode cL_costs 43 = .ok (.if_icmp .ne 19, 3) := by decide +kernel
theorem dL_costs_46 : decode cL_costs 46 = .ok (.aload_n 0, 1) := by decide +kernel
theorem dL_costs_47 : decode cL_costs 47 = .ok (.iload_n 1, 1) := by decide +kernel
theorem dL_costs_48 : decode cL_costs 48 = .ok (.iload_n 3, 1) := by decide +kernel
theorem dL_costs_49 : decode cL_costs 49 = .ok (.iconst 3, 1) := by decide +kernel
theorem dL_costs_50 : decode cL_costs 50 = .ok (.iadd, 1) := by decide +kernel
theorem dL_costs_51 : decode cL_costs 51 = .ok (.iload_n 2, 1) := by decide +kernel
theorem dL_costs_52 : decode cL_costs 52 = .ok (.iconst 3, 1) := by decide +kernel
theorem dL_costs_53 : decode cL_costs 53 = .ok (.iadd, 1) := by decide +kernel
theorem dL_costs_54 : decode cL_costs 54 = .ok (.invokestatic 211, 3) := by decide +kernel
theorem dL_costs_57 : decode cL_costs 57 = .ok (.iload 4, 2) := by decide +kernel
theorem dL_costs_59 : decode cL_costs 59 = .ok (.if_icmp .eq 5, 3) := by decide +kernel
theorem dL_costs_62 : decode cL_costs 62 = .ok (.iconst 0, 1) := by decide +kernel
theorem dL_costs_63 : decode cL_costs 63 = .ok (.ireturn, 1) := by decide +kernel
theorem dL_costs_64 : decode cL_costs 64 = .ok (.iload_n 3, 1) := by decide +kernel
theorem dL_costs_65 : decode cL_costs 65 = .ok (.iload 4, 2) := by decide +kernel
theorem dL_costs_67 : decode cL_costs 67 = .ok (.irem, 1) := by decide +kernel
theorem dL_costs_68 : decode cL_costs 68 = .ok (.ifCond .ne 156, 3) := by decide +kernel
theorem dL_costs_71 : decode cL_costs 71 = .ok (.iload_n 2, 1) := by decide +kernel
theorem dL_costs_72 : decode cL_costs 72 = .ok (.iload 4, 2) := by decide +kernel
theorem dL_costs_74 : decode cL_costs 74 = .ok (.irem, 1) := by decide +kernel
theorem dL_costs_75 : decode cL_costs 75 = .ok (.ifCond .ne 149, 3) := by decide +kernel
theorem dL_costs_78 : decode cL_costs 78 = .ok (.iload_n 3, 1) := by decide +kernel
theorem dL_costs_79 : decode cL_costs 79 = .ok (.iload 4, 2) := by decide +kernel
theorem dL_costs_81 : decode cL_costs 81 = .ok (.iadd, 1) := by decide +kernel
theorem dL_costs_82 : decode cL_costs 82 = .ok (.aload_n 0, 1) := by decide +kernel
theorem dL_costs_83 : decode cL_costs 83 = .ok (.invokevirtual 123, 3) := by decide +kernel
theorem dL_costs_86 : decode cL_costs 86 = .ok (.if_icmp .gt 138, 3) := by decide +kernel
theorem dL_costs_89 : decode cL_costs 89 = .ok (.iload_n 2, 1) := by decide +kernel
theorem dL_costs_90 : decode cL_costs 90 = .ok (.iload 4, 2) := by decide +kernel
theorem dL_costs_92 : decode cL_costs 92 = .ok (.iadd, 1) := by decide +kernel
theorem dL_costs_93 : decode cL_costs 93 = .ok (.aload_n 0, 1) := by decide +kernel
theorem dL_costs_94 : decode cL_costs 94 = .ok (.invokevirtual 126, 3) := by decide +kernel
theorem dL_costs_97 : decode cL_costs 97 = .ok (.if_icmp .gt 127, 3) := by decide +kernel
theorem dL_costs_100 : decode cL_costs 100 = .ok (.iconst 4, 1) := by decide +kernel
theorem dL_costs_101 : decode cL_costs 101 = .ok (.istore 5, 2) := by decide +kernel
theorem dL_costs_103 : decode cL_costs 103 = .ok (.iconst 0, 1) := by decide +kernel
theorem dL_costs_104 : decode cL_costs 104 = .ok (.istore 6, 2) := by decide +kernel
theorem dL_costs_106 : decode cL_costs 106 = .ok (.iload 6, 2) := by decide +kernel
theorem dL_costs_108 : decode cL_costs 108 = .ok (.iload 4, 2) := by decide +kernel
theorem dL_costs_110 : decode cL_costs 110 = .ok (.iload 4, 2) := by decide +kernel
theorem dL_costs_112 : decode cL_costs 112 = .ok (.imul, 1) := by decide +kernel
theorem dL_costs_113 : decode cL_costs 113 = .ok (.if_icmp .ge 38, 3) := by decide +kernel
theorem dL_costs_116 : decode cL_costs 116 = .ok (.iload 5, 2) := by decide +kernel
theorem dL_costs_118 : decode cL_costs 118 = .ok (.iconst 2, 1) := by decide +kernel
theorem dL_costs_119 : decode cL_costs 119 = .ok (.aload_n 0, 1) := by decide +kernel
theorem dL_costs_120 : decode cL_costs 120 = .ok (.iload_n 1, 1) := by decide +kernel
theorem dL_costs_121 : decode cL_costs 121 = .ok (.iload_n 3, 1) := by decide +kernel
theorem dL_costs_122 : decode cL_costs 122 = .ok (.iload 6, 2) := by decide +kernel
theorem dL_costs_124 : decode cL_costs 124 = .ok (.iload 4, 2) := by decide +kernel
theorem dL_costs_126 : decode cL_costs 126 = .ok (.irem, 1) := by decide +kernel
theorem dL_costs_127 : decode cL_costs 127 = .ok (.iadd, 1) := by decide +kernel
theorem dL_costs_128 : decode cL_costs 128 = .ok (.iload_n 2, 1) := by decide +kernel
theorem dL_costs_129 : decode cL_costs 129 = .ok (.iload 6, 2) := by decide +kernel
theorem dL_costs_131 : decode cL_costs 131 = .ok (.iload 4, 2) := by decide +kernel
theorem dL_costs_133 : decode cL_costs 133 = .ok (.idiv, 1) := by decide +kernel
theorem dL_costs_134 : decode cL_costs 134 = .ok (.iadd, 1) := by decide +kernel
theorem dL_costs_135 : decode cL_costs 135 = .ok (.invokestatic 217, 3) := by decide +kernel
theorem dL_costs_138 : decode cL_costs 138 = .ok (.invokestatic 219, 3) := by decide +kernel
theorem dL_costs_141 : decode cL_costs 141 = .ok (.imul, 1) := by decide +kernel
theorem dL_costs_142 : decode cL_costs 142 = .ok (.iadd, 1) := by decide +kernel
theorem dL_costs_143 : decode cL_costs 143 = .ok (.istore 5, 2) := by decide +kernel
theorem dL_costs_145 : decode cL_costs 145 = .ok (.iinc 6 1, 3) := by decide +kernel
theorem dL_costs_148 : decode cL_costs 148 = .ok (.goto (-42), 3) := by decide +kernel
theorem dL_costs_151 : decode cL_costs 151 = .ok (.aload_n 0, 1) := by decide +kernel
theorem dL_costs_152 : decode cL_costs 152 = .ok (.iload_n 1, 1) := by decide +kernel
theorem dL_costs_153 : decode cL_costs 153 = .ok (.iload_n 3, 1) := by decide +kernel
theorem dL_costs_154 : decode cL_costs 154 = .ok (.iload_n 2, 1) := by decide +kernel
theorem dL_costs_155 : decode cL_costs 155 = .ok (.invokestatic 222, 3) := by decide +kernel
theorem dL_costs_158 : decode cL_costs 158 = .ok (.istore 6, 2) := by decide +kernel
theorem dL_costs_160 : decode cL_costs 160 = .ok (.iload 5, 2) := by decide +kernel
theorem dL_costs_162 : decode cL_costs 162 = .ok (.aload_n 0, 1) := by decide +kernel
theorem dL_costs_163 : decode cL_costs 163 = .ok (.iload_n 1, 1) := by decide +kernel
theorem dL_costs_164 : decode cL_costs 164 = .ok (.iload_n 3, 1) := by decide +kernel
theorem dL_costs_165 : decode cL_costs 165 = .ok (.iload_n 2, 1) := by decide +kernel
theorem dL_costs_166 : decode cL_costs 166 = .ok (.invokestatic 200, 3) := by decide +kernel
theorem dL_costs_169 : decode cL_costs 169 = .ok (.if_icmp .ne 53, 3) := by decide +kernel
theorem dL_costs_172 : decode cL_costs 172 = .ok (.iload 6, 2) := by decide +kernel
theorem dL_costs_174 : decode cL_costs 174 = .ok (.aload_n 0, 1) := by decide +kernel
theorem dL_costs_175 : decode cL_costs 175 = .ok (.iload_n 1, 1) := by decide +kernel
theorem dL_costs_176 : decode cL_costs 176 = .ok (.iload_n 3, 1) := by decide +kernel
theorem dL_costs_177 : decode cL_costs 177 = .ok (.iload 4, 2) := by decide +kernel
theorem dL_costs_179 : decode cL_costs 179 = .ok (.iadd, 1) := by decide +kernel
theorem dL_costs_180 : decode cL_costs 180 = .ok (.iconst 1, 1) := by decide +kernel
theorem dL_costs_181 : decode cL_costs 181 = .ok (.isub, 1) := by decide +kernel
theorem dL_costs_182 : decode cL_costs 182 = .ok (.iload_n 2, 1) := by decide +kernel
theorem dL_costs_183 : decode cL_costs 183 = .ok (.iload 4, 2) := by decide +kernel
theorem dL_costs_185 : decode cL_costs 185 = .ok (.iadd, 1) := by decide +kernel
theorem dL_costs_186 : decode cL_costs 186 = .ok (.iconst 1, 1) := by decide +kernel
theorem dL_costs_187 : decode cL_costs 187 = .ok (.isub, 1) := by decide +kernel
theorem dL_costs_188 : decode cL_costs 188 = .ok (.invokestatic 222, 3) := by decide +kernel
theorem dL_costs_191 : decode cL_costs 191 = .ok (.if_icmp .ne 31, 3) := by decide +kernel
theorem dL_costs_194 : decode cL_costs 194 = .ok (.iload 6, 2) := by decide +kernel
theorem dL_costs_196 : decode cL_costs 196 = .ok (.bipush 100, 2) := by decide +kernel
theorem dL_costs_198 : decode cL_costs 198 = .ok (.if_icmp .eq 26, 3) := by decide +kernel
theorem dL_costs_201 : decode cL_costs 201 = .ok (.iload 6, 2) := by decide +kernel
theorem dL_costs_203 : decode cL_costs 203 = .ok (.bipush 104, 2) := by decide +kernel
theorem dL_costs_205 : decode cL_costs 205 = .ok (.if_icmp .eq 19, 3) := by decide +kernel
theorem dL_costs_208 : decode cL_costs 208 = .ok (.iload 6, 2) := by decide +kernel
theorem dL_costs_210 : decode cL_costs 210 = .ok (.bipush 118, 2) := by decide +kernel
theorem dL_costs_212 : decode cL_costs 212 = .ok (.if_icmp .eq 12, 3) := by decide +kernel
theorem dL_costs_215 : decode cL_costs 215 = .ok (.iload 6, 2) := by decide +kernel
theorem dL_costs_217 : decode cL_costs 217 = .ok (.bipush 97, 2) := by decide +kernel
theorem dL_costs_219 : decode cL_costs 219 = .ok (.if_icmp .eq 5, 3) := by decide +kernel
theorem dL_costs_222 : decode cL_costs 222 = .ok (.iconst 0, 1) := by decide +kernel
theorem dL_costs_223 : decode cL_costs 223 = .ok (.ireturn, 1) := by decide +kernel
theorem dL_costs_224 : decode cL_costs 224 = .ok (.iinc 3 4, 3) := by decide +kernel
theorem dL_costs_227 : decode cL_costs 227 = .ok (.goto (-213), 3) := by decide +kernel
theorem dL_costs_230 : decode cL_costs 230 = .ok (.iinc 2 4, 3) := by decide +kernel
theorem dL_costs_233 : decode cL_costs 233 = .ok (.goto (-231), 3) := by decide +kernel
theorem dL_costs_236 : decode cL_costs 236 = .ok (.aload_n 0, 1) := by decide +kernel
theorem dL_costs_237 : decode cL_costs 237 = .ok (.iload_n 1, 1) := by decide +kernel
theorem dL_costs_238 : decode cL_costs 238 = .ok (.aload_n 0, 1) := by decide +kernel
theorem dL_costs_239 : decode cL_costs 239 = .ok (.invokevirtual 123, 3) := by decide +kernel
theorem dL_costs_242 : decode cL_costs 242 = .ok (.iconst 0, 1) := by decide +kernel
theorem dL_costs_243 : decode cL_costs 243 = .ok (.invokestatic 211, 3) := by decide +kernel
theorem dL_costs_246 : decode cL_costs 246 = .ok (.bipush (-2), 2) := by decide +kernel
theorem dL_costs_248 : decode cL_costs 248 = .ok (.if_icmp .ne 34, 3) := by decide +kernel
theorem dL_costs_251 : decode cL_costs 251 = .ok (.aload_n 0, 1) := by decide +kernel
theorem dL_costs_252 : decode cL_costs 252 = .ok (.iload_n 1, 1) := by decide +kernel
theorem dL_costs_253 : decode cL_costs 253 = .ok (.iconst 0, 1) := by decide +kernel
theorem dL_costs_254 : decode cL_costs 254 = .ok (.aload_n 0, 1) := by decide +kernel
theorem dL_costs_255 : decode cL_costs 255 = .ok (.invokevirtual 126, 3) := by decide +kernel
theorem dL_costs_258 : decode cL_costs 258 = .ok (.invokestatic 217, 3) := by decide +kernel
theorem dL_costs_261 : decode cL_costs 261 = .ok (.bipush (-2), 2) := by decide +kernel
theorem dL_costs_263 : decode cL_costs 263 = .ok (.if_icmp .ne 19, 3) := by decide +kernel
theorem dL_costs_266 : decode cL_costs 266 = .ok (.aload_n 0, 1) := by decide +kernel
theorem dL_costs_267 : decode cL_costs 267 = .ok (.iload_n 1, 1) := by decide +kernel
theorem dL_costs_268 : decode cL_costs 268 = .ok (.iconst (-1), 1) := by decide +kernel
theorem dL_costs_269 : decode cL_costs 269 = .ok (.iconst 0, 1) := by decide +kernel
theorem dL_costs_270 : decode cL_costs 270 = .ok (.invokestatic 222, 3) := by decide +kernel
theorem dL_costs_273 : decode cL_costs 273 = .ok (.bipush (-2), 2) := by decide +kernel
theorem dL_costs_275 : decode cL_costs 275 = .ok (.if_icmp .ne 7, 3) := by decide +kernel
theorem dL_costs_278 : decode cL_costs 278 = .ok (.iconst 1, 1) := by decide +kernel
theorem dL_costs_279 : decode cL_costs 279 = .ok (.goto 4, 3) := by decide +kernel
theorem dL_costs_282 : decode cL_costs 282 = .ok (.iconst 0, 1) := by decide +kernel
theorem dL_costs_283 : decode cL_costs 283 = .ok (.ireturn, 1) := by decide +kernel
theorem dL_plain_0 : decode cL_plain 0 = .ok (.aload_n 0, 1) := by decide +kernel
theorem dL_plain_1 : decode cL_plain 1 = .ok (.invokevirtual 145, 3) := by decide +kernel
theorem dL_plain_4 : decode cL_plain 4 = .ok (.istore_n 1, 1) := by decide +kernel
theorem dL_plain_5 : decode cL_plain 5 = .ok (.iload_n 1, 1) := by decide +kernel
theorem dL_plain_6 : decode cL_plain 6 = .ok (.iconst 3, 1) := by decide +kernel
theorem dL_plain_7 : decode cL_plain 7 = .ok (.aload_n 0, 1) := by decide +kernel
theorem dL_plain_8 : decode cL_plain 8 = .ok (.invokevirtual 123, 3) := by decide +kernel
theorem dL_plain_11 : decode cL_plain 11 = .ok (.aload_n 0, 1) := by decide +kernel
theorem dL_plain_12 : decode cL_plain 12 = .ok (.invokevirtual 126, 3) := by decide +kernel
theorem dL_plain_15 : decode cL_plain 15 = .ok (.imul, 1) := by decide +kernel
theorem dL_plain_16 : decode cL_plain 16 = .ok (.iadd, 1) := by decide +kernel
theorem dL_plain_17 : decode cL_plain 17 = .ok (.if_icmp .ne 73, 3) := by decide +kernel
theorem dL_plain_20 : decode cL_plain 20 = .ok (.aload_n 0, 1) := by decide +kernel
theorem dL_plain_21 : decode cL_plain 21 = .ok (.invokevirtual 148, 3) := by decide +kernel
theorem dL_plain_24 : decode cL_plain 24 = .ok (.iload_n 1, 1) := by decide +kernel
theorem dL_plain_25 : decode cL_plain 25 = .ok (.if_icmp .ne 65, 3) := by decide +kernel
theorem dL_plain_28 : decode cL_plain 28 = .ok (.aload_n 0, 1) := by decide +kernel
theorem dL_plain_29 : decode cL_plain 29 = .ok (.invokestatic 172, 3) := by decide +kernel
theorem dL_plain_32 : decode cL_plain 32 = .ok (.fconst 1, 1) := by decide +kernel
theorem dL_plain_33 : decode cL_plain 33 = .ok (.fcmp .l, 1) := by decide +kernel
theorem dL_plain_34 : decode cL_plain 34 = .ok (.ifCond .ne 56, 3) := by decide +kernel
theorem dL_plain_37 : decode cL_plain 37 = .ok (.aload_n 0, 1) := by decide +kernel
theorem dL_plain_38 : decode cL_plain 38 = .ok (.iconst 0, 1) := by decide +kernel
theorem dL_plain_39 : decode cL_plain 39 = .ok (.invokestatic 192, 3) := by decide +kernel
theorem dL_plain_42 : decode cL_plain 42 = .ok (.bipush 82, 2) := by decide +kernel
theorem dL_plain_44 : decode cL_plain 44 = .ok (.if_icmp .ne 46, 3) := by decide +kernel
theorem dL_plain_47 : decode cL_plain 47 = .ok (.aload_n 0, 1) := by decide +kernel
theorem dL_plain_48 : decode cL_plain 48 = .ok (.iload_n 1, 1) := by decide +kernel
theorem dL_plain_49 : decode cL_plain 49 = .ok (.invokestatic 192, 3) := by decide +kernel
theorem dL_plain_52 : decode cL_plain 52 = .ok (.iconst (-1), 1) := by decide +kernel
theorem dL_plain_53 : decode cL_plain 53 = .ok (.if_icmp .ne 37, 3) := by decide +kernel
theorem dL_plain_56 : decode cL_plain 56 = .ok (.aload_n 0, 1) := by decide +kernel
theorem dL_plain_57 : decode cL_plain 57 = .ok (.iconst 0, 1) := by decide +kernel
theorem dL_plain_58 : decode cL_plain 58 = .ok (.invokestatic 113, 3) := by decide +kernel
theorem dL_plain_61 : decode cL_plain 61 = .ok (.iconst (-1), 1) := by decide +kernel
theorem dL_plain_62 : decode cL_plain 62 = .ok (.if_icmp .ne 28, 3) := by decide +kernel
theorem dL_plain_65 : decode cL_plain 65 = .ok (.aload_n 0, 1) := by decide +kernel
theorem dL_plain_66 : decode cL_plain 66 = .ok (.iconst 0, 1) := by decide +kernel
theorem dL_plain_67 : decode cL_plain 67 = .ok (.iconst 0, 1) := by decide +kernel
theorem dL_plain_68 : decode cL_plain 68 = .ok (.iconst 0, 1) := by decide +kernel
theorem dL_plain_69 : decode cL_plain 69 = .ok (.invokestatic 200, 3) := by decide +kernel
theorem dL_plain_72 : decode cL_plain 72 = .ok (.iconst (-1), 1) := by decide +kernel
theorem dL_plain_73 : decode cL_plain 73 = .ok (.if_icmp .ne 17, 3) := by decide +kernel
theorem dL_plain_76 : decode cL_plain 76 = .ok (.aload_n 0, 1) := by decide +kernel
theorem dL_plain_77 : decode cL_plain 77 = .ok (.iconst 0, 1) := by decide +kernel
theorem dL_plain_78 : decode cL_plain 78 = .ok (.iconst 0, 1) := by decide +kernel
theorem dL_plain_79 : decode cL_plain 79 = .ok (.invokestatic 198, 3) := by decide +kernel
theorem dL_plain_82 : decode cL_plain 82 = .ok (.iconst (-1), 1) := by decide +kernel
theorem dL_plain_83 : decode cL_plain 83 = .ok (.if_icmp .ne 7, 3) := by decide +kernel
theorem dL_plain_86 : decode cL_plain 86 = .ok (.iconst 1, 1) := by decide +kernel
theorem dL_plain_87 : decode cL_plain 87 = .ok (.goto 4, 3) := by decide +kernel
theorem dL_plain_90 : decode cL_plain 90 = .ok (.iconst 0, 1) := by decide +kernel
theorem dL_plain_91 : decode cL_plain 91 = .ok (.istore_n 2, 1) := by decide +kernel
theorem dL_plain_92 : decode cL_plain 92 = .ok (.iload_n 2, 1) := by decide +kernel
theorem dL_plain_93 : decode cL_plain 93 = .ok (.aload_n 0, 1) := by decide +kernel
theorem dL_plain_94 : decode cL_plain 94 = .ok (.iconst 1, 1) := by decide +kernel
theorem dL_plain_95 : decode cL_plain 95 = .ok (.invokestatic 155, 3) := by decide +kernel
theorem dL_plain_98 : decode cL_plain 98 = .ok (.ifCond .ne 34, 3) := by decide +kernel
theorem dL_plain_101 : decode cL_plain 101 = .ok (.aload_n 0, 1) := by decide +kernel
theorem dL_plain_102 : decode cL_plain 102 = .ok (.invokestatic 178, 3) := by decide +kernel
theorem dL_plain_105 : decode cL_plain 105 = .ok (.iconst 1, 1) := by decide +kernel
theorem dL_plain_106 : decode cL_plain 106 = .ok (.if_icmp .ne 26, 3) := by decide +kernel
theorem dL_plain_109 : decode cL_plain 109 = .ok (.aload_n 0, 1) := by decide +kernel
theorem dL_plain_110 : decode cL_plain 110 = .ok (.iconst 0, 1) := by decide +kernel
theorem dL_plain_111 : decode cL_plain 111 = .ok (.invokestatic 194, 3) := by decide +kernel
theorem dL_plain_114 : decode cL_plain 114 = .ok (.bipush 110, 2) := by decide +kernel
theorem dL_plain_116 : decode cL_plain 116 = .ok (.if_icmp .ne 16, 3) := by decide +kernel
theorem dL_plain_119 : decode cL_plain 119 = .ok (.aload_n 0, 1) := by decide +kernel
theorem dL_plain_120 : decode cL_plain 120 = .ok (.iconst 0, 1) := by decide +kernel
theorem dL_plain_121 : decode cL_plain 121 = .ok (.invokestatic 196, 3) := by decide +kernel
theorem dL_plain_124 : decode cL_plain 124 = .ok (.iconst 1, 1) := by decide +kernel
theorem dL_plain_125 : decode cL_plain 125 = .ok (.if_icmp .ne 7, 3) := by decide +kernel
theorem dL_plain_128 : decode cL_plain 128 = .ok (.iconst 1, 1) := by decide +kernel
theorem dL_plain_129 : decode cL_plain 129 = .ok (.goto 4, 3) := by decide +kernel
theorem dL_plain_132 : decode cL_plain 132 = .ok (.iconst 0, 1) := by decide +kernel
theorem dL_plain_133 : decode cL_plain 133 = .ok (.iand, 1) := by decide +kernel
theorem dL_plain_134 : decode cL_plain 134 = .ok (.istore_n 2, 1) := by decide +kernel
theorem dL_plain_135 : decode cL_plain 135 = .ok (.iload_n 2, 1) := by decide +kernel
theorem dL_plain_136 : decode cL_plain 136 = .ok (.ifCond .eq 75, 3) := by decide +kernel
theorem dL_plain_139 : decode cL_plain 139 = .ok (.aload_n 0, 1) := by decide +kernel
theorem dL_plain_140 : decode cL_plain 140 = .ok (.iload_n 1, 1) := by decide +kernel
theorem dL_plain_141 : decode cL_plain 141 = .ok (.iconst 1, 1) := by decide +kernel
theorem dL_plain_142 : decode cL_plain 142 = .ok (.isub, 1) := by decide +kernel
theorem dL_plain_143 : decode cL_plain 143 = .ok (.invokestatic 153, 3) := by decide +kernel
theorem dL_plain_146 : decode cL_plain 146 = .ok (.iconst 1, 1) := by decide +kernel
theorem dL_plain_147 : decode cL_plain 147 = .ok (.if_icmp .ne 64, 3) := by decide +kernel
theorem dL_plain_150 : decode cL_plain 150 = .ok (.aload_n 0, 1) := by decide +kernel
theorem dL_plain_151 : decode cL_plain 151 = .ok (.iconst 3, 1) := by decide +kernel
theorem dL_plain_152 : decode cL_plain 152 = .ok (.invokestatic 155, 3) := by decide +kernel
theorem dL_plain_155 : decode cL_plain 155 = .ok (.iconst 1, 1) := by decide +kernel
theorem dL_plain_156 : decode cL_plain 156 = .ok (.if_icmp .ne 55, 3) := by decide +kernel
theorem dL_plain_159 : decode cL_plain 159 = .ok (.aload_n 0, 1) := by decide +kernel
theorem dL_plain_160 : decode cL_plain 160 = .ok (.aload_n 0, 1) := by decide +kernel
theorem dL_plain_161 : decode cL_plain 161 = .ok (.invokevirtual 126, 3) := by decide +kernel
theorem dL_plain_164 : decode cL_plain 164 = .ok (.iconst 1, 1) := by decide +kernel
theorem dL_plain_165 : decode cL_plain 165 = .ok (.isub, 1) := by decide +kernel
theorem dL_plain_166 : decode cL_plain 166 = .ok (.bipush 8, 2) := by decide +kernel
theorem dL_plain_168 : decode cL_plain 168 = .ok (.idiv, 1) := by decide +kernel
theorem dL_plain_169 : decode cL_plain 169 = .ok (.invokestatic 196, 3) := by decide +kernel
theorem dL_plain_172 : decode cL_plain 172 = .ok (.ifCond .ne 39, 3) := by decide +kernel
theorem dL_plain_175 : decode cL_plain 175 = .ok (.aload_n 0, 1) := by decide +kernel
theorem dL_plain_176 : decode cL_plain 176 = .ok (.aload_n 0, 1) := by decide +kernel
theorem dL_plain_177 : decode cL_plain 177 = .ok (.invokevirtual 126, 3) := by decide +kernel
theorem dL_plain_180 : decode cL_plain 180 = .ok (.iconst 1, 1) := by decide +kernel
theorem dL_plain_181 : decode cL_plain 181 = .ok (.isub, 1) := by decide +kernel
theorem dL_plain_182 : decode cL_plain 182 = .ok (.bipush 8, 2) := by decide +kernel
theorem dL_plain_184 : decode cL_plain 184 = .ok (.idiv, 1) := by decide +kernel
theorem dL_plain_185 : decode cL_plain 185 = .ok (.invokestatic 194, 3) := by decide +kernel
theorem dL_plain_188 : decode cL_plain 188 = .ok (.bipush 101, 2) := by decide +kernel
theorem dL_plain_190 : decode cL_plain 190 = .ok (.if_icmp .ne 21, 3) := by decide +kernel
theorem dL_plain_193 : decode cL_plain 193 = .ok (.aload_n 0, 1) := by decide +kernel
theorem dL_plain_194 : decode cL_plain 194 = .ok (.iconst 0, 1) := by decide +kernel
theorem dL_plain_195 : decode cL_plain 195 = .ok (.aload_n 0, 1) := by decide +kernel
theorem dL_plain_196 : decode cL_plain 196 = .ok (.invokevirtual 126, 3) := by decide +kernel
theorem dL_plain_199 : decode cL_plain 199 = .ok (.iconst 1, 1) := by decide +kernel
theorem dL_plain_200 : decode cL_plain 200 = .ok (.isub, 1) := by decide +kernel
theorem dL_plain_201 : decode cL_plain 201 = .ok (.invokestatic 202, 3) := by decide +kernel
theorem dL_plain_204 : decode cL_plain 204 = .ok (.ifCond .ne 7, 3) := by decide +kernel
theorem dL_plain_207 : decode cL_plain 207 = .ok (.iconst 1, 1) := by decide +kernel
theorem dL_plain_208 : decode cL_plain 208 = .ok (.goto 4, 3) := by decide +kernel
theorem dL_plain_211 : decode cL_plain 211 = .ok (.iconst 0, 1) := by decide +kernel
theorem dL_plain_212 : decode cL_plain 212 = .ok (.ireturn, 1) := by decide +kernel
theorem dL_damaged_0 : decode cL_damaged 0 = .ok (.aload_n 0, 1) := by decide +kernel
theorem dL_damaged_1 : decode cL_damaged 1 = .ok (.invokevirtual 142, 3) := by decide +kernel
theorem dL_damaged_4 : decode cL_damaged 4 = .ok (.istore_n 2, 1) := by decide +kernel
theorem dL_damaged_5 : decode cL_damaged 5 = .ok (.aload_n 0, 1) := by decide +kernel
theorem dL_damaged_6 : decode cL_damaged 6 = .ok (.invokestatic 208, 3) := by decide +kernel
theorem dL_damaged_9 : decode cL_damaged 9 = .ok (.istore_n 3, 1) := by decide +kernel
theorem dL_damaged_10 : decode cL_damaged 10 = .ok (.aload_n 0, 1) := by decide +kernel
theorem dL_damaged_11 : decode cL_damaged 11 = .ok (.invokevirtual 126, 3) := by decide +kernel
theorem dL_damaged_14 : decode cL_damaged 14 = .ok (.bipush 7, 2) := by decide +kernel
theorem dL_damaged_16 : decode cL_damaged 16 = .ok (.iadd, 1) := by decide +kernel
theorem dL_damaged_17 : decode cL_damaged 17 = .ok (.bipush 8, 2) := by decide +kernel
theorem dL_damaged_19 : decode cL_damaged 19 = .ok (.idiv, 1) := by decide +kernel
theorem dL_damaged_20 : decode cL_damaged 20 = .ok (.istore 4, 2) := by decide +kernel
theorem dL_damaged_22 : decode cL_damaged 22 = .ok (.aload_n 1, 1) := by decide +kernel
theorem dL_damaged_23 : decode cL_damaged 23 = .ok (.iload_n 3, 1) := by decide +kernel
theorem dL_damaged_24 : decode cL_damaged 24 = .ok (.invokevirtual 118, 3) := by decide +kernel
theorem dL_damaged_27 : decode cL_damaged 27 = .ok (.istore 5, 2) := by decide +kernel
theorem dL_damaged_29 : decode cL_damaged 29 = .ok (.aload_n 1, 1) := by decide +kernel
theorem dL_damaged_30 : decode cL_damaged 30 = .ok (.iload 4, 2) := by decide +kernel
theorem dL_damaged_32 : decode cL_damaged 32 = .ok (.invokevirtual 118, 3) := by decide +kernel
theorem dL_damaged_35 : decode cL_damaged 35 = .ok (.istore 6, 2) := by decide +kernel
theorem dL_damaged_37 : decode cL_damaged 37 = .ok (.iconst 4, 1) := by decide +kernel
theorem dL_damaged_38 : decode cL_damaged 38 = .ok (.iload_n 3, 1) := by decide +kernel
theorem dL_damaged_39 : decode cL_damaged 39 = .ok (.iadd, 1) := by decide +kernel
theorem dL_damaged_40 : decode cL_damaged 40 = .ok (.istore 7, 2) := by decide +kernel
theorem dL_damaged_42 : decode cL_damaged 42 = .ok (.iconst 0, 1) := by decide +kernel
theorem dL_damaged_43 : decode cL_damaged 43 = .ok (.istore 8, 2) := by decide +kernel
theorem dL_damaged_45 : decode cL_damaged 45 = .ok (.iload 8, 2) := by decide +kernel
theorem dL_damaged_47 : decode cL_damaged 47 = .ok (.iload 5, 2) := by decide +kernel
theorem dL_damaged_49 : decode cL_damaged 49 = .ok (.iload 4, 2) := by decide +kernel
theorem dL_damaged_51 : decode cL_damaged 51 = .ok (.imul, 1) := by decide +kernel
theorem dL_damaged_52 : decode cL_damaged 52 = .ok (.iload 6, 2) := by decide +kernel
theorem dL_damaged_54 : decode cL_damaged 54 = .ok (.iadd, 1) := by decide +kernel
theorem dL_damaged_55 : decode cL_damaged 55 = .ok (.if_icmp .ge 30, 3) := by decide +kernel
theorem dL_damaged_58 : decode cL_damaged 58 = .ok (.iload 7, 2) := by decide +kernel
theorem dL_damaged_60 : decode cL_damaged 60 = .ok (.iconst 3, 1) := by decide +kernel
theorem dL_damaged_61 : decode cL_damaged 61 = .ok (.aload_n 0, 1) := by decide +kernel
theorem dL_damaged_62 : decode cL_damaged 62 = .ok (.iload 8, 2) := by decide +kernel
theorem dL_damaged_64 : decode cL_damaged 64 = .ok (.iload 4, 2) := by decide +kernel
theorem dL_damaged_66 : decode cL_damaged 66 = .ok (.idiv, 1) := by decide +kernel
theorem dL_damaged_67 : decode cL_damaged 67 = .ok (.iload 8, 2) := by decide +kernel
theorem dL_damaged_69 : decode cL_damaged 69 = .ok (.iload 4, 2) := by decide +kernel
theorem dL_damaged_71 : decode cL_damaged 71 = .ok (.irem, 1) := by decide +kernel
theorem dL_damaged_72 : decode cL_damaged 72 = .ok (.invokestatic 198, 3) := by decide +kernel
theorem dL_damaged_75 : decode cL_damaged 75 = .ok (.iadd, 1) := by decide +kernel
theorem dL_damaged_76 : decode cL_damaged 76 = .ok (.iadd, 1) := by decide +kernel
theorem dL_damaged_77 : decode cL_damaged 77 = .ok (.istore 7, 2) := by decide +kernel
theorem dL_damaged_79 : decode cL_damaged 79 = .ok (.iinc 8 1, 3) := by decide +kernel
theorem dL_damaged_82 : decode cL_damaged 82 = .ok (.goto (-37), 3) := by decide +kernel
theorem dL_damaged_85 : decode cL_damaged 85 = .ok (.aload_n 1, 1) := by decide +kernel
theorem dL_damaged_86 : decode cL_damaged 86 = .ok (.aload_n 0, 1) := by decide +kernel
theorem dL_damaged_87 : decode cL_damaged 87 = .ok (.iload 5, 2) := by decide +kernel
theorem dL_damaged_89 : decode cL_damaged 89 = .ok (.iload 6, 2) := by decide +kernel
theorem dL_damaged_91 : decode cL_damaged 91 = .ok (.invokestatic 198, 3) := by decide +kernel
theorem dL_damaged_94 : decode cL_damaged 94 = .ok (.invokevirtual 118, 3) := by decide +kernel
theorem dL_damaged_97 : decode cL_damaged 97 = .ok (.istore 8, 2) := by decide +kernel
theorem dL_damaged_99 : decode cL_damaged 99 = .ok (.aload_n 0, 1) := by decide +kernel
theorem dL_damaged_100 : decode cL_damaged 100 = .ok (.iload 7, 2) := by decide +kernel
theorem dL_damaged_102 : decode cL_damaged 102 = .ok (.iconst 3, 1) := by decide +kernel
theorem dL_damaged_103 : decode cL_damaged 103 = .ok (.iadd, 1) := by decide +kernel
theorem dL_damaged_104 : decode cL_damaged 104 = .ok (.iload 8, 2) := by decide +kernel
theorem dL_damaged_106 : decode cL_damaged 106 = .ok (.iadd, 1) := by decide +kernel
theorem dL_damaged_107 : decode cL_damaged 107 = .ok (.invokestatic 192, 3) := by decide +kernel
theorem dL_damaged_110 : decode cL_damaged 110 = .ok (.istore 9, 2) := by decide +kernel
theorem dL_damaged_112 : decode cL_damaged 112 = .ok (.iload 9, 2) := by decide +kernel
theorem dL_damaged_114 : decode cL_damaged 114 = .ok (.iconst 1, 1) := by decide +kernel
theorem dL_damaged_115 : decode cL_damaged 115 = .ok (.iadd, 1) := by decide +kernel
theorem dL_damaged_116 : decode cL_damaged 116 = .ok (.aload_n 1, 1) := by decide +kernel
theorem dL_damaged_117 : decode cL_damaged 117 = .ok (.sipush 200, 3) := by decide +kernel
theorem dL_damaged_120 : decode cL_damaged 120 = .ok (.invokevirtual 118, 3) := by decide +kernel
theorem dL_damaged_123 : decode cL_damaged 123 = .ok (.iadd, 1) := by decide +kernel
theorem dL_damaged_124 : decode cL_damaged 124 = .ok (.sipush 256, 3) := by decide +kernel
theorem dL_damaged_127 : decode cL_damaged 127 = .ok (.irem, 1) := by decide +kernel
theorem dL_damaged_128 : decode cL_damaged 128 = .ok (.istore 10, 2) := by decide +kernel
theorem dL_damaged_130 : decode cL_damaged 130 = .ok (.iload 8, 2) := by decide +kernel
theorem dL_damaged_132 : decode cL_damaged 132 = .ok (.iconst 1, 1) := by decide +kernel
theorem dL_damaged_133 : decode cL_damaged 133 = .ok (.iadd, 1) := by decide +kernel
theorem dL_damaged_134 : decode cL_damaged 134 = .ok (.iload 10, 2) := by decide +kernel
theorem dL_damaged_136 : decode cL_damaged 136 = .ok (.iload 9, 2) := by decide +kernel
theorem dL_damaged_138 : decode cL_damaged 138 = .ok (.isub, 1) := by decide +kernel
theorem dL_damaged_139 : decode cL_damaged 139 = .ok (.imul, 1) := by decide +kernel
theorem dL_damaged_140 : decode cL_damaged 140 = .ok (.sipush 251, 3) := by decide +kernel
theorem dL_damaged_143 : decode cL_damaged 143 = .ok (.irem, 1) := by decide +kernel
theorem dL_damaged_144 : decode cL_damaged 144 = .ok (.ifCond .ne 5, 3) := by decide +kernel
theorem dL_damaged_147 : decode cL_damaged 147 = .ok (.iconst 1, 1) := by decide +kernel
theorem dL_damaged_148 : decode cL_damaged 148 = .ok (.ireturn, 1) := by decide +kernel
theorem dL_damaged_149 : decode cL_damaged 149 = .ok (.aload_n 0, 1) := by decide +kernel
theorem dL_damaged_150 : decode cL_damaged 150 = .ok (.iconst 3, 1) := by decide +kernel
theorem dL_damaged_151 : decode cL_damaged 151 = .ok (.invokestatic 155, 3) := by decide +kernel
theorem dL_damaged_154 : decode cL_damaged 154 = .ok (.ifCond .ne 7, 3) := by decide +kernel
theorem dL_damaged_157 : decode cL_damaged 157 = .ok (.iconst 1, 1) := by decide +kernel
theorem dL_damaged_158 : decode cL_damaged 158 = .ok (.goto 4, 3) := by decide +kernel
theorem dL_damaged_161 : decode cL_damaged 161 = .ok (.iconst 0, 1) := by decide +kernel
theorem dL_damaged_162 : decode cL_damaged 162 = .ok (.istore 11, 2) := by decide +kernel
theorem dL_damaged_164 : decode cL_damaged 164 = .ok (.aload_n 0, 1) := by decide +kernel
theorem dL_damaged_165 : decode cL_damaged 165 = .ok (.invokestatic 224, 3) := by decide +kernel
theorem dL_damaged_168 : decode cL_damaged 168 = .ok (.astore 12, 2) := by decide +kernel
theorem dL_damaged_170 : decode cL_damaged 170 = .ok (.iload 11, 2) := by decide +kernel
theorem dL_damaged_172 : decode cL_damaged 172 = .ok (.aload_n 0, 1) := by decide +kernel
theorem dL_damaged_173 : decode cL_damaged 173 = .ok (.iload 7, 2) := by decide +kernel
theorem dL_damaged_175 : decode cL_damaged 175 = .ok (.iconst 3, 1) := by decide +kernel
theorem dL_damaged_176 : decode cL_damaged 176 = .ok (.iadd, 1) := by decide +kernel
theorem dL_damaged_177 : decode cL_damaged 177 = .ok (.iload 8, 2) := by decide +kernel
theorem dL_damaged_179 : decode cL_damaged 179 = .ok (.iadd, 1) := by decide +kernel
theorem dL_damaged_180 : decode cL_damaged 180 = .ok (.iload 10, 2) := by decide +kernel
theorem dL_damaged_182 : decode cL_damaged 182 = .ok (.invokestatic 151, 3) := by decide +kernel
theorem dL_damaged_185 : decode cL_damaged 185 = .ok (.iload 9, 2) := by decide +kernel
theorem dL_damaged_187 : decode cL_damaged 187 = .ok (.if_icmp .ne 53, 3) := by decide +kernel
theorem dL_damaged_190 : decode cL_damaged 190 = .ok (.aload_n 0, 1) := by decide +kernel
theorem dL_damaged_191 : decode cL_damaged 191 = .ok (.iconst 3, 1) := by decide +kernel
theorem dL_damaged_192 : decode cL_damaged 192 = .ok (.invokestatic 155, 3) := by decide +kernel
theorem dL_damaged_195 : decode cL_damaged 195 = .ok (.iconst 1, 1) := by decide +kernel
theorem dL_damaged_196 : decode cL_damaged 196 = .ok (.if_icmp .ne 44, 3) := by decide +kernel
theorem dL_damaged_199 : decode cL_damaged 199 = .ok (.aload_n 0, 1) := by decide +kernel
theorem dL_damaged_200 : decode cL_damaged 200 = .ok (.iload 5, 2) := by decide +kernel
theorem dL_damaged_202 : decode cL_damaged 202 = .ok (.ifCond .ne 7, 3) := by decide +kernel
theorem dL_damaged_205 : decode cL_damaged 205 = .ok (.iconst 1, 1) := by decide +kernel
theorem dL_damaged_206 : decode cL_damaged 206 = .ok (.goto 5, 3) := by decide +kernel
theorem dL_damaged_209 : decode cL_damaged 209 = .ok (.iload 5, 2) := by decide +kernel
theorem dL_damaged_211 : decode cL_damaged 211 = .ok (.invokestatic 155, 3) := by decide +kernel
theorem dL_damaged_214 : decode cL_damaged 214 = .ok (.iload 5, 2) := by decide +kernel
theorem dL_damaged_216 : decode cL_damaged 216 = .ok (.ifCond .ne 7, 3) := by decide +kernel
theorem dL_damaged_219 : decode cL_damaged 219 = .ok (.iconst 1, 1) := by decide +kernel
theorem dL_damaged_220 : decode cL_damaged 220 = .ok (.goto 4, 3) := by decide +kernel
theorem dL_damaged_223 : decode cL_damaged 223 = .ok (.iconst 0, 1) := by decide +kernel
theorem dL_damaged_224 : decode cL_damaged 224 = .ok (.if_icmp .ne 16, 3) := by decide +kernel
theorem dL_damaged_227 : decode cL_damaged 227 = .ok (.aload_n 0, 1) := by decide +kernel
theorem dL_damaged_228 : decode cL_damaged 228 = .ok (.iconst 3, 1) := by decide +kernel
theorem dL_damaged_229 : decode cL_damaged 229 = .ok (.invokestatic 155, 3) := by decide +kernel
theorem dL_damaged_232 : decode cL_damaged 232 = .ok (.iconst 1, 1) := by decide +kernel
theorem dL_damaged_233 : decode cL_damaged 233 = .ok (.if_icmp .ne 7, 3) := by decide +kernel
theorem dL_damaged_236 : decode cL_damaged 236 = .ok (.iconst 1, 1) := by decide +kernel
theorem dL_damaged_237 : decode cL_damaged 237 = .ok (.goto 4, 3) := by decide +kernel
theorem dL_damaged_240 : decode cL_damaged 240 = .ok (.iconst 0, 1) := by decide +kernel
theorem dL_damaged_241 : decode cL_damaged 241 = .ok (.iand, 1) := by decide +kernel
theorem dL_damaged_242 : decode cL_damaged 242 = .ok (.istore 11, 2) := by decide +kernel
theorem dL_damaged_244 : decode cL_damaged 244 = .ok (.aload_n 0, 1) := by decide +kernel
theorem dL_damaged_245 : decode cL_damaged 245 = .ok (.invokestatic 224, 3) := by decide +kernel
theorem dL_damaged_248 : decode cL_damaged 248 = .ok (.astore 13, 2) := by decide +kernel
theorem dL_damaged_250 : decode cL_damaged 250 = .ok (.iconst 0, 1) := by decide +kernel
theorem dL_damaged_251 : decode cL_damaged 251 = .ok (.istore 14, 2) := by decide +kernel
theorem dL_damaged_253 : decode cL_damaged 253 = .ok (.iload 14, 2) := by decide +kernel
theorem dL_damaged_255 : decode cL_damaged 255 = .ok (.iload 4, 2) := by decide +kernel
theorem dL_damaged_257 : decode cL_damaged 257 = .ok (.if_icmp .ge 84, 3) := by decide +kernel
theorem dL_damaged_260 : decode cL_damaged 260 = .ok (.iload 11, 2) := by decide +kernel
theorem dL_damaged_262 : decode cL_damaged 262 = .ok (.aload_n 0, 1) := by decide +kernel
theorem dL_damaged_263 : decode cL_damaged 263 = .ok (.iload 14, 2) := by decide +kernel
theorem dL_damaged_265 : decode cL_damaged 265 = .ok (.invokestatic 194, 3) := by decide +kernel
theorem dL_damaged_268 : decode cL_damaged 268 = .ok (.iload 14, 2) := by decide +kernel
theorem dL_damaged_270 : decode cL_damaged 270 = .ok (.iload 6, 2) := by decide +kernel
theorem dL_damaged_272 : decode cL_damaged 272 = .ok (.if_icmp .ne 8, 3) := by decide +kernel
theorem dL_damaged_275 : decode cL_damaged 275 = .ok (.bipush 115, 2) := by decide +kernel
theorem dL_damaged_277 : decode cL_damaged 277 = .ok (.goto 5, 3) := by decide +kernel
theorem dL_damaged_280 : decode cL_damaged 280 = .ok (.bipush 110, 2) := by decide +kernel
theorem dL_damaged_282 : decode cL_damaged 282 = .ok (.if_icmp .ne 49, 3) := by decide +kernel
theorem dL_damaged_285 : decode cL_damaged 285 = .ok (.aload_n 0, 1) := by decide +kernel
theorem dL_damaged_286 : decode cL_damaged 286 = .ok (.iload 14, 2) := by decide +kernel
theorem dL_damaged_288 : decode cL_damaged 288 = .ok (.invokestatic 196, 3) := by decide +kernel
theorem dL_damaged_291 : decode cL_damaged 291 = .ok (.iload 14, 2) := by decide +kernel
theorem dL_damaged_293 : decode cL_damaged 293 = .ok (.iload 6, 2) := by decide +kernel
theorem dL_damaged_295 : decode cL_damaged 295 = .ok (.if_icmp .ne 8, 3) := by decide +kernel
theorem dL_damaged_298 : decode cL_damaged 298 = .ok (.iload 5, 2) := by decide +kernel
theorem dL_damaged_300 : decode cL_damaged 300 = .ok (.goto 4, 3) := by decide +kernel
theorem dL_damaged_303 : decode cL_damaged 303 = .ok (.iload_n 3, 1) := by decide +kernel
theorem dL_damaged_304 : decode cL_damaged 304 = .ok (.if_icmp .ne 27, 3) := by decide +kernel
theorem dL_damaged_307 : decode cL_damaged 307 = .ok (.iload 14, 2) := by decide +kernel
theorem dL_damaged_309 : decode cL_damaged 309 = .ok (.iload 6, 2) := by decide +kernel
theorem dL_damaged_311 : decode cL_damaged 311 = .ok (.if_icmp .eq 16, 3) := by decide +kernel
theorem dL_damaged_314 : decode cL_damaged 314 = .ok (.aload 12, 2) := by decide +kernel
theorem dL_damaged_316 : decode cL_damaged 316 = .ok (.iload 14, 2) := by decide +kernel
theorem dL_damaged_318 : decode cL_damaged 318 = .ok (.iaload, 1) := by decide +kernel
theorem dL_damaged_319 : decode cL_damaged 319 = .ok (.aload 13, 2) := by decide +kernel
theorem dL_damaged_321 : decode cL_damaged 321 = .ok (.iload 14, 2) := by decide +kernel
theorem dL_damaged_323 : decode cL_damaged 323 = .ok (.iaload, 1) := by decide +kernel
theorem dL_damaged_324 : decode cL_damaged 324 = .ok (.if_icmp .ne 7, 3) := by decide +kernel
theorem dL_damaged_327 : decode cL_damaged 327 = .ok (.iconst 1, 1) := by decide +kernel
theorem dL_damaged_328 : decode cL_damaged 328 = .ok (.goto 4, 3) := by decide +kernel
theorem dL_damaged_331 : decode cL_damaged 331 = .ok (.iconst 0, 1) := by decide +kernel
theorem dL_damaged_332 : decode cL_damaged 332 = .ok (.iand, 1) := by decide +kernel
theorem dL_damaged_333 : decode cL_damaged 333 = .ok (.istore 11, 2) := by decide +kernel
theorem dL_damaged_335 : decode cL_damaged 335 = .ok (.iinc 14 1, 3) := by decide +kernel
theorem dL_damaged_338 : decode cL_damaged 338 = .ok (.goto (-85), 3) := by decide +kernel
theorem dL_damaged_341 : decode cL_damaged 341 = .ok (.iload 11, 2) := by decide +kernel
theorem dL_damaged_343 : decode cL_damaged 343 = .ok (.ifCond .eq 41, 3) := by decide +kernel
theorem dL_damaged_346 : decode cL_damaged 346 = .ok (.aload_n 0, 1) := by decide +kernel
theorem dL_damaged_347 : decode cL_damaged 347 = .ok (.iload 7, 2) := by decide +kernel
theorem dL_damaged_349 : decode cL_damaged 349 = .ok (.iconst 3, 1) := by decide +kernel
theorem dL_damaged_350 : decode cL_damaged 350 = .ok (.iadd, 1) := by decide +kernel
theorem dL_damaged_351 : decode cL_damaged 351 = .ok (.iload 8, 2) := by decide +kernel
theorem dL_damaged_353 : decode cL_damaged 353 = .ok (.iadd, 1) := by decide +kernel
theorem dL_damaged_354 : decode cL_damaged 354 = .ok (.iload 9, 2) := by decide +kernel
theorem dL_damaged_356 : decode cL_damaged 356 = .ok (.invokestatic 151, 3) := by decide +kernel
theorem dL_damaged_359 : decode cL_damaged 359 = .ok (.iload 10, 2) := by decide +kernel
theorem dL_damaged_361 : decode cL_damaged 361 = .ok (.if_icmp .ne 23, 3) := by decide +kernel
theorem dL_damaged_364 : decode cL_damaged 364 = .ok (.aload_n 0, 1) := by decide +kernel
theorem dL_damaged_365 : decode cL_damaged 365 = .ok (.iconst 3, 1) := by decide +kernel
theorem dL_damaged_366 : decode cL_damaged 366 = .ok (.invokestatic 155, 3) := by decide +kernel
theorem dL_damaged_369 : decode cL_damaged 369 = .ok (.ifCond .ne 15, 3) := by decide +kernel
theorem dL_damaged_372 : decode cL_damaged 372 = .ok (.aload_n 0, 1) := by decide +kernel
theorem dL_damaged_373 : decode cL_damaged 373 = .ok (.invokevirtual 148, 3) := by decide +kernel
theorem dL_damaged_376 : decode cL_damaged 376 = .ok (.iload_n 2, 1) := by decide +kernel
theorem dL_damaged_377 : decode cL_damaged 377 = .ok (.if_icmp .ne 7, 3) := by decide +kernel
theorem dL_damaged_380 : decode cL_damaged 380 = .ok (.iconst 1, 1) := by decide +kernel
theorem dL_damaged_381 : decode cL_damaged 381 = .ok (.goto 4, 3) := by decide +kernel
theorem dL_damaged_384 : decode cL_damaged 384 = .ok (.iconst 0, 1) := by decide +kernel
theorem dL_damaged_385 : decode cL_damaged 385 = .ok (.ireturn, 1) := by decide +kernel
theorem dL_row_0 : decode cL_row 0 = .ok (.iconst 3, 1) := by decide +kernel
theorem dL_row_1 : decode cL_row 1 = .ok (.newarray .int, 2) := by decide +kernel
theorem dL_row_3 : decode cL_row 3 = .ok (.astore_n 1, 1) := by decide +kernel
theorem dL_row_4 : decode cL_row 4 = .ok (.iconst 0, 1) := by decide +kernel
theorem dL_row_5 : decode cL_row 5 = .ok (.istore_n 2, 1) := by decide +kernel
theorem dL_row_6 : decode cL_row 6 = .ok (.iload_n 2, 1) := by decide +kernel
theorem dL_row_7 : decode cL_row 7 = .ok (.aload_n 0, 1) := by decide +kernel
theorem dL_row_8 : decode cL_row 8 = .ok (.invokestatic 170, 3) := by decide +kernel
theorem dL_row_11 : decode cL_row 11 = .ok (.if_icmp .ge 47, 3) := by decide +kernel
theorem dL_row_14 : decode cL_row 14 = .ok (.iconst 0, 1) := by decide +kernel
theorem dL_row_15 : decode cL_row 15 = .ok (.istore_n 3, 1) := by decide +kernel
theorem dL_row_16 : decode cL_row 16 = .ok (.iload_n 3, 1) := by decide +kernel
theorem dL_row_17 : decode cL_row 17 = .ok (.aload_n 0, 1) := by decide +kernel
theorem dL_row_18 : decode cL_row 18 = .ok (.invokestatic 167, 3) := by decide +kernel
theorem dL_row_21 : decode cL_row 21 = .ok (.if_icmp .ge 31, 3) := by decide +kernel
theorem dL_row_24 : decode cL_row 24 = .ok (.aload_n 1, 1) := by decide +kernel
theorem dL_row_25 : decode cL_row 25 = .ok (.iload_n 2, 1) := by decide +kernel
theorem dL_row_26 : decode cL_row 26 = .ok (.bipush 8, 2) := by decide +kernel
theorem dL_row_28 : decode cL_row 28 = .ok (.idiv, 1) := by decide +kernel
theorem dL_row_29 : decode cL_row 29 = .ok (.bipush 31, 2) := by decide +kernel
theorem dL_row_31 : decode cL_row 31 = .ok (.aload_n 1, 1) := by decide +kernel
theorem dL_row_32 : decode cL_row 32 = .ok (.iload_n 2, 1) := by decide +kernel
theorem dL_row_33 : decode cL_row 33 = .ok (.bipush 8, 2) := by decide +kernel
theorem dL_row_35 : decode cL_row 35 = .ok (.idiv, 1) := by decide +kernel
theorem dL_row_36 : decode cL_row 36 = .ok (.iaload, 1) := by decide +kernel
theorem dL_row_37 : decode cL_row 37 = .ok (.imul, 1) := by decide +kernel
theorem dL_row_38 : decode cL_row 38 = .ok (.aload_n 0, 1) := by decide +kernel
theorem dL_row_39 : decode cL_row 39 = .ok (.iload_n 3, 1) := by decide +kernel
theorem dL_row_40 : decode cL_row 40 = .ok (.iload_n 2, 1) := by decide +kernel
theorem dL_row_41 : decode cL_row 41 = .ok (.invokestatic 202, 3) := by decide +kernel
theorem dL_row_44 : decode cL_row 44 = .ok (.iadd, 1) := by decide +kernel
theorem dL_row_45 : decode cL_row 45 = .ok (.iastore, 1) := by decide +kernel
theorem dL_row_46 : decode cL_row 46 = .ok (.iinc 3 1, 3) := by decide +kernel
theorem dL_row_49 : decode cL_row 49 = .ok (.goto (-33), 3) := by decide +kernel
theorem dL_row_52 : decode cL_row 52 = .ok (.iinc 2 1, 3) := by decide +kernel
theorem dL_row_55 : decode cL_row 55 = .ok (.goto (-49), 3) := by decide +kernel
theorem dL_row_58 : decode cL_row 58 = .ok (.aload_n 1, 1) := by decide +kernel
theorem dL_row_59 : decode cL_row 59 = .ok (.areturn, 1) := by decide +kernel
theorem dL_law_0 : decode cL_law 0 = .ok (.new 9, 3) := by decide +kernel
theorem dL_law_3 : decode cL_law 3 = .ok (.dup, 1) := by decide +kernel
theorem dL_law_4 : decode cL_law 4 = .ok (.invokespecial 228, 3) := by decide +kernel
theorem dL_law_7 : decode cL_law 7 = .ok (.astore_n 1, 1) := by decide +kernel
theorem dL_law_8 : decode cL_law 8 = .ok (.iconst 0, 1) := by decide +kernel
theorem dL_law_9 : decode cL_law 9 = .ok (.istore_n 2, 1) := by decide +kernel
theorem dL_law_10 : decode cL_law 10 = .ok (.aload_n 1, 1) := by decide +kernel
theorem dL_law_11 : decode cL_law 11 = .ok (.invokevirtual 123, 3) := by decide +kernel
theorem dL_law_14 : decode cL_law 14 = .ok (.bipush 8, 2) := by decide +kernel
theorem dL_law_16 : decode cL_law 16 = .ok (.if_icmp .ne 159, 3) := by decide +kernel
theorem dL_law_19 : decode cL_law 19 = .ok (.aload_n 1, 1) := by decide +kernel
theorem dL_law_20 : decode cL_law 20 = .ok (.invokevirtual 126, 3) := by decide +kernel
theorem dL_law_23 : decode cL_law 23 = .ok (.bipush 8, 2) := by decide +kernel
theorem dL_law_25 : decode cL_law 25 = .ok (.if_icmp .ne 150, 3) := by decide +kernel
theorem dL_law_28 : decode cL_law 28 = .ok (.aload_n 1, 1) := by decide +kernel
theorem dL_law_29 : decode cL_law 29 = .ok (.invokevirtual 148, 3) := by decide +kernel
theorem dL_law_32 : decode cL_law 32 = .ok (.ifCond .ne 143, 3) := by decide +kernel
theorem dL_law_35 : decode cL_law 35 = .ok (.aload_n 1, 1) := by decide +kernel
theorem dL_law_36 : decode cL_law 36 = .ok (.invokevirtual 184, 3) := by decide +kernel
theorem dL_law_39 : decode cL_law 39 = .ok (.ifCond .eq 136, 3) := by decide +kernel
theorem dL_law_42 : decode cL_law 42 = .ok (.aload_n 1, 1) := by decide +kernel
theorem dL_law_43 : decode cL_law 43 = .ok (.iconst 1, 1) := by decide +kernel
theorem dL_law_44 : decode cL_law 44 = .ok (.invokestatic 155, 3) := by decide +kernel
theorem dL_law_47 : decode cL_law 47 = .ok (.bipush (-2), 2) := by decide +kernel
theorem dL_law_49 : decode cL_law 49 = .ok (.if_icmp .ne 126, 3) := by decide +kernel
theorem dL_law_52 : decode cL_law 52 = .ok (.aload_n 1, 1) := by decide +kernel
theorem dL_law_53 : decode cL_law 53 = .ok (.iconst 0, 1) := by decide +kernel
theorem dL_law_54 : decode cL_law 54 = .ok (.invokestatic 155, 3) := by decide +kernel
theorem dL_law_57 : decode cL_law 57 = .ok (.iconst (-1), 1) := by decide +kernel
theorem dL_law_58 : decode cL_law 58 = .ok (.if_icmp .ne 117, 3) := by decide +kernel
theorem dL_law_61 : decode cL_law 61 = .ok (.aload_n 1, 1) := by decide +kernel
theorem dL_law_62 : decode cL_law 62 = .ok (.invokestatic 178, 3) := by decide +kernel
theorem dL_law_65 : decode cL_law 65 = .ok (.iconst (-1), 1) := by decide +kernel
theorem dL_law_66 : decode cL_law 66 = .ok (.if_icmp .ne 109, 3) := by decide +kernel
theorem dL_law_69 : decode cL_law 69 = .ok (.aload_n 1, 1) := by decide +kernel
theorem dL_law_70 : decode cL_law 70 = .ok (.invokestatic 180, 3) := by decide +kernel
theorem dL_law_73 : decode cL_law 73 = .ok (.iconst (-1), 1) := by decide +kernel
theorem dL_law_74 : decode cL_law 74 = .ok (.if_icmp .ne 101, 3) := by decide +kernel
theorem dL_law_77 : decode cL_law 77 = .ok (.aload_n 1, 1) := by decide +kernel
theorem dL_law_78 : decode cL_law 78 = .ok (.iconst 0, 1) := by decide +kernel
theorem dL_law_79 : decode cL_law 79 = .ok (.invokestatic 194, 3) := by decide +kernel
theorem dL_law_82 : decode cL_law 82 = .ok (.iconst (-1), 1) := by decide +kernel
theorem dL_law_83 : decode cL_law 83 = .ok (.if_icmp .ne 92, 3) := by decide +kernel
theorem dL_law_86 : decode cL_law 86 = .ok (.aload_n 1, 1) := by decide +kernel
theorem dL_law_87 : decode cL_law 87 = .ok (.iconst 0, 1) := by decide +kernel
theorem dL_law_88 : decode cL_law 88 = .ok (.invokestatic 113, 3) := by decide +kernel
theorem dL_law_91 : decode cL_law 91 = .ok (.iconst (-1), 1) := by decide +kernel
theorem dL_law_92 : decode cL_law 92 = .ok (.if_icmp .ne 83, 3) := by decide +kernel
theorem dL_law_95 : decode cL_law 95 = .ok (.aload_n 1, 1) := by decide +kernel
theorem dL_law_96 : decode cL_law 96 = .ok (.invokestatic 172, 3) := by decide +kernel
theorem dL_law_99 : decode cL_law 99 = .ok (.ldc 102, 2) := by decide +kernel
theorem dL_law_101 : decode cL_law 101 = .ok (.fcmp .l, 1) := by decide +kernel
theorem dL_law_102 : decode cL_law 102 = .ok (.ifCond .ne 73, 3) := by decide +kernel
theorem dL_law_105 : decode cL_law 105 = .ok (.aload_n 1, 1) := by decide +kernel
theorem dL_law_106 : decode cL_law 106 = .ok (.iconst 0, 1) := by decide +kernel
theorem dL_law_107 : decode cL_law 107 = .ok (.invokestatic 192, 3) := by decide +kernel
theorem dL_law_110 : decode cL_law 110 = .ok (.iconst (-1), 1) := by decide +kernel
theorem dL_law_111 : decode cL_law 111 = .ok (.if_icmp .ne 64, 3) := by decide +kernel
theorem dL_law_114 : decode cL_law 114 = .ok (.aload_n 1, 1) := by decide +kernel
theorem dL_law_115 : decode cL_law 115 = .ok (.iconst 1, 1) := by decide +kernel
theorem dL_law_116 : decode cL_law 116 = .ok (.invokestatic 153, 3) := by decide +kernel
theorem dL_law_119 : decode cL_law 119 = .ok (.iconst (-1), 1) := by decide +kernel
theorem dL_law_120 : decode cL_law 120 = .ok (.if_icmp .ne 55, 3) := by decide +kernel
theorem dL_law_123 : decode cL_law 123 = .ok (.aload_n 1, 1) := by decide +kernel
theorem dL_law_124 : decode cL_law 124 = .ok (.iconst 3, 1) := by decide +kernel
theorem dL_law_125 : decode cL_law 125 = .ok (.iconst 3, 1) := by decide +kernel
theorem dL_law_126 : decode cL_law 126 = .ok (.iconst 0, 1) := by decide +kernel
theorem dL_law_127 : decode cL_law 127 = .ok (.invokestatic 140, 3) := by decide +kernel
theorem dL_law_130 : decode cL_law 130 = .ok (.iconst (-1), 1) := by decide +kernel
theorem dL_law_131 : decode cL_law 131 = .ok (.if_icmp .ne 44, 3) := by decide +kernel
theorem dL_law_134 : decode cL_law 134 = .ok (.aload_n 1, 1) := by decide +kernel
theorem dL_law_135 : decode cL_law 135 = .ok (.iconst 4, 1) := by decide +kernel
theorem dL_law_136 : decode cL_law 136 = .ok (.iconst 0, 1) := by decide +kernel
theorem dL_law_137 : decode cL_law 137 = .ok (.iconst 1, 1) := by decide +kernel
theorem dL_law_138 : decode cL_law 138 = .ok (.invokestatic 140, 3) := by decide +kernel
theorem dL_law_141 : decode cL_law 141 = .ok (.iconst (-1), 1) := by decide +kernel
theorem dL_law_142 : decode cL_law 142 = .ok (.if_icmp .ne 33, 3) := by decide +kernel
theorem dL_law_145 : decode cL_law 145 = .ok (.aload_n 1, 1) := by decide +kernel
theorem dL_law_146 : decode cL_law 146 = .ok (.bipush 7, 2) := by decide +kernel
theorem dL_law_148 : decode cL_law 148 = .ok (.bipush 7, 2) := by decide +kernel
theorem dL_law_150 : decode cL_law 150 = .ok (.iconst 2, 1) := by decide +kernel
theorem dL_law_151 : decode cL_law 151 = .ok (.iconst 1, 1) := by decide +kernel
theorem dL_law_152 : decode cL_law 152 = .ok (.iconst 5, 1) := by decide +kernel
theorem dL_law_153 : decode cL_law 153 = .ok (.invokestatic 135, 3) := by decide +kernel
theorem dL_law_156 : decode cL_law 156 = .ok (.bipush (-2), 2) := by decide +kernel
theorem dL_law_158 : decode cL_law 158 = .ok (.if_icmp .ne 17, 3) := by decide +kernel
theorem dL_law_161 : decode cL_law 161 = .ok (.aload_n 1, 1) := by decide +kernel
theorem dL_law_162 : decode cL_law 162 = .ok (.bipush 8, 2) := by decide +kernel
theorem dL_law_164 : decode cL_law 164 = .ok (.iconst 0, 1) := by decide +kernel
theorem dL_law_165 : decode cL_law 165 = .ok (.iconst 1, 1) := by decide +kernel
theorem dL_law_166 : decode cL_law 166 = .ok (.iconst 1, 1) := by decide +kernel
theorem dL_law_167 : decode cL_law 167 = .ok (.iconst 5, 1) := by decide +kernel
theorem dL_law_168 : decode cL_law 168 = .ok (.invokestatic 135, 3) := by decide +kernel
theorem dL_law_171 : decode cL_law 171 = .ok (.iconst (-1), 1) := by decide +kernel
theorem dL_law_172 : decode cL_law 172 = .ok (.if_icmp .eq 5, 3) := by decide +kernel
theorem dL_law_175 : decode cL_law 175 = .ok (.iconst 0, 1) := by decide +kernel
theorem dL_law_176 : decode cL_law 176 = .ok (.ireturn, 1) := by decide +kernel
theorem dL_law_177 : decode cL_law 177 = .ok (.aload_n 1, 1) := by decide +kernel
theorem dL_law_178 : decode cL_law 178 = .ok (.bipush 8, 2) := by decide +kernel
theorem dL_law_180 : decode cL_law 180 = .ok (.iconst 3, 1) := by decide +kernel
theorem dL_law_181 : decode cL_law 181 = .ok (.iconst 1, 1) := by decide +kernel
theorem dL_law_182 : decode cL_law 182 = .ok (.invokestatic 140, 3) := by decide +kernel
theorem dL_law_185 : decode cL_law 185 = .ok (.aload_n 1, 1) := by decide +kernel
theorem dL_law_186 : decode cL_law 186 = .ok (.sipush 200, 3) := by decide +kernel
theorem dL_law_189 : decode cL_law 189 = .ok (.bipush 9, 2) := by decide +kernel
theorem dL_law_191 : decode cL_law 191 = .ok (.iconst 3, 1) := by decide +kernel
theorem dL_law_192 : decode cL_law 192 = .ok (.invokestatic 138, 3) := by decide +kernel
theorem dL_law_195 : decode cL_law 195 = .ok (.iadd, 1) := by decide +kernel
theorem dL_law_196 : decode cL_law 196 = .ok (.aload_n 1, 1) := by decide +kernel
theorem dL_law_197 : decode cL_law 197 = .ok (.iconst 2, 1) := by decide +kernel
theorem dL_law_198 : decode cL_law 198 = .ok (.iconst 3, 1) := by decide +kernel
theorem dL_law_199 : decode cL_law 199 = .ok (.iconst 4, 1) := by decide +kernel
theorem dL_law_200 : decode cL_law 200 = .ok (.iconst 4, 1) := by decide +kernel
theorem dL_law_201 : decode cL_law 201 = .ok (.bipush 17, 2) := by decide +kernel
theorem dL_law_203 : decode cL_law 203 = .ok (.invokestatic 135, 3) := by decide +kernel
theorem dL_law_206 : decode cL_law 206 = .ok (.iadd, 1) := by decide +kernel
theorem dL_law_207 : decode cL_law 207 = .ok (.istore_n 3, 1) := by decide +kernel
theorem dL_law_208 : decode cL_law 208 = .ok (.iconst 0, 1) := by decide +kernel
theorem dL_law_209 : decode cL_law 209 = .ok (.istore 4, 2) := by decide +kernel
theorem dL_law_211 : decode cL_law 211 = .ok (.iload 4, 2) := by decide +kernel
theorem dL_law_213 : decode cL_law 213 = .ok (.bipush 20, 2) := by decide +kernel
theorem dL_law_215 : decode cL_law 215 = .ok (.if_icmp .ge 134, 3) := by decide +kernel
theorem dL_law_218 : decode cL_law 218 = .ok (.aload_n 0, 1) := by decide +kernel
theorem dL_law_219 : decode cL_law 219 = .ok (.iload_n 2, 1) := by decide +kernel
theorem dL_law_220 : decode cL_law 220 = .ok (.invokestatic 229, 3) := by decide +kernel
theorem dL_law_223 : decode cL_law 223 = .ok (.sipush 255, 3) := by decide +kernel
theorem dL_law_226 : decode cL_law 226 = .ok (.iand, 1) := by decide +kernel
theorem dL_law_227 : decode cL_law 227 = .ok (.istore 5, 2) := by decide +kernel
theorem dL_law_229 : decode cL_law 229 = .ok (.new 119, 3) := by decide +kernel
theorem dL_law_232 : decode cL_law 232 = .ok (.dup, 1) := by decide +kernel
theorem dL_law_233 : decode cL_law 233 = .ok (.aload_n 0, 1) := by decide +kernel
theorem dL_law_234 : decode cL_law 234 = .ok (.iload_n 2, 1) := by decide +kernel
theorem dL_law_235 : decode cL_law 235 = .ok (.iconst 1, 1) := by decide +kernel
theorem dL_law_236 : decode cL_law 236 = .ok (.iadd, 1) := by decide +kernel
theorem dL_law_237 : decode cL_law 237 = .ok (.invokestatic 229, 3) := by decide +kernel
theorem dL_law_240 : decode cL_law 240 = .ok (.invokespecial 233, 3) := by decide +kernel
theorem dL_law_243 : decode cL_law 243 = .ok (.astore 6, 2) := by decide +kernel
theorem dL_law_245 : decode cL_law 245 = .ok (.iinc 2 2, 3) := by decide +kernel
theorem dL_law_248 : decode cL_law 248 = .ok (.iload 4, 2) := by decide +kernel
theorem dL_law_250 : decode cL_law 250 = .ok (.iconst 2, 1) := by decide +kernel
theorem dL_law_251 : decode cL_law 251 = .ok (.irem, 1) := by decide +kernel
theorem dL_law_252 : decode cL_law 252 = .ok (.ifCond .ne 10, 3) := by decide +kernel
theorem dL_law_255 : decode cL_law 255 = .ok (.aload_n 1, 1) := by decide +kernel
theorem dL_law_256 : decode cL_law 256 = .ok (.invokestatic 236, 3) := by decide +kernel
theorem dL_law_259 : decode cL_law 259 = .ok (.goto 5, 3) := by decide +kernel
theorem dL_law_262 : decode cL_law 262 = .ok (.ldc 240, 2) := by decide +kernel
theorem dL_law_264 : decode cL_law 264 = .ok (.astore 7, 2) := by decide +kernel
theorem dL_law_266 : decode cL_law 266 = .ok (.aload_n 1, 1) := by decide +kernel
theorem dL_law_267 : decode cL_law 267 = .ok (.iload 5, 2) := by decide +kernel
theorem dL_law_269 : decode cL_law 269 = .ok (.aload 6, 2) := by decide +kernel
theorem dL_law_271 : decode cL_law 271 = .ok (.invokestatic 242, 3) := by decide +kernel
theorem dL_law_274 : decode cL_law 274 = .ok (.istore 8, 2) := by decide +kernel
theorem dL_law_276 : decode cL_law 276 = .ok (.iload 8, 2) := by decide +kernel
theorem dL_law_278 : decode cL_law 278 = .ok (.ifCond .ge 24, 3) := by decide +kernel
theorem dL_law_281 : decode cL_law 281 = .ok (.iload 4, 2) := by decide +kernel
theorem dL_law_283 : decode cL_law 283 = .ok (.iconst 2, 1) := by decide +kernel
theorem dL_law_284 : decode cL_law 284 = .ok (.irem, 1) := by decide +kernel
theorem dL_law_285 : decode cL_law 285 = .ok (.ifCond .ne 17, 3) := by decide +kernel
theorem dL_law_288 : decode cL_law 288 = .ok (.aload 7, 2) := by decide +kernel
theorem dL_law_290 : decode cL_law 290 = .ok (.aload_n 1, 1) := by decide +kernel
theorem dL_law_291 : decode cL_law 291 = .ok (.invokestatic 236, 3) := by decide +kernel
theorem dL_law_294 : decode cL_law 294 = .ok (.invokevirtual 246, 3) := by decide +kernel
theorem dL_law_297 : decode cL_law 297 = .ok (.ifCond .ne 5, 3) := by decide +kernel
theorem dL_law_300 : decode cL_law 300 = .ok (.iconst 0, 1) := by decide +kernel
theorem dL_law_301 : decode cL_law 301 = .ok (.ireturn, 1) := by decide +kernel
theorem dL_law_302 : decode cL_law 302 = .ok (.iload 4, 2) := by decide +kernel
theorem dL_law_304 : decode cL_law 304 = .ok (.iconst 5, 1) := by decide +kernel
theorem dL_law_305 : decode cL_law 305 = .ok (.irem, 1) := by decide +kernel
theorem dL_law_306 : decode cL_law 306 = .ok (.iconst 2, 1) := by decide +kernel
theorem dL_law_307 : decode cL_law 307 = .ok (.if_icmp .ne 19, 3) := by decide +kernel
theorem dL_law_310 : decode cL_law 310 = .ok (.aload_n 1, 1) := by decide +kernel
theorem dL_law_311 : decode cL_law 311 = .ok (.invokestatic 252, 3) := by decide +kernel
theorem dL_law_314 : decode cL_law 314 = .ok (.ifCond .eq 27, 3) := by decide +kernel
theorem dL_law_317 : decode cL_law 317 = .ok (.aload_n 1, 1) := by decide +kernel
theorem dL_law_318 : decode cL_law 318 = .ok (.aload 6, 2) := by decide +kernel
theorem dL_law_320 : decode cL_law 320 = .ok (.invokestatic 256, 3) := by decide +kernel
theorem dL_law_323 : decode cL_law 323 = .ok (.ifCond .eq 18, 3) := by decide +kernel
theorem dL_law_326 : decode cL_law 326 = .ok (.iload 4, 2) := by decide +kernel
theorem dL_law_328 : decode cL_law 328 = .ok (.iconst 5, 1) := by decide +kernel
theorem dL_law_329 : decode cL_law 329 = .ok (.irem, 1) := by decide +kernel
theorem dL_law_330 : decode cL_law 330 = .ok (.iconst 4, 1) := by decide +kernel
theorem dL_law_331 : decode cL_law 331 = .ok (.if_icmp .ne 12, 3) := by decide +kernel
theorem dL_law_334 : decode cL_law 334 = .ok (.aload_n 1, 1) := by decide +kernel
theorem dL_law_335 : decode cL_law 335 = .ok (.invokestatic 260, 3) := by decide +kernel
theorem dL_law_338 : decode cL_law 338 = .ok (.ifCond .ne 5, 3) := by decide +kernel
theorem dL_law_341 : decode cL_law 341 = .ok (.iconst 0, 1) := by decide +kernel
theorem dL_law_342 : decode cL_law 342 = .ok (.ireturn, 1) := by decide +kernel
theorem dL_law_343 : decode cL_law 343 = .ok (.iinc 4 1, 3) := by decide +kernel
theorem dL_law_346 : decode cL_law 346 = .ok (.goto (-135), 3) := by decide +kernel
theorem dL_law_349 : decode cL_law 349 = .ok (.iload_n 3, 1) := by decide +kernel
theorem dL_law_350 : decode cL_law 350 = .ok (.ifCond .le 7, 3) := by decide +kernel
theorem dL_law_353 : decode cL_law 353 = .ok (.iconst 1, 1) := by decide +kernel
theorem dL_law_354 : decode cL_law 354 = .ok (.goto 4, 3) := by decide +kernel
theorem dL_law_357 : decode cL_law 357 = .ok (.iconst 0, 1) := by decide +kernel
theorem dL_law_358 : decode cL_law 358 = .ok (.ireturn, 1) := by decide +kernel
