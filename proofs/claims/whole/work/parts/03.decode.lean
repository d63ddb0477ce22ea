theorem dX0_init_0 : decode cX0_init 0 = .ok (.aload_n 0, 1) := by decide +kernel
theorem dX0_init_1 : decode cX0_init 1 = .ok (.invokespecial 3, 3) := by decide +kernel
theorem dX0_init_4 : decode cX0_init 4 = .ok (.aload_n 0, 1) := by decide +kernel
theorem dX0_init_5 : decode cX0_init 5 = .ok (.iconst 0, 1) := by decide +kernel
theorem dX0_init_6 : decode cX0_init 6 = .ok (.putfield 9, 3) := by decide +kernel
theorem dX0_init_9 : decode cX0_init 9 = .ok (.aload_n 0, 1) := by decide +kernel
theorem dX0_init_10 : decode cX0_init 10 = .ok (.ldc 15, 2) := by decide +kernel
theorem dX0_init_12 : decode cX0_init 12 = .ok (.putfield 16, 3) := by decide +kernel
theorem dX0_init_15 : decode cX0_init 15 = .ok (.aload_n 0, 1) := by decide +kernel
theorem dX0_init_16 : decode cX0_init 16 = .ok (.bipush 20, 2) := by decide +kernel
theorem dX0_init_18 : decode cX0_init 18 = .ok (.newarray .int, 2) := by decide +kernel
theorem dX0_init_20 : decode cX0_init 20 = .ok (.putfield 19, 3) := by decide +kernel
theorem dX0_init_23 : decode cX0_init 23 = .ok (.aload_n 0, 1) := by decide +kernel
theorem dX0_init_24 : decode cX0_init 24 = .ok (.bipush 20, 2) := by decide +kernel
theorem dX0_init_26 : decode cX0_init 26 = .ok (.newarray .int, 2) := by decide +kernel
theorem dX0_init_28 : decode cX0_init 28 = .ok (.putfield 23, 3) := by decide +kernel
theorem dX0_init_31 : decode cX0_init 31 = .ok (.return_, 1) := by decide +kernel
theorem dX0_reset_0 : decode cX0_reset 0 = .ok (.aload_n 0, 1) := by decide +kernel
theorem dX0_reset_1 : decode cX0_reset 1 = .ok (.iconst 0, 1) := by decide +kernel
theorem dX0_reset_2 : decode cX0_reset 2 = .ok (.putfield 9, 3) := by decide +kernel
theorem dX0_reset_5 : decode cX0_reset 5 = .ok (.aload_n 0, 1) := by decide +kernel
theorem dX0_reset_6 : decode cX0_reset 6 = .ok (.ldc 15, 2) := by decide +kernel
theorem dX0_reset_8 : decode cX0_reset 8 = .ok (.putfield 16, 3) := by decide +kernel
theorem dX0_reset_11 : decode cX0_reset 11 = .ok (.aload_n 0, 1) := by decide +kernel
theorem dX0_reset_12 : decode cX0_reset 12 = .ok (.getfield 19, 3) := by decide +kernel
theorem dX0_reset_15 : decode cX0_reset 15 = .ok (.iconst 1, 1) := by decide +kernel
theorem dX0_reset_16 : decode cX0_reset 16 = .ok (.invokestatic 26, 3) := by decide +kernel
theorem dX0_reset_19 : decode cX0_reset 19 = .ok (.aload_n 0, 1) := by decide +kernel
theorem dX0_reset_20 : decode cX0_reset 20 = .ok (.getfield 23, 3) := by decide +kernel
theorem dX0_reset_23 : decode cX0_reset 23 = .ok (.iconst 1, 1) := by decide +kernel
theorem dX0_reset_24 : decode cX0_reset 24 = .ok (.invokestatic 26, 3) := by decide +kernel
theorem dX0_reset_27 : decode cX0_reset 27 = .ok (.return_, 1) := by decide +kernel
theorem dX0_code_0 : decode cX0_code 0 = .ok (.aload_n 0, 1) := by decide +kernel
theorem dX0_code_1 : decode cX0_code 1 = .ok (.iload_n 2, 1) := by decide +kernel
theorem dX0_code_2 : decode cX0_code 2 = .ok (.invokevirtual 32, 3) := by decide +kernel
theorem dX0_code_5 : decode cX0_code 5 = .ok (.istore_n 3, 1) := by decide +kernel
theorem dX0_code_6 : decode cX0_code 6 = .ok (.aload_n 0, 1) := by decide +kernel
theorem dX0_code_7 : decode cX0_code 7 = .ok (.iload_n 1, 1) := by decide +kernel
theorem dX0_code_8 : decode cX0_code 8 = .ok (.iload_n 3, 1) := by decide +kernel
theorem dX0_code_9 : decode cX0_code 9 = .ok (.invokevirtual 36, 3) := by decide +kernel
theorem dX0_code_12 : decode cX0_code 12 = .ok (.istore 4, 2) := by decide +kernel
theorem dX0_code_14 : decode cX0_code 14 = .ok (.iload 4, 2) := by decide +kernel
theorem dX0_code_16 : decode cX0_code 16 = .ok (.ifCond .ne 11, 3) := by decide +kernel
theorem dX0_code_19 : decode cX0_code 19 = .ok (.aload_n 0, 1) := by decide +kernel
theorem dX0_code_20 : decode cX0_code 20 = .ok (.iload_n 3, 1) := by decide +kernel
theorem dX0_code_21 : decode cX0_code 21 = .ok (.putfield 16, 3) := by decide +kernel
theorem dX0_code_24 : decode cX0_code 24 = .ok (.goto 10, 3) := by decide +kernel
theorem dX0_code_27 : decode cX0_code 27 = .ok (.aload_n 0, 1) := by decide +kernel
theorem dX0_code_28 : decode cX0_code 28 = .ok (.iload_n 3, 1) := by decide +kernel
theorem dX0_code_29 : decode cX0_code 29 = .ok (.iconst 1, 1) := by decide +kernel
theorem dX0_code_30 : decode cX0_code 30 = .ok (.iadd, 1) := by decide +kernel
theorem dX0_code_31 : decode cX0_code 31 = .ok (.putfield 9, 3) := by decide +kernel
theorem dX0_code_34 : decode cX0_code 34 = .ok (.aload_n 0, 1) := by decide +kernel
theorem dX0_code_35 : decode cX0_code 35 = .ok (.iload 4, 2) := by decide +kernel
theorem dX0_code_37 : decode cX0_code 37 = .ok (.iload_n 2, 1) := by decide +kernel
theorem dX0_code_38 : decode cX0_code 38 = .ok (.invokevirtual 40, 3) := by decide +kernel
theorem dX0_code_41 : decode cX0_code 41 = .ok (.aload_n 0, 1) := by decide +kernel
theorem dX0_code_42 : decode cX0_code 42 = .ok (.invokevirtual 44, 3) := by decide +kernel
theorem dX0_code_45 : decode cX0_code 45 = .ok (.istore 5, 2) := by decide +kernel
theorem dX0_code_47 : decode cX0_code 47 = .ok (.iconst 0, 1) := by decide +kernel
theorem dX0_code_48 : decode cX0_code 48 = .ok (.istore 6, 2) := by decide +kernel
theorem dX0_code_50 : decode cX0_code 50 = .ok (.iload 6, 2) := by decide +kernel
theorem dX0_code_52 : decode cX0_code 52 = .ok (.bipush 17, 2) := by decide +kernel
theorem dX0_code_54 : decode cX0_code 54 = .ok (.if_icmp .ge 55, 3) := by decide +kernel
theorem dX0_code_57 : decode cX0_code 57 = .ok (.iload 5, 2) := by decide +kernel
theorem dX0_code_59 : decode cX0_code 59 = .ok (.iconst (-1), 1) := by decide +kernel
theorem dX0_code_60 : decode cX0_code 60 = .ok (.if_icmp .eq 49, 3) := by decide +kernel
theorem dX0_code_63 : decode cX0_code 63 = .ok (.aload_n 0, 1) := by decide +kernel
theorem dX0_code_64 : decode cX0_code 64 = .ok (.iload 5, 2) := by decide +kernel
theorem dX0_code_66 : decode cX0_code 66 = .ok (.invokevirtual 48, 3) := by decide +kernel
theorem dX0_code_69 : decode cX0_code 69 = .ok (.aload_n 0, 1) := by decide +kernel
theorem dX0_code_70 : decode cX0_code 70 = .ok (.aload_n 0, 1) := by decide +kernel
theorem dX0_code_71 : decode cX0_code 71 = .ok (.getfield 9, 3) := by decide +kernel
theorem dX0_code_74 : decode cX0_code 74 = .ok (.iload 5, 2) := by decide +kernel
theorem dX0_code_76 : decode cX0_code 76 = .ok (.isub, 1) := by decide +kernel
theorem dX0_code_77 : decode cX0_code 77 = .ok (.iconst 2, 1) := by decide +kernel
theorem dX0_code_78 : decode cX0_code 78 = .ok (.imul, 1) := by decide +kernel
theorem dX0_code_79 : decode cX0_code 79 = .ok (.putfield 9, 3) := by decide +kernel
theorem dX0_code_82 : decode cX0_code 82 = .ok (.aload_n 0, 1) := by decide +kernel
theorem dX0_code_83 : decode cX0_code 83 = .ok (.aload_n 0, 1) := by decide +kernel
theorem dX0_code_84 : decode cX0_code 84 = .ok (.getfield 16, 3) := by decide +kernel
theorem dX0_code_87 : decode cX0_code 87 = .ok (.iload 5, 2) := by decide +kernel
theorem dX0_code_89 : decode cX0_code 89 = .ok (.isub, 1) := by decide +kernel
theorem dX0_code_90 : decode cX0_code 90 = .ok (.iconst 2, 1) := by decide +kernel
theorem dX0_code_91 : decode cX0_code 91 = .ok (.imul, 1) := by decide +kernel
theorem dX0_code_92 : decode cX0_code 92 = .ok (.iconst 1, 1) := by decide +kernel
theorem dX0_code_93 : decode cX0_code 93 = .ok (.iadd, 1) := by decide +kernel
theorem dX0_code_94 : decode cX0_code 94 = .ok (.putfield 16, 3) := by decide +kernel
theorem dX0_code_97 : decode cX0_code 97 = .ok (.aload_n 0, 1) := by decide +kernel
theorem dX0_code_98 : decode cX0_code 98 = .ok (.invokevirtual 44, 3) := by decide +kernel
theorem dX0_code_101 : decode cX0_code 101 = .ok (.istore 5, 2) := by decide +kernel
theorem dX0_code_103 : decode cX0_code 103 = .ok (.iinc 6 1, 3) := by decide +kernel
theorem dX0_code_106 : decode cX0_code 106 = .ok (.goto (-56), 3) := by decide +kernel
theorem dX0_code_109 : decode cX0_code 109 = .ok (.iload 4, 2) := by decide +kernel
theorem dX0_code_111 : decode cX0_code 111 = .ok (.ireturn, 1) := by decide +kernel
theorem dX0_splitFor_0 : decode cX0_splitFor 0 = .ok (.aload_n 0, 1) := by decide +kernel
theorem dX0_splitFor_1 : decode cX0_splitFor 1 = .ok (.getfield 16, 3) := by decide +kernel
theorem dX0_splitFor_4 : decode cX0_splitFor 4 = .ok (.aload_n 0, 1) := by decide +kernel
theorem dX0_splitFor_5 : decode cX0_splitFor 5 = .ok (.getfield 9, 3) := by decide +kernel
theorem dX0_splitFor_8 : decode cX0_splitFor 8 = .ok (.isub, 1) := by decide +kernel
theorem dX0_splitFor_9 : decode cX0_splitFor 9 = .ok (.iconst 1, 1) := by decide +kernel
theorem dX0_splitFor_10 : decode cX0_splitFor 10 = .ok (.iadd, 1) := by decide +kernel
theorem dX0_splitFor_11 : decode cX0_splitFor 11 = .ok (.istore_n 2, 1) := by decide +kernel
theorem dX0_splitFor_12 : decode cX0_splitFor 12 = .ok (.iconst 1, 1) := by decide +kernel
theorem dX0_splitFor_13 : decode cX0_splitFor 13 = .ok (.istore_n 3, 1) := by decide +kernel
theorem dX0_splitFor_14 : decode cX0_splitFor 14 = .ok (.iconst 1, 1) := by decide +kernel
theorem dX0_splitFor_15 : decode cX0_splitFor 15 = .ok (.istore 4, 2) := by decide +kernel
theorem dX0_splitFor_17 : decode cX0_splitFor 17 = .ok (.iload_n 1, 1) := by decide +kernel
theorem dX0_splitFor_18 : decode cX0_splitFor 18 = .ok (.ifCond .lt 24, 3) := by decide +kernel
theorem dX0_splitFor_21 : decode cX0_splitFor 21 = .ok (.iload_n 1, 1) := by decide +kernel
theorem dX0_splitFor_22 : decode cX0_splitFor 22 = .ok (.bipush 20, 2) := by decide +kernel
theorem dX0_splitFor_24 : decode cX0_splitFor 24 = .ok (.if_icmp .ge 18, 3) := by decide +kernel
theorem dX0_splitFor_27 : decode cX0_splitFor 27 = .ok (.aload_n 0, 1) := by decide +kernel
theorem dX0_splitFor_28 : decode cX0_splitFor 28 = .ok (.getfield 19, 3) := by decide +kernel
theorem dX0_splitFor_31 : decode cX0_splitFor 31 = .ok (.iload_n 1, 1) := by decide +kernel
theorem dX0_splitFor_32 : decode cX0_splitFor 32 = .ok (.iaload, 1) := by decide +kernel
theorem dX0_splitFor_33 : decode cX0_splitFor 33 = .ok (.istore_n 3, 1) := by decide +kernel
theorem dX0_splitFor_34 : decode cX0_splitFor 34 = .ok (.aload_n 0, 1) := by decide +kernel
theorem dX0_splitFor_35 : decode cX0_splitFor 35 = .ok (.getfield 23, 3) := by decide +kernel
theorem dX0_splitFor_38 : decode cX0_splitFor 38 = .ok (.iload_n 1, 1) := by decide +kernel
theorem dX0_splitFor_39 : decode cX0_splitFor 39 = .ok (.iaload, 1) := by decide +kernel
theorem dX0_splitFor_40 : decode cX0_splitFor 40 = .ok (.istore 4, 2) := by decide +kernel
theorem dX0_splitFor_42 : decode cX0_splitFor 42 = .ok (.iload_n 3, 1) := by decide +kernel
theorem dX0_splitFor_43 : decode cX0_splitFor 43 = .ok (.iload 4, 2) := by decide +kernel
theorem dX0_splitFor_45 : decode cX0_splitFor 45 = .ok (.iadd, 1) := by decide +kernel
theorem dX0_splitFor_46 : decode cX0_splitFor 46 = .ok (.ifCond .le 21, 3) := by decide +kernel
theorem dX0_splitFor_49 : decode cX0_splitFor 49 = .ok (.aload_n 0, 1) := by decide +kernel
theorem dX0_splitFor_50 : decode cX0_splitFor 50 = .ok (.getfield 9, 3) := by decide +kernel
theorem dX0_splitFor_53 : decode cX0_splitFor 53 = .ok (.iconst 1, 1) := by decide +kernel
theorem dX0_splitFor_54 : decode cX0_splitFor 54 = .ok (.isub, 1) := by decide +kernel
theorem dX0_splitFor_55 : decode cX0_splitFor 55 = .ok (.iload_n 2, 1) := by decide +kernel
theorem dX0_splitFor_56 : decode cX0_splitFor 56 = .ok (.iload_n 3, 1) := by decide +kernel
theorem dX0_splitFor_57 : decode cX0_splitFor 57 = .ok (.imul, 1) := by decide +kernel
theorem dX0_splitFor_58 : decode cX0_splitFor 58 = .ok (.iload_n 3, 1) := by decide +kernel
theorem dX0_splitFor_59 : decode cX0_splitFor 59 = .ok (.iload 4, 2) := by decide +kernel
theorem dX0_splitFor_61 : decode cX0_splitFor 61 = .ok (.iadd, 1) := by decide +kernel
theorem dX0_splitFor_62 : decode cX0_splitFor 62 = .ok (.idiv, 1) := by decide +kernel
theorem dX0_splitFor_63 : decode cX0_splitFor 63 = .ok (.iadd, 1) := by decide +kernel
theorem dX0_splitFor_64 : decode cX0_splitFor 64 = .ok (.goto 7, 3) := by decide +kernel
theorem dX0_splitFor_67 : decode cX0_splitFor 67 = .ok (.aload_n 0, 1) := by decide +kernel
theorem dX0_splitFor_68 : decode cX0_splitFor 68 = .ok (.getfield 9, 3) := by decide +kernel
theorem dX0_splitFor_71 : decode cX0_splitFor 71 = .ok (.ireturn, 1) := by decide +kernel
theorem dX0_count_0 : decode cX0_count 0 = .ok (.iload_n 2, 1) := by decide +kernel
theorem dX0_count_1 : decode cX0_count 1 = .ok (.ifCond .lt 9, 3) := by decide +kernel
theorem dX0_count_4 : decode cX0_count 4 = .ok (.iload_n 2, 1) := by decide +kernel
theorem dX0_count_5 : decode cX0_count 5 = .ok (.bipush 20, 2) := by decide +kernel
theorem dX0_count_7 : decode cX0_count 7 = .ok (.if_icmp .lt 4, 3) := by decide +kernel
theorem dX0_count_10 : decode cX0_count 10 = .ok (.return_, 1) := by decide +kernel
theorem dX0_count_11 : decode cX0_count 11 = .ok (.iload_n 1, 1) := by decide +kernel
theorem dX0_count_12 : decode cX0_count 12 = .ok (.ifCond .ne 16, 3) := by decide +kernel
theorem dX0_count_15 : decode cX0_count 15 = .ok (.aload_n 0, 1) := by decide +kernel
theorem dX0_count_16 : decode cX0_count 16 = .ok (.getfield 19, 3) := by decide +kernel
theorem dX0_count_19 : decode cX0_count 19 = .ok (.iload_n 2, 1) := by decide +kernel
theorem dX0_count_20 : decode cX0_count 20 = .ok (.dup2, 1) := by decide +kernel
theorem dX0_count_21 : decode cX0_count 21 = .ok (.iaload, 1) := by decide +kernel
theorem dX0_count_22 : decode cX0_count 22 = .ok (.iconst 1, 1) := by decide +kernel
theorem dX0_count_23 : decode cX0_count 23 = .ok (.iadd, 1) := by decide +kernel
theorem dX0_count_24 : decode cX0_count 24 = .ok (.iastore, 1) := by decide +kernel
theorem dX0_count_25 : decode cX0_count 25 = .ok (.goto 13, 3) := by decide +kernel
theorem dX0_count_28 : decode cX0_count 28 = .ok (.aload_n 0, 1) := by decide +kernel
theorem dX0_count_29 : decode cX0_count 29 = .ok (.getfield 23, 3) := by decide +kernel
theorem dX0_count_32 : decode cX0_count 32 = .ok (.iload_n 2, 1) := by decide +kernel
theorem dX0_count_33 : decode cX0_count 33 = .ok (.dup2, 1) := by decide +kernel
theorem dX0_count_34 : decode cX0_count 34 = .ok (.iaload, 1) := by decide +kernel
theorem dX0_count_35 : decode cX0_count 35 = .ok (.iconst 1, 1) := by decide +kernel
theorem dX0_count_36 : decode cX0_count 36 = .ok (.iadd, 1) := by decide +kernel
theorem dX0_count_37 : decode cX0_count 37 = .ok (.iastore, 1) := by decide +kernel
theorem dX0_count_38 : decode cX0_count 38 = .ok (.aload_n 0, 1) := by decide +kernel
theorem dX0_count_39 : decode cX0_count 39 = .ok (.getfield 19, 3) := by decide +kernel
theorem dX0_count_42 : decode cX0_count 42 = .ok (.iload_n 2, 1) := by decide +kernel
theorem dX0_count_43 : decode cX0_count 43 = .ok (.iaload, 1) := by decide +kernel
theorem dX0_count_44 : decode cX0_count 44 = .ok (.aload_n 0, 1) := by decide +kernel
theorem dX0_count_45 : decode cX0_count 45 = .ok (.getfield 23, 3) := by decide +kernel
theorem dX0_count_48 : decode cX0_count 48 = .ok (.iload_n 2, 1) := by decide +kernel
theorem dX0_count_49 : decode cX0_count 49 = .ok (.iaload, 1) := by decide +kernel
theorem dX0_count_50 : decode cX0_count 50 = .ok (.iadd, 1) := by decide +kernel
theorem dX0_count_51 : decode cX0_count 51 = .ok (.bipush 64, 2) := by decide +kernel
theorem dX0_count_53 : decode cX0_count 53 = .ok (.if_icmp .le 35, 3) := by decide +kernel
theorem dX0_count_56 : decode cX0_count 56 = .ok (.aload_n 0, 1) := by decide +kernel
theorem dX0_count_57 : decode cX0_count 57 = .ok (.getfield 19, 3) := by decide +kernel
theorem dX0_count_60 : decode cX0_count 60 = .ok (.iload_n 2, 1) := by decide +kernel
theorem dX0_count_61 : decode cX0_count 61 = .ok (.aload_n 0, 1) := by decide +kernel
theorem dX0_count_62 : decode cX0_count 62 = .ok (.getfield 19, 3) := by decide +kernel
theorem dX0_count_65 : decode cX0_count 65 = .ok (.iload_n 2, 1) := by decide +kernel
theorem dX0_count_66 : decode cX0_count 66 = .ok (.iaload, 1) := by decide +kernel
theorem dX0_count_67 : decode cX0_count 67 = .ok (.iconst 1, 1) := by decide +kernel
theorem dX0_count_68 : decode cX0_count 68 = .ok (.iadd, 1) := by decide +kernel
theorem dX0_count_69 : decode cX0_count 69 = .ok (.iconst 2, 1) := by decide +kernel
theorem dX0_count_70 : decode cX0_count 70 = .ok (.idiv, 1) := by decide +kernel
theorem dX0_count_71 : decode cX0_count 71 = .ok (.iastore, 1) := by decide +kernel
theorem dX0_count_72 : decode cX0_count 72 = .ok (.aload_n 0, 1) := by decide +kernel
theorem dX0_count_73 : decode cX0_count 73 = .ok (.getfield 23, 3) := by decide +kernel
theorem dX0_count_76 : decode cX0_count 76 = .ok (.iload_n 2, 1) := by decide +kernel
theorem dX0_count_77 : decode cX0_count 77 = .ok (.aload_n 0, 1) := by decide +kernel
theorem dX0_count_78 : decode cX0_count 78 = .ok (.getfield 23, 3) := by decide +kernel
theorem dX0_count_81 : decode cX0_count 81 = .ok (.iload_n 2, 1) := by decide +kernel
theorem dX0_count_82 : decode cX0_count 82 = .ok (.iaload, 1) := by decide +kernel
theorem dX0_count_83 : decode cX0_count 83 = .ok (.iconst 1, 1) := by decide +kernel
theorem dX0_count_84 : decode cX0_count 84 = .ok (.iadd, 1) := by decide +kernel
theorem dX0_count_85 : decode cX0_count 85 = .ok (.iconst 2, 1) := by decide +kernel
theorem dX0_count_86 : decode cX0_count 86 = .ok (.idiv, 1) := by decide +kernel
theorem dX0_count_87 : decode cX0_count 87 = .ok (.iastore, 1) := by decide +kernel
theorem dX0_count_88 : decode cX0_count 88 = .ok (.return_, 1) := by decide +kernel
theorem dX0_nextOffset_0 : decode cX0_nextOffset 0 = .ok (.aload_n 0, 1) := by decide +kernel
theorem dX0_nextOffset_1 : decode cX0_nextOffset 1 = .ok (.getfield 16, 3) := by decide +kernel
theorem dX0_nextOffset_4 : decode cX0_nextOffset 4 = .ok (.ldc 52, 2) := by decide +kernel
theorem dX0_nextOffset_6 : decode cX0_nextOffset 6 = .ok (.if_icmp .ge 5, 3) := by decide +kernel
theorem dX0_nextOffset_9 : decode cX0_nextOffset 9 = .ok (.iconst 0, 1) := by decide +kernel
theorem dX0_nextOffset_10 : decode cX0_nextOffset 10 = .ok (.ireturn, 1) := by decide +kernel
theorem dX0_nextOffset_11 : decode cX0_nextOffset 11 = .ok (.aload_n 0, 1) := by decide +kernel
theorem dX0_nextOffset_12 : decode cX0_nextOffset 12 = .ok (.getfield 9, 3) := by decide +kernel
theorem dX0_nextOffset_15 : decode cX0_nextOffset 15 = .ok (.ldc 52, 2) := by decide +kernel
theorem dX0_nextOffset_17 : decode cX0_nextOffset 17 = .ok (.if_icmp .lt 6, 3) := by decide +kernel
theorem dX0_nextOffset_20 : decode cX0_nextOffset 20 = .ok (.ldc 52, 2) := by decide +kernel
theorem dX0_nextOffset_22 : decode cX0_nextOffset 22 = .ok (.ireturn, 1) := by decide +kernel
theorem dX0_nextOffset_23 : decode cX0_nextOffset 23 = .ok (.aload_n 0, 1) := by decide +kernel
theorem dX0_nextOffset_24 : decode cX0_nextOffset 24 = .ok (.getfield 9, 3) := by decide +kernel
theorem dX0_nextOffset_27 : decode cX0_nextOffset 27 = .ok (.sipush 16384, 3) := by decide +kernel
theorem dX0_nextOffset_30 : decode cX0_nextOffset 30 = .ok (.if_icmp .lt 18, 3) := by decide +kernel
theorem dX0_nextOffset_33 : decode cX0_nextOffset 33 = .ok (.aload_n 0, 1) := by decide +kernel
theorem dX0_nextOffset_34 : decode cX0_nextOffset 34 = .ok (.getfield 16, 3) := by decide +kernel
theorem dX0_nextOffset_37 : decode cX0_nextOffset 37 = .ok (.ldc 53, 2) := by decide +kernel
theorem dX0_nextOffset_39 : decode cX0_nextOffset 39 = .ok (.if_icmp .ge 9, 3) := by decide +kernel
theorem dX0_nextOffset_42 : decode cX0_nextOffset 42 = .ok (.sipush 16384, 3) := by decide +kernel
theorem dX0_nextOffset_45 : decode cX0_nextOffset 45 = .ok (.goto 4, 3) := by decide +kernel
theorem dX0_nextOffset_48 : decode cX0_nextOffset 48 = .ok (.iconst (-1), 1) := by decide +kernel
theorem dX0_nextOffset_49 : decode cX0_nextOffset 49 = .ok (.ireturn, 1) := by decide +kernel
theorem dX1_init_0 : decode cX1_init 0 = .ok (.aload_n 0, 1) := by decide +kernel
theorem dX1_init_1 : decode cX1_init 1 = .ok (.invokespecial 1, 3) := by decide +kernel
theorem dX1_init_4 : decode cX1_init 4 = .ok (.aload_n 0, 1) := by decide +kernel
theorem dX1_init_5 : decode cX1_init 5 = .ok (.iconst 0, 1) := by decide +kernel
theorem dX1_init_6 : decode cX1_init 6 = .ok (.newarray .int, 2) := by decide +kernel
theorem dX1_init_8 : decode cX1_init 8 = .ok (.putfield 7, 3) := by decide +kernel
theorem dX1_init_11 : decode cX1_init 11 = .ok (.aload_n 0, 1) := by decide +kernel
theorem dX1_init_12 : decode cX1_init 12 = .ok (.iconst 0, 1) := by decide +kernel
theorem dX1_init_13 : decode cX1_init 13 = .ok (.putfield 13, 3) := by decide +kernel
theorem dX1_init_16 : decode cX1_init 16 = .ok (.aload_n 0, 1) := by decide +kernel
theorem dX1_init_17 : decode cX1_init 17 = .ok (.iconst 0, 1) := by decide +kernel
theorem dX1_init_18 : decode cX1_init 18 = .ok (.putfield 17, 3) := by decide +kernel
theorem dX1_init_21 : decode cX1_init 21 = .ok (.aload_n 0, 1) := by decide +kernel
theorem dX1_init_22 : decode cX1_init 22 = .ok (.iconst 0, 1) := by decide +kernel
theorem dX1_init_23 : decode cX1_init 23 = .ok (.putfield 20, 3) := by decide +kernel
theorem dX1_init_26 : decode cX1_init 26 = .ok (.return_, 1) := by decide +kernel
theorem dX1_start_0 : decode cX1_start 0 = .ok (.aload_n 0, 1) := by decide +kernel
theorem dX1_start_1 : decode cX1_start 1 = .ok (.invokevirtual 23, 3) := by decide +kernel
theorem dX1_start_4 : decode cX1_start 4 = .ok (.aload_n 0, 1) := by decide +kernel
theorem dX1_start_5 : decode cX1_start 5 = .ok (.aload_n 1, 1) := by decide +kernel
theorem dX1_start_6 : decode cX1_start 6 = .ok (.putfield 7, 3) := by decide +kernel
theorem dX1_start_9 : decode cX1_start 9 = .ok (.aload_n 0, 1) := by decide +kernel
theorem dX1_start_10 : decode cX1_start 10 = .ok (.iload_n 2, 1) := by decide +kernel
theorem dX1_start_11 : decode cX1_start 11 = .ok (.bipush 8, 2) := by decide +kernel
theorem dX1_start_13 : decode cX1_start 13 = .ok (.imul, 1) := by decide +kernel
theorem dX1_start_14 : decode cX1_start 14 = .ok (.putfield 13, 3) := by decide +kernel
theorem dX1_start_17 : decode cX1_start 17 = .ok (.aload_n 0, 1) := by decide +kernel
theorem dX1_start_18 : decode cX1_start 18 = .ok (.iload_n 2, 1) := by decide +kernel
theorem dX1_start_19 : decode cX1_start 19 = .ok (.iload_n 3, 1) := by decide +kernel
theorem dX1_start_20 : decode cX1_start 20 = .ok (.iadd, 1) := by decide +kernel
theorem dX1_start_21 : decode cX1_start 21 = .ok (.aload_n 1, 1) := by decide +kernel
theorem dX1_start_22 : decode cX1_start 22 = .ok (.arraylength, 1) := by decide +kernel
theorem dX1_start_23 : decode cX1_start 23 = .ok (.invokestatic 26, 3) := by decide +kernel
theorem dX1_start_26 : decode cX1_start 26 = .ok (.bipush 8, 2) := by decide +kernel
theorem dX1_start_28 : decode cX1_start 28 = .ok (.imul, 1) := by decide +kernel
theorem dX1_start_29 : decode cX1_start 29 = .ok (.putfield 17, 3) := by decide +kernel
theorem dX1_start_32 : decode cX1_start 32 = .ok (.aload_n 0, 1) := by decide +kernel
theorem dX1_start_33 : decode cX1_start 33 = .ok (.iconst 0, 1) := by decide +kernel
theorem dX1_start_34 : decode cX1_start 34 = .ok (.putfield 20, 3) := by decide +kernel
theorem dX1_start_37 : decode cX1_start 37 = .ok (.iconst 0, 1) := by decide +kernel
theorem dX1_start_38 : decode cX1_start 38 = .ok (.istore 4, 2) := by decide +kernel
theorem dX1_start_40 : decode cX1_start 40 = .ok (.iload 4, 2) := by decide +kernel
theorem dX1_start_42 : decode cX1_start 42 = .ok (.bipush 16, 2) := by decide +kernel
theorem dX1_start_44 : decode cX1_start 44 = .ok (.if_icmp .ge 14, 3) := by decide +kernel
theorem dX1_start_47 : decode cX1_start 47 = .ok (.aload_n 0, 1) := by decide +kernel
theorem dX1_start_48 : decode cX1_start 48 = .ok (.iconst 0, 1) := by decide +kernel
theorem dX1_start_49 : decode cX1_start 49 = .ok (.invokevirtual 32, 3) := by decide +kernel
theorem dX1_start_52 : decode cX1_start 52 = .ok (.iinc 4 1, 3) := by decide +kernel
theorem dX1_start_55 : decode cX1_start 55 = .ok (.goto (-15), 3) := by decide +kernel
theorem dX1_start_58 : decode cX1_start 58 = .ok (.return_, 1) := by decide +kernel
theorem dX1_choose_0 : decode cX1_choose 0 = .ok (.aload_n 0, 1) := by decide +kernel
theorem dX1_choose_1 : decode cX1_choose 1 = .ok (.getfield 20, 3) := by decide +kernel
theorem dX1_choose_4 : decode cX1_choose 4 = .ok (.iload_n 2, 1) := by decide +kernel
theorem dX1_choose_5 : decode cX1_choose 5 = .ok (.if_icmp .gt 7, 3) := by decide +kernel
theorem dX1_choose_8 : decode cX1_choose 8 = .ok (.iconst 0, 1) := by decide +kernel
theorem dX1_choose_9 : decode cX1_choose 9 = .ok (.goto 4, 3) := by decide +kernel
theorem dX1_choose_12 : decode cX1_choose 12 = .ok (.iconst 1, 1) := by decide +kernel
theorem dX1_choose_13 : decode cX1_choose 13 = .ok (.ireturn, 1) := by decide +kernel
theorem dX1_take_0 : decode cX1_take 0 = .ok (.iconst 0, 1) := by decide +kernel
theorem dX1_take_1 : decode cX1_take 1 = .ok (.istore_n 2, 1) := by decide +kernel
theorem dX1_take_2 : decode cX1_take 2 = .ok (.aload_n 0, 1) := by decide +kernel
theorem dX1_take_3 : decode cX1_take 3 = .ok (.getfield 13, 3) := by decide +kernel
theorem dX1_take_6 : decode cX1_take 6 = .ok (.aload_n 0, 1) := by decide +kernel
theorem dX1_take_7 : decode cX1_take 7 = .ok (.getfield 17, 3) := by decide +kernel
theorem dX1_take_10 : decode cX1_take 10 = .ok (.if_icmp .ge 39, 3) := by decide +kernel
theorem dX1_take_13 : decode cX1_take 13 = .ok (.aload_n 0, 1) := by decide +kernel
theorem dX1_take_14 : decode cX1_take 14 = .ok (.getfield 7, 3) := by decide +kernel
theorem dX1_take_17 : decode cX1_take 17 = .ok (.aload_n 0, 1) := by decide +kernel
theorem dX1_take_18 : decode cX1_take 18 = .ok (.getfield 13, 3) := by decide +kernel
theorem dX1_take_21 : decode cX1_take 21 = .ok (.bipush 8, 2) := by decide +kernel
theorem dX1_take_23 : decode cX1_take 23 = .ok (.idiv, 1) := by decide +kernel
theorem dX1_take_24 : decode cX1_take 24 = .ok (.iaload, 1) := by decide +kernel
theorem dX1_take_25 : decode cX1_take 25 = .ok (.bipush 7, 2) := by decide +kernel
theorem dX1_take_27 : decode cX1_take 27 = .ok (.aload_n 0, 1) := by decide +kernel
theorem dX1_take_28 : decode cX1_take 28 = .ok (.getfield 13, 3) := by decide +kernel
theorem dX1_take_31 : decode cX1_take 31 = .ok (.bipush 8, 2) := by decide +kernel
theorem dX1_take_33 : decode cX1_take 33 = .ok (.irem, 1) := by decide +kernel
theorem dX1_take_34 : decode cX1_take 34 = .ok (.isub, 1) := by decide +kernel
theorem dX1_take_35 : decode cX1_take 35 = .ok (.ishr, 1) := by decide +kernel
theorem dX1_take_36 : decode cX1_take 36 = .ok (.iconst 1, 1) := by decide +kernel
theorem dX1_take_37 : decode cX1_take 37 = .ok (.iand, 1) := by decide +kernel
theorem dX1_take_38 : decode cX1_take 38 = .ok (.istore_n 2, 1) := by decide +kernel
theorem dX1_take_39 : decode cX1_take 39 = .ok (.aload_n 0, 1) := by decide +kernel
theorem dX1_take_40 : decode cX1_take 40 = .ok (.dup, 1) := by decide +kernel
theorem dX1_take_41 : decode cX1_take 41 = .ok (.getfield 13, 3) := by decide +kernel
theorem dX1_take_44 : decode cX1_take 44 = .ok (.iconst 1, 1) := by decide +kernel
theorem dX1_take_45 : decode cX1_take 45 = .ok (.iadd, 1) := by decide +kernel
theorem dX1_take_46 : decode cX1_take 46 = .ok (.putfield 13, 3) := by decide +kernel
theorem dX1_take_49 : decode cX1_take 49 = .ok (.aload_n 0, 1) := by decide +kernel
theorem dX1_take_50 : decode cX1_take 50 = .ok (.aload_n 0, 1) := by decide +kernel
theorem dX1_take_51 : decode cX1_take 51 = .ok (.getfield 20, 3) := by decide +kernel
theorem dX1_take_54 : decode cX1_take 54 = .ok (.iload_n 1, 1) := by decide +kernel
theorem dX1_take_55 : decode cX1_take 55 = .ok (.isub, 1) := by decide +kernel
theorem dX1_take_56 : decode cX1_take 56 = .ok (.iconst 2, 1) := by decide +kernel
theorem dX1_take_57 : decode cX1_take 57 = .ok (.imul, 1) := by decide +kernel
theorem dX1_take_58 : decode cX1_take 58 = .ok (.iload_n 2, 1) := by decide +kernel
theorem dX1_take_59 : decode cX1_take 59 = .ok (.iadd, 1) := by decide +kernel
theorem dX1_take_60 : decode cX1_take 60 = .ok (.putfield 20, 3) := by decide +kernel
theorem dX1_take_63 : decode cX1_take 63 = .ok (.return_, 1) := by decide +kernel
theorem dX2_init_0 : decode cX2_init 0 = .ok (.aload_n 0, 1) := by decide +kernel
theorem dX2_init_1 : decode cX2_init 1 = .ok (.invokespecial 1, 3) := by decide +kernel
theorem dX2_init_4 : decode cX2_init 4 = .ok (.aload_n 0, 1) := by decide +kernel
theorem dX2_init_5 : decode cX2_init 5 = .ok (.sipush 2048, 3) := by decide +kernel
theorem dX2_init_8 : decode cX2_init 8 = .ok (.newarray .int, 2) := by decide +kernel
theorem dX2_init_10 : decode cX2_init 10 = .ok (.putfield 7, 3) := by decide +kernel
theorem dX2_init_13 : decode cX2_init 13 = .ok (.aload_n 0, 1) := by decide +kernel
theorem dX2_init_14 : decode cX2_init 14 = .ok (.iconst 0, 1) := by decide +kernel
theorem dX2_init_15 : decode cX2_init 15 = .ok (.putfield 13, 3) := by decide +kernel
theorem dX2_init_18 : decode cX2_init 18 = .ok (.aload_n 0, 1) := by decide +kernel
theorem dX2_init_19 : decode cX2_init 19 = .ok (.iconst 0, 1) := by decide +kernel
theorem dX2_init_20 : decode cX2_init 20 = .ok (.putfield 17, 3) := by decide +kernel
theorem dX2_init_23 : decode cX2_init 23 = .ok (.return_, 1) := by decide +kernel
theorem dX2_start_0 : decode cX2_start 0 = .ok (.aload_n 0, 1) := by decide +kernel
theorem dX2_start_1 : decode cX2_start 1 = .ok (.invokevirtual 20, 3) := by decide +kernel
theorem dX2_start_4 : decode cX2_start 4 = .ok (.aload_n 0, 1) := by decide +kernel
theorem dX2_start_5 : decode cX2_start 5 = .ok (.iconst 0, 1) := by decide +kernel
theorem dX2_start_6 : decode cX2_start 6 = .ok (.putfield 13, 3) := by decide +kernel
theorem dX2_start_9 : decode cX2_start 9 = .ok (.aload_n 0, 1) := by decide +kernel
theorem dX2_start_10 : decode cX2_start 10 = .ok (.iconst 0, 1) := by decide +kernel
theorem dX2_start_11 : decode cX2_start 11 = .ok (.putfield 17, 3) := by decide +kernel
theorem dX2_start_14 : decode cX2_start 14 = .ok (.return_, 1) := by decide +kernel
theorem dX2_finish_0 : decode cX2_finish 0 = .ok (.aload_n 0, 1) := by decide +kernel
theorem dX2_finish_1 : decode cX2_finish 1 = .ok (.dup, 1) := by decide +kernel
theorem dX2_finish_2 : decode cX2_finish 2 = .ok (.getfield 17, 3) := by decide +kernel
theorem dX2_finish_5 : decode cX2_finish 5 = .ok (.iconst 1, 1) := by decide +kernel
theorem dX2_finish_6 : decode cX2_finish 6 = .ok (.iadd, 1) := by decide +kernel
theorem dX2_finish_7 : decode cX2_finish 7 = .ok (.putfield 17, 3) := by decide +kernel
theorem dX2_finish_10 : decode cX2_finish 10 = .ok (.aload_n 0, 1) := by decide +kernel
theorem dX2_finish_11 : decode cX2_finish 11 = .ok (.aload_n 0, 1) := by decide +kernel
theorem dX2_finish_12 : decode cX2_finish 12 = .ok (.getfield 23, 3) := by decide +kernel
theorem dX2_finish_15 : decode cX2_finish 15 = .ok (.sipush 16384, 3) := by decide +kernel
theorem dX2_finish_18 : decode cX2_finish 18 = .ok (.if_icmp .ge 7, 3) := by decide +kernel
theorem dX2_finish_21 : decode cX2_finish 21 = .ok (.iconst 0, 1) := by decide +kernel
theorem dX2_finish_22 : decode cX2_finish 22 = .ok (.goto 5, 3) := by decide +kernel
theorem dX2_finish_25 : decode cX2_finish 25 = .ok (.ldc 26, 2) := by decide +kernel
theorem dX2_finish_27 : decode cX2_finish 27 = .ok (.invokevirtual 27, 3) := by decide +kernel
theorem dX2_finish_30 : decode cX2_finish 30 = .ok (.return_, 1) := by decide +kernel
theorem dX2_byteCount_0 : decode cX2_byteCount 0 = .ok (.aload_n 0, 1) := by decide +kernel
theorem dX2_byteCount_1 : decode cX2_byteCount 1 = .ok (.getfield 13, 3) := by decide +kernel
theorem dX2_byteCount_4 : decode cX2_byteCount 4 = .ok (.bipush 7, 2) := by decide +kernel
theorem dX2_byteCount_6 : decode cX2_byteCount 6 = .ok (.iadd, 1) := by decide +kernel
theorem dX2_byteCount_7 : decode cX2_byteCount 7 = .ok (.bipush 8, 2) := by decide +kernel
theorem dX2_byteCount_9 : decode cX2_byteCount 9 = .ok (.idiv, 1) := by decide +kernel
theorem dX2_byteCount_10 : decode cX2_byteCount 10 = .ok (.ireturn, 1) := by decide +kernel
theorem dX2_choose_0 : decode cX2_choose 0 = .ok (.iload_n 1, 1) := by decide +kernel
theorem dX2_choose_1 : decode cX2_choose 1 = .ok (.ireturn, 1) := by decide +kernel
theorem dX2_take_0 : decode cX2_take 0 = .ok (.iload_n 1, 1) := by decide +kernel
theorem dX2_take_1 : decode cX2_take 1 = .ok (.sipush 16384, 3) := by decide +kernel
theorem dX2_take_4 : decode cX2_take 4 = .ok (.if_icmp .ne 14, 3) := by decide +kernel
theorem dX2_take_7 : decode cX2_take 7 = .ok (.aload_n 0, 1) := by decide +kernel
theorem dX2_take_8 : decode cX2_take 8 = .ok (.dup, 1) := by decide +kernel
theorem dX2_take_9 : decode cX2_take 9 = .ok (.getfield 17, 3) := by decide +kernel
theorem dX2_take_12 : decode cX2_take 12 = .ok (.iconst 1, 1) := by decide +kernel
theorem dX2_take_13 : decode cX2_take 13 = .ok (.iadd, 1) := by decide +kernel
theorem dX2_take_14 : decode cX2_take 14 = .ok (.putfield 17, 3) := by decide +kernel
theorem dX2_take_17 : decode cX2_take 17 = .ok (.return_, 1) := by decide +kernel
theorem dX2_take_18 : decode cX2_take 18 = .ok (.iload_n 1, 1) := by decide +kernel
theorem dX2_take_19 : decode cX2_take 19 = .ok (.ldc 26, 2) := by decide +kernel
theorem dX2_take_21 : decode cX2_take 21 = .ok (.if_icmp .ne 7, 3) := by decide +kernel
theorem dX2_take_24 : decode cX2_take 24 = .ok (.iconst 1, 1) := by decide +kernel
theorem dX2_take_25 : decode cX2_take 25 = .ok (.goto 4, 3) := by decide +kernel
theorem dX2_take_28 : decode cX2_take 28 = .ok (.iconst 0, 1) := by decide +kernel
theorem dX2_take_29 : decode cX2_take 29 = .ok (.istore_n 2, 1) := by decide +kernel
theorem dX2_take_30 : decode cX2_take 30 = .ok (.iconst 1, 1) := by decide +kernel
theorem dX2_take_31 : decode cX2_take 31 = .ok (.aload_n 0, 1) := by decide +kernel
theorem dX2_take_32 : decode cX2_take 32 = .ok (.getfield 17, 3) := by decide +kernel
theorem dX2_take_35 : decode cX2_take 35 = .ok (.iadd, 1) := by decide +kernel
theorem dX2_take_36 : decode cX2_take 36 = .ok (.istore_n 3, 1) := by decide +kernel
theorem dX2_take_37 : decode cX2_take 37 = .ok (.aload_n 0, 1) := by decide +kernel
theorem dX2_take_38 : decode cX2_take 38 = .ok (.iconst 0, 1) := by decide +kernel
theorem dX2_take_39 : decode cX2_take 39 = .ok (.putfield 17, 3) := by decide +kernel
theorem dX2_take_42 : decode cX2_take 42 = .ok (.iconst 0, 1) := by decide +kernel
theorem dX2_take_43 : decode cX2_take 43 = .ok (.istore 4, 2) := by decide +kernel
theorem dX2_take_45 : decode cX2_take 45 = .ok (.iload 4, 2) := by decide +kernel
theorem dX2_take_47 : decode cX2_take 47 = .ok (.iload_n 3, 1) := by decide +kernel
theorem dX2_take_48 : decode cX2_take 48 = .ok (.if_icmp .ge 103, 3) := by decide +kernel
theorem dX2_take_51 : decode cX2_take 51 = .ok (.aload_n 0, 1) := by decide +kernel
theorem dX2_take_52 : decode cX2_take 52 = .ok (.getfield 13, 3) := by decide +kernel
theorem dX2_take_55 : decode cX2_take 55 = .ok (.bipush 8, 2) := by decide +kernel
theorem dX2_take_57 : decode cX2_take 57 = .ok (.idiv, 1) := by decide +kernel
theorem dX2_take_58 : decode cX2_take 58 = .ok (.aload_n 0, 1) := by decide +kernel
theorem dX2_take_59 : decode cX2_take 59 = .ok (.getfield 7, 3) := by decide +kernel
theorem dX2_take_62 : decode cX2_take 62 = .ok (.arraylength, 1) := by decide +kernel
theorem dX2_take_63 : decode cX2_take 63 = .ok (.if_icmp .ge 88, 3) := by decide +kernel
theorem dX2_take_66 : decode cX2_take 66 = .ok (.iload 4, 2) := by decide +kernel
theorem dX2_take_68 : decode cX2_take 68 = .ok (.ifCond .ne 7, 3) := by decide +kernel
theorem dX2_take_71 : decode cX2_take 71 = .ok (.iload_n 2, 1) := by decide +kernel
theorem dX2_take_72 : decode cX2_take 72 = .ok (.goto 6, 3) := by decide +kernel
theorem dX2_take_75 : decode cX2_take 75 = .ok (.iconst 1, 1) := by decide +kernel
theorem dX2_take_76 : decode cX2_take 76 = .ok (.iload_n 2, 1) := by decide +kernel
theorem dX2_take_77 : decode cX2_take 77 = .ok (.isub, 1) := by decide +kernel
theorem dX2_take_78 : decode cX2_take 78 = .ok (.istore 5, 2) := by decide +kernel
theorem dX2_take_80 : decode cX2_take 80 = .ok (.aload_n 0, 1) := by decide +kernel
theorem dX2_take_81 : decode cX2_take 81 = .ok (.getfield 13, 3) := by decide +kernel
theorem dX2_take_84 : decode cX2_take 84 = .ok (.bipush 8, 2) := by decide +kernel
theorem dX2_take_86 : decode cX2_take 86 = .ok (.idiv, 1) := by decide +kernel
theorem dX2_take_87 : decode cX2_take 87 = .ok (.istore 6, 2) := by decide +kernel
theorem dX2_take_89 : decode cX2_take 89 = .ok (.aload_n 0, 1) := by decide +kernel
theorem dX2_take_90 : decode cX2_take 90 = .ok (.getfield 13, 3) := by decide +kernel
theorem dX2_take_93 : decode cX2_take 93 = .ok (.bipush 8, 2) := by decide +kernel
theorem dX2_take_95 : decode cX2_take 95 = .ok (.irem, 1) := by decide +kernel
theorem dX2_take_96 : decode cX2_take 96 = .ok (.ifCond .ne 7, 3) := by decide +kernel
theorem dX2_take_99 : decode cX2_take 99 = .ok (.iconst 0, 1) := by decide +kernel
theorem dX2_take_100 : decode cX2_take 100 = .ok (.goto 10, 3) := by decide +kernel
theorem dX2_take_103 : decode cX2_take 103 = .ok (.aload_n 0, 1) := by decide +kernel
theorem dX2_take_104 : decode cX2_take 104 = .ok (.getfield 7, 3) := by decide +kernel
theorem dX2_take_107 : decode cX2_take 107 = .ok (.iload 6, 2) := by decide +kernel
theorem dX2_take_109 : decode cX2_take 109 = .ok (.iaload, 1) := by decide +kernel
theorem dX2_take_110 : decode cX2_take 110 = .ok (.istore 7, 2) := by decide +kernel
theorem dX2_take_112 : decode cX2_take 112 = .ok (.aload_n 0, 1) := by decide +kernel
theorem dX2_take_113 : decode cX2_take 113 = .ok (.getfield 7, 3) := by decide +kernel
theorem dX2_take_116 : decode cX2_take 116 = .ok (.iload 6, 2) := by decide +kernel
theorem dX2_take_118 : decode cX2_take 118 = .ok (.iload 7, 2) := by decide +kernel
theorem dX2_take_120 : decode cX2_take 120 = .ok (.iload 5, 2) := by decide +kernel
theorem dX2_take_122 : decode cX2_take 122 = .ok (.bipush 7, 2) := by decide +kernel
theorem dX2_take_124 : decode cX2_take 124 = .ok (.aload_n 0, 1) := by decide +kernel
theorem dX2_take_125 : decode cX2_take 125 = .ok (.getfield 13, 3) := by decide +kernel
theorem dX2_take_128 : decode cX2_take 128 = .ok (.bipush 8, 2) := by decide +kernel
theorem dX2_take_130 : decode cX2_take 130 = .ok (.irem, 1) := by decide +kernel
theorem dX2_take_131 : decode cX2_take 131 = .ok (.isub, 1) := by decide +kernel
theorem dX2_take_132 : decode cX2_take 132 = .ok (.ishl, 1) := by decide +kernel
theorem dX2_take_133 : decode cX2_take 133 = .ok (.ior, 1) := by decide +kernel
theorem dX2_take_134 : decode cX2_take 134 = .ok (.iastore, 1) := by decide +kernel
theorem dX2_take_135 : decode cX2_take 135 = .ok (.aload_n 0, 1) := by decide +kernel
theorem dX2_take_136 : decode cX2_take 136 = .ok (.dup, 1) := by decide +kernel
theorem dX2_take_137 : decode cX2_take 137 = .ok (.getfield 13, 3) := by decide +kernel
theorem dX2_take_140 : decode cX2_take 140 = .ok (.iconst 1, 1) := by decide +kernel
theorem dX2_take_141 : decode cX2_take 141 = .ok (.iadd, 1) := by decide +kernel
theorem dX2_take_142 : decode cX2_take 142 = .ok (.putfield 13, 3) := by decide +kernel
theorem dX2_take_145 : decode cX2_take 145 = .ok (.iinc 4 1, 3) := by decide +kernel
theorem dX2_take_148 : decode cX2_take 148 = .ok (.goto (-103), 3) := by decide +kernel
theorem dX2_take_151 : decode cX2_take 151 = .ok (.return_, 1) := by decide +kernel
theorem dX3_init_0 : decode cX3_init 0 = .ok (.aload_n 0, 1) := by decide +kernel
theorem dX3_init_1 : decode cX3_init 1 = .ok (.invokespecial 1, 3) := by decide +kernel
theorem dX3_init_4 : decode cX3_init 4 = .ok (.aload_n 0, 1) := by decide +kernel
theorem dX3_init_5 : decode cX3_init 5 = .ok (.sipush 512, 3) := by decide +kernel
theorem dX3_init_8 : decode cX3_init 8 = .ok (.newarray .int, 2) := by decide +kernel
theorem dX3_init_10 : decode cX3_init 10 = .ok (.putfield 7, 3) := by decide +kernel
theorem dX3_init_13 : decode cX3_init 13 = .ok (.aload_n 0, 1) := by decide +kernel
theorem dX3_init_14 : decode cX3_init 14 = .ok (.iconst 0, 1) := by decide +kernel
theorem dX3_init_15 : decode cX3_init 15 = .ok (.putfield 13, 3) := by decide +kernel
theorem dX3_init_18 : decode cX3_init 18 = .ok (.return_, 1) := by decide +kernel
theorem dX3_clear_0 : decode cX3_clear 0 = .ok (.aload_n 0, 1) := by decide +kernel
theorem dX3_clear_1 : decode cX3_clear 1 = .ok (.iconst 0, 1) := by decide +kernel
theorem dX3_clear_2 : decode cX3_clear 2 = .ok (.putfield 13, 3) := by decide +kernel
theorem dX3_clear_5 : decode cX3_clear 5 = .ok (.return_, 1) := by decide +kernel
theorem dX3_append_0 : decode cX3_append 0 = .ok (.aload_n 0, 1) := by decide +kernel
theorem dX3_append_1 : decode cX3_append 1 = .ok (.getfield 13, 3) := by decide +kernel
theorem dX3_append_4 : decode cX3_append 4 = .ok (.aload_n 0, 1) := by decide +kernel
theorem dX3_append_5 : decode cX3_append 5 = .ok (.getfield 7, 3) := by decide +kernel
theorem dX3_append_8 : decode cX3_append 8 = .ok (.arraylength, 1) := by decide +kernel
theorem dX3_append_9 : decode cX3_append 9 = .ok (.if_icmp .lt 21, 3) := by decide +kernel
theorem dX3_append_12 : decode cX3_append 12 = .ok (.aload_n 0, 1) := by decide +kernel
theorem dX3_append_13 : decode cX3_append 13 = .ok (.aload_n 0, 1) := by decide +kernel
theorem dX3_append_14 : decode cX3_append 14 = .ok (.getfield 7, 3) := by decide +kernel
theorem dX3_append_17 : decode cX3_append 17 = .ok (.aload_n 0, 1) := by decide +kernel
theorem dX3_append_18 : decode cX3_append 18 = .ok (.getfield 7, 3) := by decide +kernel
theorem dX3_append_21 : decode cX3_append 21 = .ok (.arraylength, 1) := by decide +kernel
theorem dX3_append_22 : decode cX3_append 22 = .ok (.iconst 2, 1) := by decide +kernel
theorem dX3_append_23 : decode cX3_append 23 = .ok (.imul, 1) := by decide +kernel
theorem dX3_append_24 : decode cX3_append 24 = .ok (.invokestatic 17, 3) := by decide +kernel
theorem dX3_append_27 : decode cX3_append 27 = .ok (.putfield 7, 3) := by decide +kernel
theorem dX3_append_30 : decode cX3_append 30 = .ok (.aload_n 0, 1) := by decide +kernel
theorem dX3_append_31 : decode cX3_append 31 = .ok (.getfield 7, 3) := by decide +kernel
theorem dX3_append_34 : decode cX3_append 34 = .ok (.aload_n 0, 1) := by decide +kernel
theorem dX3_append_35 : decode cX3_append 35 = .ok (.getfield 13, 3) := by decide +kernel
theorem dX3_append_38 : decode cX3_append 38 = .ok (.iload_n 1, 1) := by decide +kernel
theorem dX3_append_39 : decode cX3_append 39 = .ok (.iastore, 1) := by decide +kernel
theorem dX3_append_40 : decode cX3_append 40 = .ok (.aload_n 0, 1) := by decide +kernel
theorem dX3_append_41 : decode cX3_append 41 = .ok (.dup, 1) := by decide +kernel
theorem dX3_append_42 : decode cX3_append 42 = .ok (.getfield 13, 3) := by decide +kernel
theorem dX3_append_45 : decode cX3_append 45 = .ok (.iconst 1, 1) := by decide +kernel
theorem dX3_append_46 : decode cX3_append 46 = .ok (.iadd, 1) := by decide +kernel
theorem dX3_append_47 : decode cX3_append 47 = .ok (.putfield 13, 3) := by decide +kernel
theorem dX3_append_50 : decode cX3_append 50 = .ok (.return_, 1) := by decide +kernel
theorem dX3_at_0 : decode cX3_at 0 = .ok (.iload_n 1, 1) := by decide +kernel
theorem dX3_at_1 : decode cX3_at 1 = .ok (.ifCond .lt 20, 3) := by decide +kernel
theorem dX3_at_4 : decode cX3_at 4 = .ok (.iload_n 1, 1) := by decide +kernel
theorem dX3_at_5 : decode cX3_at 5 = .ok (.aload_n 0, 1) := by decide +kernel
theorem dX3_at_6 : decode cX3_at 6 = .ok (.getfield 13, 3) := by decide +kernel
theorem dX3_at_9 : decode cX3_at 9 = .ok (.if_icmp .ge 12, 3) := by decide +kernel
theorem dX3_at_12 : decode cX3_at 12 = .ok (.aload_n 0, 1) := by decide +kernel
theorem dX3_at_13 : decode cX3_at 13 = .ok (.getfield 7, 3) := by decide +kernel
theorem dX3_at_16 : decode cX3_at 16 = .ok (.iload_n 1, 1) := by decide +kernel
theorem dX3_at_17 : decode cX3_at 17 = .ok (.iaload, 1) := by decide +kernel
theorem dX3_at_18 : decode cX3_at 18 = .ok (.goto 4, 3) := by decide +kernel
theorem dX3_at_21 : decode cX3_at 21 = .ok (.iconst (-1), 1) := by decide +kernel
theorem dX3_at_22 : decode cX3_at 22 = .ok (.ireturn, 1) := by decide +kernel
theorem dX3_put_0 : decode cX3_put 0 = .ok (.iload_n 1, 1) := by decide +kernel
theorem dX3_put_1 : decode cX3_put 1 = .ok (.ifCond .lt 18, 3) := by decide +kernel
theorem dX3_put_4 : decode cX3_put 4 = .ok (.iload_n 1, 1) := by decide +kernel
theorem dX3_put_5 : decode cX3_put 5 = .ok (.aload_n 0, 1) := by decide +kernel
theorem dX3_put_6 : decode cX3_put 6 = .ok (.getfield 13, 3) := by decide +kernel
theorem dX3_put_9 : decode cX3_put 9 = .ok (.if_icmp .ge 10, 3) := by decide +kernel
theorem dX3_put_12 : decode cX3_put 12 = .ok (.aload_n 0, 1) := by decide +kernel
theorem dX3_put_13 : decode cX3_put 13 = .ok (.getfield 7, 3) := by decide +kernel
theorem dX3_put_16 : decode cX3_put 16 = .ok (.iload_n 1, 1) := by decide +kernel
theorem dX3_put_17 : decode cX3_put 17 = .ok (.iload_n 2, 1) := by decide +kernel
theorem dX3_put_18 : decode cX3_put 18 = .ok (.iastore, 1) := by decide +kernel
theorem dX3_put_19 : decode cX3_put 19 = .ok (.return_, 1) := by decide +kernel
theorem dX4_init_0 : decode cX4_init 0 = .ok (.aload_n 0, 1) := by decide +kernel
theorem dX4_init_1 : decode cX4_init 1 = .ok (.invokespecial 3, 3) := by decide +kernel
theorem dX4_init_4 : decode cX4_init 4 = .ok (.aload_n 0, 1) := by decide +kernel
theorem dX4_init_5 : decode cX4_init 5 = .ok (.iconst 1, 1) := by decide +kernel
theorem dX4_init_6 : decode cX4_init 6 = .ok (.putfield 9, 3) := by decide +kernel
theorem dX4_init_9 : decode cX4_init 9 = .ok (.aload_n 0, 1) := by decide +kernel
theorem dX4_init_10 : decode cX4_init 10 = .ok (.iconst 0, 1) := by decide +kernel
theorem dX4_init_11 : decode cX4_init 11 = .ok (.putfield 15, 3) := by decide +kernel
theorem dX4_init_14 : decode cX4_init 14 = .ok (.aload_n 0, 1) := by decide +kernel
theorem dX4_init_15 : decode cX4_init 15 = .ok (.iconst 3, 1) := by decide +kernel
theorem dX4_init_16 : decode cX4_init 16 = .ok (.newarray .int, 2) := by decide +kernel
theorem dX4_init_18 : decode cX4_init 18 = .ok (.putfield 18, 3) := by decide +kernel
theorem dX4_init_21 : decode cX4_init 21 = .ok (.aload_n 0, 1) := by decide +kernel
theorem dX4_init_22 : decode cX4_init 22 = .ok (.bipush 6, 2) := by decide +kernel
theorem dX4_init_24 : decode cX4_init 24 = .ok (.newarray .int, 2) := by decide +kernel
theorem dX4_init_26 : decode cX4_init 26 = .ok (.putfield 22, 3) := by decide +kernel
theorem dX4_init_29 : decode cX4_init 29 = .ok (.aload_n 0, 1) := by decide +kernel
theorem dX4_init_30 : decode cX4_init 30 = .ok (.bipush 24, 2) := by decide +kernel
theorem dX4_init_32 : decode cX4_init 32 = .ok (.newarray .int, 2) := by decide +kernel
theorem dX4_init_34 : decode cX4_init 34 = .ok (.putfield 25, 3) := by decide +kernel
theorem dX4_init_37 : decode cX4_init 37 = .ok (.aload_n 0, 1) := by decide +kernel
theorem dX4_init_38 : decode cX4_init 38 = .ok (.bipush 24, 2) := by decide +kernel
theorem dX4_init_40 : decode cX4_init 40 = .ok (.newarray .int, 2) := by decide +kernel
theorem dX4_init_42 : decode cX4_init 42 = .ok (.putfield 28, 3) := by decide +kernel
theorem dX4_init_45 : decode cX4_init 45 = .ok (.aload_n 0, 1) := by decide +kernel
theorem dX4_init_46 : decode cX4_init 46 = .ok (.sipush 384, 3) := by decide +kernel
theorem dX4_init_49 : decode cX4_init 49 = .ok (.newarray .int, 2) := by decide +kernel
theorem dX4_init_51 : decode cX4_init 51 = .ok (.putfield 31, 3) := by decide +kernel
theorem dX4_init_54 : decode cX4_init 54 = .ok (.aload_n 0, 1) := by decide +kernel
theorem dX4_init_55 : decode cX4_init 55 = .ok (.sipush 384, 3) := by decide +kernel
theorem dX4_init_58 : decode cX4_init 58 = .ok (.newarray .int, 2) := by decide +kernel
theorem dX4_init_60 : decode cX4_init 60 = .ok (.putfield 34, 3) := by decide +kernel
theorem dX4_init_63 : decode cX4_init 63 = .ok (.aload_n 0, 1) := by decide +kernel
theorem dX4_init_64 : decode cX4_init 64 = .ok (.new 37, 3) := by decide +kernel
theorem dX4_init_67 : decode cX4_init 67 = .ok (.dup, 1) := by decide +kernel
theorem dX4_init_68 : decode cX4_init 68 = .ok (.invokespecial 39, 3) := by decide +kernel
theorem dX4_init_71 : decode cX4_init 71 = .ok (.putfield 40, 3) := by decide +kernel
theorem dX4_init_74 : decode cX4_init 74 = .ok (.aload_n 0, 1) := by decide +kernel
theorem dX4_init_75 : decode cX4_init 75 = .ok (.new 44, 3) := by decide +kernel
theorem dX4_init_78 : decode cX4_init 78 = .ok (.dup, 1) := by decide +kernel
theorem dX4_init_79 : decode cX4_init 79 = .ok (.invokespecial 46, 3) := by decide +kernel
theorem dX4_init_82 : decode cX4_init 82 = .ok (.putfield 47, 3) := by decide +kernel
theorem dX4_init_85 : decode cX4_init 85 = .ok (.return_, 1) := by decide +kernel
theorem dX4_sizeAt_0 : decode cX4_sizeAt 0 = .ok (.aload_n 0, 1) := by decide +kernel
theorem dX4_sizeAt_1 : decode cX4_sizeAt 1 = .ok (.getfield 22, 3) := by decide +kernel
theorem dX4_sizeAt_4 : decode cX4_sizeAt 4 = .ok (.iload_n 2, 1) := by decide +kernel
theorem dX4_sizeAt_5 : decode cX4_sizeAt 5 = .ok (.bipush 8, 2) := by decide +kernel
theorem dX4_sizeAt_7 : decode cX4_sizeAt 7 = .ok (.idiv, 1) := by decide +kernel
theorem dX4_sizeAt_8 : decode cX4_sizeAt 8 = .ok (.iconst 2, 1) := by decide +kernel
theorem dX4_sizeAt_9 : decode cX4_sizeAt 9 = .ok (.imul, 1) := by decide +kernel
theorem dX4_sizeAt_10 : decode cX4_sizeAt 10 = .ok (.iload_n 1, 1) := by decide +kernel
theorem dX4_sizeAt_11 : decode cX4_sizeAt 11 = .ok (.bipush 8, 2) := by decide +kernel
theorem dX4_sizeAt_13 : decode cX4_sizeAt 13 = .ok (.idiv, 1) := by decide +kernel
theorem dX4_sizeAt_14 : decode cX4_sizeAt 14 = .ok (.iadd, 1) := by decide +kernel
theorem dX4_sizeAt_15 : decode cX4_sizeAt 15 = .ok (.iaload, 1) := by decide +kernel
theorem dX4_sizeAt_16 : decode cX4_sizeAt 16 = .ok (.iconst 4, 1) := by decide +kernel
theorem dX4_sizeAt_17 : decode cX4_sizeAt 17 = .ok (.if_icmp .ne 7, 3) := by decide +kernel
theorem dX4_sizeAt_20 : decode cX4_sizeAt 20 = .ok (.iconst 4, 1) := by decide +kernel
theorem dX4_sizeAt_21 : decode cX4_sizeAt 21 = .ok (.goto 5, 3) := by decide +kernel
theorem dX4_sizeAt_24 : decode cX4_sizeAt 24 = .ok (.bipush 8, 2) := by decide +kernel
theorem dX4_sizeAt_26 : decode cX4_sizeAt 26 = .ok (.ireturn, 1) := by decide +kernel
theorem dX4_setSizeAt_0 : decode cX4_setSizeAt 0 = .ok (.aload_n 0, 1) := by decide +kernel
theorem dX4_setSizeAt_1 : decode cX4_setSizeAt 1 = .ok (.getfield 22, 3) := by decide +kernel
theorem dX4_setSizeAt_4 : decode cX4_setSizeAt 4 = .ok (.iload_n 2, 1) := by decide +kernel
theorem dX4_setSizeAt_5 : decode cX4_setSizeAt 5 = .ok (.bipush 8, 2) := by decide +kernel
theorem dX4_setSizeAt_7 : decode cX4_setSizeAt 7 = .ok (.idiv, 1) := by decide +kernel
theorem dX4_setSizeAt_8 : decode cX4_setSizeAt 8 = .ok (.iconst 2, 1) := by decide +kernel
theorem dX4_setSizeAt_9 : decode cX4_setSizeAt 9 = .ok (.imul, 1) := by decide +kernel
theorem dX4_setSizeAt_10 : decode cX4_setSizeAt 10 = .ok (.iload_n 1, 1) := by decide +kernel
theorem dX4_setSizeAt_11 : decode cX4_setSizeAt 11 = .ok (.bipush 8, 2) := by decide +kernel
theorem dX4_setSizeAt_13 : decode cX4_setSizeAt 13 = .ok (.idiv, 1) := by decide +kernel
theorem dX4_setSizeAt_14 : decode cX4_setSizeAt 14 = .ok (.iadd, 1) := by decide +kernel
theorem dX4_setSizeAt_15 : decode cX4_setSizeAt 15 = .ok (.iload_n 3, 1) := by decide +kernel
theorem dX4_setSizeAt_16 : decode cX4_setSizeAt 16 = .ok (.iastore, 1) := by decide +kernel
theorem dX4_setSizeAt_17 : decode cX4_setSizeAt 17 = .ok (.return_, 1) := by decide +kernel
theorem dX4_firstCell_0 : decode cX4_firstCell 0 = .ok (.aload_n 0, 1) := by decide +kernel
theorem dX4_firstCell_1 : decode cX4_firstCell 1 = .ok (.iload_n 1, 1) := by decide +kernel
theorem dX4_firstCell_2 : decode cX4_firstCell 2 = .ok (.iload_n 2, 1) := by decide +kernel
theorem dX4_firstCell_3 : decode cX4_firstCell 3 = .ok (.invokevirtual 51, 3) := by decide +kernel
theorem dX4_firstCell_6 : decode cX4_firstCell 6 = .ok (.iconst 4, 1) := by decide +kernel
theorem dX4_firstCell_7 : decode cX4_firstCell 7 = .ok (.idiv, 1) := by decide +kernel
theorem dX4_firstCell_8 : decode cX4_firstCell 8 = .ok (.istore_n 3, 1) := by decide +kernel
theorem dX4_firstCell_9 : decode cX4_firstCell 9 = .ok (.iload_n 2, 1) := by decide +kernel
theorem dX4_firstCell_10 : decode cX4_firstCell 10 = .ok (.iconst 4, 1) := by decide +kernel
theorem dX4_firstCell_11 : decode cX4_firstCell 11 = .ok (.idiv, 1) := by decide +kernel
theorem dX4_firstCell_12 : decode cX4_firstCell 12 = .ok (.istore 4, 2) := by decide +kernel
theorem dX4_firstCell_14 : decode cX4_firstCell 14 = .ok (.iload_n 1, 1) := by decide +kernel
theorem dX4_firstCell_15 : decode cX4_firstCell 15 = .ok (.iconst 4, 1) := by decide +kernel
theorem dX4_firstCell_16 : decode cX4_firstCell 16 = .ok (.idiv, 1) := by decide +kernel
theorem dX4_firstCell_17 : decode cX4_firstCell 17 = .ok (.istore 5, 2) := by decide +kernel
theorem dX4_firstCell_19 : decode cX4_firstCell 19 = .ok (.iload 4, 2) := by decide +kernel
theorem dX4_firstCell_21 : decode cX4_firstCell 21 = .ok (.iload 4, 2) := by decide +kernel
theorem dX4_firstCell_23 : decode cX4_firstCell 23 = .ok (.iload_n 3, 1) := by decide +kernel
theorem dX4_firstCell_24 : decode cX4_firstCell 24 = .ok (.irem, 1) := by decide +kernel
theorem dX4_firstCell_25 : decode cX4_firstCell 25 = .ok (.isub, 1) := by decide +kernel
theorem dX4_firstCell_26 : decode cX4_firstCell 26 = .ok (.iconst 4, 1) := by decide +kernel
theorem dX4_firstCell_27 : decode cX4_firstCell 27 = .ok (.imul, 1) := by decide +kernel
theorem dX4_firstCell_28 : decode cX4_firstCell 28 = .ok (.iload 5, 2) := by decide +kernel
theorem dX4_firstCell_30 : decode cX4_firstCell 30 = .ok (.iadd, 1) := by decide +kernel
theorem dX4_firstCell_31 : decode cX4_firstCell 31 = .ok (.iload 5, 2) := by decide +kernel
theorem dX4_firstCell_33 : decode cX4_firstCell 33 = .ok (.iload_n 3, 1) := by decide +kernel
theorem dX4_firstCell_34 : decode cX4_firstCell 34 = .ok (.irem, 1) := by decide +kernel
theorem dX4_firstCell_35 : decode cX4_firstCell 35 = .ok (.isub, 1) := by decide +kernel
theorem dX4_firstCell_36 : decode cX4_firstCell 36 = .ok (.ireturn, 1) := by decide +kernel
theorem dX4_makeTile_0 : decode cX4_makeTile 0 = .ok (.aload_n 0, 1) := by decide +kernel
theorem dX4_makeTile_1 : decode cX4_makeTile 1 = .ok (.aload_n 1, 1) := by decide +kernel
theorem dX4_makeTile_2 : decode cX4_makeTile 2 = .ok (.iload_n 2, 1) := by decide +kernel
theorem dX4_makeTile_3 : decode cX4_makeTile 3 = .ok (.iload_n 3, 1) := by decide +kernel
theorem dX4_makeTile_4 : decode cX4_makeTile 4 = .ok (.iconst 1, 1) := by decide +kernel
theorem dX4_makeTile_5 : decode cX4_makeTile 5 = .ok (.invokevirtual 55, 3) := by decide +kernel
theorem dX4_makeTile_8 : decode cX4_makeTile 8 = .ok (.istore 4, 2) := by decide +kernel
theorem dX4_makeTile_10 : decode cX4_makeTile 10 = .ok (.aload_n 0, 1) := by decide +kernel
theorem dX4_makeTile_11 : decode cX4_makeTile 11 = .ok (.aload_n 1, 1) := by decide +kernel
theorem dX4_makeTile_12 : decode cX4_makeTile 12 = .ok (.iload_n 2, 1) := by decide +kernel
theorem dX4_makeTile_13 : decode cX4_makeTile 13 = .ok (.iload_n 3, 1) := by decide +kernel
theorem dX4_makeTile_14 : decode cX4_makeTile 14 = .ok (.iconst 0, 1) := by decide +kernel
theorem dX4_makeTile_15 : decode cX4_makeTile 15 = .ok (.invokevirtual 55, 3) := by decide +kernel
theorem dX4_makeTile_18 : decode cX4_makeTile 18 = .ok (.istore 5, 2) := by decide +kernel
theorem dX4_makeTile_20 : decode cX4_makeTile 20 = .ok (.iload 4, 2) := by decide +kernel
theorem dX4_makeTile_22 : decode cX4_makeTile 22 = .ok (.iload 5, 2) := by decide +kernel
theorem dX4_makeTile_24 : decode cX4_makeTile 24 = .ok (.if_icmp .ge 25, 3) := by decide +kernel
theorem dX4_makeTile_27 : decode cX4_makeTile 27 = .ok (.aload_n 0, 1) := by decide +kernel
theorem dX4_makeTile_28 : decode cX4_makeTile 28 = .ok (.aload_n 1, 1) := by decide +kernel
theorem dX4_makeTile_29 : decode cX4_makeTile 29 = .ok (.iload_n 2, 1) := by decide +kernel
theorem dX4_makeTile_30 : decode cX4_makeTile 30 = .ok (.iload_n 3, 1) := by decide +kernel
theorem dX4_makeTile_31 : decode cX4_makeTile 31 = .ok (.iconst 1, 1) := by decide +kernel
theorem dX4_makeTile_32 : decode cX4_makeTile 32 = .ok (.invokevirtual 55, 3) := by decide +kernel
theorem dX4_makeTile_35 : decode cX4_makeTile 35 = .ok (.pop, 1) := by decide +kernel
theorem dX4_makeTile_36 : decode cX4_makeTile 36 = .ok (.aload_n 0, 1) := by decide +kernel
theorem dX4_makeTile_37 : decode cX4_makeTile 37 = .ok (.dup, 1) := by decide +kernel
theorem dX4_makeTile_38 : decode cX4_makeTile 38 = .ok (.getfield 15, 3) := by decide +kernel
theorem dX4_makeTile_41 : decode cX4_makeTile 41 = .ok (.iconst 4, 1) := by decide +kernel
theorem dX4_makeTile_42 : decode cX4_makeTile 42 = .ok (.iadd, 1) := by decide +kernel
theorem dX4_makeTile_43 : decode cX4_makeTile 43 = .ok (.putfield 15, 3) := by decide +kernel
theorem dX4_makeTile_46 : decode cX4_makeTile 46 = .ok (.goto 13, 3) := by decide +kernel
theorem dX4_makeTile_49 : decode cX4_makeTile 49 = .ok (.aload_n 0, 1) := by decide +kernel
theorem dX4_makeTile_50 : decode cX4_makeTile 50 = .ok (.dup, 1) := by decide +kernel
theorem dX4_makeTile_51 : decode cX4_makeTile 51 = .ok (.getfield 15, 3) := by decide +kernel
theorem dX4_makeTile_54 : decode cX4_makeTile 54 = .ok (.iconst 1, 1) := by decide +kernel
theorem dX4_makeTile_55 : decode cX4_makeTile 55 = .ok (.iadd, 1) := by decide +kernel
theorem dX4_makeTile_56 : decode cX4_makeTile 56 = .ok (.putfield 15, 3) := by decide +kernel
theorem dX4_makeTile_59 : decode cX4_makeTile 59 = .ok (.return_, 1) := by decide +kernel
theorem dX4_makeBlocks_0 : decode cX4_makeBlocks 0 = .ok (.iload 4, 2) := by decide +kernel
theorem dX4_makeBlocks_2 : decode cX4_makeBlocks 2 = .ok (.ifCond .eq 7, 3) := by decide +kernel
theorem dX4_makeBlocks_5 : decode cX4_makeBlocks 5 = .ok (.iconst 4, 1) := by decide +kernel
theorem dX4_makeBlocks_6 : decode cX4_makeBlocks 6 = .ok (.goto 5, 3) := by decide +kernel
theorem dX4_makeBlocks_9 : decode cX4_makeBlocks 9 = .ok (.bipush 8, 2) := by decide +kernel
theorem dX4_makeBlocks_11 : decode cX4_makeBlocks 11 = .ok (.istore 5, 2) := by decide +kernel
theorem dX4_makeBlocks_13 : decode cX4_makeBlocks 13 = .ok (.iconst 0, 1) := by decide +kernel
theorem dX4_makeBlocks_14 : decode cX4_makeBlocks 14 = .ok (.istore 6, 2) := by decide +kernel
theorem dX4_makeBlocks_16 : decode cX4_makeBlocks 16 = .ok (.aload_n 0, 1) := by decide +kernel
theorem dX4_makeBlocks_17 : decode cX4_makeBlocks 17 = .ok (.iload_n 2, 1) := by decide +kernel
theorem dX4_makeBlocks_18 : decode cX4_makeBlocks 18 = .ok (.iload_n 3, 1) := by decide +kernel
theorem dX4_makeBlocks_19 : decode cX4_makeBlocks 19 = .ok (.iload 5, 2) := by decide +kernel
theorem dX4_makeBlocks_21 : decode cX4_makeBlocks 21 = .ok (.invokevirtual 59, 3) := by decide +kernel
theorem dX4_makeBlocks_24 : decode cX4_makeBlocks 24 = .ok (.iconst 0, 1) := by decide +kernel
theorem dX4_makeBlocks_25 : decode cX4_makeBlocks 25 = .ok (.istore 7, 2) := by decide +kernel
theorem dX4_makeBlocks_27 : decode cX4_makeBlocks 27 = .ok (.iload 7, 2) := by decide +kernel
theorem dX4_makeBlocks_29 : decode cX4_makeBlocks 29 = .ok (.bipush 8, 2) := by decide +kernel
theorem dX4_makeBlocks_31 : decode cX4_makeBlocks 31 = .ok (.if_icmp .ge 67, 3) := by decide +kernel
theorem dX4_makeBlocks_34 : decode cX4_makeBlocks 34 = .ok (.iconst 0, 1) := by decide +kernel
theorem dX4_makeBlocks_35 : decode cX4_makeBlocks 35 = .ok (.istore 8, 2) := by decide +kernel
theorem dX4_makeBlocks_37 : decode cX4_makeBlocks 37 = .ok (.iload 8, 2) := by decide +kernel
theorem dX4_makeBlocks_39 : decode cX4_makeBlocks 39 = .ok (.bipush 8, 2) := by decide +kernel
theorem dX4_makeBlocks_41 : decode cX4_makeBlocks 41 = .ok (.if_icmp .ge 47, 3) := by decide +kernel
theorem dX4_makeBlocks_44 : decode cX4_makeBlocks 44 = .ok (.iload 6, 2) := by decide +kernel
theorem dX4_makeBlocks_46 : decode cX4_makeBlocks 46 = .ok (.aload_n 0, 1) := by decide +kernel
theorem dX4_makeBlocks_47 : decode cX4_makeBlocks 47 = .ok (.aload_n 1, 1) := by decide +kernel
theorem dX4_makeBlocks_48 : decode cX4_makeBlocks 48 = .ok (.iload_n 2, 1) := by decide +kernel
theorem dX4_makeBlocks_49 : decode cX4_makeBlocks 49 = .ok (.iload 8, 2) := by decide +kernel
theorem dX4_makeBlocks_51 : decode cX4_makeBlocks 51 = .ok (.iadd, 1) := by decide +kernel
theorem dX4_makeBlocks_52 : decode cX4_makeBlocks 52 = .ok (.iload_n 3, 1) := by decide +kernel
theorem dX4_makeBlocks_53 : decode cX4_makeBlocks 53 = .ok (.iload 7, 2) := by decide +kernel
theorem dX4_makeBlocks_55 : decode cX4_makeBlocks 55 = .ok (.iadd, 1) := by decide +kernel
theorem dX4_makeBlocks_56 : decode cX4_makeBlocks 56 = .ok (.iload 5, 2) := by decide +kernel
theorem dX4_makeBlocks_58 : decode cX4_makeBlocks 58 = .ok (.invokevirtual 63, 3) := by decide +kernel
theorem dX4_makeBlocks_61 : decode cX4_makeBlocks 61 = .ok (.iadd, 1) := by decide +kernel
theorem dX4_makeBlocks_62 : decode cX4_makeBlocks 62 = .ok (.istore 6, 2) := by decide +kernel
theorem dX4_makeBlocks_64 : decode cX4_makeBlocks 64 = .ok (.aload_n 0, 1) := by decide +kernel
theorem dX4_makeBlocks_65 : decode cX4_makeBlocks 65 = .ok (.iload_n 2, 1) := by decide +kernel
theorem dX4_makeBlocks_66 : decode cX4_makeBlocks 66 = .ok (.iload 8, 2) := by decide +kernel
theorem dX4_makeBlocks_68 : decode cX4_makeBlocks 68 = .ok (.iadd, 1) := by decide +kernel
theorem dX4_makeBlocks_69 : decode cX4_makeBlocks 69 = .ok (.iload_n 3, 1) := by decide +kernel
theorem dX4_makeBlocks_70 : decode cX4_makeBlocks 70 = .ok (.iload 7, 2) := by decide +kernel
theorem dX4_makeBlocks_72 : decode cX4_makeBlocks 72 = .ok (.iadd, 1) := by decide +kernel
theorem dX4_makeBlocks_73 : decode cX4_makeBlocks 73 = .ok (.iload 5, 2) := by decide +kernel
theorem dX4_makeBlocks_75 : decode cX4_makeBlocks 75 = .ok (.invokevirtual 67, 3) := by decide +kernel
theorem dX4_makeBlocks_78 : decode cX4_makeBlocks 78 = .ok (.iload 8, 2) := by decide +kernel
theorem dX4_makeBlocks_80 : decode cX4_makeBlocks 80 = .ok (.iload 5, 2) := by decide +kernel
theorem dX4_makeBlocks_82 : decode cX4_makeBlocks 82 = .ok (.iadd, 1) := by decide +kernel
theorem dX4_makeBlocks_83 : decode cX4_makeBlocks 83 = .ok (.istore 8, 2) := by decide +kernel
theorem dX4_makeBlocks_85 : decode cX4_makeBlocks 85 = .ok (.goto (-48), 3) := by decide +kernel
theorem dX4_makeBlocks_88 : decode cX4_makeBlocks 88 = .ok (.iload 7, 2) := by decide +kernel
theorem dX4_makeBlocks_90 : decode cX4_makeBlocks 90 = .ok (.iload 5, 2) := by decide +kernel
theorem dX4_makeBlocks_92 : decode cX4_makeBlocks 92 = .ok (.iadd, 1) := by decide +kernel
theorem dX4_makeBlocks_93 : decode cX4_makeBlocks 93 = .ok (.istore 7, 2) := by decide +kernel
theorem dX4_makeBlocks_95 : decode cX4_makeBlocks 95 = .ok (.goto (-68), 3) := by decide +kernel
theorem dX4_makeBlocks_98 : decode cX4_makeBlocks 98 = .ok (.iload 6, 2) := by decide +kernel
theorem dX4_makeBlocks_100 : decode cX4_makeBlocks 100 = .ok (.ireturn, 1) := by decide +kernel
theorem dX4_fitBlock_0 : decode cX4_fitBlock 0 = .ok (.aload_n 0, 1) := by decide +kernel
theorem dX4_fitBlock_1 : decode cX4_fitBlock 1 = .ok (.getfield 40, 3) := by decide +kernel
theorem dX4_fitBlock_4 : decode cX4_fitBlock 4 = .ok (.aload_n 0, 1) := by decide +kernel
theorem dX4_fitBlock_5 : decode cX4_fitBlock 5 = .ok (.getfield 34, 3) := by decide +kernel
theorem dX4_fitBlock_8 : decode cX4_fitBlock 8 = .ok (.iload_n 2, 1) := by decide +kernel
theorem dX4_fitBlock_9 : decode cX4_fitBlock 9 = .ok (.iload_n 3, 1) := by decide +kernel
theorem dX4_fitBlock_10 : decode cX4_fitBlock 10 = .ok (.iload 4, 2) := by decide +kernel
theorem dX4_fitBlock_12 : decode cX4_fitBlock 12 = .ok (.invokevirtual 70, 3) := by decide +kernel
theorem dX4_fitBlock_15 : decode cX4_fitBlock 15 = .ok (.aload_n 0, 1) := by decide +kernel
theorem dX4_fitBlock_16 : decode cX4_fitBlock 16 = .ok (.getfield 40, 3) := by decide +kernel
theorem dX4_fitBlock_19 : decode cX4_fitBlock 19 = .ok (.aload_n 1, 1) := by decide +kernel
theorem dX4_fitBlock_20 : decode cX4_fitBlock 20 = .ok (.iload_n 2, 1) := by decide +kernel
theorem dX4_fitBlock_21 : decode cX4_fitBlock 21 = .ok (.iload_n 3, 1) := by decide +kernel
theorem dX4_fitBlock_22 : decode cX4_fitBlock 22 = .ok (.invokevirtual 74, 3) := by decide +kernel
theorem dX4_fitBlock_25 : decode cX4_fitBlock 25 = .ok (.istore 5, 2) := by decide +kernel
theorem dX4_fitBlock_27 : decode cX4_fitBlock 27 = .ok (.iconst 0, 1) := by decide +kernel
theorem dX4_fitBlock_28 : decode cX4_fitBlock 28 = .ok (.istore 6, 2) := by decide +kernel
theorem dX4_fitBlock_30 : decode cX4_fitBlock 30 = .ok (.iload 6, 2) := by decide +kernel
theorem dX4_fitBlock_32 : decode cX4_fitBlock 32 = .ok (.iload 4, 2) := by decide +kernel
theorem dX4_fitBlock_34 : decode cX4_fitBlock 34 = .ok (.if_icmp .ge 73, 3) := by decide +kernel
theorem dX4_fitBlock_37 : decode cX4_fitBlock 37 = .ok (.iconst 0, 1) := by decide +kernel
theorem dX4_fitBlock_38 : decode cX4_fitBlock 38 = .ok (.istore 7, 2) := by decide +kernel
theorem dX4_fitBlock_40 : decode cX4_fitBlock 40 = .ok (.iload 7, 2) := by decide +kernel
theorem dX4_fitBlock_42 : decode cX4_fitBlock 42 = .ok (.iload 4, 2) := by decide +kernel
theorem dX4_fitBlock_44 : decode cX4_fitBlock 44 = .ok (.if_icmp .ge 57, 3) := by decide +kernel
theorem dX4_fitBlock_47 : decode cX4_fitBlock 47 = .ok (.aload_n 1, 1) := by decide +kernel
theorem dX4_fitBlock_48 : decode cX4_fitBlock 48 = .ok (.iload_n 3, 1) := by decide +kernel
theorem dX4_fitBlock_49 : decode cX4_fitBlock 49 = .ok (.iload 6, 2) := by decide +kernel
theorem dX4_fitBlock_51 : decode cX4_fitBlock 51 = .ok (.iadd, 1) := by decide +kernel
theorem dX4_fitBlock_52 : decode cX4_fitBlock 52 = .ok (.bipush 16, 2) := by decide +kernel
theorem dX4_fitBlock_54 : decode cX4_fitBlock 54 = .ok (.imul, 1) := by decide +kernel
theorem dX4_fitBlock_55 : decode cX4_fitBlock 55 = .ok (.iload_n 2, 1) := by decide +kernel
theorem dX4_fitBlock_56 : decode cX4_fitBlock 56 = .ok (.iadd, 1) := by decide +kernel
theorem dX4_fitBlock_57 : decode cX4_fitBlock 57 = .ok (.iload 7, 2) := by decide +kernel
theorem dX4_fitBlock_59 : decode cX4_fitBlock 59 = .ok (.iadd, 1) := by decide +kernel
theorem dX4_fitBlock_60 : decode cX4_fitBlock 60 = .ok (.iaload, 1) := by decide +kernel
theorem dX4_fitBlock_61 : decode cX4_fitBlock 61 = .ok (.istore 8, 2) := by decide +kernel
theorem dX4_fitBlock_63 : decode cX4_fitBlock 63 = .ok (.aload_n 0, 1) := by decide +kernel
theorem dX4_fitBlock_64 : decode cX4_fitBlock 64 = .ok (.getfield 47, 3) := by decide +kernel
theorem dX4_fitBlock_67 : decode cX4_fitBlock 67 = .ok (.getfield 78, 3) := by decide +kernel
theorem dX4_fitBlock_70 : decode cX4_fitBlock 70 = .ok (.iload 6, 2) := by decide +kernel
theorem dX4_fitBlock_72 : decode cX4_fitBlock 72 = .ok (.bipush 8, 2) := by decide +kernel
theorem dX4_fitBlock_74 : decode cX4_fitBlock 74 = .ok (.imul, 1) := by decide +kernel
theorem dX4_fitBlock_75 : decode cX4_fitBlock 75 = .ok (.iload 7, 2) := by decide +kernel
theorem dX4_fitBlock_77 : decode cX4_fitBlock 77 = .ok (.iadd, 1) := by decide +kernel
theorem dX4_fitBlock_78 : decode cX4_fitBlock 78 = .ok (.iload 8, 2) := by decide +kernel
theorem dX4_fitBlock_80 : decode cX4_fitBlock 80 = .ok (.aload_n 0, 1) := by decide +kernel
theorem dX4_fitBlock_81 : decode cX4_fitBlock 81 = .ok (.getfield 40, 3) := by decide +kernel
theorem dX4_fitBlock_84 : decode cX4_fitBlock 84 = .ok (.iload 5, 2) := by decide +kernel
theorem dX4_fitBlock_86 : decode cX4_fitBlock 86 = .ok (.iload 6, 2) := by decide +kernel
theorem dX4_fitBlock_88 : decode cX4_fitBlock 88 = .ok (.iload 7, 2) := by decide +kernel
theorem dX4_fitBlock_90 : decode cX4_fitBlock 90 = .ok (.invokevirtual 81, 3) := by decide +kernel
theorem dX4_fitBlock_93 : decode cX4_fitBlock 93 = .ok (.isub, 1) := by decide +kernel
theorem dX4_fitBlock_94 : decode cX4_fitBlock 94 = .ok (.iastore, 1) := by decide +kernel
theorem dX4_fitBlock_95 : decode cX4_fitBlock 95 = .ok (.iinc 7 1, 3) := by decide +kernel
theorem dX4_fitBlock_98 : decode cX4_fitBlock 98 = .ok (.goto (-58), 3) := by decide +kernel
theorem dX4_fitBlock_101 : decode cX4_fitBlock 101 = .ok (.iinc 6 1, 3) := by decide +kernel
theorem dX4_fitBlock_104 : decode cX4_fitBlock 104 = .ok (.goto (-74), 3) := by decide +kernel
theorem dX4_fitBlock_107 : decode cX4_fitBlock 107 = .ok (.aload_n 0, 1) := by decide +kernel
theorem dX4_fitBlock_108 : decode cX4_fitBlock 108 = .ok (.getfield 47, 3) := by decide +kernel
theorem dX4_fitBlock_111 : decode cX4_fitBlock 111 = .ok (.iload 4, 2) := by decide +kernel
theorem dX4_fitBlock_113 : decode cX4_fitBlock 113 = .ok (.invokevirtual 85, 3) := by decide +kernel
theorem dX4_fitBlock_116 : decode cX4_fitBlock 116 = .ok (.iconst 1, 1) := by decide +kernel
theorem dX4_fitBlock_117 : decode cX4_fitBlock 117 = .ok (.aload_n 0, 1) := by decide +kernel
theorem dX4_fitBlock_118 : decode cX4_fitBlock 118 = .ok (.getfield 9, 3) := by decide +kernel
theorem dX4_fitBlock_121 : decode cX4_fitBlock 121 = .ok (.invokestatic 89, 3) := by decide +kernel
theorem dX4_fitBlock_124 : decode cX4_fitBlock 124 = .ok (.istore 6, 2) := by decide +kernel
theorem dX4_fitBlock_126 : decode cX4_fitBlock 126 = .ok (.iconst 4, 1) := by decide +kernel
theorem dX4_fitBlock_127 : decode cX4_fitBlock 127 = .ok (.istore 7, 2) := by decide +kernel
theorem dX4_fitBlock_129 : decode cX4_fitBlock 129 = .ok (.iconst 0, 1) := by decide +kernel
theorem dX4_fitBlock_130 : decode cX4_fitBlock 130 = .ok (.istore 8, 2) := by decide +kernel
theorem dX4_fitBlock_132 : decode cX4_fitBlock 132 = .ok (.iload 8, 2) := by decide +kernel
theorem dX4_fitBlock_134 : decode cX4_fitBlock 134 = .ok (.iload 4, 2) := by decide +kernel
theorem dX4_fitBlock_136 : decode cX4_fitBlock 136 = .ok (.if_icmp .ge 88, 3) := by decide +kernel
theorem dX4_fitBlock_139 : decode cX4_fitBlock 139 = .ok (.iconst 0, 1) := by decide +kernel
theorem dX4_fitBlock_140 : decode cX4_fitBlock 140 = .ok (.istore 9, 2) := by decide +kernel
theorem dX4_fitBlock_142 : decode cX4_fitBlock 142 = .ok (.iload 9, 2) := by decide +kernel
theorem dX4_fitBlock_144 : decode cX4_fitBlock 144 = .ok (.iload 4, 2) := by decide +kernel
theorem dX4_fitBlock_146 : decode cX4_fitBlock 146 = .ok (.if_icmp .ge 72, 3) := by decide +kernel
theorem dX4_fitBlock_149 : decode cX4_fitBlock 149 = .ok (.aload_n 0, 1) := by decide +kernel
theorem dX4_fitBlock_150 : decode cX4_fitBlock 150 = .ok (.getfield 47, 3) := by decide +kernel
theorem dX4_fitBlock_153 : decode cX4_fitBlock 153 = .ok (.getfield 78, 3) := by decide +kernel
theorem dX4_fitBlock_156 : decode cX4_fitBlock 156 = .ok (.iload 8, 2) := by decide +kernel
theorem dX4_fitBlock_158 : decode cX4_fitBlock 158 = .ok (.bipush 8, 2) := by decide +kernel
theorem dX4_fitBlock_160 : decode cX4_fitBlock 160 = .ok (.imul, 1) := by decide +kernel
theorem dX4_fitBlock_161 : decode cX4_fitBlock 161 = .ok (.iload 9, 2) := by decide +kernel
theorem dX4_fitBlock_163 : decode cX4_fitBlock 163 = .ok (.iadd, 1) := by decide +kernel
theorem dX4_fitBlock_164 : decode cX4_fitBlock 164 = .ok (.iaload, 1) := by decide +kernel
theorem dX4_fitBlock_165 : decode cX4_fitBlock 165 = .ok (.iload 6, 2) := by decide +kernel
theorem dX4_fitBlock_167 : decode cX4_fitBlock 167 = .ok (.idiv, 1) := by decide +kernel
theorem dX4_fitBlock_168 : decode cX4_fitBlock 168 = .ok (.istore 10, 2) := by decide +kernel
theorem dX4_fitBlock_170 : decode cX4_fitBlock 170 = .ok (.aload_n 0, 1) := by decide +kernel
theorem dX4_fitBlock_171 : decode cX4_fitBlock 171 = .ok (.getfield 31, 3) := by decide +kernel
theorem dX4_fitBlock_174 : decode cX4_fitBlock 174 = .ok (.iload_n 3, 1) := by decide +kernel
theorem dX4_fitBlock_175 : decode cX4_fitBlock 175 = .ok (.iload 8, 2) := by decide +kernel
theorem dX4_fitBlock_177 : decode cX4_fitBlock 177 = .ok (.iadd, 1) := by decide +kernel
theorem dX4_fitBlock_178 : decode cX4_fitBlock 178 = .ok (.bipush 16, 2) := by decide +kernel
theorem dX4_fitBlock_180 : decode cX4_fitBlock 180 = .ok (.imul, 1) := by decide +kernel
theorem dX4_fitBlock_181 : decode cX4_fitBlock 181 = .ok (.iload_n 2, 1) := by decide +kernel
theorem dX4_fitBlock_182 : decode cX4_fitBlock 182 = .ok (.iadd, 1) := by decide +kernel
theorem dX4_fitBlock_183 : decode cX4_fitBlock 183 = .ok (.iload 9, 2) := by decide +kernel
theorem dX4_fitBlock_185 : decode cX4_fitBlock 185 = .ok (.iadd, 1) := by decide +kernel
theorem dX4_fitBlock_186 : decode cX4_fitBlock 186 = .ok (.iload 10, 2) := by decide +kernel
theorem dX4_fitBlock_188 : decode cX4_fitBlock 188 = .ok (.iastore, 1) := by decide +kernel
theorem dX4_fitBlock_189 : decode cX4_fitBlock 189 = .ok (.iload 7, 2) := by decide +kernel
theorem dX4_fitBlock_191 : decode cX4_fitBlock 191 = .ok (.iconst 2, 1) := by decide +kernel
theorem dX4_fitBlock_192 : decode cX4_fitBlock 192 = .ok (.iload 10, 2) := by decide +kernel
theorem dX4_fitBlock_194 : decode cX4_fitBlock 194 = .ok (.ifCond .ge 9, 3) := by decide +kernel
theorem dX4_fitBlock_197 : decode cX4_fitBlock 197 = .ok (.iload 10, 2) := by decide +kernel
theorem dX4_fitBlock_199 : decode cX4_fitBlock 199 = .ok (.ineg, 1) := by decide +kernel
theorem dX4_fitBlock_200 : decode cX4_fitBlock 200 = .ok (.goto 5, 3) := by decide +kernel
theorem dX4_fitBlock_203 : decode cX4_fitBlock 203 = .ok (.iload 10, 2) := by decide +kernel
theorem dX4_fitBlock_205 : decode cX4_fitBlock 205 = .ok (.invokestatic 94, 3) := by decide +kernel
theorem dX4_fitBlock_208 : decode cX4_fitBlock 208 = .ok (.imul, 1) := by decide +kernel
theorem dX4_fitBlock_209 : decode cX4_fitBlock 209 = .ok (.iadd, 1) := by decide +kernel
theorem dX4_fitBlock_210 : decode cX4_fitBlock 210 = .ok (.istore 7, 2) := by decide +kernel
theorem dX4_fitBlock_212 : decode cX4_fitBlock 212 = .ok (.iinc 9 1, 3) := by decide +kernel
theorem dX4_fitBlock_215 : decode cX4_fitBlock 215 = .ok (.goto (-73), 3) := by decide +kernel
theorem dX4_fitBlock_218 : decode cX4_fitBlock 218 = .ok (.iinc 8 1, 3) := by decide +kernel
theorem dX4_fitBlock_221 : decode cX4_fitBlock 221 = .ok (.goto (-89), 3) := by decide +kernel
theorem dX4_fitBlock_224 : decode cX4_fitBlock 224 = .ok (.aload_n 0, 1) := by decide +kernel
theorem dX4_fitBlock_225 : decode cX4_fitBlock 225 = .ok (.getfield 25, 3) := by decide +kernel
theorem dX4_fitBlock_228 : decode cX4_fitBlock 228 = .ok (.aload_n 0, 1) := by decide +kernel
theorem dX4_fitBlock_229 : decode cX4_fitBlock 229 = .ok (.iload_n 2, 1) := by decide +kernel
theorem dX4_fitBlock_230 : decode cX4_fitBlock 230 = .ok (.iload_n 3, 1) := by decide +kernel
theorem dX4_fitBlock_231 : decode cX4_fitBlock 231 = .ok (.invokevirtual 98, 3) := by decide +kernel
theorem dX4_fitBlock_234 : decode cX4_fitBlock 234 = .ok (.iload 5, 2) := by decide +kernel
theorem dX4_fitBlock_236 : decode cX4_fitBlock 236 = .ok (.iastore, 1) := by decide +kernel
theorem dX4_fitBlock_237 : decode cX4_fitBlock 237 = .ok (.aload_n 0, 1) := by decide +kernel
theorem dX4_fitBlock_238 : decode cX4_fitBlock 238 = .ok (.getfield 28, 3) := by decide +kernel
theorem dX4_fitBlock_241 : decode cX4_fitBlock 241 = .ok (.aload_n 0, 1) := by decide +kernel
theorem dX4_fitBlock_242 : decode cX4_fitBlock 242 = .ok (.iload_n 2, 1) := by decide +kernel
theorem dX4_fitBlock_243 : decode cX4_fitBlock 243 = .ok (.iload_n 3, 1) := by decide +kernel
theorem dX4_fitBlock_244 : decode cX4_fitBlock 244 = .ok (.invokevirtual 98, 3) := by decide +kernel
theorem dX4_fitBlock_247 : decode cX4_fitBlock 247 = .ok (.iload 7, 2) := by decide +kernel
theorem dX4_fitBlock_249 : decode cX4_fitBlock 249 = .ok (.iastore, 1) := by decide +kernel
theorem dX4_fitBlock_250 : decode cX4_fitBlock 250 = .ok (.iload 7, 2) := by decide +kernel
theorem dX4_fitBlock_252 : decode cX4_fitBlock 252 = .ok (.ireturn, 1) := by decide +kernel
theorem dX4_restoreBlock_0 : decode cX4_restoreBlock 0 = .ok (.aload_n 0, 1) := by decide +kernel
theorem dX4_restoreBlock_1 : decode cX4_restoreBlock 1 = .ok (.getfield 25, 3) := by decide +kernel
theorem dX4_restoreBlock_4 : decode cX4_restoreBlock 4 = .ok (.aload_n 0, 1) := by decide +kernel
theorem dX4_restoreBlock_5 : decode cX4_restoreBlock 5 = .ok (.iload_n 1, 1) := by decide +kernel
theorem dX4_restoreBlock_6 : decode cX4_restoreBlock 6 = .ok (.iload_n 2, 1) := by decide +kernel
theorem dX4_restoreBlock_7 : decode cX4_restoreBlock 7 = .ok (.invokevirtual 98, 3) := by decide +kernel
theorem dX4_restoreBlock_10 : decode cX4_restoreBlock 10 = .ok (.iaload, 1) := by decide +kernel
theorem dX4_restoreBlock_11 : decode cX4_restoreBlock 11 = .ok (.istore 4, 2) := by decide +kernel
theorem dX4_restoreBlock_13 : decode cX4_restoreBlock 13 = .ok (.aload_n 0, 1) := by decide +kernel
theorem dX4_restoreBlock_14 : decode cX4_restoreBlock 14 = .ok (.getfield 40, 3) := by decide +kernel
theorem dX4_restoreBlock_17 : decode cX4_restoreBlock 17 = .ok (.aload_n 0, 1) := by decide +kernel
theorem dX4_restoreBlock_18 : decode cX4_restoreBlock 18 = .ok (.getfield 34, 3) := by decide +kernel
theorem dX4_restoreBlock_21 : decode cX4_restoreBlock 21 = .ok (.iload_n 1, 1) := by decide +kernel
theorem dX4_restoreBlock_22 : decode cX4_restoreBlock 22 = .ok (.iload_n 2, 1) := by decide +kernel
theorem dX4_restoreBlock_23 : decode cX4_restoreBlock 23 = .ok (.iload_n 3, 1) := by decide +kernel
theorem dX4_restoreBlock_24 : decode cX4_restoreBlock 24 = .ok (.invokevirtual 70, 3) := by decide +kernel
theorem dX4_restoreBlock_27 : decode cX4_restoreBlock 27 = .ok (.iconst 0, 1) := by decide +kernel
theorem dX4_restoreBlock_28 : decode cX4_restoreBlock 28 = .ok (.istore 5, 2) := by decide +kernel
theorem dX4_restoreBlock_30 : decode cX4_restoreBlock 30 = .ok (.iload 5, 2) := by decide +kernel
theorem dX4_restoreBlock_32 : decode cX4_restoreBlock 32 = .ok (.iload_n 3, 1) := by decide +kernel
theorem dX4_restoreBlock_33 : decode cX4_restoreBlock 33 = .ok (.if_icmp .ge 62, 3) := by decide +kernel
theorem dX4_restoreBlock_36 : decode cX4_restoreBlock 36 = .ok (.iconst 0, 1) := by decide +kernel
theorem dX4_restoreBlock_37 : decode cX4_restoreBlock 37 = .ok (.istore 6, 2) := by decide +kernel
theorem dX4_restoreBlock_39 : decode cX4_restoreBlock 39 = .ok (.iload 6, 2) := by decide +kernel
theorem dX4_restoreBlock_41 : decode cX4_restoreBlock 41 = .ok (.iload_n 3, 1) := by decide +kernel
theorem dX4_restoreBlock_42 : decode cX4_restoreBlock 42 = .ok (.if_icmp .ge 47, 3) := by decide +kernel
theorem dX4_restoreBlock_45 : decode cX4_restoreBlock 45 = .ok (.aload_n 0, 1) := by decide +kernel
theorem dX4_restoreBlock_46 : decode cX4_restoreBlock 46 = .ok (.getfield 47, 3) := by decide +kernel
theorem dX4_restoreBlock_49 : decode cX4_restoreBlock 49 = .ok (.getfield 78, 3) := by decide +kernel
theorem dX4_restoreBlock_52 : decode cX4_restoreBlock 52 = .ok (.iload 5, 2) := by decide +kernel
theorem dX4_restoreBlock_54 : decode cX4_restoreBlock 54 = .ok (.bipush 8, 2) := by decide +kernel
theorem dX4_restoreBlock_56 : decode cX4_restoreBlock 56 = .ok (.imul, 1) := by decide +kernel
theorem dX4_restoreBlock_57 : decode cX4_restoreBlock 57 = .ok (.iload 6, 2) := by decide +kernel
theorem dX4_restoreBlock_59 : decode cX4_restoreBlock 59 = .ok (.iadd, 1) := by decide +kernel
theorem dX4_restoreBlock_60 : decode cX4_restoreBlock 60 = .ok (.aload_n 0, 1) := by decide +kernel
theorem dX4_restoreBlock_61 : decode cX4_restoreBlock 61 = .ok (.getfield 31, 3) := by decide +kernel
theorem dX4_restoreBlock_64 : decode cX4_restoreBlock 64 = .ok (.iload_n 2, 1) := by decide +kernel
theorem dX4_restoreBlock_65 : decode cX4_restoreBlock 65 = .ok (.iload 5, 2) := by decide +kernel
theorem dX4_restoreBlock_67 : decode cX4_restoreBlock 67 = .ok (.iadd, 1) := by decide +kernel
theorem dX4_restoreBlock_68 : decode cX4_restoreBlock 68 = .ok (.bipush 16, 2) := by decide +kernel
theorem dX4_restoreBlock_70 : decode cX4_restoreBlock 70 = .ok (.imul, 1) := by decide +kernel
theorem dX4_restoreBlock_71 : decode cX4_restoreBlock 71 = .ok (.iload_n 1, 1) := by decide +kernel
theorem dX4_restoreBlock_72 : decode cX4_restoreBlock 72 = .ok (.iadd, 1) := by decide +kernel
theorem dX4_restoreBlock_73 : decode cX4_restoreBlock 73 = .ok (.iload 6, 2) := by decide +kernel
theorem dX4_restoreBlock_75 : decode cX4_restoreBlock 75 = .ok (.iadd, 1) := by decide +kernel
theorem dX4_restoreBlock_76 : decode cX4_restoreBlock 76 = .ok (.iaload, 1) := by decide +kernel
theorem dX4_restoreBlock_77 : decode cX4_restoreBlock 77 = .ok (.aload_n 0, 1) := by decide +kernel
theorem dX4_restoreBlock_78 : decode cX4_restoreBlock 78 = .ok (.getfield 9, 3) := by decide +kernel
theorem dX4_restoreBlock_81 : decode cX4_restoreBlock 81 = .ok (.imul, 1) := by decide +kernel
theorem dX4_restoreBlock_82 : decode cX4_restoreBlock 82 = .ok (.iastore, 1) := by decide +kernel
theorem dX4_restoreBlock_83 : decode cX4_restoreBlock 83 = .ok (.iinc 6 1, 3) := by decide +kernel
theorem dX4_restoreBlock_86 : decode cX4_restoreBlock 86 = .ok (.goto (-47), 3) := by decide +kernel
theorem dX4_restoreBlock_89 : decode cX4_restoreBlock 89 = .ok (.iinc 5 1, 3) := by decide +kernel
theorem dX4_restoreBlock_92 : decode cX4_restoreBlock 92 = .ok (.goto (-62), 3) := by decide +kernel
theorem dX4_restoreBlock_95 : decode cX4_restoreBlock 95 = .ok (.aload_n 0, 1) := by decide +kernel
theorem dX4_restoreBlock_96 : decode cX4_restoreBlock 96 = .ok (.getfield 47, 3) := by decide +kernel
theorem dX4_restoreBlock_99 : decode cX4_restoreBlock 99 = .ok (.iload_n 3, 1) := by decide +kernel
theorem dX4_restoreBlock_100 : decode cX4_restoreBlock 100 = .ok (.invokevirtual 101, 3) := by decide +kernel
theorem dX4_restoreBlock_103 : decode cX4_restoreBlock 103 = .ok (.iconst 0, 1) := by decide +kernel
theorem dX4_restoreBlock_104 : decode cX4_restoreBlock 104 = .ok (.istore 5, 2) := by decide +kernel
theorem dX4_restoreBlock_106 : decode cX4_restoreBlock 106 = .ok (.iload 5, 2) := by decide +kernel
theorem dX4_restoreBlock_108 : decode cX4_restoreBlock 108 = .ok (.iload_n 3, 1) := by decide +kernel
theorem dX4_restoreBlock_109 : decode cX4_restoreBlock 109 = .ok (.if_icmp .ge 71, 3) := by decide +kernel
theorem dX4_restoreBlock_112 : decode cX4_restoreBlock 112 = .ok (.iconst 0, 1) := by decide +kernel
theorem dX4_restoreBlock_113 : decode cX4_restoreBlock 113 = .ok (.istore 6, 2) := by decide +kernel
theorem dX4_restoreBlock_115 : decode cX4_restoreBlock 115 = .ok (.iload 6, 2) := by decide +kernel
theorem dX4_restoreBlock_117 : decode cX4_restoreBlock 117 = .ok (.iload_n 3, 1) := by decide +kernel
theorem dX4_restoreBlock_118 : decode cX4_restoreBlock 118 = .ok (.if_icmp .ge 56, 3) := by decide +kernel
theorem dX4_restoreBlock_121 : decode cX4_restoreBlock 121 = .ok (.aload_n 0, 1) := by decide +kernel
theorem dX4_restoreBlock_122 : decode cX4_restoreBlock 122 = .ok (.getfield 34, 3) := by decide +kernel
theorem dX4_restoreBlock_125 : decode cX4_restoreBlock 125 = .ok (.iload_n 2, 1) := by decide +kernel
theorem dX4_restoreBlock_126 : decode cX4_restoreBlock 126 = .ok (.iload 5, 2) := by decide +kernel
theorem dX4_restoreBlock_128 : decode cX4_restoreBlock 128 = .ok (.iadd, 1) := by decide +kernel
theorem dX4_restoreBlock_129 : decode cX4_restoreBlock 129 = .ok (.bipush 16, 2) := by decide +kernel
theorem dX4_restoreBlock_131 : decode cX4_restoreBlock 131 = .ok (.imul, 1) := by decide +kernel
theorem dX4_restoreBlock_132 : decode cX4_restoreBlock 132 = .ok (.iload_n 1, 1) := by decide +kernel
theorem dX4_restoreBlock_133 : decode cX4_restoreBlock 133 = .ok (.iadd, 1) := by decide +kernel
theorem dX4_restoreBlock_134 : decode cX4_restoreBlock 134 = .ok (.iload 6, 2) := by decide +kernel
theorem dX4_restoreBlock_136 : decode cX4_restoreBlock 136 = .ok (.iadd, 1) := by decide +kernel
theorem dX4_restoreBlock_137 : decode cX4_restoreBlock 137 = .ok (.aload_n 0, 1) := by decide +kernel
theorem dX4_restoreBlock_138 : decode cX4_restoreBlock 138 = .ok (.getfield 47, 3) := by decide +kernel
theorem dX4_restoreBlock_141 : decode cX4_restoreBlock 141 = .ok (.getfield 78, 3) := by decide +kernel
theorem dX4_restoreBlock_144 : decode cX4_restoreBlock 144 = .ok (.iload 5, 2) := by decide +kernel
theorem dX4_restoreBlock_146 : decode cX4_restoreBlock 146 = .ok (.bipush 8, 2) := by decide +kernel
theorem dX4_restoreBlock_148 : decode cX4_restoreBlock 148 = .ok (.imul, 1) := by decide +kernel
theorem dX4_restoreBlock_149 : decode cX4_restoreBlock 149 = .ok (.iload 6, 2) := by decide +kernel
theorem dX4_restoreBlock_151 : decode cX4_restoreBlock 151 = .ok (.iadd, 1) := by decide +kernel
theorem dX4_restoreBlock_152 : decode cX4_restoreBlock 152 = .ok (.iaload, 1) := by decide +kernel
theorem dX4_restoreBlock_153 : decode cX4_restoreBlock 153 = .ok (.aload_n 0, 1) := by decide +kernel
theorem dX4_restoreBlock_154 : decode cX4_restoreBlock 154 = .ok (.getfield 40, 3) := by decide +kernel
theorem dX4_restoreBlock_157 : decode cX4_restoreBlock 157 = .ok (.iload 4, 2) := by decide +kernel
theorem dX4_restoreBlock_159 : decode cX4_restoreBlock 159 = .ok (.iload 5, 2) := by decide +kernel
theorem dX4_restoreBlock_161 : decode cX4_restoreBlock 161 = .ok (.iload 6, 2) := by decide +kernel
theorem dX4_restoreBlock_163 : decode cX4_restoreBlock 163 = .ok (.invokevirtual 81, 3) := by decide +kernel
theorem dX4_restoreBlock_166 : decode cX4_restoreBlock 166 = .ok (.iadd, 1) := by decide +kernel
theorem dX4_restoreBlock_167 : decode cX4_restoreBlock 167 = .ok (.iastore, 1) := by decide +kernel
theorem dX4_restoreBlock_168 : decode cX4_restoreBlock 168 = .ok (.iinc 6 1, 3) := by decide +kernel
theorem dX4_restoreBlock_171 : decode cX4_restoreBlock 171 = .ok (.goto (-56), 3) := by decide +kernel
theorem dX4_restoreBlock_174 : decode cX4_restoreBlock 174 = .ok (.iinc 5 1, 3) := by decide +kernel
theorem dX4_restoreBlock_177 : decode cX4_restoreBlock 177 = .ok (.goto (-71), 3) := by decide +kernel
theorem dX4_restoreBlock_180 : decode cX4_restoreBlock 180 = .ok (.return_, 1) := by decide +kernel
theorem dX4_restoreSlice_0 : decode cX4_restoreSlice 0 = .ok (.iload_n 1, 1) := by decide +kernel
theorem dX4_restoreSlice_1 : decode cX4_restoreSlice 1 = .ok (.bipush 8, 2) := by decide +kernel
theorem dX4_restoreSlice_3 : decode cX4_restoreSlice 3 = .ok (.imul, 1) := by decide +kernel
theorem dX4_restoreSlice_4 : decode cX4_restoreSlice 4 = .ok (.istore_n 3, 1) := by decide +kernel
theorem dX4_restoreSlice_5 : decode cX4_restoreSlice 5 = .ok (.iconst 0, 1) := by decide +kernel
theorem dX4_restoreSlice_6 : decode cX4_restoreSlice 6 = .ok (.istore 4, 2) := by decide +kernel
theorem dX4_restoreSlice_8 : decode cX4_restoreSlice 8 = .ok (.iload 4, 2) := by decide +kernel
theorem dX4_restoreSlice_10 : decode cX4_restoreSlice 10 = .ok (.iload_n 2, 1) := by decide +kernel
theorem dX4_restoreSlice_11 : decode cX4_restoreSlice 11 = .ok (.if_icmp .ge 80, 3) := by decide +kernel
theorem dX4_restoreSlice_14 : decode cX4_restoreSlice 14 = .ok (.iload 4, 2) := by decide +kernel
theorem dX4_restoreSlice_16 : decode cX4_restoreSlice 16 = .ok (.bipush 8, 2) := by decide +kernel
theorem dX4_restoreSlice_18 : decode cX4_restoreSlice 18 = .ok (.imul, 1) := by decide +kernel
theorem dX4_restoreSlice_19 : decode cX4_restoreSlice 19 = .ok (.istore 5, 2) := by decide +kernel
theorem dX4_restoreSlice_21 : decode cX4_restoreSlice 21 = .ok (.aload_n 0, 1) := by decide +kernel
theorem dX4_restoreSlice_22 : decode cX4_restoreSlice 22 = .ok (.iload 5, 2) := by decide +kernel
theorem dX4_restoreSlice_24 : decode cX4_restoreSlice 24 = .ok (.iload_n 3, 1) := by decide +kernel
theorem dX4_restoreSlice_25 : decode cX4_restoreSlice 25 = .ok (.invokevirtual 51, 3) := by decide +kernel
theorem dX4_restoreSlice_28 : decode cX4_restoreSlice 28 = .ok (.istore 6, 2) := by decide +kernel
theorem dX4_restoreSlice_30 : decode cX4_restoreSlice 30 = .ok (.iconst 0, 1) := by decide +kernel
theorem dX4_restoreSlice_31 : decode cX4_restoreSlice 31 = .ok (.istore 7, 2) := by decide +kernel
theorem dX4_restoreSlice_33 : decode cX4_restoreSlice 33 = .ok (.iload 7, 2) := by decide +kernel
theorem dX4_restoreSlice_35 : decode cX4_restoreSlice 35 = .ok (.bipush 8, 2) := by decide +kernel
theorem dX4_restoreSlice_37 : decode cX4_restoreSlice 37 = .ok (.if_icmp .ge 48, 3) := by decide +kernel
theorem dX4_restoreSlice_40 : decode cX4_restoreSlice 40 = .ok (.iconst 0, 1) := by decide +kernel
theorem dX4_restoreSlice_41 : decode cX4_restoreSlice 41 = .ok (.istore 8, 2) := by decide +kernel
theorem dX4_restoreSlice_43 : decode cX4_restoreSlice 43 = .ok (.iload 8, 2) := by decide +kernel
theorem dX4_restoreSlice_45 : decode cX4_restoreSlice 45 = .ok (.bipush 8, 2) := by decide +kernel
theorem dX4_restoreSlice_47 : decode cX4_restoreSlice 47 = .ok (.if_icmp .ge 28, 3) := by decide +kernel
theorem dX4_restoreSlice_50 : decode cX4_restoreSlice 50 = .ok (.aload_n 0, 1) := by decide +kernel
theorem dX4_restoreSlice_51 : decode cX4_restoreSlice 51 = .ok (.iload 5, 2) := by decide +kernel
theorem dX4_restoreSlice_53 : decode cX4_restoreSlice 53 = .ok (.iload 8, 2) := by decide +kernel
theorem dX4_restoreSlice_55 : decode cX4_restoreSlice 55 = .ok (.iadd, 1) := by decide +kernel
theorem dX4_restoreSlice_56 : decode cX4_restoreSlice 56 = .ok (.iload_n 3, 1) := by decide +kernel
theorem dX4_restoreSlice_57 : decode cX4_restoreSlice 57 = .ok (.iload 7, 2) := by decide +kernel
theorem dX4_restoreSlice_59 : decode cX4_restoreSlice 59 = .ok (.iadd, 1) := by decide +kernel
theorem dX4_restoreSlice_60 : decode cX4_restoreSlice 60 = .ok (.iload 6, 2) := by decide +kernel
theorem dX4_restoreSlice_62 : decode cX4_restoreSlice 62 = .ok (.invokevirtual 67, 3) := by decide +kernel
theorem dX4_restoreSlice_65 : decode cX4_restoreSlice 65 = .ok (.iload 8, 2) := by decide +kernel
theorem dX4_restoreSlice_67 : decode cX4_restoreSlice 67 = .ok (.iload 6, 2) := by decide +kernel
theorem dX4_restoreSlice_69 : decode cX4_restoreSlice 69 = .ok (.iadd, 1) := by decide +kernel
theorem dX4_restoreSlice_70 : decode cX4_restoreSlice 70 = .ok (.istore 8, 2) := by decide +kernel
theorem dX4_restoreSlice_72 : decode cX4_restoreSlice 72 = .ok (.goto (-29), 3) := by decide +kernel
theorem dX4_restoreSlice_75 : decode cX4_restoreSlice 75 = .ok (.iload 7, 2) := by decide +kernel
theorem dX4_restoreSlice_77 : decode cX4_restoreSlice 77 = .ok (.iload 6, 2) := by decide +kernel
theorem dX4_restoreSlice_79 : decode cX4_restoreSlice 79 = .ok (.iadd, 1) := by decide +kernel
theorem dX4_restoreSlice_80 : decode cX4_restoreSlice 80 = .ok (.istore 7, 2) := by decide +kernel
theorem dX4_restoreSlice_82 : decode cX4_restoreSlice 82 = .ok (.goto (-49), 3) := by decide +kernel
theorem dX4_restoreSlice_85 : decode cX4_restoreSlice 85 = .ok (.iinc 4 1, 3) := by decide +kernel
theorem dX4_restoreSlice_88 : decode cX4_restoreSlice 88 = .ok (.goto (-80), 3) := by decide +kernel
theorem dX4_restoreSlice_91 : decode cX4_restoreSlice 91 = .ok (.return_, 1) := by decide +kernel
theorem dX5_init_0 : decode cX5_init 0 = .ok (.aload_n 0, 1) := by decide +kernel
theorem dX5_init_1 : decode cX5_init 1 = .ok (.invokespecial 3, 3) := by decide +kernel
theorem dX5_init_4 : decode cX5_init 4 = .ok (.aload_n 0, 1) := by decide +kernel
theorem dX5_init_5 : decode cX5_init 5 = .ok (.bipush 8, 2) := by decide +kernel
theorem dX5_init_7 : decode cX5_init 7 = .ok (.putfield 9, 3) := by decide +kernel
theorem dX5_init_10 : decode cX5_init 10 = .ok (.aload_n 0, 1) := by decide +kernel
theorem dX5_init_11 : decode cX5_init 11 = .ok (.bipush 8, 2) := by decide +kernel
theorem dX5_init_13 : decode cX5_init 13 = .ok (.putfield 15, 3) := by decide +kernel
theorem dX5_init_16 : decode cX5_init 16 = .ok (.aload_n 0, 1) := by decide +kernel
theorem dX5_init_17 : decode cX5_init 17 = .ok (.sipush 384, 3) := by decide +kernel
theorem dX5_init_20 : decode cX5_init 20 = .ok (.newarray .int, 2) := by decide +kernel
theorem dX5_init_22 : decode cX5_init 22 = .ok (.putfield 18, 3) := by decide +kernel
theorem dX5_init_25 : decode cX5_init 25 = .ok (.return_, 1) := by decide +kernel
theorem dX5_clear_0 : decode cX5_clear 0 = .ok (.aload_n 0, 1) := by decide +kernel
theorem dX5_clear_1 : decode cX5_clear 1 = .ok (.iload_n 1, 1) := by decide +kernel
theorem dX5_clear_2 : decode cX5_clear 2 = .ok (.putfield 9, 3) := by decide +kernel
theorem dX5_clear_5 : decode cX5_clear 5 = .ok (.aload_n 0, 1) := by decide +kernel
theorem dX5_clear_6 : decode cX5_clear 6 = .ok (.iload_n 2, 1) := by decide +kernel
theorem dX5_clear_7 : decode cX5_clear 7 = .ok (.putfield 15, 3) := by decide +kernel
theorem dX5_clear_10 : decode cX5_clear 10 = .ok (.aload_n 0, 1) := by decide +kernel
theorem dX5_clear_11 : decode cX5_clear 11 = .ok (.getfield 18, 3) := by decide +kernel
theorem dX5_clear_14 : decode cX5_clear 14 = .ok (.iconst 0, 1) := by decide +kernel
theorem dX5_clear_15 : decode cX5_clear 15 = .ok (.invokestatic 22, 3) := by decide +kernel
theorem dX5_clear_18 : decode cX5_clear 18 = .ok (.return_, 1) := by decide +kernel
theorem dX5_has_0 : decode cX5_has 0 = .ok (.iload_n 1, 1) := by decide +kernel
theorem dX5_has_1 : decode cX5_has 1 = .ok (.ifCond .lt 27, 3) := by decide +kernel
theorem dX5_has_4 : decode cX5_has 4 = .ok (.iload_n 1, 1) := by decide +kernel
theorem dX5_has_5 : decode cX5_has 5 = .ok (.aload_n 0, 1) := by decide +kernel
theorem dX5_has_6 : decode cX5_has 6 = .ok (.getfield 9, 3) := by decide +kernel
theorem dX5_has_9 : decode cX5_has 9 = .ok (.if_icmp .ge 19, 3) := by decide +kernel
theorem dX5_has_12 : decode cX5_has 12 = .ok (.iload_n 2, 1) := by decide +kernel
theorem dX5_has_13 : decode cX5_has 13 = .ok (.ifCond .lt 15, 3) := by decide +kernel
theorem dX5_has_16 : decode cX5_has 16 = .ok (.iload_n 2, 1) := by decide +kernel
theorem dX5_has_17 : decode cX5_has 17 = .ok (.aload_n 0, 1) := by decide +kernel
theorem dX5_has_18 : decode cX5_has 18 = .ok (.getfield 15, 3) := by decide +kernel
theorem dX5_has_21 : decode cX5_has 21 = .ok (.if_icmp .ge 7, 3) := by decide +kernel
theorem dX5_has_24 : decode cX5_has 24 = .ok (.iconst 1, 1) := by decide +kernel
theorem dX5_has_25 : decode cX5_has 25 = .ok (.goto 4, 3) := by decide +kernel
theorem dX5_has_28 : decode cX5_has 28 = .ok (.iconst 0, 1) := by decide +kernel
theorem dX5_has_29 : decode cX5_has 29 = .ok (.ireturn, 1) := by decide +kernel
theorem dX5_at_0 : decode cX5_at 0 = .ok (.aload_n 0, 1) := by decide +kernel
theorem dX5_at_1 : decode cX5_at 1 = .ok (.iload_n 1, 1) := by decide +kernel
theorem dX5_at_2 : decode cX5_at 2 = .ok (.iload_n 2, 1) := by decide +kernel
theorem dX5_at_3 : decode cX5_at 3 = .ok (.invokevirtual 28, 3) := by decide +kernel
theorem dX5_at_6 : decode cX5_at 6 = .ok (.ifCond .eq 17, 3) := by decide +kernel
theorem dX5_at_9 : decode cX5_at 9 = .ok (.aload_n 0, 1) := by decide +kernel
theorem dX5_at_10 : decode cX5_at 10 = .ok (.getfield 18, 3) := by decide +kernel
theorem dX5_at_13 : decode cX5_at 13 = .ok (.iload_n 2, 1) := by decide +kernel
theorem dX5_at_14 : decode cX5_at 14 = .ok (.bipush 16, 2) := by decide +kernel
theorem dX5_at_16 : decode cX5_at 16 = .ok (.imul, 1) := by decide +kernel
theorem dX5_at_17 : decode cX5_at 17 = .ok (.iload_n 1, 1) := by decide +kernel
theorem dX5_at_18 : decode cX5_at 18 = .ok (.iadd, 1) := by decide +kernel
theorem dX5_at_19 : decode cX5_at 19 = .ok (.iaload, 1) := by decide +kernel
theorem dX5_at_20 : decode cX5_at 20 = .ok (.goto 4, 3) := by decide +kernel
theorem dX5_at_23 : decode cX5_at 23 = .ok (.iconst 0, 1) := by decide +kernel
theorem dX5_at_24 : decode cX5_at 24 = .ok (.ireturn, 1) := by decide +kernel
theorem dX5_put_0 : decode cX5_put 0 = .ok (.aload_n 0, 1) := by decide +kernel
theorem dX5_put_1 : decode cX5_put 1 = .ok (.iload_n 1, 1) := by decide +kernel
theorem dX5_put_2 : decode cX5_put 2 = .ok (.iload_n 2, 1) := by decide +kernel
theorem dX5_put_3 : decode cX5_put 3 = .ok (.invokevirtual 28, 3) := by decide +kernel
theorem dX5_put_6 : decode cX5_put 6 = .ok (.ifCond .eq 15, 3) := by decide +kernel
theorem dX5_put_9 : decode cX5_put 9 = .ok (.aload_n 0, 1) := by decide +kernel
theorem dX5_put_10 : decode cX5_put 10 = .ok (.getfield 18, 3) := by decide +kernel
theorem dX5_put_13 : decode cX5_put 13 = .ok (.iload_n 2, 1) := by decide +kernel
theorem dX5_put_14 : decode cX5_put 14 = .ok (.bipush 16, 2) := by decide +kernel
theorem dX5_put_16 : decode cX5_put 16 = .ok (.imul, 1) := by decide +kernel
theorem dX5_put_17 : decode cX5_put 17 = .ok (.iload_n 1, 1) := by decide +kernel
theorem dX5_put_18 : decode cX5_put 18 = .ok (.iadd, 1) := by decide +kernel
theorem dX5_put_19 : decode cX5_put 19 = .ok (.iload_n 3, 1) := by decide +kernel
theorem dX5_put_20 : decode cX5_put 20 = .ok (.iastore, 1) := by decide +kernel
theorem dX5_put_21 : decode cX5_put 21 = .ok (.return_, 1) := by decide +kernel
theorem dX5_isAsLargeAs_0 : decode cX5_isAsLargeAs 0 = .ok (.aload_n 0, 1) := by decide +kernel
theorem dX5_isAsLargeAs_1 : decode cX5_isAsLargeAs 1 = .ok (.getfield 9, 3) := by decide +kernel
theorem dX5_isAsLargeAs_4 : decode cX5_isAsLargeAs 4 = .ok (.aload_n 1, 1) := by decide +kernel
theorem dX5_isAsLargeAs_5 : decode cX5_isAsLargeAs 5 = .ok (.getfield 9, 3) := by decide +kernel
theorem dX5_isAsLargeAs_8 : decode cX5_isAsLargeAs 8 = .ok (.if_icmp .ne 18, 3) := by decide +kernel
theorem dX5_isAsLargeAs_11 : decode cX5_isAsLargeAs 11 = .ok (.aload_n 0, 1) := by decide +kernel
theorem dX5_isAsLargeAs_12 : decode cX5_isAsLargeAs 12 = .ok (.getfield 15, 3) := by decide +kernel
theorem dX5_isAsLargeAs_15 : decode cX5_isAsLargeAs 15 = .ok (.aload_n 1, 1) := by decide +kernel
theorem dX5_isAsLargeAs_16 : decode cX5_isAsLargeAs 16 = .ok (.getfield 15, 3) := by decide +kernel
theorem dX5_isAsLargeAs_19 : decode cX5_isAsLargeAs 19 = .ok (.if_icmp .ne 7, 3) := by decide +kernel
theorem dX5_isAsLargeAs_22 : decode cX5_isAsLargeAs 22 = .ok (.iconst 1, 1) := by decide +kernel
theorem dX5_isAsLargeAs_23 : decode cX5_isAsLargeAs 23 = .ok (.goto 4, 3) := by decide +kernel
theorem dX5_isAsLargeAs_26 : decode cX5_isAsLargeAs 26 = .ok (.iconst 0, 1) := by decide +kernel
theorem dX5_isAsLargeAs_27 : decode cX5_isAsLargeAs 27 = .ok (.ireturn, 1) := by decide +kernel
theorem dX5_addRows_0 : decode cX5_addRows 0 = .ok (.iload_n 2, 1) := by decide +kernel
theorem dX5_addRows_1 : decode cX5_addRows 1 = .ok (.bipush 8, 2) := by decide +kernel
theorem dX5_addRows_3 : decode cX5_addRows 3 = .ok (.iadd, 1) := by decide +kernel
theorem dX5_addRows_4 : decode cX5_addRows 4 = .ok (.aload_n 0, 1) := by decide +kernel
theorem dX5_addRows_5 : decode cX5_addRows 5 = .ok (.getfield 15, 3) := by decide +kernel
theorem dX5_addRows_8 : decode cX5_addRows 8 = .ok (.invokestatic 32, 3) := by decide +kernel
theorem dX5_addRows_11 : decode cX5_addRows 11 = .ok (.istore_n 3, 1) := by decide +kernel
theorem dX5_addRows_12 : decode cX5_addRows 12 = .ok (.iload_n 2, 1) := by decide +kernel
theorem dX5_addRows_13 : decode cX5_addRows 13 = .ok (.istore 4, 2) := by decide +kernel
theorem dX5_addRows_15 : decode cX5_addRows 15 = .ok (.iload 4, 2) := by decide +kernel
theorem dX5_addRows_17 : decode cX5_addRows 17 = .ok (.iload_n 3, 1) := by decide +kernel
theorem dX5_addRows_18 : decode cX5_addRows 18 = .ok (.if_icmp .ge 53, 3) := by decide +kernel
theorem dX5_addRows_21 : decode cX5_addRows 21 = .ok (.iconst 0, 1) := by decide +kernel
theorem dX5_addRows_22 : decode cX5_addRows 22 = .ok (.istore 5, 2) := by decide +kernel
theorem dX5_addRows_24 : decode cX5_addRows 24 = .ok (.iload 5, 2) := by decide +kernel
theorem dX5_addRows_26 : decode cX5_addRows 26 = .ok (.aload_n 0, 1) := by decide +kernel
theorem dX5_addRows_27 : decode cX5_addRows 27 = .ok (.getfield 9, 3) := by decide +kernel
theorem dX5_addRows_30 : decode cX5_addRows 30 = .ok (.if_icmp .ge 35, 3) := by decide +kernel
theorem dX5_addRows_33 : decode cX5_addRows 33 = .ok (.aload_n 0, 1) := by decide +kernel
theorem dX5_addRows_34 : decode cX5_addRows 34 = .ok (.getfield 18, 3) := by decide +kernel
theorem dX5_addRows_37 : decode cX5_addRows 37 = .ok (.iload 4, 2) := by decide +kernel
theorem dX5_addRows_39 : decode cX5_addRows 39 = .ok (.bipush 16, 2) := by decide +kernel
theorem dX5_addRows_41 : decode cX5_addRows 41 = .ok (.imul, 1) := by decide +kernel
theorem dX5_addRows_42 : decode cX5_addRows 42 = .ok (.iload 5, 2) := by decide +kernel
theorem dX5_addRows_44 : decode cX5_addRows 44 = .ok (.iadd, 1) := by decide +kernel
theorem dX5_addRows_45 : decode cX5_addRows 45 = .ok (.dup2, 1) := by decide +kernel
theorem dX5_addRows_46 : decode cX5_addRows 46 = .ok (.iaload, 1) := by decide +kernel
theorem dX5_addRows_47 : decode cX5_addRows 47 = .ok (.aload_n 1, 1) := by decide +kernel
theorem dX5_addRows_48 : decode cX5_addRows 48 = .ok (.iload 4, 2) := by decide +kernel
theorem dX5_addRows_50 : decode cX5_addRows 50 = .ok (.bipush 16, 2) := by decide +kernel
theorem dX5_addRows_52 : decode cX5_addRows 52 = .ok (.imul, 1) := by decide +kernel
theorem dX5_addRows_53 : decode cX5_addRows 53 = .ok (.iload 5, 2) := by decide +kernel
theorem dX5_addRows_55 : decode cX5_addRows 55 = .ok (.iadd, 1) := by decide +kernel
theorem dX5_addRows_56 : decode cX5_addRows 56 = .ok (.iaload, 1) := by decide +kernel
theorem dX5_addRows_57 : decode cX5_addRows 57 = .ok (.iadd, 1) := by decide +kernel
theorem dX5_addRows_58 : decode cX5_addRows 58 = .ok (.iastore, 1) := by decide +kernel
theorem dX5_addRows_59 : decode cX5_addRows 59 = .ok (.iinc 5 1, 3) := by decide +kernel
theorem dX5_addRows_62 : decode cX5_addRows 62 = .ok (.goto (-38), 3) := by decide +kernel
theorem dX5_addRows_65 : decode cX5_addRows 65 = .ok (.iinc 4 1, 3) := by decide +kernel
theorem dX5_addRows_68 : decode cX5_addRows 68 = .ok (.goto (-53), 3) := by decide +kernel
theorem dX5_addRows_71 : decode cX5_addRows 71 = .ok (.return_, 1) := by decide +kernel
theorem dX5_clamp_0 : decode cX5_clamp 0 = .ok (.iconst 0, 1) := by decide +kernel
theorem dX5_clamp_1 : decode cX5_clamp 1 = .ok (.istore_n 1, 1) := by decide +kernel
theorem dX5_clamp_2 : decode cX5_clamp 2 = .ok (.iload_n 1, 1) := by decide +kernel
theorem dX5_clamp_3 : decode cX5_clamp 3 = .ok (.sipush 384, 3) := by decide +kernel
theorem dX5_clamp_6 : decode cX5_clamp 6 = .ok (.if_icmp .ge 31, 3) := by decide +kernel
theorem dX5_clamp_9 : decode cX5_clamp 9 = .ok (.aload_n 0, 1) := by decide +kernel
theorem dX5_clamp_10 : decode cX5_clamp 10 = .ok (.getfield 18, 3) := by decide +kernel
theorem dX5_clamp_13 : decode cX5_clamp 13 = .ok (.iload_n 1, 1) := by decide +kernel
theorem dX5_clamp_14 : decode cX5_clamp 14 = .ok (.iconst 0, 1) := by decide +kernel
theorem dX5_clamp_15 : decode cX5_clamp 15 = .ok (.sipush 255, 3) := by decide +kernel
theorem dX5_clamp_18 : decode cX5_clamp 18 = .ok (.aload_n 0, 1) := by decide +kernel
theorem dX5_clamp_19 : decode cX5_clamp 19 = .ok (.getfield 18, 3) := by decide +kernel
theorem dX5_clamp_22 : decode cX5_clamp 22 = .ok (.iload_n 1, 1) := by decide +kernel
theorem dX5_clamp_23 : decode cX5_clamp 23 = .ok (.iaload, 1) := by decide +kernel
theorem dX5_clamp_24 : decode cX5_clamp 24 = .ok (.invokestatic 32, 3) := by decide +kernel
theorem dX5_clamp_27 : decode cX5_clamp 27 = .ok (.invokestatic 38, 3) := by decide +kernel
theorem dX5_clamp_30 : decode cX5_clamp 30 = .ok (.iastore, 1) := by decide +kernel
theorem dX5_clamp_31 : decode cX5_clamp 31 = .ok (.iinc 1 1, 3) := by decide +kernel
theorem dX5_clamp_34 : decode cX5_clamp 34 = .ok (.goto (-32), 3) := by decide +kernel
theorem dX5_clamp_37 : decode cX5_clamp 37 = .ok (.return_, 1) := by decide +kernel
theorem dX6_init_0 : decode cX6_init 0 = .ok (.aload_n 0, 1) := by decide +kernel
theorem dX6_init_1 : decode cX6_init 1 = .ok (.invokespecial 3, 3) := by decide +kernel
theorem dX6_init_4 : decode cX6_init 4 = .ok (.aload_n 0, 1) := by decide +kernel
theorem dX6_init_5 : decode cX6_init 5 = .ok (.bipush 8, 2) := by decide +kernel
theorem dX6_init_7 : decode cX6_init 7 = .ok (.putfield 9, 3) := by decide +kernel
theorem dX6_init_10 : decode cX6_init 10 = .ok (.aload_n 0, 1) := by decide +kernel
theorem dX6_init_11 : decode cX6_init 11 = .ok (.iconst 0, 1) := by decide +kernel
theorem dX6_init_12 : decode cX6_init 12 = .ok (.putfield 15, 3) := by decide +kernel
theorem dX6_init_15 : decode cX6_init 15 = .ok (.aload_n 0, 1) := by decide +kernel
theorem dX6_init_16 : decode cX6_init 16 = .ok (.bipush 8, 2) := by decide +kernel
theorem dX6_init_18 : decode cX6_init 18 = .ok (.newarray .int, 2) := by decide +kernel
theorem dX6_init_20 : decode cX6_init 20 = .ok (.putfield 18, 3) := by decide +kernel
theorem dX6_init_23 : decode cX6_init 23 = .ok (.aload_n 0, 1) := by decide +kernel
theorem dX6_init_24 : decode cX6_init 24 = .ok (.bipush 8, 2) := by decide +kernel
theorem dX6_init_26 : decode cX6_init 26 = .ok (.newarray .int, 2) := by decide +kernel
theorem dX6_init_28 : decode cX6_init 28 = .ok (.putfield 22, 3) := by decide +kernel
theorem dX6_init_31 : decode cX6_init 31 = .ok (.return_, 1) := by decide +kernel
theorem dX6_look_0 : decode cX6_look 0 = .ok (.aload_n 0, 1) := by decide +kernel
theorem dX6_look_1 : decode cX6_look 1 = .ok (.iload 4, 2) := by decide +kernel
theorem dX6_look_3 : decode cX6_look 3 = .ok (.putfield 9, 3) := by decide +kernel
theorem dX6_look_6 : decode cX6_look 6 = .ok (.iconst 0, 1) := by decide +kernel
theorem dX6_look_7 : decode cX6_look 7 = .ok (.istore 5, 2) := by decide +kernel
theorem dX6_look_9 : decode cX6_look 9 = .ok (.iconst 0, 1) := by decide +kernel
theorem dX6_look_10 : decode cX6_look 10 = .ok (.istore 6, 2) := by decide +kernel
theorem dX6_look_12 : decode cX6_look 12 = .ok (.iload 6, 2) := by decide +kernel
theorem dX6_look_14 : decode cX6_look 14 = .ok (.aload_n 0, 1) := by decide +kernel
theorem dX6_look_15 : decode cX6_look 15 = .ok (.getfield 9, 3) := by decide +kernel
theorem dX6_look_18 : decode cX6_look 18 = .ok (.if_icmp .ge 88, 3) := by decide +kernel
theorem dX6_look_21 : decode cX6_look 21 = .ok (.aload_n 0, 1) := by decide +kernel
theorem dX6_look_22 : decode cX6_look 22 = .ok (.getfield 18, 3) := by decide +kernel
theorem dX6_look_25 : decode cX6_look 25 = .ok (.iload 6, 2) := by decide +kernel
theorem dX6_look_27 : decode cX6_look 27 = .ok (.iload_n 2, 1) := by decide +kernel
theorem dX6_look_28 : decode cX6_look 28 = .ok (.ifCond .le 19, 3) := by decide +kernel
theorem dX6_look_31 : decode cX6_look 31 = .ok (.aload_n 1, 1) := by decide +kernel
theorem dX6_look_32 : decode cX6_look 32 = .ok (.iload_n 3, 1) := by decide +kernel
theorem dX6_look_33 : decode cX6_look 33 = .ok (.iload 6, 2) := by decide +kernel
theorem dX6_look_35 : decode cX6_look 35 = .ok (.iadd, 1) := by decide +kernel
theorem dX6_look_36 : decode cX6_look 36 = .ok (.bipush 16, 2) := by decide +kernel
theorem dX6_look_38 : decode cX6_look 38 = .ok (.imul, 1) := by decide +kernel
theorem dX6_look_39 : decode cX6_look 39 = .ok (.iload_n 2, 1) := by decide +kernel
theorem dX6_look_40 : decode cX6_look 40 = .ok (.iadd, 1) := by decide +kernel
theorem dX6_look_41 : decode cX6_look 41 = .ok (.iconst 1, 1) := by decide +kernel
theorem dX6_look_42 : decode cX6_look 42 = .ok (.isub, 1) := by decide +kernel
theorem dX6_look_43 : decode cX6_look 43 = .ok (.iaload, 1) := by decide +kernel
theorem dX6_look_44 : decode cX6_look 44 = .ok (.goto 4, 3) := by decide +kernel
theorem dX6_look_47 : decode cX6_look 47 = .ok (.iconst 0, 1) := by decide +kernel
theorem dX6_look_48 : decode cX6_look 48 = .ok (.iastore, 1) := by decide +kernel
theorem dX6_look_49 : decode cX6_look 49 = .ok (.aload_n 0, 1) := by decide +kernel
theorem dX6_look_50 : decode cX6_look 50 = .ok (.getfield 22, 3) := by decide +kernel
theorem dX6_look_53 : decode cX6_look 53 = .ok (.iload 6, 2) := by decide +kernel
theorem dX6_look_55 : decode cX6_look 55 = .ok (.iload_n 3, 1) := by decide +kernel
theorem dX6_look_56 : decode cX6_look 56 = .ok (.bipush 8, 2) := by decide +kernel
theorem dX6_look_58 : decode cX6_look 58 = .ok (.irem, 1) := by decide +kernel
theorem dX6_look_59 : decode cX6_look 59 = .ok (.ifCond .le 19, 3) := by decide +kernel
theorem dX6_look_62 : decode cX6_look 62 = .ok (.aload_n 1, 1) := by decide +kernel
theorem dX6_look_63 : decode cX6_look 63 = .ok (.iload_n 3, 1) := by decide +kernel
theorem dX6_look_64 : decode cX6_look 64 = .ok (.iconst 1, 1) := by decide +kernel
theorem dX6_look_65 : decode cX6_look 65 = .ok (.isub, 1) := by decide +kernel
theorem dX6_look_66 : decode cX6_look 66 = .ok (.bipush 16, 2) := by decide +kernel
theorem dX6_look_68 : decode cX6_look 68 = .ok (.imul, 1) := by decide +kernel
theorem dX6_look_69 : decode cX6_look 69 = .ok (.iload_n 2, 1) := by decide +kernel
theorem dX6_look_70 : decode cX6_look 70 = .ok (.iadd, 1) := by decide +kernel
theorem dX6_look_71 : decode cX6_look 71 = .ok (.iload 6, 2) := by decide +kernel
theorem dX6_look_73 : decode cX6_look 73 = .ok (.iadd, 1) := by decide +kernel
theorem dX6_look_74 : decode cX6_look 74 = .ok (.iaload, 1) := by decide +kernel
theorem dX6_look_75 : decode cX6_look 75 = .ok (.goto 4, 3) := by decide +kernel
theorem dX6_look_78 : decode cX6_look 78 = .ok (.iconst 0, 1) := by decide +kernel
theorem dX6_look_79 : decode cX6_look 79 = .ok (.iastore, 1) := by decide +kernel
theorem dX6_look_80 : decode cX6_look 80 = .ok (.iload 5, 2) := by decide +kernel
theorem dX6_look_82 : decode cX6_look 82 = .ok (.aload_n 0, 1) := by decide +kernel
theorem dX6_look_83 : decode cX6_look 83 = .ok (.getfield 18, 3) := by decide +kernel
theorem dX6_look_86 : decode cX6_look 86 = .ok (.iload 6, 2) := by decide +kernel
theorem dX6_look_88 : decode cX6_look 88 = .ok (.iaload, 1) := by decide +kernel
theorem dX6_look_89 : decode cX6_look 89 = .ok (.aload_n 0, 1) := by decide +kernel
theorem dX6_look_90 : decode cX6_look 90 = .ok (.getfield 22, 3) := by decide +kernel
theorem dX6_look_93 : decode cX6_look 93 = .ok (.iload 6, 2) := by decide +kernel
theorem dX6_look_95 : decode cX6_look 95 = .ok (.iaload, 1) := by decide +kernel
theorem dX6_look_96 : decode cX6_look 96 = .ok (.iadd, 1) := by decide +kernel
theorem dX6_look_97 : decode cX6_look 97 = .ok (.iadd, 1) := by decide +kernel
theorem dX6_look_98 : decode cX6_look 98 = .ok (.istore 5, 2) := by decide +kernel
theorem dX6_look_100 : decode cX6_look 100 = .ok (.iinc 6 1, 3) := by decide +kernel
theorem dX6_look_103 : decode cX6_look 103 = .ok (.goto (-91), 3) := by decide +kernel
theorem dX6_look_106 : decode cX6_look 106 = .ok (.aload_n 0, 1) := by decide +kernel
theorem dX6_look_107 : decode cX6_look 107 = .ok (.iload 5, 2) := by decide +kernel
theorem dX6_look_109 : decode cX6_look 109 = .ok (.aload_n 0, 1) := by decide +kernel
theorem dX6_look_110 : decode cX6_look 110 = .ok (.getfield 9, 3) := by decide +kernel
theorem dX6_look_113 : decode cX6_look 113 = .ok (.iconst 4, 1) := by decide +kernel
theorem dX6_look_114 : decode cX6_look 114 = .ok (.if_icmp .ne 8, 3) := by decide +kernel
theorem dX6_look_117 : decode cX6_look 117 = .ok (.bipush 8, 2) := by decide +kernel
theorem dX6_look_119 : decode cX6_look 119 = .ok (.goto 5, 3) := by decide +kernel
theorem dX6_look_122 : decode cX6_look 122 = .ok (.bipush 16, 2) := by decide +kernel
theorem dX6_look_124 : decode cX6_look 124 = .ok (.invokestatic 25, 3) := by decide +kernel
theorem dX6_look_127 : decode cX6_look 127 = .ok (.putfield 15, 3) := by decide +kernel
theorem dX6_look_130 : decode cX6_look 130 = .ok (.return_, 1) := by decide +kernel
theorem dX6_of_0 : decode cX6_of 0 = .ok (.iload_n 1, 1) := by decide +kernel
theorem dX6_of_1 : decode cX6_of 1 = .ok (.ifCond .ne 8, 3) := by decide +kernel
theorem dX6_of_4 : decode cX6_of 4 = .ok (.aload_n 0, 1) := by decide +kernel
theorem dX6_of_5 : decode cX6_of 5 = .ok (.getfield 15, 3) := by decide +kernel
theorem dX6_of_8 : decode cX6_of 8 = .ok (.ireturn, 1) := by decide +kernel
theorem dX6_of_9 : decode cX6_of 9 = .ok (.iload_n 1, 1) := by decide +kernel
theorem dX6_of_10 : decode cX6_of 10 = .ok (.iconst 1, 1) := by decide +kernel
theorem dX6_of_11 : decode cX6_of 11 = .ok (.if_icmp .ne 10, 3) := by decide +kernel
theorem dX6_of_14 : decode cX6_of 14 = .ok (.aload_n 0, 1) := by decide +kernel
theorem dX6_of_15 : decode cX6_of 15 = .ok (.getfield 18, 3) := by decide +kernel
theorem dX6_of_18 : decode cX6_of 18 = .ok (.iload_n 2, 1) := by decide +kernel
theorem dX6_of_19 : decode cX6_of 19 = .ok (.iaload, 1) := by decide +kernel
theorem dX6_of_20 : decode cX6_of 20 = .ok (.ireturn, 1) := by decide +kernel
theorem dX6_of_21 : decode cX6_of 21 = .ok (.iload_n 1, 1) := by decide +kernel
theorem dX6_of_22 : decode cX6_of 22 = .ok (.iconst 2, 1) := by decide +kernel
theorem dX6_of_23 : decode cX6_of 23 = .ok (.if_icmp .ne 10, 3) := by decide +kernel
theorem dX6_of_26 : decode cX6_of 26 = .ok (.aload_n 0, 1) := by decide +kernel
theorem dX6_of_27 : decode cX6_of 27 = .ok (.getfield 22, 3) := by decide +kernel
theorem dX6_of_30 : decode cX6_of 30 = .ok (.iload_n 3, 1) := by decide +kernel
theorem dX6_of_31 : decode cX6_of 31 = .ok (.iaload, 1) := by decide +kernel
theorem dX6_of_32 : decode cX6_of 32 = .ok (.ireturn, 1) := by decide +kernel
theorem dX6_of_33 : decode cX6_of 33 = .ok (.aload_n 0, 1) := by decide +kernel
theorem dX6_of_34 : decode cX6_of 34 = .ok (.getfield 18, 3) := by decide +kernel
theorem dX6_of_37 : decode cX6_of 37 = .ok (.iload_n 2, 1) := by decide +kernel
theorem dX6_of_38 : decode cX6_of 38 = .ok (.iaload, 1) := by decide +kernel
theorem dX6_of_39 : decode cX6_of 39 = .ok (.aload_n 0, 1) := by decide +kernel
theorem dX6_of_40 : decode cX6_of 40 = .ok (.getfield 22, 3) := by decide +kernel
theorem dX6_of_43 : decode cX6_of 43 = .ok (.iload_n 3, 1) := by decide +kernel
theorem dX6_of_44 : decode cX6_of 44 = .ok (.iaload, 1) := by decide +kernel
theorem dX6_of_45 : decode cX6_of 45 = .ok (.iadd, 1) := by decide +kernel
theorem dX6_of_46 : decode cX6_of 46 = .ok (.iconst 2, 1) := by decide +kernel
theorem dX6_of_47 : decode cX6_of 47 = .ok (.invokestatic 25, 3) := by decide +kernel
theorem dX6_of_50 : decode cX6_of 50 = .ok (.ireturn, 1) := by decide +kernel
theorem dX6_bestMode_0 : decode cX6_bestMode 0 = .ok (.iconst 0, 1) := by decide +kernel
theorem dX6_bestMode_1 : decode cX6_bestMode 1 = .ok (.istore 4, 2) := by decide +kernel
theorem dX6_bestMode_3 : decode cX6_bestMode 3 = .ok (.iconst 0, 1) := by decide +kernel
theorem dX6_bestMode_4 : decode cX6_bestMode 4 = .ok (.istore 5, 2) := by decide +kernel
theorem dX6_bestMode_6 : decode cX6_bestMode 6 = .ok (.iconst 0, 1) := by decide +kernel
theorem dX6_bestMode_7 : decode cX6_bestMode 7 = .ok (.istore 6, 2) := by decide +kernel
theorem dX6_bestMode_9 : decode cX6_bestMode 9 = .ok (.iload 6, 2) := by decide +kernel
theorem dX6_bestMode_11 : decode cX6_bestMode 11 = .ok (.iconst 4, 1) := by decide +kernel
theorem dX6_bestMode_12 : decode cX6_bestMode 12 = .ok (.if_icmp .ge 101, 3) := by decide +kernel
theorem dX6_bestMode_15 : decode cX6_bestMode 15 = .ok (.iconst 0, 1) := by decide +kernel
theorem dX6_bestMode_16 : decode cX6_bestMode 16 = .ok (.istore 7, 2) := by decide +kernel
theorem dX6_bestMode_18 : decode cX6_bestMode 18 = .ok (.iconst 0, 1) := by decide +kernel
theorem dX6_bestMode_19 : decode cX6_bestMode 19 = .ok (.istore 8, 2) := by decide +kernel
theorem dX6_bestMode_21 : decode cX6_bestMode 21 = .ok (.iload 8, 2) := by decide +kernel
theorem dX6_bestMode_23 : decode cX6_bestMode 23 = .ok (.aload_n 0, 1) := by decide +kernel
theorem dX6_bestMode_24 : decode cX6_bestMode 24 = .ok (.getfield 9, 3) := by decide +kernel
theorem dX6_bestMode_27 : decode cX6_bestMode 27 = .ok (.if_icmp .ge 60, 3) := by decide +kernel
theorem dX6_bestMode_30 : decode cX6_bestMode 30 = .ok (.iconst 0, 1) := by decide +kernel
theorem dX6_bestMode_31 : decode cX6_bestMode 31 = .ok (.istore 9, 2) := by decide +kernel
theorem dX6_bestMode_33 : decode cX6_bestMode 33 = .ok (.iload 9, 2) := by decide +kernel
theorem dX6_bestMode_35 : decode cX6_bestMode 35 = .ok (.aload_n 0, 1) := by decide +kernel
theorem dX6_bestMode_36 : decode cX6_bestMode 36 = .ok (.getfield 9, 3) := by decide +kernel
theorem dX6_bestMode_39 : decode cX6_bestMode 39 = .ok (.if_icmp .ge 42, 3) := by decide +kernel
theorem dX6_bestMode_42 : decode cX6_bestMode 42 = .ok (.iload 7, 2) := by decide +kernel
theorem dX6_bestMode_44 : decode cX6_bestMode 44 = .ok (.aload_n 1, 1) := by decide +kernel
theorem dX6_bestMode_45 : decode cX6_bestMode 45 = .ok (.iload_n 3, 1) := by decide +kernel
theorem dX6_bestMode_46 : decode cX6_bestMode 46 = .ok (.iload 8, 2) := by decide +kernel
theorem dX6_bestMode_48 : decode cX6_bestMode 48 = .ok (.iadd, 1) := by decide +kernel
theorem dX6_bestMode_49 : decode cX6_bestMode 49 = .ok (.bipush 16, 2) := by decide +kernel
theorem dX6_bestMode_51 : decode cX6_bestMode 51 = .ok (.imul, 1) := by decide +kernel
theorem dX6_bestMode_52 : decode cX6_bestMode 52 = .ok (.iload_n 2, 1) := by decide +kernel
theorem dX6_bestMode_53 : decode cX6_bestMode 53 = .ok (.iadd, 1) := by decide +kernel
theorem dX6_bestMode_54 : decode cX6_bestMode 54 = .ok (.iload 9, 2) := by decide +kernel
theorem dX6_bestMode_56 : decode cX6_bestMode 56 = .ok (.iadd, 1) := by decide +kernel
theorem dX6_bestMode_57 : decode cX6_bestMode 57 = .ok (.iaload, 1) := by decide +kernel
theorem dX6_bestMode_58 : decode cX6_bestMode 58 = .ok (.aload_n 0, 1) := by decide +kernel
theorem dX6_bestMode_59 : decode cX6_bestMode 59 = .ok (.iload 6, 2) := by decide +kernel
theorem dX6_bestMode_61 : decode cX6_bestMode 61 = .ok (.iload 8, 2) := by decide +kernel
theorem dX6_bestMode_63 : decode cX6_bestMode 63 = .ok (.iload 9, 2) := by decide +kernel
theorem dX6_bestMode_65 : decode cX6_bestMode 65 = .ok (.invokevirtual 31, 3) := by decide +kernel
theorem dX6_bestMode_68 : decode cX6_bestMode 68 = .ok (.isub, 1) := by decide +kernel
theorem dX6_bestMode_69 : decode cX6_bestMode 69 = .ok (.invokestatic 35, 3) := by decide +kernel
theorem dX6_bestMode_72 : decode cX6_bestMode 72 = .ok (.iadd, 1) := by decide +kernel
theorem dX6_bestMode_73 : decode cX6_bestMode 73 = .ok (.istore 7, 2) := by decide +kernel
theorem dX6_bestMode_75 : decode cX6_bestMode 75 = .ok (.iinc 9 1, 3) := by decide +kernel
theorem dX6_bestMode_78 : decode cX6_bestMode 78 = .ok (.goto (-45), 3) := by decide +kernel
theorem dX6_bestMode_81 : decode cX6_bestMode 81 = .ok (.iinc 8 1, 3) := by decide +kernel
theorem dX6_bestMode_84 : decode cX6_bestMode 84 = .ok (.goto (-63), 3) := by decide +kernel
theorem dX6_bestMode_87 : decode cX6_bestMode 87 = .ok (.iload 6, 2) := by decide +kernel
theorem dX6_bestMode_89 : decode cX6_bestMode 89 = .ok (.ifCond .eq 10, 3) := by decide +kernel
theorem dX6_bestMode_92 : decode cX6_bestMode 92 = .ok (.iload 7, 2) := by decide +kernel
theorem dX6_bestMode_94 : decode cX6_bestMode 94 = .ok (.iload 5, 2) := by decide +kernel
theorem dX6_bestMode_96 : decode cX6_bestMode 96 = .ok (.if_icmp .ge 11, 3) := by decide +kernel
theorem dX6_bestMode_99 : decode cX6_bestMode 99 = .ok (.iload 6, 2) := by decide +kernel
theorem dX6_bestMode_101 : decode cX6_bestMode 101 = .ok (.istore 4, 2) := by decide +kernel
theorem dX6_bestMode_103 : decode cX6_bestMode 103 = .ok (.iload 7, 2) := by decide +kernel
theorem dX6_bestMode_105 : decode cX6_bestMode 105 = .ok (.istore 5, 2) := by decide +kernel
theorem dX6_bestMode_107 : decode cX6_bestMode 107 = .ok (.iinc 6 1, 3) := by decide +kernel
theorem dX6_bestMode_110 : decode cX6_bestMode 110 = .ok (.goto (-101), 3) := by decide +kernel
theorem dX6_bestMode_113 : decode cX6_bestMode 113 = .ok (.iload 4, 2) := by decide +kernel
theorem dX6_bestMode_115 : decode cX6_bestMode 115 = .ok (.ireturn, 1) := by decide +kernel
theorem dX7_init_0 : decode cX7_init 0 = .ok (.aload_n 0, 1) := by decide +kernel
theorem dX7_init_1 : decode cX7_init 1 = .ok (.invokespecial 3, 3) := by decide +kernel
theorem dX7_init_4 : decode cX7_init 4 = .ok (.aload_n 0, 1) := by decide +kernel
theorem dX7_init_5 : decode cX7_init 5 = .ok (.bipush 64, 2) := by decide +kernel
theorem dX7_init_7 : decode cX7_init 7 = .ok (.newarray .int, 2) := by decide +kernel
theorem dX7_init_9 : decode cX7_init 9 = .ok (.putfield 9, 3) := by decide +kernel
theorem dX7_init_12 : decode cX7_init 12 = .ok (.aload_n 0, 1) := by decide +kernel
theorem dX7_init_13 : decode cX7_init 13 = .ok (.bipush 8, 2) := by decide +kernel
theorem dX7_init_15 : decode cX7_init 15 = .ok (.newarray .int, 2) := by decide +kernel
theorem dX7_init_17 : decode cX7_init 17 = .ok (.putfield 15, 3) := by decide +kernel
theorem dX7_init_20 : decode cX7_init 20 = .ok (.return_, 1) := by decide +kernel
theorem dX7_split_0 : decode cX7_split 0 = .ok (.iload_n 1, 1) := by decide +kernel
theorem dX7_split_1 : decode cX7_split 1 = .ok (.istore_n 2, 1) := by decide +kernel
theorem dX7_split_2 : decode cX7_split 2 = .ok (.iload_n 2, 1) := by decide +kernel
theorem dX7_split_3 : decode cX7_split 3 = .ok (.iconst 2, 1) := by decide +kernel
theorem dX7_split_4 : decode cX7_split 4 = .ok (.if_icmp .lt 54, 3) := by decide +kernel
theorem dX7_split_7 : decode cX7_split 7 = .ok (.iconst 0, 1) := by decide +kernel
theorem dX7_split_8 : decode cX7_split 8 = .ok (.istore_n 3, 1) := by decide +kernel
theorem dX7_split_9 : decode cX7_split 9 = .ok (.iload_n 3, 1) := by decide +kernel
theorem dX7_split_10 : decode cX7_split 10 = .ok (.iload_n 2, 1) := by decide +kernel
theorem dX7_split_11 : decode cX7_split 11 = .ok (.if_icmp .ge 19, 3) := by decide +kernel
theorem dX7_split_14 : decode cX7_split 14 = .ok (.aload_n 0, 1) := by decide +kernel
theorem dX7_split_15 : decode cX7_split 15 = .ok (.iload_n 3, 1) := by decide +kernel
theorem dX7_split_16 : decode cX7_split 16 = .ok (.bipush 8, 2) := by decide +kernel
theorem dX7_split_18 : decode cX7_split 18 = .ok (.imul, 1) := by decide +kernel
theorem dX7_split_19 : decode cX7_split 19 = .ok (.iconst 1, 1) := by decide +kernel
theorem dX7_split_20 : decode cX7_split 20 = .ok (.iload_n 2, 1) := by decide +kernel
theorem dX7_split_21 : decode cX7_split 21 = .ok (.invokevirtual 18, 3) := by decide +kernel
theorem dX7_split_24 : decode cX7_split 24 = .ok (.iinc 3 1, 3) := by decide +kernel
theorem dX7_split_27 : decode cX7_split 27 = .ok (.goto (-18), 3) := by decide +kernel
theorem dX7_split_30 : decode cX7_split 30 = .ok (.iconst 0, 1) := by decide +kernel
theorem dX7_split_31 : decode cX7_split 31 = .ok (.istore_n 3, 1) := by decide +kernel
theorem dX7_split_32 : decode cX7_split 32 = .ok (.iload_n 3, 1) := by decide +kernel
theorem dX7_split_33 : decode cX7_split 33 = .ok (.iload_n 2, 1) := by decide +kernel
theorem dX7_split_34 : decode cX7_split 34 = .ok (.if_icmp .ge 17, 3) := by decide +kernel
theorem dX7_split_37 : decode cX7_split 37 = .ok (.aload_n 0, 1) := by decide +kernel
theorem dX7_split_38 : decode cX7_split 38 = .ok (.iload_n 3, 1) := by decide +kernel
theorem dX7_split_39 : decode cX7_split 39 = .ok (.bipush 8, 2) := by decide +kernel
theorem dX7_split_41 : decode cX7_split 41 = .ok (.iload_n 2, 1) := by decide +kernel
theorem dX7_split_42 : decode cX7_split 42 = .ok (.invokevirtual 18, 3) := by decide +kernel
theorem dX7_split_45 : decode cX7_split 45 = .ok (.iinc 3 1, 3) := by decide +kernel
theorem dX7_split_48 : decode cX7_split 48 = .ok (.goto (-16), 3) := by decide +kernel
theorem dX7_split_51 : decode cX7_split 51 = .ok (.iload_n 2, 1) := by decide +kernel
theorem dX7_split_52 : decode cX7_split 52 = .ok (.iconst 2, 1) := by decide +kernel
theorem dX7_split_53 : decode cX7_split 53 = .ok (.idiv, 1) := by decide +kernel
theorem dX7_split_54 : decode cX7_split 54 = .ok (.istore_n 2, 1) := by decide +kernel
theorem dX7_split_55 : decode cX7_split 55 = .ok (.goto (-53), 3) := by decide +kernel
theorem dX7_split_58 : decode cX7_split 58 = .ok (.return_, 1) := by decide +kernel
theorem dX7_join_0 : decode cX7_join 0 = .ok (.iconst 2, 1) := by decide +kernel
theorem dX7_join_1 : decode cX7_join 1 = .ok (.istore_n 2, 1) := by decide +kernel
theorem dX7_join_2 : decode cX7_join 2 = .ok (.iload_n 2, 1) := by decide +kernel
theorem dX7_join_3 : decode cX7_join 3 = .ok (.iload_n 1, 1) := by decide +kernel
theorem dX7_join_4 : decode cX7_join 4 = .ok (.if_icmp .gt 54, 3) := by decide +kernel
theorem dX7_join_7 : decode cX7_join 7 = .ok (.iconst 0, 1) := by decide +kernel
theorem dX7_join_8 : decode cX7_join 8 = .ok (.istore_n 3, 1) := by decide +kernel
theorem dX7_join_9 : decode cX7_join 9 = .ok (.iload_n 3, 1) := by decide +kernel
theorem dX7_join_10 : decode cX7_join 10 = .ok (.iload_n 2, 1) := by decide +kernel
theorem dX7_join_11 : decode cX7_join 11 = .ok (.if_icmp .ge 17, 3) := by decide +kernel
theorem dX7_join_14 : decode cX7_join 14 = .ok (.aload_n 0, 1) := by decide +kernel
theorem dX7_join_15 : decode cX7_join 15 = .ok (.iload_n 3, 1) := by decide +kernel
theorem dX7_join_16 : decode cX7_join 16 = .ok (.bipush 8, 2) := by decide +kernel
theorem dX7_join_18 : decode cX7_join 18 = .ok (.iload_n 2, 1) := by decide +kernel
theorem dX7_join_19 : decode cX7_join 19 = .ok (.invokevirtual 22, 3) := by decide +kernel
theorem dX7_join_22 : decode cX7_join 22 = .ok (.iinc 3 1, 3) := by decide +kernel
theorem dX7_join_25 : decode cX7_join 25 = .ok (.goto (-16), 3) := by decide +kernel
theorem dX7_join_28 : decode cX7_join 28 = .ok (.iconst 0, 1) := by decide +kernel
theorem dX7_join_29 : decode cX7_join 29 = .ok (.istore_n 3, 1) := by decide +kernel
theorem dX7_join_30 : decode cX7_join 30 = .ok (.iload_n 3, 1) := by decide +kernel
theorem dX7_join_31 : decode cX7_join 31 = .ok (.iload_n 2, 1) := by decide +kernel
theorem dX7_join_32 : decode cX7_join 32 = .ok (.if_icmp .ge 19, 3) := by decide +kernel
theorem dX7_join_35 : decode cX7_join 35 = .ok (.aload_n 0, 1) := by decide +kernel
theorem dX7_join_36 : decode cX7_join 36 = .ok (.iload_n 3, 1) := by decide +kernel
theorem dX7_join_37 : decode cX7_join 37 = .ok (.bipush 8, 2) := by decide +kernel
theorem dX7_join_39 : decode cX7_join 39 = .ok (.imul, 1) := by decide +kernel
theorem dX7_join_40 : decode cX7_join 40 = .ok (.iconst 1, 1) := by decide +kernel
theorem dX7_join_41 : decode cX7_join 41 = .ok (.iload_n 2, 1) := by decide +kernel
theorem dX7_join_42 : decode cX7_join 42 = .ok (.invokevirtual 22, 3) := by decide +kernel
theorem dX7_join_45 : decode cX7_join 45 = .ok (.iinc 3 1, 3) := by decide +kernel
theorem dX7_join_48 : decode cX7_join 48 = .ok (.goto (-18), 3) := by decide +kernel
theorem dX7_join_51 : decode cX7_join 51 = .ok (.iload_n 2, 1) := by decide +kernel
theorem dX7_join_52 : decode cX7_join 52 = .ok (.iconst 2, 1) := by decide +kernel
theorem dX7_join_53 : decode cX7_join 53 = .ok (.imul, 1) := by decide +kernel
theorem dX7_join_54 : decode cX7_join 54 = .ok (.istore_n 2, 1) := by decide +kernel
theorem dX7_join_55 : decode cX7_join 55 = .ok (.goto (-53), 3) := by decide +kernel
theorem dX7_join_58 : decode cX7_join 58 = .ok (.return_, 1) := by decide +kernel
theorem dX7_splitLine_0 : decode cX7_splitLine 0 = .ok (.iload_n 3, 1) := by decide +kernel
theorem dX7_splitLine_1 : decode cX7_splitLine 1 = .ok (.iconst 2, 1) := by decide +kernel
theorem dX7_splitLine_2 : decode cX7_splitLine 2 = .ok (.idiv, 1) := by decide +kernel
theorem dX7_splitLine_3 : decode cX7_splitLine 3 = .ok (.istore 4, 2) := by decide +kernel
theorem dX7_splitLine_5 : decode cX7_splitLine 5 = .ok (.iconst 0, 1) := by decide +kernel
theorem dX7_splitLine_6 : decode cX7_splitLine 6 = .ok (.istore 5, 2) := by decide +kernel
theorem dX7_splitLine_8 : decode cX7_splitLine 8 = .ok (.iload 5, 2) := by decide +kernel
theorem dX7_splitLine_10 : decode cX7_splitLine 10 = .ok (.iload 4, 2) := by decide +kernel
theorem dX7_splitLine_12 : decode cX7_splitLine 12 = .ok (.if_icmp .ge 70, 3) := by decide +kernel
theorem dX7_splitLine_15 : decode cX7_splitLine 15 = .ok (.aload_n 0, 1) := by decide +kernel
theorem dX7_splitLine_16 : decode cX7_splitLine 16 = .ok (.getfield 9, 3) := by decide +kernel
theorem dX7_splitLine_19 : decode cX7_splitLine 19 = .ok (.iload_n 1, 1) := by decide +kernel
theorem dX7_splitLine_20 : decode cX7_splitLine 20 = .ok (.iconst 2, 1) := by decide +kernel
theorem dX7_splitLine_21 : decode cX7_splitLine 21 = .ok (.iload 5, 2) := by decide +kernel
theorem dX7_splitLine_23 : decode cX7_splitLine 23 = .ok (.imul, 1) := by decide +kernel
theorem dX7_splitLine_24 : decode cX7_splitLine 24 = .ok (.iload_n 2, 1) := by decide +kernel
theorem dX7_splitLine_25 : decode cX7_splitLine 25 = .ok (.imul, 1) := by decide +kernel
theorem dX7_splitLine_26 : decode cX7_splitLine 26 = .ok (.iadd, 1) := by decide +kernel
theorem dX7_splitLine_27 : decode cX7_splitLine 27 = .ok (.iaload, 1) := by decide +kernel
theorem dX7_splitLine_28 : decode cX7_splitLine 28 = .ok (.istore 6, 2) := by decide +kernel
theorem dX7_splitLine_30 : decode cX7_splitLine 30 = .ok (.aload_n 0, 1) := by decide +kernel
theorem dX7_splitLine_31 : decode cX7_splitLine 31 = .ok (.getfield 9, 3) := by decide +kernel
theorem dX7_splitLine_34 : decode cX7_splitLine 34 = .ok (.iload_n 1, 1) := by decide +kernel
theorem dX7_splitLine_35 : decode cX7_splitLine 35 = .ok (.iconst 2, 1) := by decide +kernel
theorem dX7_splitLine_36 : decode cX7_splitLine 36 = .ok (.iload 5, 2) := by decide +kernel
theorem dX7_splitLine_38 : decode cX7_splitLine 38 = .ok (.imul, 1) := by decide +kernel
theorem dX7_splitLine_39 : decode cX7_splitLine 39 = .ok (.iconst 1, 1) := by decide +kernel
theorem dX7_splitLine_40 : decode cX7_splitLine 40 = .ok (.iadd, 1) := by decide +kernel
theorem dX7_splitLine_41 : decode cX7_splitLine 41 = .ok (.iload_n 2, 1) := by decide +kernel
theorem dX7_splitLine_42 : decode cX7_splitLine 42 = .ok (.imul, 1) := by decide +kernel
theorem dX7_splitLine_43 : decode cX7_splitLine 43 = .ok (.iadd, 1) := by decide +kernel
theorem dX7_splitLine_44 : decode cX7_splitLine 44 = .ok (.iaload, 1) := by decide +kernel
theorem dX7_splitLine_45 : decode cX7_splitLine 45 = .ok (.istore 7, 2) := by decide +kernel
theorem dX7_splitLine_47 : decode cX7_splitLine 47 = .ok (.aload_n 0, 1) := by decide +kernel
theorem dX7_splitLine_48 : decode cX7_splitLine 48 = .ok (.getfield 15, 3) := by decide +kernel
theorem dX7_splitLine_51 : decode cX7_splitLine 51 = .ok (.iload 5, 2) := by decide +kernel
theorem dX7_splitLine_53 : decode cX7_splitLine 53 = .ok (.iload 6, 2) := by decide +kernel
theorem dX7_splitLine_55 : decode cX7_splitLine 55 = .ok (.iload 7, 2) := by decide +kernel
theorem dX7_splitLine_57 : decode cX7_splitLine 57 = .ok (.iadd, 1) := by decide +kernel
theorem dX7_splitLine_58 : decode cX7_splitLine 58 = .ok (.iconst 1, 1) := by decide +kernel
theorem dX7_splitLine_59 : decode cX7_splitLine 59 = .ok (.ishr, 1) := by decide +kernel
theorem dX7_splitLine_60 : decode cX7_splitLine 60 = .ok (.iastore, 1) := by decide +kernel
theorem dX7_splitLine_61 : decode cX7_splitLine 61 = .ok (.aload_n 0, 1) := by decide +kernel
theorem dX7_splitLine_62 : decode cX7_splitLine 62 = .ok (.getfield 15, 3) := by decide +kernel
theorem dX7_splitLine_65 : decode cX7_splitLine 65 = .ok (.iload 4, 2) := by decide +kernel
theorem dX7_splitLine_67 : decode cX7_splitLine 67 = .ok (.iload 5, 2) := by decide +kernel
theorem dX7_splitLine_69 : decode cX7_splitLine 69 = .ok (.iadd, 1) := by decide +kernel
theorem dX7_splitLine_70 : decode cX7_splitLine 70 = .ok (.iload 6, 2) := by decide +kernel
theorem dX7_splitLine_72 : decode cX7_splitLine 72 = .ok (.iload 7, 2) := by decide +kernel
theorem dX7_splitLine_74 : decode cX7_splitLine 74 = .ok (.isub, 1) := by decide +kernel
theorem dX7_splitLine_75 : decode cX7_splitLine 75 = .ok (.iastore, 1) := by decide +kernel
theorem dX7_splitLine_76 : decode cX7_splitLine 76 = .ok (.iinc 5 1, 3) := by decide +kernel
theorem dX7_splitLine_79 : decode cX7_splitLine 79 = .ok (.goto (-71), 3) := by decide +kernel
theorem dX7_splitLine_82 : decode cX7_splitLine 82 = .ok (.iconst 0, 1) := by decide +kernel
theorem dX7_splitLine_83 : decode cX7_splitLine 83 = .ok (.istore 5, 2) := by decide +kernel
theorem dX7_splitLine_85 : decode cX7_splitLine 85 = .ok (.iload 5, 2) := by decide +kernel
theorem dX7_splitLine_87 : decode cX7_splitLine 87 = .ok (.iload_n 3, 1) := by decide +kernel
theorem dX7_splitLine_88 : decode cX7_splitLine 88 = .ok (.if_icmp .ge 27, 3) := by decide +kernel
theorem dX7_splitLine_91 : decode cX7_splitLine 91 = .ok (.aload_n 0, 1) := by decide +kernel
theorem dX7_splitLine_92 : decode cX7_splitLine 92 = .ok (.getfield 9, 3) := by decide +kernel
theorem dX7_splitLine_95 : decode cX7_splitLine 95 = .ok (.iload_n 1, 1) := by decide +kernel
theorem dX7_splitLine_96 : decode cX7_splitLine 96 = .ok (.iload 5, 2) := by decide +kernel
theorem dX7_splitLine_98 : decode cX7_splitLine 98 = .ok (.iload_n 2, 1) := by decide +kernel
theorem dX7_splitLine_99 : decode cX7_splitLine 99 = .ok (.imul, 1) := by decide +kernel
theorem dX7_splitLine_100 : decode cX7_splitLine 100 = .ok (.iadd, 1) := by decide +kernel
theorem dX7_splitLine_101 : decode cX7_splitLine 101 = .ok (.aload_n 0, 1) := by decide +kernel
theorem dX7_splitLine_102 : decode cX7_splitLine 102 = .ok (.getfield 15, 3) := by decide +kernel
theorem dX7_splitLine_105 : decode cX7_splitLine 105 = .ok (.iload 5, 2) := by decide +kernel
theorem dX7_splitLine_107 : decode cX7_splitLine 107 = .ok (.iaload, 1) := by decide +kernel
theorem dX7_splitLine_108 : decode cX7_splitLine 108 = .ok (.iastore, 1) := by decide +kernel
theorem dX7_splitLine_109 : decode cX7_splitLine 109 = .ok (.iinc 5 1, 3) := by decide +kernel
theorem dX7_splitLine_112 : decode cX7_splitLine 112 = .ok (.goto (-27), 3) := by decide +kernel
theorem dX7_splitLine_115 : decode cX7_splitLine 115 = .ok (.return_, 1) := by decide +kernel
theorem dX7_joinLine_0 : decode cX7_joinLine 0 = .ok (.iload_n 3, 1) := by decide +kernel
theorem dX7_joinLine_1 : decode cX7_joinLine 1 = .ok (.iconst 2, 1) := by decide +kernel
theorem dX7_joinLine_2 : decode cX7_joinLine 2 = .ok (.idiv, 1) := by decide +kernel
theorem dX7_joinLine_3 : decode cX7_joinLine 3 = .ok (.istore 4, 2) := by decide +kernel
theorem dX7_joinLine_5 : decode cX7_joinLine 5 = .ok (.iconst 0, 1) := by decide +kernel
theorem dX7_joinLine_6 : decode cX7_joinLine 6 = .ok (.istore 5, 2) := by decide +kernel
theorem dX7_joinLine_8 : decode cX7_joinLine 8 = .ok (.iload 5, 2) := by decide +kernel
theorem dX7_joinLine_10 : decode cX7_joinLine 10 = .ok (.iload 4, 2) := by decide +kernel
theorem dX7_joinLine_12 : decode cX7_joinLine 12 = .ok (.if_icmp .ge 76, 3) := by decide +kernel
theorem dX7_joinLine_15 : decode cX7_joinLine 15 = .ok (.aload_n 0, 1) := by decide +kernel
theorem dX7_joinLine_16 : decode cX7_joinLine 16 = .ok (.getfield 9, 3) := by decide +kernel
theorem dX7_joinLine_19 : decode cX7_joinLine 19 = .ok (.iload_n 1, 1) := by decide +kernel
theorem dX7_joinLine_20 : decode cX7_joinLine 20 = .ok (.iload 5, 2) := by decide +kernel
theorem dX7_joinLine_22 : decode cX7_joinLine 22 = .ok (.iload_n 2, 1) := by decide +kernel
theorem dX7_joinLine_23 : decode cX7_joinLine 23 = .ok (.imul, 1) := by decide +kernel
theorem dX7_joinLine_24 : decode cX7_joinLine 24 = .ok (.iadd, 1) := by decide +kernel
theorem dX7_joinLine_25 : decode cX7_joinLine 25 = .ok (.iaload, 1) := by decide +kernel
theorem dX7_joinLine_26 : decode cX7_joinLine 26 = .ok (.istore 6, 2) := by decide +kernel
theorem dX7_joinLine_28 : decode cX7_joinLine 28 = .ok (.aload_n 0, 1) := by decide +kernel
theorem dX7_joinLine_29 : decode cX7_joinLine 29 = .ok (.getfield 9, 3) := by decide +kernel
theorem dX7_joinLine_32 : decode cX7_joinLine 32 = .ok (.iload_n 1, 1) := by decide +kernel
theorem dX7_joinLine_33 : decode cX7_joinLine 33 = .ok (.iload 4, 2) := by decide +kernel
theorem dX7_joinLine_35 : decode cX7_joinLine 35 = .ok (.iload 5, 2) := by decide +kernel
theorem dX7_joinLine_37 : decode cX7_joinLine 37 = .ok (.iadd, 1) := by decide +kernel
theorem dX7_joinLine_38 : decode cX7_joinLine 38 = .ok (.iload_n 2, 1) := by decide +kernel
theorem dX7_joinLine_39 : decode cX7_joinLine 39 = .ok (.imul, 1) := by decide +kernel
theorem dX7_joinLine_40 : decode cX7_joinLine 40 = .ok (.iadd, 1) := by decide +kernel
theorem dX7_joinLine_41 : decode cX7_joinLine 41 = .ok (.iaload, 1) := by decide +kernel
theorem dX7_joinLine_42 : decode cX7_joinLine 42 = .ok (.istore 7, 2) := by decide +kernel
theorem dX7_joinLine_44 : decode cX7_joinLine 44 = .ok (.iload 6, 2) := by decide +kernel
theorem dX7_joinLine_46 : decode cX7_joinLine 46 = .ok (.iload 7, 2) := by decide +kernel
theorem dX7_joinLine_48 : decode cX7_joinLine 48 = .ok (.iconst 1, 1) := by decide +kernel
theorem dX7_joinLine_49 : decode cX7_joinLine 49 = .ok (.iadd, 1) := by decide +kernel
theorem dX7_joinLine_50 : decode cX7_joinLine 50 = .ok (.iconst 1, 1) := by decide +kernel
theorem dX7_joinLine_51 : decode cX7_joinLine 51 = .ok (.ishr, 1) := by decide +kernel
theorem dX7_joinLine_52 : decode cX7_joinLine 52 = .ok (.iadd, 1) := by decide +kernel
theorem dX7_joinLine_53 : decode cX7_joinLine 53 = .ok (.istore 8, 2) := by decide +kernel
theorem dX7_joinLine_55 : decode cX7_joinLine 55 = .ok (.aload_n 0, 1) := by decide +kernel
theorem dX7_joinLine_56 : decode cX7_joinLine 56 = .ok (.getfield 15, 3) := by decide +kernel
theorem dX7_joinLine_59 : decode cX7_joinLine 59 = .ok (.iconst 2, 1) := by decide +kernel
theorem dX7_joinLine_60 : decode cX7_joinLine 60 = .ok (.iload 5, 2) := by decide +kernel
theorem dX7_joinLine_62 : decode cX7_joinLine 62 = .ok (.imul, 1) := by decide +kernel
theorem dX7_joinLine_63 : decode cX7_joinLine 63 = .ok (.iload 8, 2) := by decide +kernel
theorem dX7_joinLine_65 : decode cX7_joinLine 65 = .ok (.iastore, 1) := by decide +kernel
theorem dX7_joinLine_66 : decode cX7_joinLine 66 = .ok (.aload_n 0, 1) := by decide +kernel
theorem dX7_joinLine_67 : decode cX7_joinLine 67 = .ok (.getfield 15, 3) := by decide +kernel
theorem dX7_joinLine_70 : decode cX7_joinLine 70 = .ok (.iconst 2, 1) := by decide +kernel
theorem dX7_joinLine_71 : decode cX7_joinLine 71 = .ok (.iload 5, 2) := by decide +kernel
theorem dX7_joinLine_73 : decode cX7_joinLine 73 = .ok (.imul, 1) := by decide +kernel
theorem dX7_joinLine_74 : decode cX7_joinLine 74 = .ok (.iconst 1, 1) := by decide +kernel
theorem dX7_joinLine_75 : decode cX7_joinLine 75 = .ok (.iadd, 1) := by decide +kernel
theorem dX7_joinLine_76 : decode cX7_joinLine 76 = .ok (.iload 8, 2) := by decide +kernel
theorem dX7_joinLine_78 : decode cX7_joinLine 78 = .ok (.iload 7, 2) := by decide +kernel
theorem dX7_joinLine_80 : decode cX7_joinLine 80 = .ok (.isub, 1) := by decide +kernel
theorem dX7_joinLine_81 : decode cX7_joinLine 81 = .ok (.iastore, 1) := by decide +kernel
theorem dX7_joinLine_82 : decode cX7_joinLine 82 = .ok (.iinc 5 1, 3) := by decide +kernel
theorem dX7_joinLine_85 : decode cX7_joinLine 85 = .ok (.goto (-77), 3) := by decide +kernel
theorem dX7_joinLine_88 : decode cX7_joinLine 88 = .ok (.iconst 0, 1) := by decide +kernel
theorem dX7_joinLine_89 : decode cX7_joinLine 89 = .ok (.istore 5, 2) := by decide +kernel
theorem dX7_joinLine_91 : decode cX7_joinLine 91 = .ok (.iload 5, 2) := by decide +kernel
theorem dX7_joinLine_93 : decode cX7_joinLine 93 = .ok (.iload_n 3, 1) := by decide +kernel
theorem dX7_joinLine_94 : decode cX7_joinLine 94 = .ok (.if_icmp .ge 27, 3) := by decide +kernel
theorem dX7_joinLine_97 : decode cX7_joinLine 97 = .ok (.aload_n 0, 1) := by decide +kernel
theorem dX7_joinLine_98 : decode cX7_joinLine 98 = .ok (.getfield 9, 3) := by decide +kernel
theorem dX7_joinLine_101 : decode cX7_joinLine 101 = .ok (.iload_n 1, 1) := by decide +kernel
theorem dX7_joinLine_102 : decode cX7_joinLine 102 = .ok (.iload 5, 2) := by decide +kernel
theorem dX7_joinLine_104 : decode cX7_joinLine 104 = .ok (.iload_n 2, 1) := by decide +kernel
theorem dX7_joinLine_105 : decode cX7_joinLine 105 = .ok (.imul, 1) := by decide +kernel
theorem dX7_joinLine_106 : decode cX7_joinLine 106 = .ok (.iadd, 1) := by decide +kernel
theorem dX7_joinLine_107 : decode cX7_joinLine 107 = .ok (.aload_n 0, 1) := by decide +kernel
theorem dX7_joinLine_108 : decode cX7_joinLine 108 = .ok (.getfield 15, 3) := by decide +kernel
theorem dX7_joinLine_111 : decode cX7_joinLine 111 = .ok (.iload 5, 2) := by decide +kernel
theorem dX7_joinLine_113 : decode cX7_joinLine 113 = .ok (.iaload, 1) := by decide +kernel
theorem dX7_joinLine_114 : decode cX7_joinLine 114 = .ok (.iastore, 1) := by decide +kernel
theorem dX7_joinLine_115 : decode cX7_joinLine 115 = .ok (.iinc 5 1, 3) := by decide +kernel
theorem dX7_joinLine_118 : decode cX7_joinLine 118 = .ok (.goto (-27), 3) := by decide +kernel
theorem dX7_joinLine_121 : decode cX7_joinLine 121 = .ok (.return_, 1) := by decide +kernel
theorem dX8_init_0 : decode cX8_init 0 = .ok (.aload_n 0, 1) := by decide +kernel
theorem dX8_init_1 : decode cX8_init 1 = .ok (.invokespecial 3, 3) := by decide +kernel
theorem dX8_init_4 : decode cX8_init 4 = .ok (.aload_n 0, 1) := by decide +kernel
theorem dX8_init_5 : decode cX8_init 5 = .ok (.new 9, 3) := by decide +kernel
theorem dX8_init_8 : decode cX8_init 8 = .ok (.dup, 1) := by decide +kernel
theorem dX8_init_9 : decode cX8_init 9 = .ok (.invokespecial 11, 3) := by decide +kernel
theorem dX8_init_12 : decode cX8_init 12 = .ok (.putfield 12, 3) := by decide +kernel
theorem dX8_init_15 : decode cX8_init 15 = .ok (.aload_n 0, 1) := by decide +kernel
theorem dX8_init_16 : decode cX8_init 16 = .ok (.iconst 3, 1) := by decide +kernel
theorem dX8_init_17 : decode cX8_init 17 = .ok (.newarray .int, 2) := by decide +kernel
theorem dX8_init_19 : decode cX8_init 19 = .ok (.dup, 1) := by decide +kernel
theorem dX8_init_20 : decode cX8_init 20 = .ok (.iconst 0, 1) := by decide +kernel
theorem dX8_init_21 : decode cX8_init 21 = .ok (.iconst 1, 1) := by decide +kernel
theorem dX8_init_22 : decode cX8_init 22 = .ok (.iastore, 1) := by decide +kernel
theorem dX8_init_23 : decode cX8_init 23 = .ok (.dup, 1) := by decide +kernel
theorem dX8_init_24 : decode cX8_init 24 = .ok (.iconst 1, 1) := by decide +kernel
theorem dX8_init_25 : decode cX8_init 25 = .ok (.iconst 0, 1) := by decide +kernel
theorem dX8_init_26 : decode cX8_init 26 = .ok (.iastore, 1) := by decide +kernel
theorem dX8_init_27 : decode cX8_init 27 = .ok (.dup, 1) := by decide +kernel
theorem dX8_init_28 : decode cX8_init 28 = .ok (.iconst 2, 1) := by decide +kernel
theorem dX8_init_29 : decode cX8_init 29 = .ok (.iconst 0, 1) := by decide +kernel
theorem dX8_init_30 : decode cX8_init 30 = .ok (.iastore, 1) := by decide +kernel
theorem dX8_init_31 : decode cX8_init 31 = .ok (.putfield 16, 3) := by decide +kernel
theorem dX8_init_34 : decode cX8_init 34 = .ok (.aload_n 0, 1) := by decide +kernel
theorem dX8_init_35 : decode cX8_init 35 = .ok (.iconst 1, 1) := by decide +kernel
theorem dX8_init_36 : decode cX8_init 36 = .ok (.putfield 20, 3) := by decide +kernel
theorem dX8_init_39 : decode cX8_init 39 = .ok (.aload_n 0, 1) := by decide +kernel
theorem dX8_init_40 : decode cX8_init 40 = .ok (.new 24, 3) := by decide +kernel
theorem dX8_init_43 : decode cX8_init 43 = .ok (.dup, 1) := by decide +kernel
theorem dX8_init_44 : decode cX8_init 44 = .ok (.invokespecial 26, 3) := by decide +kernel
theorem dX8_init_47 : decode cX8_init 47 = .ok (.putfield 27, 3) := by decide +kernel
theorem dX8_init_50 : decode cX8_init 50 = .ok (.aload_n 0, 1) := by decide +kernel
theorem dX8_init_51 : decode cX8_init 51 = .ok (.new 9, 3) := by decide +kernel
theorem dX8_init_54 : decode cX8_init 54 = .ok (.dup, 1) := by decide +kernel
theorem dX8_init_55 : decode cX8_init 55 = .ok (.invokespecial 11, 3) := by decide +kernel
theorem dX8_init_58 : decode cX8_init 58 = .ok (.putfield 31, 3) := by decide +kernel
theorem dX8_init_61 : decode cX8_init 61 = .ok (.aload_n 0, 1) := by decide +kernel
theorem dX8_init_62 : decode cX8_init 62 = .ok (.iconst 0, 1) := by decide +kernel
theorem dX8_init_63 : decode cX8_init 63 = .ok (.putfield 34, 3) := by decide +kernel
theorem dX8_init_66 : decode cX8_init 66 = .ok (.aload_n 0, 1) := by decide +kernel
theorem dX8_init_67 : decode cX8_init 67 = .ok (.iconst 3, 1) := by decide +kernel
theorem dX8_init_68 : decode cX8_init 68 = .ok (.newarray .char, 2) := by decide +kernel
theorem dX8_init_70 : decode cX8_init 70 = .ok (.putfield 38, 3) := by decide +kernel
theorem dX8_init_73 : decode cX8_init 73 = .ok (.aload_n 0, 1) := by decide +kernel
theorem dX8_init_74 : decode cX8_init 74 = .ok (.iconst 3, 1) := by decide +kernel
theorem dX8_init_75 : decode cX8_init 75 = .ok (.newarray .int, 2) := by decide +kernel
theorem dX8_init_77 : decode cX8_init 77 = .ok (.putfield 42, 3) := by decide +kernel
theorem dX8_init_80 : decode cX8_init 80 = .ok (.aload_n 0, 1) := by decide +kernel
theorem dX8_init_81 : decode cX8_init 81 = .ok (.iconst 3, 1) := by decide +kernel
theorem dX8_init_82 : decode cX8_init 82 = .ok (.anewarray 45, 3) := by decide +kernel
theorem dX8_init_85 : decode cX8_init 85 = .ok (.dup, 1) := by decide +kernel
theorem dX8_init_86 : decode cX8_init 86 = .ok (.iconst 0, 1) := by decide +kernel
theorem dX8_init_87 : decode cX8_init 87 = .ok (.new 45, 3) := by decide +kernel
theorem dX8_init_90 : decode cX8_init 90 = .ok (.dup, 1) := by decide +kernel
theorem dX8_init_91 : decode cX8_init 91 = .ok (.invokespecial 47, 3) := by decide +kernel
theorem dX8_init_94 : decode cX8_init 94 = .ok (.aastore, 1) := by decide +kernel
theorem dX8_init_95 : decode cX8_init 95 = .ok (.dup, 1) := by decide +kernel
theorem dX8_init_96 : decode cX8_init 96 = .ok (.iconst 1, 1) := by decide +kernel
theorem dX8_init_97 : decode cX8_init 97 = .ok (.new 45, 3) := by decide +kernel
theorem dX8_init_100 : decode cX8_init 100 = .ok (.dup, 1) := by decide +kernel
theorem dX8_init_101 : decode cX8_init 101 = .ok (.invokespecial 47, 3) := by decide +kernel
theorem dX8_init_104 : decode cX8_init 104 = .ok (.aastore, 1) := by decide +kernel
theorem dX8_init_105 : decode cX8_init 105 = .ok (.dup, 1) := by decide +kernel
theorem dX8_init_106 : decode cX8_init 106 = .ok (.iconst 2, 1) := by decide +kernel
theorem dX8_init_107 : decode cX8_init 107 = .ok (.new 45, 3) := by decide +kernel
theorem dX8_init_110 : decode cX8_init 110 = .ok (.dup, 1) := by decide +kernel
theorem dX8_init_111 : decode cX8_init 111 = .ok (.invokespecial 47, 3) := by decide +kernel
theorem dX8_init_114 : decode cX8_init 114 = .ok (.aastore, 1) := by decide +kernel
theorem dX8_init_115 : decode cX8_init 115 = .ok (.putfield 48, 3) := by decide +kernel
theorem dX8_init_118 : decode cX8_init 118 = .ok (.aload_n 0, 1) := by decide +kernel
theorem dX8_init_119 : decode cX8_init 119 = .ok (.iconst 0, 1) := by decide +kernel
theorem dX8_init_120 : decode cX8_init 120 = .ok (.putfield 52, 3) := by decide +kernel
theorem dX8_init_123 : decode cX8_init 123 = .ok (.aload_n 0, 1) := by decide +kernel
theorem dX8_init_124 : decode cX8_init 124 = .ok (.iconst 0, 1) := by decide +kernel
theorem dX8_init_125 : decode cX8_init 125 = .ok (.putfield 55, 3) := by decide +kernel
theorem dX8_init_128 : decode cX8_init 128 = .ok (.aload_n 0, 1) := by decide +kernel
theorem dX8_init_129 : decode cX8_init 129 = .ok (.iconst 0, 1) := by decide +kernel
theorem dX8_init_130 : decode cX8_init 130 = .ok (.putfield 58, 3) := by decide +kernel
theorem dX8_init_133 : decode cX8_init 133 = .ok (.aload_n 0, 1) := by decide +kernel
theorem dX8_init_134 : decode cX8_init 134 = .ok (.iconst 0, 1) := by decide +kernel
theorem dX8_init_135 : decode cX8_init 135 = .ok (.putfield 61, 3) := by decide +kernel
theorem dX8_init_138 : decode cX8_init 138 = .ok (.aload_n 0, 1) := by decide +kernel
theorem dX8_init_139 : decode cX8_init 139 = .ok (.iconst 0, 1) := by decide +kernel
theorem dX8_init_140 : decode cX8_init 140 = .ok (.putfield 64, 3) := by decide +kernel
theorem dX8_init_143 : decode cX8_init 143 = .ok (.aload_n 0, 1) := by decide +kernel
theorem dX8_init_144 : decode cX8_init 144 = .ok (.sipush 384, 3) := by decide +kernel
theorem dX8_init_147 : decode cX8_init 147 = .ok (.newarray .int, 2) := by decide +kernel
theorem dX8_init_149 : decode cX8_init 149 = .ok (.putfield 67, 3) := by decide +kernel
theorem dX8_init_152 : decode cX8_init 152 = .ok (.aload_n 0, 1) := by decide +kernel
theorem dX8_init_153 : decode cX8_init 153 = .ok (.new 45, 3) := by decide +kernel
theorem dX8_init_156 : decode cX8_init 156 = .ok (.dup, 1) := by decide +kernel
theorem dX8_init_157 : decode cX8_init 157 = .ok (.invokespecial 47, 3) := by decide +kernel
theorem dX8_init_160 : decode cX8_init 160 = .ok (.putfield 70, 3) := by decide +kernel
theorem dX8_init_163 : decode cX8_init 163 = .ok (.aload_n 0, 1) := by decide +kernel
theorem dX8_init_164 : decode cX8_init 164 = .ok (.new 74, 3) := by decide +kernel
theorem dX8_init_167 : decode cX8_init 167 = .ok (.dup, 1) := by decide +kernel
theorem dX8_init_168 : decode cX8_init 168 = .ok (.invokespecial 76, 3) := by decide +kernel
theorem dX8_init_171 : decode cX8_init 171 = .ok (.putfield 77, 3) := by decide +kernel
theorem dX8_init_174 : decode cX8_init 174 = .ok (.aload_n 0, 1) := by decide +kernel
theorem dX8_init_175 : decode cX8_init 175 = .ok (.new 81, 3) := by decide +kernel
theorem dX8_init_178 : decode cX8_init 178 = .ok (.dup, 1) := by decide +kernel
theorem dX8_init_179 : decode cX8_init 179 = .ok (.invokespecial 83, 3) := by decide +kernel
theorem dX8_init_182 : decode cX8_init 182 = .ok (.putfield 84, 3) := by decide +kernel
theorem dX8_init_185 : decode cX8_init 185 = .ok (.return_, 1) := by decide +kernel
theorem dX8_resize_0 : decode cX8_resize 0 = .ok (.iload_n 1, 1) := by decide +kernel
theorem dX8_resize_1 : decode cX8_resize 1 = .ok (.iload_n 2, 1) := by decide +kernel
theorem dX8_resize_2 : decode cX8_resize 2 = .ok (.invokestatic 88, 3) := by decide +kernel
theorem dX8_resize_5 : decode cX8_resize 5 = .ok (.ifCond .ne 13, 3) := by decide +kernel
theorem dX8_resize_8 : decode cX8_resize 8 = .ok (.new 92, 3) := by decide +kernel
theorem dX8_resize_11 : decode cX8_resize 11 = .ok (.dup, 1) := by decide +kernel
theorem dX8_resize_12 : decode cX8_resize 12 = .ok (.ldc 94, 2) := by decide +kernel
theorem dX8_resize_14 : decode cX8_resize 14 = .ok (.invokespecial 96, 3) := by decide +kernel
theorem dX8_resize_17 : decode cX8_resize 17 = .ok (.athrow, 1) := by decide +kernel
theorem dX8_resize_18 : decode cX8_resize 18 = .ok (.aload_n 0, 1) := by decide +kernel
theorem dX8_resize_19 : decode cX8_resize 19 = .ok (.getfield 12, 3) := by decide +kernel
theorem dX8_resize_22 : decode cX8_resize 22 = .ok (.iload_n 1, 1) := by decide +kernel
theorem dX8_resize_23 : decode cX8_resize 23 = .ok (.iload_n 2, 1) := by decide +kernel
theorem dX8_resize_24 : decode cX8_resize 24 = .ok (.invokevirtual 99, 3) := by decide +kernel
theorem dX8_resize_27 : decode cX8_resize 27 = .ok (.iload_n 1, 1) := by decide +kernel
theorem dX8_resize_28 : decode cX8_resize 28 = .ok (.iload_n 2, 1) := by decide +kernel
theorem dX8_resize_29 : decode cX8_resize 29 = .ok (.imul, 1) := by decide +kernel
theorem dX8_resize_30 : decode cX8_resize 30 = .ok (.ireturn, 1) := by decide +kernel
theorem dX8_set_0 : decode cX8_set 0 = .ok (.aload_n 0, 1) := by decide +kernel
theorem dX8_set_1 : decode cX8_set 1 = .ok (.getfield 12, 3) := by decide +kernel
theorem dX8_set_4 : decode cX8_set 4 = .ok (.iload_n 1, 1) := by decide +kernel
theorem dX8_set_5 : decode cX8_set 5 = .ok (.iload_n 2, 1) := by decide +kernel
theorem dX8_set_6 : decode cX8_set 6 = .ok (.invokestatic 103, 3) := by decide +kernel
theorem dX8_set_9 : decode cX8_set 9 = .ok (.iload_n 3, 1) := by decide +kernel
theorem dX8_set_10 : decode cX8_set 10 = .ok (.invokestatic 107, 3) := by decide +kernel
theorem dX8_set_13 : decode cX8_set 13 = .ok (.aload_n 0, 1) := by decide +kernel
theorem dX8_set_14 : decode cX8_set 14 = .ok (.getfield 12, 3) := by decide +kernel
theorem dX8_set_17 : decode cX8_set 17 = .ok (.iload_n 1, 1) := by decide +kernel
theorem dX8_set_18 : decode cX8_set 18 = .ok (.iload_n 2, 1) := by decide +kernel
theorem dX8_set_19 : decode cX8_set 19 = .ok (.invokevirtual 111, 3) := by decide +kernel
theorem dX8_set_22 : decode cX8_set 22 = .ok (.istore 4, 2) := by decide +kernel
theorem dX8_set_24 : decode cX8_set 24 = .ok (.aload_n 0, 1) := by decide +kernel
theorem dX8_set_25 : decode cX8_set 25 = .ok (.getfield 12, 3) := by decide +kernel
theorem dX8_set_28 : decode cX8_set 28 = .ok (.iload_n 1, 1) := by decide +kernel
theorem dX8_set_29 : decode cX8_set 29 = .ok (.iload_n 2, 1) := by decide +kernel
theorem dX8_set_30 : decode cX8_set 30 = .ok (.iload_n 3, 1) := by decide +kernel
theorem dX8_set_31 : decode cX8_set 31 = .ok (.invokevirtual 115, 3) := by decide +kernel
theorem dX8_set_34 : decode cX8_set 34 = .ok (.iload 4, 2) := by decide +kernel
theorem dX8_set_36 : decode cX8_set 36 = .ok (.ireturn, 1) := by decide +kernel
theorem dX8_fill_0 : decode cX8_fill 0 = .ok (.aload_n 0, 1) := by decide +kernel
theorem dX8_fill_1 : decode cX8_fill 1 = .ok (.getfield 12, 3) := by decide +kernel
theorem dX8_fill_4 : decode cX8_fill 4 = .ok (.iload_n 1, 1) := by decide +kernel
theorem dX8_fill_5 : decode cX8_fill 5 = .ok (.iload_n 2, 1) := by decide +kernel
theorem dX8_fill_6 : decode cX8_fill 6 = .ok (.invokestatic 103, 3) := by decide +kernel
theorem dX8_fill_9 : decode cX8_fill 9 = .ok (.iload 5, 2) := by decide +kernel
theorem dX8_fill_11 : decode cX8_fill 11 = .ok (.invokestatic 107, 3) := by decide +kernel
theorem dX8_fill_14 : decode cX8_fill 14 = .ok (.iload_n 3, 1) := by decide +kernel
theorem dX8_fill_15 : decode cX8_fill 15 = .ok (.iconst 1, 1) := by decide +kernel
theorem dX8_fill_16 : decode cX8_fill 16 = .ok (.if_icmp .lt 36, 3) := by decide +kernel
theorem dX8_fill_19 : decode cX8_fill 19 = .ok (.iload 4, 2) := by decide +kernel
theorem dX8_fill_21 : decode cX8_fill 21 = .ok (.iconst 1, 1) := by decide +kernel
theorem dX8_fill_22 : decode cX8_fill 22 = .ok (.if_icmp .lt 30, 3) := by decide +kernel
theorem dX8_fill_25 : decode cX8_fill 25 = .ok (.iload_n 3, 1) := by decide +kernel
theorem dX8_fill_26 : decode cX8_fill 26 = .ok (.aload_n 0, 1) := by decide +kernel
theorem dX8_fill_27 : decode cX8_fill 27 = .ok (.getfield 12, 3) := by decide +kernel
theorem dX8_fill_30 : decode cX8_fill 30 = .ok (.getfield 119, 3) := by decide +kernel
theorem dX8_fill_33 : decode cX8_fill 33 = .ok (.iload_n 1, 1) := by decide +kernel
theorem dX8_fill_34 : decode cX8_fill 34 = .ok (.isub, 1) := by decide +kernel
theorem dX8_fill_35 : decode cX8_fill 35 = .ok (.if_icmp .gt 17, 3) := by decide +kernel
theorem dX8_fill_38 : decode cX8_fill 38 = .ok (.iload 4, 2) := by decide +kernel
theorem dX8_fill_40 : decode cX8_fill 40 = .ok (.aload_n 0, 1) := by decide +kernel
theorem dX8_fill_41 : decode cX8_fill 41 = .ok (.getfield 12, 3) := by decide +kernel
theorem dX8_fill_44 : decode cX8_fill 44 = .ok (.getfield 122, 3) := by decide +kernel
theorem dX8_fill_47 : decode cX8_fill 47 = .ok (.iload_n 2, 1) := by decide +kernel
theorem dX8_fill_48 : decode cX8_fill 48 = .ok (.isub, 1) := by decide +kernel
theorem dX8_fill_49 : decode cX8_fill 49 = .ok (.if_icmp .le 13, 3) := by decide +kernel
theorem dX8_fill_52 : decode cX8_fill 52 = .ok (.new 92, 3) := by decide +kernel
theorem dX8_fill_55 : decode cX8_fill 55 = .ok (.dup, 1) := by decide +kernel
theorem dX8_fill_56 : decode cX8_fill 56 = .ok (.ldc 125, 2) := by decide +kernel
theorem dX8_fill_58 : decode cX8_fill 58 = .ok (.invokespecial 96, 3) := by decide +kernel
theorem dX8_fill_61 : decode cX8_fill 61 = .ok (.athrow, 1) := by decide +kernel
theorem dX8_fill_62 : decode cX8_fill 62 = .ok (.iload_n 2, 1) := by decide +kernel
theorem dX8_fill_63 : decode cX8_fill 63 = .ok (.istore 6, 2) := by decide +kernel
theorem dX8_fill_65 : decode cX8_fill 65 = .ok (.iload 6, 2) := by decide +kernel
theorem dX8_fill_67 : decode cX8_fill 67 = .ok (.iload_n 2, 1) := by decide +kernel
theorem dX8_fill_68 : decode cX8_fill 68 = .ok (.iload 4, 2) := by decide +kernel
theorem dX8_fill_70 : decode cX8_fill 70 = .ok (.iadd, 1) := by decide +kernel
theorem dX8_fill_71 : decode cX8_fill 71 = .ok (.if_icmp .ge 39, 3) := by decide +kernel
theorem dX8_fill_74 : decode cX8_fill 74 = .ok (.iload_n 1, 1) := by decide +kernel
theorem dX8_fill_75 : decode cX8_fill 75 = .ok (.istore 7, 2) := by decide +kernel
theorem dX8_fill_77 : decode cX8_fill 77 = .ok (.iload 7, 2) := by decide +kernel
theorem dX8_fill_79 : decode cX8_fill 79 = .ok (.iload_n 1, 1) := by decide +kernel
theorem dX8_fill_80 : decode cX8_fill 80 = .ok (.iload_n 3, 1) := by decide +kernel
theorem dX8_fill_81 : decode cX8_fill 81 = .ok (.iadd, 1) := by decide +kernel
theorem dX8_fill_82 : decode cX8_fill 82 = .ok (.if_icmp .ge 22, 3) := by decide +kernel
theorem dX8_fill_85 : decode cX8_fill 85 = .ok (.aload_n 0, 1) := by decide +kernel
theorem dX8_fill_86 : decode cX8_fill 86 = .ok (.getfield 12, 3) := by decide +kernel
theorem dX8_fill_89 : decode cX8_fill 89 = .ok (.iload 7, 2) := by decide +kernel
theorem dX8_fill_91 : decode cX8_fill 91 = .ok (.iload 6, 2) := by decide +kernel
theorem dX8_fill_93 : decode cX8_fill 93 = .ok (.iload 5, 2) := by decide +kernel
theorem dX8_fill_95 : decode cX8_fill 95 = .ok (.invokevirtual 115, 3) := by decide +kernel
theorem dX8_fill_98 : decode cX8_fill 98 = .ok (.iinc 7 1, 3) := by decide +kernel
theorem dX8_fill_101 : decode cX8_fill 101 = .ok (.goto (-24), 3) := by decide +kernel
theorem dX8_fill_104 : decode cX8_fill 104 = .ok (.iinc 6 1, 3) := by decide +kernel
theorem dX8_fill_107 : decode cX8_fill 107 = .ok (.goto (-42), 3) := by decide +kernel
theorem dX8_fill_110 : decode cX8_fill 110 = .ok (.iload_n 3, 1) := by decide +kernel
theorem dX8_fill_111 : decode cX8_fill 111 = .ok (.iload 4, 2) := by decide +kernel
theorem dX8_fill_113 : decode cX8_fill 113 = .ok (.imul, 1) := by decide +kernel
theorem dX8_fill_114 : decode cX8_fill 114 = .ok (.ireturn, 1) := by decide +kernel
theorem dX8_ramp_0 : decode cX8_ramp 0 = .ok (.iload_n 1, 1) := by decide +kernel
theorem dX8_ramp_1 : decode cX8_ramp 1 = .ok (.invokestatic 107, 3) := by decide +kernel
theorem dX8_ramp_4 : decode cX8_ramp 4 = .ok (.iload_n 2, 1) := by decide +kernel
theorem dX8_ramp_5 : decode cX8_ramp 5 = .ok (.invokestatic 107, 3) := by decide +kernel
theorem dX8_ramp_8 : decode cX8_ramp 8 = .ok (.iload_n 3, 1) := by decide +kernel
theorem dX8_ramp_9 : decode cX8_ramp 9 = .ok (.invokestatic 107, 3) := by decide +kernel
theorem dX8_ramp_12 : decode cX8_ramp 12 = .ok (.iconst 0, 1) := by decide +kernel
theorem dX8_ramp_13 : decode cX8_ramp 13 = .ok (.istore 4, 2) := by decide +kernel
theorem dX8_ramp_15 : decode cX8_ramp 15 = .ok (.iload 4, 2) := by decide +kernel
theorem dX8_ramp_17 : decode cX8_ramp 17 = .ok (.aload_n 0, 1) := by decide +kernel
theorem dX8_ramp_18 : decode cX8_ramp 18 = .ok (.getfield 12, 3) := by decide +kernel
theorem dX8_ramp_21 : decode cX8_ramp 21 = .ok (.getfield 122, 3) := by decide +kernel
theorem dX8_ramp_24 : decode cX8_ramp 24 = .ok (.if_icmp .ge 56, 3) := by decide +kernel
theorem dX8_ramp_27 : decode cX8_ramp 27 = .ok (.iconst 0, 1) := by decide +kernel
theorem dX8_ramp_28 : decode cX8_ramp 28 = .ok (.istore 5, 2) := by decide +kernel
theorem dX8_ramp_30 : decode cX8_ramp 30 = .ok (.iload 5, 2) := by decide +kernel
theorem dX8_ramp_32 : decode cX8_ramp 32 = .ok (.aload_n 0, 1) := by decide +kernel
theorem dX8_ramp_33 : decode cX8_ramp 33 = .ok (.getfield 12, 3) := by decide +kernel
theorem dX8_ramp_36 : decode cX8_ramp 36 = .ok (.getfield 119, 3) := by decide +kernel
theorem dX8_ramp_39 : decode cX8_ramp 39 = .ok (.if_icmp .ge 35, 3) := by decide +kernel
theorem dX8_ramp_42 : decode cX8_ramp 42 = .ok (.aload_n 0, 1) := by decide +kernel
theorem dX8_ramp_43 : decode cX8_ramp 43 = .ok (.getfield 12, 3) := by decide +kernel
theorem dX8_ramp_46 : decode cX8_ramp 46 = .ok (.iload 5, 2) := by decide +kernel
theorem dX8_ramp_48 : decode cX8_ramp 48 = .ok (.iload 4, 2) := by decide +kernel
theorem dX8_ramp_50 : decode cX8_ramp 50 = .ok (.iload_n 1, 1) := by decide +kernel
theorem dX8_ramp_51 : decode cX8_ramp 51 = .ok (.iload_n 2, 1) := by decide +kernel
theorem dX8_ramp_52 : decode cX8_ramp 52 = .ok (.iload 5, 2) := by decide +kernel
theorem dX8_ramp_54 : decode cX8_ramp 54 = .ok (.imul, 1) := by decide +kernel
theorem dX8_ramp_55 : decode cX8_ramp 55 = .ok (.iadd, 1) := by decide +kernel
theorem dX8_ramp_56 : decode cX8_ramp 56 = .ok (.iload_n 3, 1) := by decide +kernel
theorem dX8_ramp_57 : decode cX8_ramp 57 = .ok (.iload 4, 2) := by decide +kernel
theorem dX8_ramp_59 : decode cX8_ramp 59 = .ok (.imul, 1) := by decide +kernel
theorem dX8_ramp_60 : decode cX8_ramp 60 = .ok (.iadd, 1) := by decide +kernel
theorem dX8_ramp_61 : decode cX8_ramp 61 = .ok (.sipush 256, 3) := by decide +kernel
theorem dX8_ramp_64 : decode cX8_ramp 64 = .ok (.irem, 1) := by decide +kernel
theorem dX8_ramp_65 : decode cX8_ramp 65 = .ok (.invokevirtual 115, 3) := by decide +kernel
theorem dX8_ramp_68 : decode cX8_ramp 68 = .ok (.iinc 5 1, 3) := by decide +kernel
theorem dX8_ramp_71 : decode cX8_ramp 71 = .ok (.goto (-41), 3) := by decide +kernel
theorem dX8_ramp_74 : decode cX8_ramp 74 = .ok (.iinc 4 1, 3) := by decide +kernel
theorem dX8_ramp_77 : decode cX8_ramp 77 = .ok (.goto (-62), 3) := by decide +kernel
theorem dX8_ramp_80 : decode cX8_ramp 80 = .ok (.aload_n 0, 1) := by decide +kernel
theorem dX8_ramp_81 : decode cX8_ramp 81 = .ok (.getfield 12, 3) := by decide +kernel
theorem dX8_ramp_84 : decode cX8_ramp 84 = .ok (.aload_n 0, 1) := by decide +kernel
theorem dX8_ramp_85 : decode cX8_ramp 85 = .ok (.getfield 12, 3) := by decide +kernel
theorem dX8_ramp_88 : decode cX8_ramp 88 = .ok (.getfield 119, 3) := by decide +kernel
theorem dX8_ramp_91 : decode cX8_ramp 91 = .ok (.iconst 1, 1) := by decide +kernel
theorem dX8_ramp_92 : decode cX8_ramp 92 = .ok (.isub, 1) := by decide +kernel
theorem dX8_ramp_93 : decode cX8_ramp 93 = .ok (.aload_n 0, 1) := by decide +kernel
theorem dX8_ramp_94 : decode cX8_ramp 94 = .ok (.getfield 12, 3) := by decide +kernel
theorem dX8_ramp_97 : decode cX8_ramp 97 = .ok (.getfield 122, 3) := by decide +kernel
theorem dX8_ramp_100 : decode cX8_ramp 100 = .ok (.iconst 1, 1) := by decide +kernel
theorem dX8_ramp_101 : decode cX8_ramp 101 = .ok (.isub, 1) := by decide +kernel
theorem dX8_ramp_102 : decode cX8_ramp 102 = .ok (.invokevirtual 111, 3) := by decide +kernel
theorem dX8_ramp_105 : decode cX8_ramp 105 = .ok (.ireturn, 1) := by decide +kernel
theorem dX8_pixel_0 : decode cX8_pixel 0 = .ok (.aload_n 0, 1) := by decide +kernel
theorem dX8_pixel_1 : decode cX8_pixel 1 = .ok (.getfield 12, 3) := by decide +kernel
theorem dX8_pixel_4 : decode cX8_pixel 4 = .ok (.iload_n 1, 1) := by decide +kernel
theorem dX8_pixel_5 : decode cX8_pixel 5 = .ok (.iload_n 2, 1) := by decide +kernel
theorem dX8_pixel_6 : decode cX8_pixel 6 = .ok (.invokestatic 103, 3) := by decide +kernel
theorem dX8_pixel_9 : decode cX8_pixel 9 = .ok (.aload_n 0, 1) := by decide +kernel
theorem dX8_pixel_10 : decode cX8_pixel 10 = .ok (.getfield 12, 3) := by decide +kernel
theorem dX8_pixel_13 : decode cX8_pixel 13 = .ok (.iload_n 1, 1) := by decide +kernel
theorem dX8_pixel_14 : decode cX8_pixel 14 = .ok (.iload_n 2, 1) := by decide +kernel
theorem dX8_pixel_15 : decode cX8_pixel 15 = .ok (.invokevirtual 111, 3) := by decide +kernel
theorem dX8_pixel_18 : decode cX8_pixel 18 = .ok (.ireturn, 1) := by decide +kernel
theorem dX8_width_0 : decode cX8_width 0 = .ok (.aload_n 0, 1) := by decide +kernel
theorem dX8_width_1 : decode cX8_width 1 = .ok (.getfield 12, 3) := by decide +kernel
theorem dX8_width_4 : decode cX8_width 4 = .ok (.getfield 119, 3) := by decide +kernel
theorem dX8_width_7 : decode cX8_width 7 = .ok (.ireturn, 1) := by decide +kernel
theorem dX8_height_0 : decode cX8_height 0 = .ok (.aload_n 0, 1) := by decide +kernel
theorem dX8_height_1 : decode cX8_height 1 = .ok (.getfield 12, 3) := by decide +kernel
theorem dX8_height_4 : decode cX8_height 4 = .ok (.getfield 122, 3) := by decide +kernel
theorem dX8_height_7 : decode cX8_height 7 = .ok (.ireturn, 1) := by decide +kernel
theorem dX8_setSteps_0 : decode cX8_setSteps 0 = .ok (.bipush 33, 2) := by decide +kernel
theorem dX8_setSteps_2 : decode cX8_setSteps 2 = .ok (.iload_n 1, 1) := by decide +kernel
theorem dX8_setSteps_3 : decode cX8_setSteps 3 = .ok (.invokestatic 127, 3) := by decide +kernel
theorem dX8_setSteps_6 : decode cX8_setSteps 6 = .ok (.ifCond .ne 13, 3) := by decide +kernel
theorem dX8_setSteps_9 : decode cX8_setSteps 9 = .ok (.new 92, 3) := by decide +kernel
theorem dX8_setSteps_12 : decode cX8_setSteps 12 = .ok (.dup, 1) := by decide +kernel
theorem dX8_setSteps_13 : decode cX8_setSteps 13 = .ok (.ldc 130, 2) := by decide +kernel
theorem dX8_setSteps_15 : decode cX8_setSteps 15 = .ok (.invokespecial 96, 3) := by decide +kernel
theorem dX8_setSteps_18 : decode cX8_setSteps 18 = .ok (.athrow, 1) := by decide +kernel
theorem dX8_setSteps_19 : decode cX8_setSteps 19 = .ok (.iload_n 2, 1) := by decide +kernel
theorem dX8_setSteps_20 : decode cX8_setSteps 20 = .ok (.ifCond .eq 21, 3) := by decide +kernel
theorem dX8_setSteps_23 : decode cX8_setSteps 23 = .ok (.iload_n 1, 1) := by decide +kernel
theorem dX8_setSteps_24 : decode cX8_setSteps 24 = .ok (.iload_n 2, 1) := by decide +kernel
theorem dX8_setSteps_25 : decode cX8_setSteps 25 = .ok (.invokestatic 127, 3) := by decide +kernel
theorem dX8_setSteps_28 : decode cX8_setSteps 28 = .ok (.ifCond .ne 13, 3) := by decide +kernel
theorem dX8_setSteps_31 : decode cX8_setSteps 31 = .ok (.new 92, 3) := by decide +kernel
theorem dX8_setSteps_34 : decode cX8_setSteps 34 = .ok (.dup, 1) := by decide +kernel
theorem dX8_setSteps_35 : decode cX8_setSteps 35 = .ok (.ldc 132, 2) := by decide +kernel
theorem dX8_setSteps_37 : decode cX8_setSteps 37 = .ok (.invokespecial 96, 3) := by decide +kernel
theorem dX8_setSteps_40 : decode cX8_setSteps 40 = .ok (.athrow, 1) := by decide +kernel
theorem dX8_setSteps_41 : decode cX8_setSteps 41 = .ok (.iload_n 3, 1) := by decide +kernel
theorem dX8_setSteps_42 : decode cX8_setSteps 42 = .ok (.ifCond .eq 21, 3) := by decide +kernel
theorem dX8_setSteps_45 : decode cX8_setSteps 45 = .ok (.iload_n 2, 1) := by decide +kernel
theorem dX8_setSteps_46 : decode cX8_setSteps 46 = .ok (.iload_n 3, 1) := by decide +kernel
theorem dX8_setSteps_47 : decode cX8_setSteps 47 = .ok (.invokestatic 127, 3) := by decide +kernel
theorem dX8_setSteps_50 : decode cX8_setSteps 50 = .ok (.ifCond .ne 13, 3) := by decide +kernel
theorem dX8_setSteps_53 : decode cX8_setSteps 53 = .ok (.new 92, 3) := by decide +kernel
theorem dX8_setSteps_56 : decode cX8_setSteps 56 = .ok (.dup, 1) := by decide +kernel
theorem dX8_setSteps_57 : decode cX8_setSteps 57 = .ok (.ldc 134, 2) := by decide +kernel
theorem dX8_setSteps_59 : decode cX8_setSteps 59 = .ok (.invokespecial 96, 3) := by decide +kernel
theorem dX8_setSteps_62 : decode cX8_setSteps 62 = .ok (.athrow, 1) := by decide +kernel
theorem dX8_setSteps_63 : decode cX8_setSteps 63 = .ok (.aload_n 0, 1) := by decide +kernel
theorem dX8_setSteps_64 : decode cX8_setSteps 64 = .ok (.getfield 16, 3) := by decide +kernel
theorem dX8_setSteps_67 : decode cX8_setSteps 67 = .ok (.iconst 0, 1) := by decide +kernel
theorem dX8_setSteps_68 : decode cX8_setSteps 68 = .ok (.iload_n 1, 1) := by decide +kernel
theorem dX8_setSteps_69 : decode cX8_setSteps 69 = .ok (.iastore, 1) := by decide +kernel
theorem dX8_setSteps_70 : decode cX8_setSteps 70 = .ok (.aload_n 0, 1) := by decide +kernel
theorem dX8_setSteps_71 : decode cX8_setSteps 71 = .ok (.getfield 16, 3) := by decide +kernel
theorem dX8_setSteps_74 : decode cX8_setSteps 74 = .ok (.iconst 1, 1) := by decide +kernel
theorem dX8_setSteps_75 : decode cX8_setSteps 75 = .ok (.iload_n 2, 1) := by decide +kernel
theorem dX8_setSteps_76 : decode cX8_setSteps 76 = .ok (.iastore, 1) := by decide +kernel
theorem dX8_setSteps_77 : decode cX8_setSteps 77 = .ok (.aload_n 0, 1) := by decide +kernel
theorem dX8_setSteps_78 : decode cX8_setSteps 78 = .ok (.getfield 16, 3) := by decide +kernel
theorem dX8_setSteps_81 : decode cX8_setSteps 81 = .ok (.iconst 2, 1) := by decide +kernel
theorem dX8_setSteps_82 : decode cX8_setSteps 82 = .ok (.iload_n 3, 1) := by decide +kernel
theorem dX8_setSteps_83 : decode cX8_setSteps 83 = .ok (.iastore, 1) := by decide +kernel
theorem dX8_setSteps_84 : decode cX8_setSteps 84 = .ok (.aload_n 0, 1) := by decide +kernel
theorem dX8_setSteps_85 : decode cX8_setSteps 85 = .ok (.iload_n 2, 1) := by decide +kernel
theorem dX8_setSteps_86 : decode cX8_setSteps 86 = .ok (.ifCond .ne 7, 3) := by decide +kernel
theorem dX8_setSteps_89 : decode cX8_setSteps 89 = .ok (.iconst 1, 1) := by decide +kernel
theorem dX8_setSteps_90 : decode cX8_setSteps 90 = .ok (.goto 12, 3) := by decide +kernel
theorem dX8_setSteps_93 : decode cX8_setSteps 93 = .ok (.iload_n 3, 1) := by decide +kernel
theorem dX8_setSteps_94 : decode cX8_setSteps 94 = .ok (.ifCond .ne 7, 3) := by decide +kernel
theorem dX8_setSteps_97 : decode cX8_setSteps 97 = .ok (.iconst 2, 1) := by decide +kernel
theorem dX8_setSteps_98 : decode cX8_setSteps 98 = .ok (.goto 4, 3) := by decide +kernel
theorem dX8_setSteps_101 : decode cX8_setSteps 101 = .ok (.iconst 3, 1) := by decide +kernel
theorem dX8_setSteps_102 : decode cX8_setSteps 102 = .ok (.putfield 20, 3) := by decide +kernel
theorem dX8_setSteps_105 : decode cX8_setSteps 105 = .ok (.aload_n 0, 1) := by decide +kernel
theorem dX8_setSteps_106 : decode cX8_setSteps 106 = .ok (.getfield 20, 3) := by decide +kernel
theorem dX8_setSteps_109 : decode cX8_setSteps 109 = .ok (.ireturn, 1) := by decide +kernel
theorem dX8_isLossless_0 : decode cX8_isLossless 0 = .ok (.aload_n 0, 1) := by decide +kernel
theorem dX8_isLossless_1 : decode cX8_isLossless 1 = .ok (.getfield 16, 3) := by decide +kernel
theorem dX8_isLossless_4 : decode cX8_isLossless 4 = .ok (.aload_n 0, 1) := by decide +kernel
theorem dX8_isLossless_5 : decode cX8_isLossless 5 = .ok (.getfield 20, 3) := by decide +kernel
theorem dX8_isLossless_8 : decode cX8_isLossless 8 = .ok (.iconst 1, 1) := by decide +kernel
theorem dX8_isLossless_9 : decode cX8_isLossless 9 = .ok (.isub, 1) := by decide +kernel
theorem dX8_isLossless_10 : decode cX8_isLossless 10 = .ok (.iaload, 1) := by decide +kernel
theorem dX8_isLossless_11 : decode cX8_isLossless 11 = .ok (.iconst 1, 1) := by decide +kernel
theorem dX8_isLossless_12 : decode cX8_isLossless 12 = .ok (.if_icmp .ne 7, 3) := by decide +kernel
theorem dX8_isLossless_15 : decode cX8_isLossless 15 = .ok (.iconst 1, 1) := by decide +kernel
theorem dX8_isLossless_16 : decode cX8_isLossless 16 = .ok (.goto 4, 3) := by decide +kernel
theorem dX8_isLossless_19 : decode cX8_isLossless 19 = .ok (.iconst 0, 1) := by decide +kernel
theorem dX8_isLossless_20 : decode cX8_isLossless 20 = .ok (.ireturn, 1) := by decide +kernel
theorem dX8_encode_0 : decode cX8_encode 0 = .ok (.aload_n 0, 1) := by decide +kernel
theorem dX8_encode_1 : decode cX8_encode 1 = .ok (.invokevirtual 136, 3) := by decide +kernel
theorem dX8_encode_4 : decode cX8_encode 4 = .ok (.aload_n 0, 1) := by decide +kernel
theorem dX8_encode_5 : decode cX8_encode 5 = .ok (.invokevirtual 139, 3) := by decide +kernel
theorem dX8_encode_8 : decode cX8_encode 8 = .ok (.iconst 0, 1) := by decide +kernel
theorem dX8_encode_9 : decode cX8_encode 9 = .ok (.istore_n 1, 1) := by decide +kernel
theorem dX8_encode_10 : decode cX8_encode 10 = .ok (.iload_n 1, 1) := by decide +kernel
theorem dX8_encode_11 : decode cX8_encode 11 = .ok (.aload_n 0, 1) := by decide +kernel
theorem dX8_encode_12 : decode cX8_encode 12 = .ok (.getfield 20, 3) := by decide +kernel
theorem dX8_encode_15 : decode cX8_encode 15 = .ok (.if_icmp .ge 36, 3) := by decide +kernel
theorem dX8_encode_18 : decode cX8_encode 18 = .ok (.aload_n 0, 1) := by decide +kernel
theorem dX8_encode_19 : decode cX8_encode 19 = .ok (.getfield 48, 3) := by decide +kernel
theorem dX8_encode_22 : decode cX8_encode 22 = .ok (.iload_n 1, 1) := by decide +kernel
theorem dX8_encode_23 : decode cX8_encode 23 = .ok (.aaload, 1) := by decide +kernel
theorem dX8_encode_24 : decode cX8_encode 24 = .ok (.astore_n 2, 1) := by decide +kernel
theorem dX8_encode_25 : decode cX8_encode 25 = .ok (.aload_n 2, 1) := by decide +kernel
theorem dX8_encode_26 : decode cX8_encode 26 = .ok (.aload_n 0, 1) := by decide +kernel
theorem dX8_encode_27 : decode cX8_encode 27 = .ok (.getfield 16, 3) := by decide +kernel
theorem dX8_encode_30 : decode cX8_encode 30 = .ok (.iload_n 1, 1) := by decide +kernel
theorem dX8_encode_31 : decode cX8_encode 31 = .ok (.iaload, 1) := by decide +kernel
theorem dX8_encode_32 : decode cX8_encode 32 = .ok (.putfield 142, 3) := by decide +kernel
theorem dX8_encode_35 : decode cX8_encode 35 = .ok (.aload_n 0, 1) := by decide +kernel
theorem dX8_encode_36 : decode cX8_encode 36 = .ok (.aload_n 2, 1) := by decide +kernel
theorem dX8_encode_37 : decode cX8_encode 37 = .ok (.invokevirtual 145, 3) := by decide +kernel
theorem dX8_encode_40 : decode cX8_encode 40 = .ok (.aload_n 0, 1) := by decide +kernel
theorem dX8_encode_41 : decode cX8_encode 41 = .ok (.aload_n 2, 1) := by decide +kernel
theorem dX8_encode_42 : decode cX8_encode 42 = .ok (.invokevirtual 149, 3) := by decide +kernel
theorem dX8_encode_45 : decode cX8_encode 45 = .ok (.iinc 1 1, 3) := by decide +kernel
theorem dX8_encode_48 : decode cX8_encode 48 = .ok (.goto (-38), 3) := by decide +kernel
theorem dX8_encode_51 : decode cX8_encode 51 = .ok (.aload_n 0, 1) := by decide +kernel
theorem dX8_encode_52 : decode cX8_encode 52 = .ok (.aload_n 0, 1) := by decide +kernel
theorem dX8_encode_53 : decode cX8_encode 53 = .ok (.getfield 20, 3) := by decide +kernel
theorem dX8_encode_56 : decode cX8_encode 56 = .ok (.invokevirtual 152, 3) := by decide +kernel
theorem dX8_encode_59 : decode cX8_encode 59 = .ok (.aload_n 0, 1) := by decide +kernel
theorem dX8_encode_60 : decode cX8_encode 60 = .ok (.getfield 27, 3) := by decide +kernel
theorem dX8_encode_63 : decode cX8_encode 63 = .ok (.getfield 155, 3) := by decide +kernel
theorem dX8_encode_66 : decode cX8_encode 66 = .ok (.ireturn, 1) := by decide +kernel
theorem dX8_encodePlain_0 : decode cX8_encodePlain 0 = .ok (.aload_n 0, 1) := by decide +kernel
theorem dX8_encodePlain_1 : decode cX8_encodePlain 1 = .ok (.getfield 27, 3) := by decide +kernel
theorem dX8_encodePlain_4 : decode cX8_encodePlain 4 = .ok (.invokevirtual 158, 3) := by decide +kernel
theorem dX8_encodePlain_7 : decode cX8_encodePlain 7 = .ok (.aload_n 0, 1) := by decide +kernel
theorem dX8_encodePlain_8 : decode cX8_encodePlain 8 = .ok (.getfield 27, 3) := by decide +kernel
theorem dX8_encodePlain_11 : decode cX8_encodePlain 11 = .ok (.bipush 82, 2) := by decide +kernel
theorem dX8_encodePlain_13 : decode cX8_encodePlain 13 = .ok (.invokevirtual 160, 3) := by decide +kernel
theorem dX8_encodePlain_16 : decode cX8_encodePlain 16 = .ok (.aload_n 0, 1) := by decide +kernel
theorem dX8_encodePlain_17 : decode cX8_encodePlain 17 = .ok (.getfield 27, 3) := by decide +kernel
theorem dX8_encodePlain_20 : decode cX8_encodePlain 20 = .ok (.aload_n 0, 1) := by decide +kernel
theorem dX8_encodePlain_21 : decode cX8_encodePlain 21 = .ok (.getfield 12, 3) := by decide +kernel
theorem dX8_encodePlain_24 : decode cX8_encodePlain 24 = .ok (.getfield 119, 3) := by decide +kernel
theorem dX8_encodePlain_27 : decode cX8_encodePlain 27 = .ok (.invokevirtual 160, 3) := by decide +kernel
theorem dX8_encodePlain_30 : decode cX8_encodePlain 30 = .ok (.aload_n 0, 1) := by decide +kernel
theorem dX8_encodePlain_31 : decode cX8_encodePlain 31 = .ok (.getfield 27, 3) := by decide +kernel
theorem dX8_encodePlain_34 : decode cX8_encodePlain 34 = .ok (.aload_n 0, 1) := by decide +kernel
theorem dX8_encodePlain_35 : decode cX8_encodePlain 35 = .ok (.getfield 12, 3) := by decide +kernel
theorem dX8_encodePlain_38 : decode cX8_encodePlain 38 = .ok (.getfield 122, 3) := by decide +kernel
theorem dX8_encodePlain_41 : decode cX8_encodePlain 41 = .ok (.invokevirtual 160, 3) := by decide +kernel
theorem dX8_encodePlain_44 : decode cX8_encodePlain 44 = .ok (.iconst 0, 1) := by decide +kernel
theorem dX8_encodePlain_45 : decode cX8_encodePlain 45 = .ok (.istore_n 1, 1) := by decide +kernel
theorem dX8_encodePlain_46 : decode cX8_encodePlain 46 = .ok (.iload_n 1, 1) := by decide +kernel
theorem dX8_encodePlain_47 : decode cX8_encodePlain 47 = .ok (.aload_n 0, 1) := by decide +kernel
theorem dX8_encodePlain_48 : decode cX8_encodePlain 48 = .ok (.getfield 12, 3) := by decide +kernel
theorem dX8_encodePlain_51 : decode cX8_encodePlain 51 = .ok (.getfield 122, 3) := by decide +kernel
theorem dX8_encodePlain_54 : decode cX8_encodePlain 54 = .ok (.if_icmp .ge 44, 3) := by decide +kernel
theorem dX8_encodePlain_57 : decode cX8_encodePlain 57 = .ok (.iconst 0, 1) := by decide +kernel
theorem dX8_encodePlain_58 : decode cX8_encodePlain 58 = .ok (.istore_n 2, 1) := by decide +kernel
theorem dX8_encodePlain_59 : decode cX8_encodePlain 59 = .ok (.iload_n 2, 1) := by decide +kernel
theorem dX8_encodePlain_60 : decode cX8_encodePlain 60 = .ok (.aload_n 0, 1) := by decide +kernel
theorem dX8_encodePlain_61 : decode cX8_encodePlain 61 = .ok (.getfield 12, 3) := by decide +kernel
theorem dX8_encodePlain_64 : decode cX8_encodePlain 64 = .ok (.getfield 119, 3) := by decide +kernel
theorem dX8_encodePlain_67 : decode cX8_encodePlain 67 = .ok (.if_icmp .ge 25, 3) := by decide +kernel
theorem dX8_encodePlain_70 : decode cX8_encodePlain 70 = .ok (.aload_n 0, 1) := by decide +kernel
theorem dX8_encodePlain_71 : decode cX8_encodePlain 71 = .ok (.getfield 27, 3) := by decide +kernel
theorem dX8_encodePlain_74 : decode cX8_encodePlain 74 = .ok (.aload_n 0, 1) := by decide +kernel
theorem dX8_encodePlain_75 : decode cX8_encodePlain 75 = .ok (.getfield 12, 3) := by decide +kernel
theorem dX8_encodePlain_78 : decode cX8_encodePlain 78 = .ok (.iload_n 2, 1) := by decide +kernel
theorem dX8_encodePlain_79 : decode cX8_encodePlain 79 = .ok (.iload_n 1, 1) := by decide +kernel
theorem dX8_encodePlain_80 : decode cX8_encodePlain 80 = .ok (.invokevirtual 111, 3) := by decide +kernel
theorem dX8_encodePlain_83 : decode cX8_encodePlain 83 = .ok (.invokevirtual 160, 3) := by decide +kernel
theorem dX8_encodePlain_86 : decode cX8_encodePlain 86 = .ok (.iinc 2 1, 3) := by decide +kernel
theorem dX8_encodePlain_89 : decode cX8_encodePlain 89 = .ok (.goto (-30), 3) := by decide +kernel
theorem dX8_encodePlain_92 : decode cX8_encodePlain 92 = .ok (.iinc 1 1, 3) := by decide +kernel
theorem dX8_encodePlain_95 : decode cX8_encodePlain 95 = .ok (.goto (-49), 3) := by decide +kernel
theorem dX8_encodePlain_98 : decode cX8_encodePlain 98 = .ok (.aload_n 0, 1) := by decide +kernel
theorem dX8_encodePlain_99 : decode cX8_encodePlain 99 = .ok (.iconst 0, 1) := by decide +kernel
theorem dX8_encodePlain_100 : decode cX8_encodePlain 100 = .ok (.invokevirtual 152, 3) := by decide +kernel
theorem dX8_encodePlain_103 : decode cX8_encodePlain 103 = .ok (.aload_n 0, 1) := by decide +kernel
theorem dX8_encodePlain_104 : decode cX8_encodePlain 104 = .ok (.getfield 27, 3) := by decide +kernel
theorem dX8_encodePlain_107 : decode cX8_encodePlain 107 = .ok (.getfield 155, 3) := by decide +kernel
theorem dX8_encodePlain_110 : decode cX8_encodePlain 110 = .ok (.ireturn, 1) := by decide +kernel
theorem dX8_size_0 : decode cX8_size 0 = .ok (.aload_n 0, 1) := by decide +kernel
theorem dX8_size_1 : decode cX8_size 1 = .ok (.getfield 27, 3) := by decide +kernel
theorem dX8_size_4 : decode cX8_size 4 = .ok (.getfield 155, 3) := by decide +kernel
theorem dX8_size_7 : decode cX8_size 7 = .ok (.ireturn, 1) := by decide +kernel
theorem dX8_byteAt_0 : decode cX8_byteAt 0 = .ok (.aload_n 0, 1) := by decide +kernel
theorem dX8_byteAt_1 : decode cX8_byteAt 1 = .ok (.iload_n 1, 1) := by decide +kernel
theorem dX8_byteAt_2 : decode cX8_byteAt 2 = .ok (.invokevirtual 163, 3) := by decide +kernel
theorem dX8_byteAt_5 : decode cX8_byteAt 5 = .ok (.aload_n 0, 1) := by decide +kernel
theorem dX8_byteAt_6 : decode cX8_byteAt 6 = .ok (.getfield 27, 3) := by decide +kernel
theorem dX8_byteAt_9 : decode cX8_byteAt 9 = .ok (.iload_n 1, 1) := by decide +kernel
theorem dX8_byteAt_10 : decode cX8_byteAt 10 = .ok (.invokevirtual 166, 3) := by decide +kernel
theorem dX8_byteAt_13 : decode cX8_byteAt 13 = .ok (.ireturn, 1) := by decide +kernel
theorem dX8_setByte_0 : decode cX8_setByte 0 = .ok (.aload_n 0, 1) := by decide +kernel
theorem dX8_setByte_1 : decode cX8_setByte 1 = .ok (.iload_n 1, 1) := by decide +kernel
theorem dX8_setByte_2 : decode cX8_setByte 2 = .ok (.invokevirtual 163, 3) := by decide +kernel
theorem dX8_setByte_5 : decode cX8_setByte 5 = .ok (.iload_n 2, 1) := by decide +kernel
theorem dX8_setByte_6 : decode cX8_setByte 6 = .ok (.invokestatic 107, 3) := by decide +kernel
theorem dX8_setByte_9 : decode cX8_setByte 9 = .ok (.aload_n 0, 1) := by decide +kernel
theorem dX8_setByte_10 : decode cX8_setByte 10 = .ok (.getfield 27, 3) := by decide +kernel
theorem dX8_setByte_13 : decode cX8_setByte 13 = .ok (.iload_n 1, 1) := by decide +kernel
theorem dX8_setByte_14 : decode cX8_setByte 14 = .ok (.invokevirtual 166, 3) := by decide +kernel
theorem dX8_setByte_17 : decode cX8_setByte 17 = .ok (.istore_n 3, 1) := by decide +kernel
theorem dX8_setByte_18 : decode cX8_setByte 18 = .ok (.aload_n 0, 1) := by decide +kernel
theorem dX8_setByte_19 : decode cX8_setByte 19 = .ok (.getfield 27, 3) := by decide +kernel
theorem dX8_setByte_22 : decode cX8_setByte 22 = .ok (.iload_n 1, 1) := by decide +kernel
theorem dX8_setByte_23 : decode cX8_setByte 23 = .ok (.iload_n 2, 1) := by decide +kernel
theorem dX8_setByte_24 : decode cX8_setByte 24 = .ok (.invokevirtual 169, 3) := by decide +kernel
theorem dX8_setByte_27 : decode cX8_setByte 27 = .ok (.iload_n 3, 1) := by decide +kernel
theorem dX8_setByte_28 : decode cX8_setByte 28 = .ok (.ireturn, 1) := by decide +kernel
theorem dX8_cut_0 : decode cX8_cut 0 = .ok (.iload_n 1, 1) := by decide +kernel
theorem dX8_cut_1 : decode cX8_cut 1 = .ok (.ifCond .lt 14, 3) := by decide +kernel
theorem dX8_cut_4 : decode cX8_cut 4 = .ok (.iload_n 1, 1) := by decide +kernel
theorem dX8_cut_5 : decode cX8_cut 5 = .ok (.aload_n 0, 1) := by decide +kernel
theorem dX8_cut_6 : decode cX8_cut 6 = .ok (.getfield 27, 3) := by decide +kernel
theorem dX8_cut_9 : decode cX8_cut 9 = .ok (.getfield 155, 3) := by decide +kernel
theorem dX8_cut_12 : decode cX8_cut 12 = .ok (.if_icmp .le 13, 3) := by decide +kernel
theorem dX8_cut_15 : decode cX8_cut 15 = .ok (.new 92, 3) := by decide +kernel
theorem dX8_cut_18 : decode cX8_cut 18 = .ok (.dup, 1) := by decide +kernel
theorem dX8_cut_19 : decode cX8_cut 19 = .ok (.ldc 171, 2) := by decide +kernel
theorem dX8_cut_21 : decode cX8_cut 21 = .ok (.invokespecial 96, 3) := by decide +kernel
theorem dX8_cut_24 : decode cX8_cut 24 = .ok (.athrow, 1) := by decide +kernel
theorem dX8_cut_25 : decode cX8_cut 25 = .ok (.aload_n 0, 1) := by decide +kernel
theorem dX8_cut_26 : decode cX8_cut 26 = .ok (.getfield 27, 3) := by decide +kernel
theorem dX8_cut_29 : decode cX8_cut 29 = .ok (.getfield 155, 3) := by decide +kernel
theorem dX8_cut_32 : decode cX8_cut 32 = .ok (.iload_n 1, 1) := by decide +kernel
theorem dX8_cut_33 : decode cX8_cut 33 = .ok (.isub, 1) := by decide +kernel
theorem dX8_cut_34 : decode cX8_cut 34 = .ok (.istore_n 2, 1) := by decide +kernel
theorem dX8_cut_35 : decode cX8_cut 35 = .ok (.aload_n 0, 1) := by decide +kernel
theorem dX8_cut_36 : decode cX8_cut 36 = .ok (.getfield 27, 3) := by decide +kernel
theorem dX8_cut_39 : decode cX8_cut 39 = .ok (.iload_n 1, 1) := by decide +kernel
theorem dX8_cut_40 : decode cX8_cut 40 = .ok (.putfield 155, 3) := by decide +kernel
theorem dX8_cut_43 : decode cX8_cut 43 = .ok (.iload_n 2, 1) := by decide +kernel
theorem dX8_cut_44 : decode cX8_cut 44 = .ok (.ireturn, 1) := by decide +kernel
theorem dX8_decode_0 : decode cX8_decode 0 = .ok (.iload_n 1, 1) := by decide +kernel
theorem dX8_decode_1 : decode cX8_decode 1 = .ok (.iconst 1, 1) := by decide +kernel
theorem dX8_decode_2 : decode cX8_decode 2 = .ok (.if_icmp .lt 8, 3) := by decide +kernel
theorem dX8_decode_5 : decode cX8_decode 5 = .ok (.iload_n 1, 1) := by decide +kernel
theorem dX8_decode_6 : decode cX8_decode 6 = .ok (.iconst 3, 1) := by decide +kernel
theorem dX8_decode_7 : decode cX8_decode 7 = .ok (.if_icmp .le 13, 3) := by decide +kernel
theorem dX8_decode_10 : decode cX8_decode 10 = .ok (.new 92, 3) := by decide +kernel
theorem dX8_decode_13 : decode cX8_decode 13 = .ok (.dup, 1) := by decide +kernel
theorem dX8_decode_14 : decode cX8_decode 14 = .ok (.ldc 173, 2) := by decide +kernel
theorem dX8_decode_16 : decode cX8_decode 16 = .ok (.invokespecial 96, 3) := by decide +kernel
theorem dX8_decode_19 : decode cX8_decode 19 = .ok (.athrow, 1) := by decide +kernel
theorem dX8_decode_20 : decode cX8_decode 20 = .ok (.aload_n 0, 1) := by decide +kernel
theorem dX8_decode_21 : decode cX8_decode 21 = .ok (.invokevirtual 175, 3) := by decide +kernel
theorem dX8_decode_24 : decode cX8_decode 24 = .ok (.ifCond .ne 13, 3) := by decide +kernel
theorem dX8_decode_27 : decode cX8_decode 27 = .ok (.new 179, 3) := by decide +kernel
theorem dX8_decode_30 : decode cX8_decode 30 = .ok (.dup, 1) := by decide +kernel
theorem dX8_decode_31 : decode cX8_decode 31 = .ok (.ldc 181, 2) := by decide +kernel
theorem dX8_decode_33 : decode cX8_decode 33 = .ok (.invokespecial 183, 3) := by decide +kernel
theorem dX8_decode_36 : decode cX8_decode 36 = .ok (.athrow, 1) := by decide +kernel
theorem dX8_decode_37 : decode cX8_decode 37 = .ok (.aload_n 0, 1) := by decide +kernel
theorem dX8_decode_38 : decode cX8_decode 38 = .ok (.getfield 31, 3) := by decide +kernel
theorem dX8_decode_41 : decode cX8_decode 41 = .ok (.aload_n 0, 1) := by decide +kernel
theorem dX8_decode_42 : decode cX8_decode 42 = .ok (.getfield 27, 3) := by decide +kernel
theorem dX8_decode_45 : decode cX8_decode 45 = .ok (.iconst 1, 1) := by decide +kernel
theorem dX8_decode_46 : decode cX8_decode 46 = .ok (.invokevirtual 166, 3) := by decide +kernel
theorem dX8_decode_49 : decode cX8_decode 49 = .ok (.aload_n 0, 1) := by decide +kernel
theorem dX8_decode_50 : decode cX8_decode 50 = .ok (.getfield 27, 3) := by decide +kernel
theorem dX8_decode_53 : decode cX8_decode 53 = .ok (.iconst 2, 1) := by decide +kernel
theorem dX8_decode_54 : decode cX8_decode 54 = .ok (.invokevirtual 166, 3) := by decide +kernel
theorem dX8_decode_57 : decode cX8_decode 57 = .ok (.invokevirtual 99, 3) := by decide +kernel
theorem dX8_decode_60 : decode cX8_decode 60 = .ok (.aload_n 0, 1) := by decide +kernel
theorem dX8_decode_61 : decode cX8_decode 61 = .ok (.iconst 1, 1) := by decide +kernel
theorem dX8_decode_62 : decode cX8_decode 62 = .ok (.putfield 34, 3) := by decide +kernel
theorem dX8_decode_65 : decode cX8_decode 65 = .ok (.aload_n 0, 1) := by decide +kernel
theorem dX8_decode_66 : decode cX8_decode 66 = .ok (.invokevirtual 184, 3) := by decide +kernel
theorem dX8_decode_69 : decode cX8_decode 69 = .ok (.aload_n 0, 1) := by decide +kernel
theorem dX8_decode_70 : decode cX8_decode 70 = .ok (.getfield 27, 3) := by decide +kernel
theorem dX8_decode_73 : decode cX8_decode 73 = .ok (.iconst 0, 1) := by decide +kernel
theorem dX8_decode_74 : decode cX8_decode 74 = .ok (.invokevirtual 166, 3) := by decide +kernel
theorem dX8_decode_77 : decode cX8_decode 77 = .ok (.bipush 82, 2) := by decide +kernel
theorem dX8_decode_79 : decode cX8_decode 79 = .ok (.if_icmp .ne 10, 3) := by decide +kernel
theorem dX8_decode_82 : decode cX8_decode 82 = .ok (.aload_n 0, 1) := by decide +kernel
theorem dX8_decode_83 : decode cX8_decode 83 = .ok (.invokevirtual 187, 3) := by decide +kernel
theorem dX8_decode_86 : decode cX8_decode 86 = .ok (.goto 26, 3) := by decide +kernel
theorem dX8_decode_89 : decode cX8_decode 89 = .ok (.aload_n 0, 1) := by decide +kernel
theorem dX8_decode_90 : decode cX8_decode 90 = .ok (.iload_n 1, 1) := by decide +kernel
theorem dX8_decode_91 : decode cX8_decode 91 = .ok (.aload_n 0, 1) := by decide +kernel
theorem dX8_decode_92 : decode cX8_decode 92 = .ok (.getfield 27, 3) := by decide +kernel
theorem dX8_decode_95 : decode cX8_decode 95 = .ok (.iconst 3, 1) := by decide +kernel
theorem dX8_decode_96 : decode cX8_decode 96 = .ok (.invokevirtual 166, 3) := by decide +kernel
theorem dX8_decode_99 : decode cX8_decode 99 = .ok (.invokestatic 190, 3) := by decide +kernel
theorem dX8_decode_102 : decode cX8_decode 102 = .ok (.invokevirtual 195, 3) := by decide +kernel
theorem dX8_decode_105 : decode cX8_decode 105 = .ok (.aload_n 0, 1) := by decide +kernel
theorem dX8_decode_106 : decode cX8_decode 106 = .ok (.getfield 31, 3) := by decide +kernel
theorem dX8_decode_109 : decode cX8_decode 109 = .ok (.invokevirtual 198, 3) := by decide +kernel
theorem dX8_decode_112 : decode cX8_decode 112 = .ok (.aload_n 0, 1) := by decide +kernel
theorem dX8_decode_113 : decode cX8_decode 113 = .ok (.invokevirtual 201, 3) := by decide +kernel
theorem dX8_decode_116 : decode cX8_decode 116 = .ok (.ireturn, 1) := by decide +kernel
theorem dX8_decodedWidth_0 : decode cX8_decodedWidth 0 = .ok (.aload_n 0, 1) := by decide +kernel
theorem dX8_decodedWidth_1 : decode cX8_decodedWidth 1 = .ok (.invokevirtual 205, 3) := by decide +kernel
theorem dX8_decodedWidth_4 : decode cX8_decodedWidth 4 = .ok (.aload_n 0, 1) := by decide +kernel
theorem dX8_decodedWidth_5 : decode cX8_decodedWidth 5 = .ok (.getfield 31, 3) := by decide +kernel
theorem dX8_decodedWidth_8 : decode cX8_decodedWidth 8 = .ok (.getfield 119, 3) := by decide +kernel
theorem dX8_decodedWidth_11 : decode cX8_decodedWidth 11 = .ok (.ireturn, 1) := by decide +kernel
theorem dX8_decodedHeight_0 : decode cX8_decodedHeight 0 = .ok (.aload_n 0, 1) := by decide +kernel
theorem dX8_decodedHeight_1 : decode cX8_decodedHeight 1 = .ok (.invokevirtual 205, 3) := by decide +kernel
theorem dX8_decodedHeight_4 : decode cX8_decodedHeight 4 = .ok (.aload_n 0, 1) := by decide +kernel
theorem dX8_decodedHeight_5 : decode cX8_decodedHeight 5 = .ok (.getfield 31, 3) := by decide +kernel
theorem dX8_decodedHeight_8 : decode cX8_decodedHeight 8 = .ok (.getfield 122, 3) := by decide +kernel
theorem dX8_decodedHeight_11 : decode cX8_decodedHeight 11 = .ok (.ireturn, 1) := by decide +kernel
theorem dX8_decodedPixel_0 : decode cX8_decodedPixel 0 = .ok (.aload_n 0, 1) := by decide +kernel
theorem dX8_decodedPixel_1 : decode cX8_decodedPixel 1 = .ok (.invokevirtual 205, 3) := by decide +kernel
theorem dX8_decodedPixel_4 : decode cX8_decodedPixel 4 = .ok (.aload_n 0, 1) := by decide +kernel
theorem dX8_decodedPixel_5 : decode cX8_decodedPixel 5 = .ok (.getfield 31, 3) := by decide +kernel
theorem dX8_decodedPixel_8 : decode cX8_decodedPixel 8 = .ok (.iload_n 1, 1) := by decide +kernel
theorem dX8_decodedPixel_9 : decode cX8_decodedPixel 9 = .ok (.iload_n 2, 1) := by decide +kernel
theorem dX8_decodedPixel_10 : decode cX8_decodedPixel 10 = .ok (.invokestatic 103, 3) := by decide +kernel
theorem dX8_decodedPixel_13 : decode cX8_decodedPixel 13 = .ok (.aload_n 0, 1) := by decide +kernel
theorem dX8_decodedPixel_14 : decode cX8_decodedPixel 14 = .ok (.getfield 31, 3) := by decide +kernel
theorem dX8_decodedPixel_17 : decode cX8_decodedPixel 17 = .ok (.iload_n 1, 1) := by decide +kernel
theorem dX8_decodedPixel_18 : decode cX8_decodedPixel 18 = .ok (.iload_n 2, 1) := by decide +kernel
theorem dX8_decodedPixel_19 : decode cX8_decodedPixel 19 = .ok (.invokevirtual 111, 3) := by decide +kernel
theorem dX8_decodedPixel_22 : decode cX8_decodedPixel 22 = .ok (.ireturn, 1) := by decide +kernel
theorem dX8_fault_0 : decode cX8_fault 0 = .ok (.aload_n 0, 1) := by decide +kernel
theorem dX8_fault_1 : decode cX8_fault 1 = .ok (.invokevirtual 205, 3) := by decide +kernel
theorem dX8_fault_4 : decode cX8_fault 4 = .ok (.iload_n 1, 1) := by decide +kernel
theorem dX8_fault_5 : decode cX8_fault 5 = .ok (.aload_n 0, 1) := by decide +kernel
theorem dX8_fault_6 : decode cX8_fault 6 = .ok (.getfield 31, 3) := by decide +kernel
theorem dX8_fault_9 : decode cX8_fault 9 = .ok (.getfield 122, 3) := by decide +kernel
theorem dX8_fault_12 : decode cX8_fault 12 = .ok (.invokestatic 208, 3) := by decide +kernel
theorem dX8_fault_15 : decode cX8_fault 15 = .ok (.aload_n 0, 1) := by decide +kernel
theorem dX8_fault_16 : decode cX8_fault 16 = .ok (.getfield 38, 3) := by decide +kernel
theorem dX8_fault_19 : decode cX8_fault 19 = .ok (.iload_n 1, 1) := by decide +kernel
theorem dX8_fault_20 : decode cX8_fault 20 = .ok (.caload, 1) := by decide +kernel
theorem dX8_fault_21 : decode cX8_fault 21 = .ok (.ireturn, 1) := by decide +kernel
theorem dX8_layersUsed_0 : decode cX8_layersUsed 0 = .ok (.aload_n 0, 1) := by decide +kernel
theorem dX8_layersUsed_1 : decode cX8_layersUsed 1 = .ok (.invokevirtual 205, 3) := by decide +kernel
theorem dX8_layersUsed_4 : decode cX8_layersUsed 4 = .ok (.iload_n 1, 1) := by decide +kernel
theorem dX8_layersUsed_5 : decode cX8_layersUsed 5 = .ok (.aload_n 0, 1) := by decide +kernel
theorem dX8_layersUsed_6 : decode cX8_layersUsed 6 = .ok (.getfield 31, 3) := by decide +kernel
theorem dX8_layersUsed_9 : decode cX8_layersUsed 9 = .ok (.getfield 122, 3) := by decide +kernel
theorem dX8_layersUsed_12 : decode cX8_layersUsed 12 = .ok (.invokestatic 208, 3) := by decide +kernel
theorem dX8_layersUsed_15 : decode cX8_layersUsed 15 = .ok (.aload_n 0, 1) := by decide +kernel
theorem dX8_layersUsed_16 : decode cX8_layersUsed 16 = .ok (.getfield 42, 3) := by decide +kernel
theorem dX8_layersUsed_19 : decode cX8_layersUsed 19 = .ok (.iload_n 1, 1) := by decide +kernel
theorem dX8_layersUsed_20 : decode cX8_layersUsed 20 = .ok (.iaload, 1) := by decide +kernel
theorem dX8_layersUsed_21 : decode cX8_layersUsed 21 = .ok (.ireturn, 1) := by decide +kernel
theorem dX8_isSame_0 : decode cX8_isSame 0 = .ok (.aload_n 0, 1) := by decide +kernel
theorem dX8_isSame_1 : decode cX8_isSame 1 = .ok (.invokevirtual 205, 3) := by decide +kernel
theorem dX8_isSame_4 : decode cX8_isSame 4 = .ok (.aload_n 0, 1) := by decide +kernel
theorem dX8_isSame_5 : decode cX8_isSame 5 = .ok (.getfield 12, 3) := by decide +kernel
theorem dX8_isSame_8 : decode cX8_isSame 8 = .ok (.aload_n 0, 1) := by decide +kernel
theorem dX8_isSame_9 : decode cX8_isSame 9 = .ok (.getfield 31, 3) := by decide +kernel
theorem dX8_isSame_12 : decode cX8_isSame 12 = .ok (.invokevirtual 211, 3) := by decide +kernel
theorem dX8_isSame_15 : decode cX8_isSame 15 = .ok (.ifCond .eq 14, 3) := by decide +kernel
theorem dX8_isSame_18 : decode cX8_isSame 18 = .ok (.aload_n 0, 1) := by decide +kernel
theorem dX8_isSame_19 : decode cX8_isSame 19 = .ok (.invokevirtual 215, 3) := by decide +kernel
theorem dX8_isSame_22 : decode cX8_isSame 22 = .ok (.ifCond .ne 7, 3) := by decide +kernel
theorem dX8_isSame_25 : decode cX8_isSame 25 = .ok (.iconst 1, 1) := by decide +kernel
theorem dX8_isSame_26 : decode cX8_isSame 26 = .ok (.goto 4, 3) := by decide +kernel
theorem dX8_isSame_29 : decode cX8_isSame 29 = .ok (.iconst 0, 1) := by decide +kernel
theorem dX8_isSame_30 : decode cX8_isSame 30 = .ok (.ireturn, 1) := by decide +kernel
theorem dX8_squaredError_0 : decode cX8_squaredError 0 = .ok (.aload_n 0, 1) := by decide +kernel
theorem dX8_squaredError_1 : decode cX8_squaredError 1 = .ok (.invokevirtual 205, 3) := by decide +kernel
theorem dX8_squaredError_4 : decode cX8_squaredError 4 = .ok (.aload_n 0, 1) := by decide +kernel
theorem dX8_squaredError_5 : decode cX8_squaredError 5 = .ok (.invokevirtual 218, 3) := by decide +kernel
theorem dX8_squaredError_8 : decode cX8_squaredError 8 = .ok (.iconst 0, 1) := by decide +kernel
theorem dX8_squaredError_9 : decode cX8_squaredError 9 = .ok (.istore_n 1, 1) := by decide +kernel
theorem dX8_squaredError_10 : decode cX8_squaredError 10 = .ok (.iconst 0, 1) := by decide +kernel
theorem dX8_squaredError_11 : decode cX8_squaredError 11 = .ok (.istore_n 2, 1) := by decide +kernel
theorem dX8_squaredError_12 : decode cX8_squaredError 12 = .ok (.iload_n 2, 1) := by decide +kernel
theorem dX8_squaredError_13 : decode cX8_squaredError 13 = .ok (.aload_n 0, 1) := by decide +kernel
theorem dX8_squaredError_14 : decode cX8_squaredError 14 = .ok (.getfield 12, 3) := by decide +kernel
theorem dX8_squaredError_17 : decode cX8_squaredError 17 = .ok (.getfield 122, 3) := by decide +kernel
theorem dX8_squaredError_20 : decode cX8_squaredError 20 = .ok (.if_icmp .ge 57, 3) := by decide +kernel
theorem dX8_squaredError_23 : decode cX8_squaredError 23 = .ok (.iconst 0, 1) := by decide +kernel
theorem dX8_squaredError_24 : decode cX8_squaredError 24 = .ok (.istore_n 3, 1) := by decide +kernel
theorem dX8_squaredError_25 : decode cX8_squaredError 25 = .ok (.iload_n 3, 1) := by decide +kernel
theorem dX8_squaredError_26 : decode cX8_squaredError 26 = .ok (.aload_n 0, 1) := by decide +kernel
theorem dX8_squaredError_27 : decode cX8_squaredError 27 = .ok (.getfield 12, 3) := by decide +kernel
theorem dX8_squaredError_30 : decode cX8_squaredError 30 = .ok (.getfield 119, 3) := by decide +kernel
theorem dX8_squaredError_33 : decode cX8_squaredError 33 = .ok (.if_icmp .ge 38, 3) := by decide +kernel
theorem dX8_squaredError_36 : decode cX8_squaredError 36 = .ok (.aload_n 0, 1) := by decide +kernel
theorem dX8_squaredError_37 : decode cX8_squaredError 37 = .ok (.getfield 12, 3) := by decide +kernel
theorem dX8_squaredError_40 : decode cX8_squaredError 40 = .ok (.iload_n 3, 1) := by decide +kernel
theorem dX8_squaredError_41 : decode cX8_squaredError 41 = .ok (.iload_n 2, 1) := by decide +kernel
theorem dX8_squaredError_42 : decode cX8_squaredError 42 = .ok (.invokevirtual 111, 3) := by decide +kernel
theorem dX8_squaredError_45 : decode cX8_squaredError 45 = .ok (.aload_n 0, 1) := by decide +kernel
theorem dX8_squaredError_46 : decode cX8_squaredError 46 = .ok (.getfield 31, 3) := by decide +kernel
theorem dX8_squaredError_49 : decode cX8_squaredError 49 = .ok (.iload_n 3, 1) := by decide +kernel
theorem dX8_squaredError_50 : decode cX8_squaredError 50 = .ok (.iload_n 2, 1) := by decide +kernel
theorem dX8_squaredError_51 : decode cX8_squaredError 51 = .ok (.invokevirtual 111, 3) := by decide +kernel
theorem dX8_squaredError_54 : decode cX8_squaredError 54 = .ok (.isub, 1) := by decide +kernel
theorem dX8_squaredError_55 : decode cX8_squaredError 55 = .ok (.istore 4, 2) := by decide +kernel
theorem dX8_squaredError_57 : decode cX8_squaredError 57 = .ok (.iload_n 1, 1) := by decide +kernel
theorem dX8_squaredError_58 : decode cX8_squaredError 58 = .ok (.iload 4, 2) := by decide +kernel
theorem dX8_squaredError_60 : decode cX8_squaredError 60 = .ok (.iload 4, 2) := by decide +kernel
theorem dX8_squaredError_62 : decode cX8_squaredError 62 = .ok (.imul, 1) := by decide +kernel
theorem dX8_squaredError_63 : decode cX8_squaredError 63 = .ok (.iadd, 1) := by decide +kernel
theorem dX8_squaredError_64 : decode cX8_squaredError 64 = .ok (.istore_n 1, 1) := by decide +kernel
theorem dX8_squaredError_65 : decode cX8_squaredError 65 = .ok (.iinc 3 1, 3) := by decide +kernel
theorem dX8_squaredError_68 : decode cX8_squaredError 68 = .ok (.goto (-43), 3) := by decide +kernel
theorem dX8_squaredError_71 : decode cX8_squaredError 71 = .ok (.iinc 2 1, 3) := by decide +kernel
theorem dX8_squaredError_74 : decode cX8_squaredError 74 = .ok (.goto (-62), 3) := by decide +kernel
theorem dX8_squaredError_77 : decode cX8_squaredError 77 = .ok (.iload_n 1, 1) := by decide +kernel
theorem dX8_squaredError_78 : decode cX8_squaredError 78 = .ok (.ireturn, 1) := by decide +kernel
theorem dX8_greatestError_0 : decode cX8_greatestError 0 = .ok (.aload_n 0, 1) := by decide +kernel
theorem dX8_greatestError_1 : decode cX8_greatestError 1 = .ok (.invokevirtual 205, 3) := by decide +kernel
theorem dX8_greatestError_4 : decode cX8_greatestError 4 = .ok (.aload_n 0, 1) := by decide +kernel
theorem dX8_greatestError_5 : decode cX8_greatestError 5 = .ok (.invokevirtual 218, 3) := by decide +kernel
theorem dX8_greatestError_8 : decode cX8_greatestError 8 = .ok (.aload_n 0, 1) := by decide +kernel
theorem dX8_greatestError_9 : decode cX8_greatestError 9 = .ok (.invokevirtual 215, 3) := by decide +kernel
theorem dX8_greatestError_12 : decode cX8_greatestError 12 = .ok (.ireturn, 1) := by decide +kernel
theorem dX8_blocks_0 : decode cX8_blocks 0 = .ok (.aload_n 0, 1) := by decide +kernel
theorem dX8_blocks_1 : decode cX8_blocks 1 = .ok (.iload_n 1, 1) := by decide +kernel
theorem dX8_blocks_2 : decode cX8_blocks 2 = .ok (.invokevirtual 221, 3) := by decide +kernel
theorem dX8_blocks_5 : decode cX8_blocks 5 = .ok (.aload_n 0, 1) := by decide +kernel
theorem dX8_blocks_6 : decode cX8_blocks 6 = .ok (.getfield 48, 3) := by decide +kernel
theorem dX8_blocks_9 : decode cX8_blocks 9 = .ok (.iload_n 1, 1) := by decide +kernel
theorem dX8_blocks_10 : decode cX8_blocks 10 = .ok (.aaload, 1) := by decide +kernel
theorem dX8_blocks_11 : decode cX8_blocks 11 = .ok (.getfield 224, 3) := by decide +kernel
theorem dX8_blocks_14 : decode cX8_blocks 14 = .ok (.ireturn, 1) := by decide +kernel
theorem dX8_blockSize_0 : decode cX8_blockSize 0 = .ok (.aload_n 0, 1) := by decide +kernel
theorem dX8_blockSize_1 : decode cX8_blockSize 1 = .ok (.iload_n 1, 1) := by decide +kernel
theorem dX8_blockSize_2 : decode cX8_blockSize 2 = .ok (.iload_n 2, 1) := by decide +kernel
theorem dX8_blockSize_3 : decode cX8_blockSize 3 = .ok (.iload_n 3, 1) := by decide +kernel
theorem dX8_blockSize_4 : decode cX8_blockSize 4 = .ok (.invokevirtual 227, 3) := by decide +kernel
theorem dX8_blockSize_7 : decode cX8_blockSize 7 = .ok (.aload_n 0, 1) := by decide +kernel
theorem dX8_blockSize_8 : decode cX8_blockSize 8 = .ok (.getfield 48, 3) := by decide +kernel
theorem dX8_blockSize_11 : decode cX8_blockSize 11 = .ok (.iload_n 1, 1) := by decide +kernel
theorem dX8_blockSize_12 : decode cX8_blockSize 12 = .ok (.aaload, 1) := by decide +kernel
theorem dX8_blockSize_13 : decode cX8_blockSize 13 = .ok (.iload_n 2, 1) := by decide +kernel
theorem dX8_blockSize_14 : decode cX8_blockSize 14 = .ok (.iload_n 3, 1) := by decide +kernel
theorem dX8_blockSize_15 : decode cX8_blockSize 15 = .ok (.invokevirtual 230, 3) := by decide +kernel
theorem dX8_blockSize_18 : decode cX8_blockSize 18 = .ok (.ireturn, 1) := by decide +kernel
theorem dX8_mode_0 : decode cX8_mode 0 = .ok (.aload_n 0, 1) := by decide +kernel
theorem dX8_mode_1 : decode cX8_mode 1 = .ok (.iload_n 1, 1) := by decide +kernel
theorem dX8_mode_2 : decode cX8_mode 2 = .ok (.iload_n 2, 1) := by decide +kernel
theorem dX8_mode_3 : decode cX8_mode 3 = .ok (.iload_n 3, 1) := by decide +kernel
theorem dX8_mode_4 : decode cX8_mode 4 = .ok (.invokevirtual 227, 3) := by decide +kernel
theorem dX8_mode_7 : decode cX8_mode 7 = .ok (.getstatic 233, 3) := by decide +kernel
theorem dX8_mode_10 : decode cX8_mode 10 = .ok (.aload_n 0, 1) := by decide +kernel
theorem dX8_mode_11 : decode cX8_mode 11 = .ok (.getfield 48, 3) := by decide +kernel
theorem dX8_mode_14 : decode cX8_mode 14 = .ok (.iload_n 1, 1) := by decide +kernel
theorem dX8_mode_15 : decode cX8_mode 15 = .ok (.aaload, 1) := by decide +kernel
theorem dX8_mode_16 : decode cX8_mode 16 = .ok (.getfield 236, 3) := by decide +kernel
theorem dX8_mode_19 : decode cX8_mode 19 = .ok (.aload_n 0, 1) := by decide +kernel
theorem dX8_mode_20 : decode cX8_mode 20 = .ok (.getfield 48, 3) := by decide +kernel
theorem dX8_mode_23 : decode cX8_mode 23 = .ok (.iload_n 1, 1) := by decide +kernel
theorem dX8_mode_24 : decode cX8_mode 24 = .ok (.aaload, 1) := by decide +kernel
theorem dX8_mode_25 : decode cX8_mode 25 = .ok (.iload_n 2, 1) := by decide +kernel
theorem dX8_mode_26 : decode cX8_mode 26 = .ok (.iload_n 3, 1) := by decide +kernel
theorem dX8_mode_27 : decode cX8_mode 27 = .ok (.invokevirtual 239, 3) := by decide +kernel
theorem dX8_mode_30 : decode cX8_mode 30 = .ok (.iaload, 1) := by decide +kernel
theorem dX8_mode_31 : decode cX8_mode 31 = .ok (.caload, 1) := by decide +kernel
theorem dX8_mode_32 : decode cX8_mode 32 = .ok (.ireturn, 1) := by decide +kernel
theorem dX8_level_0 : decode cX8_level 0 = .ok (.aload_n 0, 1) := by decide +kernel
theorem dX8_level_1 : decode cX8_level 1 = .ok (.iload_n 1, 1) := by decide +kernel
theorem dX8_level_2 : decode cX8_level 2 = .ok (.iload_n 2, 1) := by decide +kernel
theorem dX8_level_3 : decode cX8_level 3 = .ok (.iload_n 3, 1) := by decide +kernel
theorem dX8_level_4 : decode cX8_level 4 = .ok (.invokevirtual 227, 3) := by decide +kernel
theorem dX8_level_7 : decode cX8_level 7 = .ok (.aload_n 0, 1) := by decide +kernel
theorem dX8_level_8 : decode cX8_level 8 = .ok (.getfield 48, 3) := by decide +kernel
theorem dX8_level_11 : decode cX8_level 11 = .ok (.iload_n 1, 1) := by decide +kernel
theorem dX8_level_12 : decode cX8_level 12 = .ok (.aaload, 1) := by decide +kernel
theorem dX8_level_13 : decode cX8_level 13 = .ok (.getfield 242, 3) := by decide +kernel
theorem dX8_level_16 : decode cX8_level 16 = .ok (.iload_n 3, 1) := by decide +kernel
theorem dX8_level_17 : decode cX8_level 17 = .ok (.bipush 16, 2) := by decide +kernel
theorem dX8_level_19 : decode cX8_level 19 = .ok (.imul, 1) := by decide +kernel
theorem dX8_level_20 : decode cX8_level 20 = .ok (.iload_n 2, 1) := by decide +kernel
theorem dX8_level_21 : decode cX8_level 21 = .ok (.iadd, 1) := by decide +kernel
theorem dX8_level_22 : decode cX8_level 22 = .ok (.iaload, 1) := by decide +kernel
theorem dX8_level_23 : decode cX8_level 23 = .ok (.ireturn, 1) := by decide +kernel
theorem dX8_cost_0 : decode cX8_cost 0 = .ok (.aload_n 0, 1) := by decide +kernel
theorem dX8_cost_1 : decode cX8_cost 1 = .ok (.iload_n 1, 1) := by decide +kernel
theorem dX8_cost_2 : decode cX8_cost 2 = .ok (.iload_n 2, 1) := by decide +kernel
theorem dX8_cost_3 : decode cX8_cost 3 = .ok (.iload_n 3, 1) := by decide +kernel
theorem dX8_cost_4 : decode cX8_cost 4 = .ok (.invokevirtual 227, 3) := by decide +kernel
theorem dX8_cost_7 : decode cX8_cost 7 = .ok (.aload_n 0, 1) := by decide +kernel
theorem dX8_cost_8 : decode cX8_cost 8 = .ok (.getfield 48, 3) := by decide +kernel
theorem dX8_cost_11 : decode cX8_cost 11 = .ok (.iload_n 1, 1) := by decide +kernel
theorem dX8_cost_12 : decode cX8_cost 12 = .ok (.aaload, 1) := by decide +kernel
theorem dX8_cost_13 : decode cX8_cost 13 = .ok (.getfield 245, 3) := by decide +kernel
theorem dX8_cost_16 : decode cX8_cost 16 = .ok (.aload_n 0, 1) := by decide +kernel
theorem dX8_cost_17 : decode cX8_cost 17 = .ok (.getfield 48, 3) := by decide +kernel
theorem dX8_cost_20 : decode cX8_cost 20 = .ok (.iload_n 1, 1) := by decide +kernel
theorem dX8_cost_21 : decode cX8_cost 21 = .ok (.aaload, 1) := by decide +kernel
theorem dX8_cost_22 : decode cX8_cost 22 = .ok (.iload_n 2, 1) := by decide +kernel
theorem dX8_cost_23 : decode cX8_cost 23 = .ok (.iload_n 3, 1) := by decide +kernel
theorem dX8_cost_24 : decode cX8_cost 24 = .ok (.invokevirtual 239, 3) := by decide +kernel
theorem dX8_cost_27 : decode cX8_cost 27 = .ok (.iaload, 1) := by decide +kernel
theorem dX8_cost_28 : decode cX8_cost 28 = .ok (.ireturn, 1) := by decide +kernel
theorem dX8_partSize_0 : decode cX8_partSize 0 = .ok (.aload_n 0, 1) := by decide +kernel
theorem dX8_partSize_1 : decode cX8_partSize 1 = .ok (.iload_n 1, 1) := by decide +kernel
theorem dX8_partSize_2 : decode cX8_partSize 2 = .ok (.invokevirtual 221, 3) := by decide +kernel
theorem dX8_partSize_5 : decode cX8_partSize 5 = .ok (.iload_n 2, 1) := by decide +kernel
theorem dX8_partSize_6 : decode cX8_partSize 6 = .ok (.aload_n 0, 1) := by decide +kernel
theorem dX8_partSize_7 : decode cX8_partSize 7 = .ok (.getfield 58, 3) := by decide +kernel
theorem dX8_partSize_10 : decode cX8_partSize 10 = .ok (.invokestatic 208, 3) := by decide +kernel
theorem dX8_partSize_13 : decode cX8_partSize 13 = .ok (.aload_n 0, 1) := by decide +kernel
theorem dX8_partSize_14 : decode cX8_partSize 14 = .ok (.getfield 48, 3) := by decide +kernel
theorem dX8_partSize_17 : decode cX8_partSize 17 = .ok (.iload_n 1, 1) := by decide +kernel
theorem dX8_partSize_18 : decode cX8_partSize 18 = .ok (.aaload, 1) := by decide +kernel
theorem dX8_partSize_19 : decode cX8_partSize 19 = .ok (.getfield 248, 3) := by decide +kernel
theorem dX8_partSize_22 : decode cX8_partSize 22 = .ok (.iload_n 2, 1) := by decide +kernel
theorem dX8_partSize_23 : decode cX8_partSize 23 = .ok (.iaload, 1) := by decide +kernel
theorem dX8_partSize_24 : decode cX8_partSize 24 = .ok (.ireturn, 1) := by decide +kernel
theorem dX8_ratio_0 : decode cX8_ratio 0 = .ok (.aload_n 0, 1) := by decide +kernel
theorem dX8_ratio_1 : decode cX8_ratio 1 = .ok (.getfield 64, 3) := by decide +kernel
theorem dX8_ratio_4 : decode cX8_ratio 4 = .ok (.ifCond .ne 13, 3) := by decide +kernel
theorem dX8_ratio_7 : decode cX8_ratio 7 = .ok (.new 251, 3) := by decide +kernel
theorem dX8_ratio_10 : decode cX8_ratio 10 = .ok (.dup, 1) := by decide +kernel
theorem dX8_ratio_11 : decode cX8_ratio 11 = .ok (.ldc 253, 2) := by decide +kernel
theorem dX8_ratio_13 : decode cX8_ratio 13 = .ok (.invokespecial 255, 3) := by decide +kernel
theorem dX8_ratio_16 : decode cX8_ratio 16 = .ok (.athrow, 1) := by decide +kernel
theorem dX8_ratio_17 : decode cX8_ratio 17 = .ok (.aload_n 0, 1) := by decide +kernel
theorem dX8_ratio_18 : decode cX8_ratio 18 = .ok (.getfield 61, 3) := by decide +kernel
theorem dX8_ratio_21 : decode cX8_ratio 21 = .ok (.i2f, 1) := by decide +kernel
theorem dX8_ratio_22 : decode cX8_ratio 22 = .ok (.aload_n 0, 1) := by decide +kernel
theorem dX8_ratio_23 : decode cX8_ratio 23 = .ok (.getfield 64, 3) := by decide +kernel
theorem dX8_ratio_26 : decode cX8_ratio 26 = .ok (.i2f, 1) := by decide +kernel
theorem dX8_ratio_27 : decode cX8_ratio 27 = .ok (.fdiv, 1) := by decide +kernel
theorem dX8_ratio_28 : decode cX8_ratio 28 = .ok (.freturn, 1) := by decide +kernel
theorem dX8_isPictureSize_0 : decode cX8_isPictureSize 0 = .ok (.iload_n 0, 1) := by decide +kernel
theorem dX8_isPictureSize_1 : decode cX8_isPictureSize 1 = .ok (.iconst 1, 1) := by decide +kernel
theorem dX8_isPictureSize_2 : decode cX8_isPictureSize 2 = .ok (.if_icmp .lt 24, 3) := by decide +kernel
theorem dX8_isPictureSize_5 : decode cX8_isPictureSize 5 = .ok (.iload_n 0, 1) := by decide +kernel
theorem dX8_isPictureSize_6 : decode cX8_isPictureSize 6 = .ok (.bipush 16, 2) := by decide +kernel
theorem dX8_isPictureSize_8 : decode cX8_isPictureSize 8 = .ok (.if_icmp .gt 18, 3) := by decide +kernel
theorem dX8_isPictureSize_11 : decode cX8_isPictureSize 11 = .ok (.iload_n 1, 1) := by decide +kernel
theorem dX8_isPictureSize_12 : decode cX8_isPictureSize 12 = .ok (.iconst 1, 1) := by decide +kernel
theorem dX8_isPictureSize_13 : decode cX8_isPictureSize 13 = .ok (.if_icmp .lt 13, 3) := by decide +kernel
theorem dX8_isPictureSize_16 : decode cX8_isPictureSize 16 = .ok (.iload_n 1, 1) := by decide +kernel
theorem dX8_isPictureSize_17 : decode cX8_isPictureSize 17 = .ok (.bipush 24, 2) := by decide +kernel
theorem dX8_isPictureSize_19 : decode cX8_isPictureSize 19 = .ok (.if_icmp .gt 7, 3) := by decide +kernel
theorem dX8_isPictureSize_22 : decode cX8_isPictureSize 22 = .ok (.iconst 1, 1) := by decide +kernel
theorem dX8_isPictureSize_23 : decode cX8_isPictureSize 23 = .ok (.goto 4, 3) := by decide +kernel
theorem dX8_isPictureSize_26 : decode cX8_isPictureSize 26 = .ok (.iconst 0, 1) := by decide +kernel
theorem dX8_isPictureSize_27 : decode cX8_isPictureSize 27 = .ok (.ireturn, 1) := by decide +kernel
theorem dX8_isStepAfter_0 : decode cX8_isStepAfter 0 = .ok (.iload_n 1, 1) := by decide +kernel
theorem dX8_isStepAfter_1 : decode cX8_isStepAfter 1 = .ok (.iconst 1, 1) := by decide +kernel
theorem dX8_isStepAfter_2 : decode cX8_isStepAfter 2 = .ok (.if_icmp .lt 18, 3) := by decide +kernel
theorem dX8_isStepAfter_5 : decode cX8_isStepAfter 5 = .ok (.iload_n 1, 1) := by decide +kernel
theorem dX8_isStepAfter_6 : decode cX8_isStepAfter 6 = .ok (.bipush 32, 2) := by decide +kernel
theorem dX8_isStepAfter_8 : decode cX8_isStepAfter 8 = .ok (.if_icmp .gt 12, 3) := by decide +kernel
theorem dX8_isStepAfter_11 : decode cX8_isStepAfter 11 = .ok (.iload_n 1, 1) := by decide +kernel
theorem dX8_isStepAfter_12 : decode cX8_isStepAfter 12 = .ok (.iload_n 0, 1) := by decide +kernel
theorem dX8_isStepAfter_13 : decode cX8_isStepAfter 13 = .ok (.if_icmp .ge 7, 3) := by decide +kernel
theorem dX8_isStepAfter_16 : decode cX8_isStepAfter 16 = .ok (.iconst 1, 1) := by decide +kernel
theorem dX8_isStepAfter_17 : decode cX8_isStepAfter 17 = .ok (.goto 4, 3) := by decide +kernel
theorem dX8_isStepAfter_20 : decode cX8_isStepAfter 20 = .ok (.iconst 0, 1) := by decide +kernel
theorem dX8_isStepAfter_21 : decode cX8_isStepAfter 21 = .ok (.ireturn, 1) := by decide +kernel
theorem dX8_requireByte_0 : decode cX8_requireByte 0 = .ok (.iload_n 0, 1) := by decide +kernel
theorem dX8_requireByte_1 : decode cX8_requireByte 1 = .ok (.ifCond .lt 10, 3) := by decide +kernel
theorem dX8_requireByte_4 : decode cX8_requireByte 4 = .ok (.iload_n 0, 1) := by decide +kernel
theorem dX8_requireByte_5 : decode cX8_requireByte 5 = .ok (.sipush 255, 3) := by decide +kernel
theorem dX8_requireByte_8 : decode cX8_requireByte 8 = .ok (.if_icmp .le 14, 3) := by decide +kernel
theorem dX8_requireByte_11 : decode cX8_requireByte 11 = .ok (.new 92, 3) := by decide +kernel
theorem dX8_requireByte_14 : decode cX8_requireByte 14 = .ok (.dup, 1) := by decide +kernel
theorem dX8_requireByte_15 : decode cX8_requireByte 15 = .ok (.ldc_w 256, 3) := by decide +kernel
theorem dX8_requireByte_18 : decode cX8_requireByte 18 = .ok (.invokespecial 96, 3) := by decide +kernel
theorem dX8_requireByte_21 : decode cX8_requireByte 21 = .ok (.athrow, 1) := by decide +kernel
theorem dX8_requireByte_22 : decode cX8_requireByte 22 = .ok (.return_, 1) := by decide +kernel
theorem dX8_requirePixel_0 : decode cX8_requirePixel 0 = .ok (.aload_n 0, 1) := by decide +kernel
theorem dX8_requirePixel_1 : decode cX8_requirePixel 1 = .ok (.iload_n 1, 1) := by decide +kernel
theorem dX8_requirePixel_2 : decode cX8_requirePixel 2 = .ok (.iload_n 2, 1) := by decide +kernel
theorem dX8_requirePixel_3 : decode cX8_requirePixel 3 = .ok (.invokevirtual 258, 3) := by decide +kernel
theorem dX8_requirePixel_6 : decode cX8_requirePixel 6 = .ok (.ifCond .ne 14, 3) := by decide +kernel
theorem dX8_requirePixel_9 : decode cX8_requirePixel 9 = .ok (.new 261, 3) := by decide +kernel
theorem dX8_requirePixel_12 : decode cX8_requirePixel 12 = .ok (.dup, 1) := by decide +kernel
theorem dX8_requirePixel_13 : decode cX8_requirePixel 13 = .ok (.ldc_w 263, 3) := by decide +kernel
theorem dX8_requirePixel_16 : decode cX8_requirePixel 16 = .ok (.invokespecial 265, 3) := by decide +kernel
theorem dX8_requirePixel_19 : decode cX8_requirePixel 19 = .ok (.athrow, 1) := by decide +kernel
theorem dX8_requirePixel_20 : decode cX8_requirePixel 20 = .ok (.return_, 1) := by decide +kernel
theorem dX8_requireSlice_0 : decode cX8_requireSlice 0 = .ok (.iload_n 0, 1) := by decide +kernel
theorem dX8_requireSlice_1 : decode cX8_requireSlice 1 = .ok (.ifCond .lt 11, 3) := by decide +kernel
theorem dX8_requireSlice_4 : decode cX8_requireSlice 4 = .ok (.iload_n 0, 1) := by decide +kernel
theorem dX8_requireSlice_5 : decode cX8_requireSlice 5 = .ok (.iload_n 1, 1) := by decide +kernel
theorem dX8_requireSlice_6 : decode cX8_requireSlice 6 = .ok (.invokestatic 266, 3) := by decide +kernel
theorem dX8_requireSlice_9 : decode cX8_requireSlice 9 = .ok (.if_icmp .lt 14, 3) := by decide +kernel
theorem dX8_requireSlice_12 : decode cX8_requireSlice 12 = .ok (.new 261, 3) := by decide +kernel
theorem dX8_requireSlice_15 : decode cX8_requireSlice 15 = .ok (.dup, 1) := by decide +kernel
theorem dX8_requireSlice_16 : decode cX8_requireSlice 16 = .ok (.ldc_w 269, 3) := by decide +kernel
theorem dX8_requireSlice_19 : decode cX8_requireSlice 19 = .ok (.invokespecial 265, 3) := by decide +kernel
theorem dX8_requireSlice_22 : decode cX8_requireSlice 22 = .ok (.athrow, 1) := by decide +kernel
theorem dX8_requireSlice_23 : decode cX8_requireSlice 23 = .ok (.return_, 1) := by decide +kernel
theorem dX8_requireStreamByte_0 : decode cX8_requireStreamByte 0 = .ok (.iload_n 1, 1) := by decide +kernel
theorem dX8_requireStreamByte_1 : decode cX8_requireStreamByte 1 = .ok (.ifCond .lt 14, 3) := by decide +kernel
theorem dX8_requireStreamByte_4 : decode cX8_requireStreamByte 4 = .ok (.iload_n 1, 1) := by decide +kernel
theorem dX8_requireStreamByte_5 : decode cX8_requireStreamByte 5 = .ok (.aload_n 0, 1) := by decide +kernel
theorem dX8_requireStreamByte_6 : decode cX8_requireStreamByte 6 = .ok (.getfield 27, 3) := by decide +kernel
theorem dX8_requireStreamByte_9 : decode cX8_requireStreamByte 9 = .ok (.getfield 155, 3) := by decide +kernel
theorem dX8_requireStreamByte_12 : decode cX8_requireStreamByte 12 = .ok (.if_icmp .lt 14, 3) := by decide +kernel
theorem dX8_requireStreamByte_15 : decode cX8_requireStreamByte 15 = .ok (.new 261, 3) := by decide +kernel
theorem dX8_requireStreamByte_18 : decode cX8_requireStreamByte 18 = .ok (.dup, 1) := by decide +kernel
theorem dX8_requireStreamByte_19 : decode cX8_requireStreamByte 19 = .ok (.ldc_w 271, 3) := by decide +kernel
theorem dX8_requireStreamByte_22 : decode cX8_requireStreamByte 22 = .ok (.invokespecial 265, 3) := by decide +kernel
theorem dX8_requireStreamByte_25 : decode cX8_requireStreamByte 25 = .ok (.athrow, 1) := by decide +kernel
theorem dX8_requireStreamByte_26 : decode cX8_requireStreamByte 26 = .ok (.return_, 1) := by decide +kernel
theorem dX8_requireDecoded_0 : decode cX8_requireDecoded 0 = .ok (.aload_n 0, 1) := by decide +kernel
theorem dX8_requireDecoded_1 : decode cX8_requireDecoded 1 = .ok (.getfield 34, 3) := by decide +kernel
theorem dX8_requireDecoded_4 : decode cX8_requireDecoded 4 = .ok (.ifCond .ne 14, 3) := by decide +kernel
theorem dX8_requireDecoded_7 : decode cX8_requireDecoded 7 = .ok (.new 251, 3) := by decide +kernel
theorem dX8_requireDecoded_10 : decode cX8_requireDecoded 10 = .ok (.dup, 1) := by decide +kernel
theorem dX8_requireDecoded_11 : decode cX8_requireDecoded 11 = .ok (.ldc_w 273, 3) := by decide +kernel
theorem dX8_requireDecoded_14 : decode cX8_requireDecoded 14 = .ok (.invokespecial 255, 3) := by decide +kernel
theorem dX8_requireDecoded_17 : decode cX8_requireDecoded 17 = .ok (.athrow, 1) := by decide +kernel
theorem dX8_requireDecoded_18 : decode cX8_requireDecoded 18 = .ok (.return_, 1) := by decide +kernel
theorem dX8_requireSameSize_0 : decode cX8_requireSameSize 0 = .ok (.aload_n 0, 1) := by decide +kernel
theorem dX8_requireSameSize_1 : decode cX8_requireSameSize 1 = .ok (.getfield 12, 3) := by decide +kernel
theorem dX8_requireSameSize_4 : decode cX8_requireSameSize 4 = .ok (.aload_n 0, 1) := by decide +kernel
theorem dX8_requireSameSize_5 : decode cX8_requireSameSize 5 = .ok (.getfield 31, 3) := by decide +kernel
theorem dX8_requireSameSize_8 : decode cX8_requireSameSize 8 = .ok (.invokevirtual 211, 3) := by decide +kernel
theorem dX8_requireSameSize_11 : decode cX8_requireSameSize 11 = .ok (.ifCond .ne 14, 3) := by decide +kernel
theorem dX8_requireSameSize_14 : decode cX8_requireSameSize 14 = .ok (.new 179, 3) := by decide +kernel
theorem dX8_requireSameSize_17 : decode cX8_requireSameSize 17 = .ok (.dup, 1) := by decide +kernel
theorem dX8_requireSameSize_18 : decode cX8_requireSameSize 18 = .ok (.ldc_w 275, 3) := by decide +kernel
theorem dX8_requireSameSize_21 : decode cX8_requireSameSize 21 = .ok (.invokespecial 183, 3) := by decide +kernel
theorem dX8_requireSameSize_24 : decode cX8_requireSameSize 24 = .ok (.athrow, 1) := by decide +kernel
theorem dX8_requireSameSize_25 : decode cX8_requireSameSize 25 = .ok (.return_, 1) := by decide +kernel
theorem dX8_requireCodedLayer_0 : decode cX8_requireCodedLayer 0 = .ok (.aload_n 0, 1) := by decide +kernel
theorem dX8_requireCodedLayer_1 : decode cX8_requireCodedLayer 1 = .ok (.getfield 52, 3) := by decide +kernel
theorem dX8_requireCodedLayer_4 : decode cX8_requireCodedLayer 4 = .ok (.ifCond .ne 14, 3) := by decide +kernel
theorem dX8_requireCodedLayer_7 : decode cX8_requireCodedLayer 7 = .ok (.new 251, 3) := by decide +kernel
theorem dX8_requireCodedLayer_10 : decode cX8_requireCodedLayer 10 = .ok (.dup, 1) := by decide +kernel
theorem dX8_requireCodedLayer_11 : decode cX8_requireCodedLayer 11 = .ok (.ldc_w 277, 3) := by decide +kernel
theorem dX8_requireCodedLayer_14 : decode cX8_requireCodedLayer 14 = .ok (.invokespecial 255, 3) := by decide +kernel
theorem dX8_requireCodedLayer_17 : decode cX8_requireCodedLayer 17 = .ok (.athrow, 1) := by decide +kernel
theorem dX8_requireCodedLayer_18 : decode cX8_requireCodedLayer 18 = .ok (.iload_n 1, 1) := by decide +kernel
theorem dX8_requireCodedLayer_19 : decode cX8_requireCodedLayer 19 = .ok (.ifCond .lt 11, 3) := by decide +kernel
theorem dX8_requireCodedLayer_22 : decode cX8_requireCodedLayer 22 = .ok (.iload_n 1, 1) := by decide +kernel
theorem dX8_requireCodedLayer_23 : decode cX8_requireCodedLayer 23 = .ok (.aload_n 0, 1) := by decide +kernel
theorem dX8_requireCodedLayer_24 : decode cX8_requireCodedLayer 24 = .ok (.getfield 52, 3) := by decide +kernel
theorem dX8_requireCodedLayer_27 : decode cX8_requireCodedLayer 27 = .ok (.if_icmp .lt 14, 3) := by decide +kernel
theorem dX8_requireCodedLayer_30 : decode cX8_requireCodedLayer 30 = .ok (.new 261, 3) := by decide +kernel
theorem dX8_requireCodedLayer_33 : decode cX8_requireCodedLayer 33 = .ok (.dup, 1) := by decide +kernel
theorem dX8_requireCodedLayer_34 : decode cX8_requireCodedLayer 34 = .ok (.ldc_w 279, 3) := by decide +kernel
theorem dX8_requireCodedLayer_37 : decode cX8_requireCodedLayer 37 = .ok (.invokespecial 265, 3) := by decide +kernel
theorem dX8_requireCodedLayer_40 : decode cX8_requireCodedLayer 40 = .ok (.athrow, 1) := by decide +kernel
theorem dX8_requireCodedLayer_41 : decode cX8_requireCodedLayer 41 = .ok (.return_, 1) := by decide +kernel
theorem dX8_requireCodedPixel_0 : decode cX8_requireCodedPixel 0 = .ok (.aload_n 0, 1) := by decide +kernel
theorem dX8_requireCodedPixel_1 : decode cX8_requireCodedPixel 1 = .ok (.iload_n 1, 1) := by decide +kernel
theorem dX8_requireCodedPixel_2 : decode cX8_requireCodedPixel 2 = .ok (.invokevirtual 221, 3) := by decide +kernel
theorem dX8_requireCodedPixel_5 : decode cX8_requireCodedPixel 5 = .ok (.iload_n 2, 1) := by decide +kernel
theorem dX8_requireCodedPixel_6 : decode cX8_requireCodedPixel 6 = .ok (.ifCond .lt 23, 3) := by decide +kernel
theorem dX8_requireCodedPixel_9 : decode cX8_requireCodedPixel 9 = .ok (.iload_n 2, 1) := by decide +kernel
theorem dX8_requireCodedPixel_10 : decode cX8_requireCodedPixel 10 = .ok (.aload_n 0, 1) := by decide +kernel
theorem dX8_requireCodedPixel_11 : decode cX8_requireCodedPixel 11 = .ok (.getfield 55, 3) := by decide +kernel
theorem dX8_requireCodedPixel_14 : decode cX8_requireCodedPixel 14 = .ok (.if_icmp .ge 15, 3) := by decide +kernel
theorem dX8_requireCodedPixel_17 : decode cX8_requireCodedPixel 17 = .ok (.iload_n 3, 1) := by decide +kernel
theorem dX8_requireCodedPixel_18 : decode cX8_requireCodedPixel 18 = .ok (.ifCond .lt 11, 3) := by decide +kernel
theorem dX8_requireCodedPixel_21 : decode cX8_requireCodedPixel 21 = .ok (.iload_n 3, 1) := by decide +kernel
theorem dX8_requireCodedPixel_22 : decode cX8_requireCodedPixel 22 = .ok (.aload_n 0, 1) := by decide +kernel
theorem dX8_requireCodedPixel_23 : decode cX8_requireCodedPixel 23 = .ok (.getfield 58, 3) := by decide +kernel
theorem dX8_requireCodedPixel_26 : decode cX8_requireCodedPixel 26 = .ok (.if_icmp .lt 14, 3) := by decide +kernel
theorem dX8_requireCodedPixel_29 : decode cX8_requireCodedPixel 29 = .ok (.new 261, 3) := by decide +kernel
theorem dX8_requireCodedPixel_32 : decode cX8_requireCodedPixel 32 = .ok (.dup, 1) := by decide +kernel
theorem dX8_requireCodedPixel_33 : decode cX8_requireCodedPixel 33 = .ok (.ldc_w 281, 3) := by decide +kernel
theorem dX8_requireCodedPixel_36 : decode cX8_requireCodedPixel 36 = .ok (.invokespecial 265, 3) := by decide +kernel
theorem dX8_requireCodedPixel_39 : decode cX8_requireCodedPixel 39 = .ok (.athrow, 1) := by decide +kernel
theorem dX8_requireCodedPixel_40 : decode cX8_requireCodedPixel 40 = .ok (.return_, 1) := by decide +kernel
theorem dX8_slicesOf_0 : decode cX8_slicesOf 0 = .ok (.iload_n 0, 1) := by decide +kernel
theorem dX8_slicesOf_1 : decode cX8_slicesOf 1 = .ok (.bipush 8, 2) := by decide +kernel
theorem dX8_slicesOf_3 : decode cX8_slicesOf 3 = .ok (.iadd, 1) := by decide +kernel
theorem dX8_slicesOf_4 : decode cX8_slicesOf 4 = .ok (.iconst 1, 1) := by decide +kernel
theorem dX8_slicesOf_5 : decode cX8_slicesOf 5 = .ok (.isub, 1) := by decide +kernel
theorem dX8_slicesOf_6 : decode cX8_slicesOf 6 = .ok (.bipush 8, 2) := by decide +kernel
theorem dX8_slicesOf_8 : decode cX8_slicesOf 8 = .ok (.idiv, 1) := by decide +kernel
theorem dX8_slicesOf_9 : decode cX8_slicesOf 9 = .ok (.ireturn, 1) := by decide +kernel
theorem dX8_tilesOf_0 : decode cX8_tilesOf 0 = .ok (.iload_n 0, 1) := by decide +kernel
theorem dX8_tilesOf_1 : decode cX8_tilesOf 1 = .ok (.bipush 8, 2) := by decide +kernel
theorem dX8_tilesOf_3 : decode cX8_tilesOf 3 = .ok (.iadd, 1) := by decide +kernel
theorem dX8_tilesOf_4 : decode cX8_tilesOf 4 = .ok (.iconst 1, 1) := by decide +kernel
theorem dX8_tilesOf_5 : decode cX8_tilesOf 5 = .ok (.isub, 1) := by decide +kernel
theorem dX8_tilesOf_6 : decode cX8_tilesOf 6 = .ok (.bipush 8, 2) := by decide +kernel
theorem dX8_tilesOf_8 : decode cX8_tilesOf 8 = .ok (.idiv, 1) := by decide +kernel
theorem dX8_tilesOf_9 : decode cX8_tilesOf 9 = .ok (.ireturn, 1) := by decide +kernel
theorem dX8_rememberReplacement_0 : decode cX8_rememberReplacement 0 = .ok (.aload_n 0, 1) := by decide +kernel
theorem dX8_rememberReplacement_1 : decode cX8_rememberReplacement 1 = .ok (.iload_n 1, 1) := by decide +kernel
theorem dX8_rememberReplacement_2 : decode cX8_rememberReplacement 2 = .ok (.putfield 52, 3) := by decide +kernel
theorem dX8_rememberReplacement_5 : decode cX8_rememberReplacement 5 = .ok (.aload_n 0, 1) := by decide +kernel
theorem dX8_rememberReplacement_6 : decode cX8_rememberReplacement 6 = .ok (.aload_n 0, 1) := by decide +kernel
theorem dX8_rememberReplacement_7 : decode cX8_rememberReplacement 7 = .ok (.getfield 12, 3) := by decide +kernel
theorem dX8_rememberReplacement_10 : decode cX8_rememberReplacement 10 = .ok (.getfield 119, 3) := by decide +kernel
theorem dX8_rememberReplacement_13 : decode cX8_rememberReplacement 13 = .ok (.putfield 55, 3) := by decide +kernel
theorem dX8_rememberReplacement_16 : decode cX8_rememberReplacement 16 = .ok (.aload_n 0, 1) := by decide +kernel
theorem dX8_rememberReplacement_17 : decode cX8_rememberReplacement 17 = .ok (.aload_n 0, 1) := by decide +kernel
theorem dX8_rememberReplacement_18 : decode cX8_rememberReplacement 18 = .ok (.getfield 12, 3) := by decide +kernel
theorem dX8_rememberReplacement_21 : decode cX8_rememberReplacement 21 = .ok (.getfield 122, 3) := by decide +kernel
theorem dX8_rememberReplacement_24 : decode cX8_rememberReplacement 24 = .ok (.putfield 58, 3) := by decide +kernel
theorem dX8_rememberReplacement_27 : decode cX8_rememberReplacement 27 = .ok (.aload_n 0, 1) := by decide +kernel
theorem dX8_rememberReplacement_28 : decode cX8_rememberReplacement 28 = .ok (.aload_n 0, 1) := by decide +kernel
theorem dX8_rememberReplacement_29 : decode cX8_rememberReplacement 29 = .ok (.getfield 27, 3) := by decide +kernel
theorem dX8_rememberReplacement_32 : decode cX8_rememberReplacement 32 = .ok (.getfield 155, 3) := by decide +kernel
theorem dX8_rememberReplacement_35 : decode cX8_rememberReplacement 35 = .ok (.putfield 61, 3) := by decide +kernel
theorem dX8_rememberReplacement_38 : decode cX8_rememberReplacement 38 = .ok (.aload_n 0, 1) := by decide +kernel
theorem dX8_rememberReplacement_39 : decode cX8_rememberReplacement 39 = .ok (.iconst 3, 1) := by decide +kernel
theorem dX8_rememberReplacement_40 : decode cX8_rememberReplacement 40 = .ok (.aload_n 0, 1) := by decide +kernel
theorem dX8_rememberReplacement_41 : decode cX8_rememberReplacement 41 = .ok (.getfield 12, 3) := by decide +kernel
theorem dX8_rememberReplacement_44 : decode cX8_rememberReplacement 44 = .ok (.getfield 119, 3) := by decide +kernel
theorem dX8_rememberReplacement_47 : decode cX8_rememberReplacement 47 = .ok (.aload_n 0, 1) := by decide +kernel
theorem dX8_rememberReplacement_48 : decode cX8_rememberReplacement 48 = .ok (.getfield 12, 3) := by decide +kernel
theorem dX8_rememberReplacement_51 : decode cX8_rememberReplacement 51 = .ok (.getfield 122, 3) := by decide +kernel
theorem dX8_rememberReplacement_54 : decode cX8_rememberReplacement 54 = .ok (.imul, 1) := by decide +kernel
theorem dX8_rememberReplacement_55 : decode cX8_rememberReplacement 55 = .ok (.iadd, 1) := by decide +kernel
theorem dX8_rememberReplacement_56 : decode cX8_rememberReplacement 56 = .ok (.putfield 64, 3) := by decide +kernel
theorem dX8_rememberReplacement_59 : decode cX8_rememberReplacement 59 = .ok (.return_, 1) := by decide +kernel
theorem dX8_writeCodedHeader_0 : decode cX8_writeCodedHeader 0 = .ok (.aload_n 0, 1) := by decide +kernel
theorem dX8_writeCodedHeader_1 : decode cX8_writeCodedHeader 1 = .ok (.getfield 27, 3) := by decide +kernel
theorem dX8_writeCodedHeader_4 : decode cX8_writeCodedHeader 4 = .ok (.invokevirtual 158, 3) := by decide +kernel
theorem dX8_writeCodedHeader_7 : decode cX8_writeCodedHeader 7 = .ok (.aload_n 0, 1) := by decide +kernel
theorem dX8_writeCodedHeader_8 : decode cX8_writeCodedHeader 8 = .ok (.getfield 27, 3) := by decide +kernel
theorem dX8_writeCodedHeader_11 : decode cX8_writeCodedHeader 11 = .ok (.bipush 80, 2) := by decide +kernel
theorem dX8_writeCodedHeader_13 : decode cX8_writeCodedHeader 13 = .ok (.invokevirtual 160, 3) := by decide +kernel
theorem dX8_writeCodedHeader_16 : decode cX8_writeCodedHeader 16 = .ok (.aload_n 0, 1) := by decide +kernel
theorem dX8_writeCodedHeader_17 : decode cX8_writeCodedHeader 17 = .ok (.getfield 27, 3) := by decide +kernel
theorem dX8_writeCodedHeader_20 : decode cX8_writeCodedHeader 20 = .ok (.aload_n 0, 1) := by decide +kernel
theorem dX8_writeCodedHeader_21 : decode cX8_writeCodedHeader 21 = .ok (.getfield 12, 3) := by decide +kernel
theorem dX8_writeCodedHeader_24 : decode cX8_writeCodedHeader 24 = .ok (.getfield 119, 3) := by decide +kernel
theorem dX8_writeCodedHeader_27 : decode cX8_writeCodedHeader 27 = .ok (.invokevirtual 160, 3) := by decide +kernel
theorem dX8_writeCodedHeader_30 : decode cX8_writeCodedHeader 30 = .ok (.aload_n 0, 1) := by decide +kernel
theorem dX8_writeCodedHeader_31 : decode cX8_writeCodedHeader 31 = .ok (.getfield 27, 3) := by decide +kernel
theorem dX8_writeCodedHeader_34 : decode cX8_writeCodedHeader 34 = .ok (.aload_n 0, 1) := by decide +kernel
theorem dX8_writeCodedHeader_35 : decode cX8_writeCodedHeader 35 = .ok (.getfield 12, 3) := by decide +kernel
theorem dX8_writeCodedHeader_38 : decode cX8_writeCodedHeader 38 = .ok (.getfield 122, 3) := by decide +kernel
theorem dX8_writeCodedHeader_41 : decode cX8_writeCodedHeader 41 = .ok (.invokevirtual 160, 3) := by decide +kernel
theorem dX8_writeCodedHeader_44 : decode cX8_writeCodedHeader 44 = .ok (.aload_n 0, 1) := by decide +kernel
theorem dX8_writeCodedHeader_45 : decode cX8_writeCodedHeader 45 = .ok (.getfield 27, 3) := by decide +kernel
theorem dX8_writeCodedHeader_48 : decode cX8_writeCodedHeader 48 = .ok (.aload_n 0, 1) := by decide +kernel
theorem dX8_writeCodedHeader_49 : decode cX8_writeCodedHeader 49 = .ok (.getfield 20, 3) := by decide +kernel
theorem dX8_writeCodedHeader_52 : decode cX8_writeCodedHeader 52 = .ok (.invokevirtual 160, 3) := by decide +kernel
theorem dX8_writeCodedHeader_55 : decode cX8_writeCodedHeader 55 = .ok (.iconst 0, 1) := by decide +kernel
theorem dX8_writeCodedHeader_56 : decode cX8_writeCodedHeader 56 = .ok (.istore_n 1, 1) := by decide +kernel
theorem dX8_writeCodedHeader_57 : decode cX8_writeCodedHeader 57 = .ok (.iload_n 1, 1) := by decide +kernel
theorem dX8_writeCodedHeader_58 : decode cX8_writeCodedHeader 58 = .ok (.aload_n 0, 1) := by decide +kernel
theorem dX8_writeCodedHeader_59 : decode cX8_writeCodedHeader 59 = .ok (.getfield 20, 3) := by decide +kernel
theorem dX8_writeCodedHeader_62 : decode cX8_writeCodedHeader 62 = .ok (.if_icmp .ge 22, 3) := by decide +kernel
theorem dX8_writeCodedHeader_65 : decode cX8_writeCodedHeader 65 = .ok (.aload_n 0, 1) := by decide +kernel
theorem dX8_writeCodedHeader_66 : decode cX8_writeCodedHeader 66 = .ok (.getfield 27, 3) := by decide +kernel
theorem dX8_writeCodedHeader_69 : decode cX8_writeCodedHeader 69 = .ok (.aload_n 0, 1) := by decide +kernel
theorem dX8_writeCodedHeader_70 : decode cX8_writeCodedHeader 70 = .ok (.getfield 16, 3) := by decide +kernel
theorem dX8_writeCodedHeader_73 : decode cX8_writeCodedHeader 73 = .ok (.iload_n 1, 1) := by decide +kernel
theorem dX8_writeCodedHeader_74 : decode cX8_writeCodedHeader 74 = .ok (.iaload, 1) := by decide +kernel
theorem dX8_writeCodedHeader_75 : decode cX8_writeCodedHeader 75 = .ok (.invokevirtual 160, 3) := by decide +kernel
theorem dX8_writeCodedHeader_78 : decode cX8_writeCodedHeader 78 = .ok (.iinc 1 1, 3) := by decide +kernel
theorem dX8_writeCodedHeader_81 : decode cX8_writeCodedHeader 81 = .ok (.goto (-24), 3) := by decide +kernel
theorem dX8_writeCodedHeader_84 : decode cX8_writeCodedHeader 84 = .ok (.return_, 1) := by decide +kernel
theorem dX8_extendPicture_0 : decode cX8_extendPicture 0 = .ok (.aload_n 0, 1) := by decide +kernel
theorem dX8_extendPicture_1 : decode cX8_extendPicture 1 = .ok (.getfield 12, 3) := by decide +kernel
theorem dX8_extendPicture_4 : decode cX8_extendPicture 4 = .ok (.getfield 119, 3) := by decide +kernel
theorem dX8_extendPicture_7 : decode cX8_extendPicture 7 = .ok (.invokestatic 283, 3) := by decide +kernel
theorem dX8_extendPicture_10 : decode cX8_extendPicture 10 = .ok (.bipush 8, 2) := by decide +kernel
theorem dX8_extendPicture_12 : decode cX8_extendPicture 12 = .ok (.imul, 1) := by decide +kernel
theorem dX8_extendPicture_13 : decode cX8_extendPicture 13 = .ok (.istore_n 1, 1) := by decide +kernel
theorem dX8_extendPicture_14 : decode cX8_extendPicture 14 = .ok (.aload_n 0, 1) := by decide +kernel
theorem dX8_extendPicture_15 : decode cX8_extendPicture 15 = .ok (.getfield 12, 3) := by decide +kernel
theorem dX8_extendPicture_18 : decode cX8_extendPicture 18 = .ok (.getfield 122, 3) := by decide +kernel
theorem dX8_extendPicture_21 : decode cX8_extendPicture 21 = .ok (.invokestatic 266, 3) := by decide +kernel
theorem dX8_extendPicture_24 : decode cX8_extendPicture 24 = .ok (.bipush 8, 2) := by decide +kernel
theorem dX8_extendPicture_26 : decode cX8_extendPicture 26 = .ok (.imul, 1) := by decide +kernel
theorem dX8_extendPicture_27 : decode cX8_extendPicture 27 = .ok (.istore_n 2, 1) := by decide +kernel
theorem dX8_extendPicture_28 : decode cX8_extendPicture 28 = .ok (.iconst 0, 1) := by decide +kernel
theorem dX8_extendPicture_29 : decode cX8_extendPicture 29 = .ok (.istore_n 3, 1) := by decide +kernel
theorem dX8_extendPicture_30 : decode cX8_extendPicture 30 = .ok (.iload_n 3, 1) := by decide +kernel
theorem dX8_extendPicture_31 : decode cX8_extendPicture 31 = .ok (.iload_n 2, 1) := by decide +kernel
theorem dX8_extendPicture_32 : decode cX8_extendPicture 32 = .ok (.if_icmp .ge 70, 3) := by decide +kernel
theorem dX8_extendPicture_35 : decode cX8_extendPicture 35 = .ok (.iconst 0, 1) := by decide +kernel
theorem dX8_extendPicture_36 : decode cX8_extendPicture 36 = .ok (.istore 4, 2) := by decide +kernel
theorem dX8_extendPicture_38 : decode cX8_extendPicture 38 = .ok (.iload 4, 2) := by decide +kernel
theorem dX8_extendPicture_40 : decode cX8_extendPicture 40 = .ok (.iload_n 1, 1) := by decide +kernel
theorem dX8_extendPicture_41 : decode cX8_extendPicture 41 = .ok (.if_icmp .ge 55, 3) := by decide +kernel
theorem dX8_extendPicture_44 : decode cX8_extendPicture 44 = .ok (.aload_n 0, 1) := by decide +kernel
theorem dX8_extendPicture_45 : decode cX8_extendPicture 45 = .ok (.getfield 67, 3) := by decide +kernel
theorem dX8_extendPicture_48 : decode cX8_extendPicture 48 = .ok (.iload_n 3, 1) := by decide +kernel
theorem dX8_extendPicture_49 : decode cX8_extendPicture 49 = .ok (.bipush 16, 2) := by decide +kernel
theorem dX8_extendPicture_51 : decode cX8_extendPicture 51 = .ok (.imul, 1) := by decide +kernel
theorem dX8_extendPicture_52 : decode cX8_extendPicture 52 = .ok (.iload 4, 2) := by decide +kernel
theorem dX8_extendPicture_54 : decode cX8_extendPicture 54 = .ok (.iadd, 1) := by decide +kernel
theorem dX8_extendPicture_55 : decode cX8_extendPicture 55 = .ok (.aload_n 0, 1) := by decide +kernel
theorem dX8_extendPicture_56 : decode cX8_extendPicture 56 = .ok (.getfield 12, 3) := by decide +kernel
theorem dX8_extendPicture_59 : decode cX8_extendPicture 59 = .ok (.iload 4, 2) := by decide +kernel
theorem dX8_extendPicture_61 : decode cX8_extendPicture 61 = .ok (.aload_n 0, 1) := by decide +kernel
theorem dX8_extendPicture_62 : decode cX8_extendPicture 62 = .ok (.getfield 12, 3) := by decide +kernel
theorem dX8_extendPicture_65 : decode cX8_extendPicture 65 = .ok (.getfield 119, 3) := by decide +kernel
theorem dX8_extendPicture_68 : decode cX8_extendPicture 68 = .ok (.iconst 1, 1) := by decide +kernel
theorem dX8_extendPicture_69 : decode cX8_extendPicture 69 = .ok (.isub, 1) := by decide +kernel
theorem dX8_extendPicture_70 : decode cX8_extendPicture 70 = .ok (.invokestatic 190, 3) := by decide +kernel
theorem dX8_extendPicture_73 : decode cX8_extendPicture 73 = .ok (.iload_n 3, 1) := by decide +kernel
theorem dX8_extendPicture_74 : decode cX8_extendPicture 74 = .ok (.aload_n 0, 1) := by decide +kernel
theorem dX8_extendPicture_75 : decode cX8_extendPicture 75 = .ok (.getfield 12, 3) := by decide +kernel
theorem dX8_extendPicture_78 : decode cX8_extendPicture 78 = .ok (.getfield 122, 3) := by decide +kernel
theorem dX8_extendPicture_81 : decode cX8_extendPicture 81 = .ok (.iconst 1, 1) := by decide +kernel
theorem dX8_extendPicture_82 : decode cX8_extendPicture 82 = .ok (.isub, 1) := by decide +kernel
theorem dX8_extendPicture_83 : decode cX8_extendPicture 83 = .ok (.invokestatic 190, 3) := by decide +kernel
theorem dX8_extendPicture_86 : decode cX8_extendPicture 86 = .ok (.invokevirtual 111, 3) := by decide +kernel
theorem dX8_extendPicture_89 : decode cX8_extendPicture 89 = .ok (.iastore, 1) := by decide +kernel
theorem dX8_extendPicture_90 : decode cX8_extendPicture 90 = .ok (.iinc 4 1, 3) := by decide +kernel
theorem dX8_extendPicture_93 : decode cX8_extendPicture 93 = .ok (.goto (-55), 3) := by decide +kernel
theorem dX8_extendPicture_96 : decode cX8_extendPicture 96 = .ok (.iinc 3 1, 3) := by decide +kernel
theorem dX8_extendPicture_99 : decode cX8_extendPicture 99 = .ok (.goto (-69), 3) := by decide +kernel
theorem dX8_extendPicture_102 : decode cX8_extendPicture 102 = .ok (.return_, 1) := by decide +kernel
theorem dX8_subtractFromTarget_0 : decode cX8_subtractFromTarget 0 = .ok (.iconst 0, 1) := by decide +kernel
theorem dX8_subtractFromTarget_1 : decode cX8_subtractFromTarget 1 = .ok (.istore_n 2, 1) := by decide +kernel
theorem dX8_subtractFromTarget_2 : decode cX8_subtractFromTarget 2 = .ok (.iload_n 2, 1) := by decide +kernel
theorem dX8_subtractFromTarget_3 : decode cX8_subtractFromTarget 3 = .ok (.sipush 384, 3) := by decide +kernel
theorem dX8_subtractFromTarget_6 : decode cX8_subtractFromTarget 6 = .ok (.if_icmp .ge 24, 3) := by decide +kernel
theorem dX8_subtractFromTarget_9 : decode cX8_subtractFromTarget 9 = .ok (.aload_n 0, 1) := by decide +kernel
theorem dX8_subtractFromTarget_10 : decode cX8_subtractFromTarget 10 = .ok (.getfield 67, 3) := by decide +kernel
theorem dX8_subtractFromTarget_13 : decode cX8_subtractFromTarget 13 = .ok (.iload_n 2, 1) := by decide +kernel
theorem dX8_subtractFromTarget_14 : decode cX8_subtractFromTarget 14 = .ok (.dup2, 1) := by decide +kernel
theorem dX8_subtractFromTarget_15 : decode cX8_subtractFromTarget 15 = .ok (.iaload, 1) := by decide +kernel
theorem dX8_subtractFromTarget_16 : decode cX8_subtractFromTarget 16 = .ok (.aload_n 1, 1) := by decide +kernel
theorem dX8_subtractFromTarget_17 : decode cX8_subtractFromTarget 17 = .ok (.getfield 286, 3) := by decide +kernel
theorem dX8_subtractFromTarget_20 : decode cX8_subtractFromTarget 20 = .ok (.iload_n 2, 1) := by decide +kernel
theorem dX8_subtractFromTarget_21 : decode cX8_subtractFromTarget 21 = .ok (.iaload, 1) := by decide +kernel
theorem dX8_subtractFromTarget_22 : decode cX8_subtractFromTarget 22 = .ok (.isub, 1) := by decide +kernel
theorem dX8_subtractFromTarget_23 : decode cX8_subtractFromTarget 23 = .ok (.iastore, 1) := by decide +kernel
theorem dX8_subtractFromTarget_24 : decode cX8_subtractFromTarget 24 = .ok (.iinc 2 1, 3) := by decide +kernel
theorem dX8_subtractFromTarget_27 : decode cX8_subtractFromTarget 27 = .ok (.goto (-25), 3) := by decide +kernel
theorem dX8_subtractFromTarget_30 : decode cX8_subtractFromTarget 30 = .ok (.return_, 1) := by decide +kernel
theorem dX8_encodeLayer_0 : decode cX8_encodeLayer 0 = .ok (.aload_n 0, 1) := by decide +kernel
theorem dX8_encodeLayer_1 : decode cX8_encodeLayer 1 = .ok (.getfield 12, 3) := by decide +kernel
theorem dX8_encodeLayer_4 : decode cX8_encodeLayer 4 = .ok (.getfield 119, 3) := by decide +kernel
theorem dX8_encodeLayer_7 : decode cX8_encodeLayer 7 = .ok (.invokestatic 283, 3) := by decide +kernel
theorem dX8_encodeLayer_10 : decode cX8_encodeLayer 10 = .ok (.istore_n 2, 1) := by decide +kernel
theorem dX8_encodeLayer_11 : decode cX8_encodeLayer 11 = .ok (.aload_n 0, 1) := by decide +kernel
theorem dX8_encodeLayer_12 : decode cX8_encodeLayer 12 = .ok (.getfield 12, 3) := by decide +kernel
theorem dX8_encodeLayer_15 : decode cX8_encodeLayer 15 = .ok (.getfield 122, 3) := by decide +kernel
theorem dX8_encodeLayer_18 : decode cX8_encodeLayer 18 = .ok (.invokestatic 266, 3) := by decide +kernel
theorem dX8_encodeLayer_21 : decode cX8_encodeLayer 21 = .ok (.istore_n 3, 1) := by decide +kernel
theorem dX8_encodeLayer_22 : decode cX8_encodeLayer 22 = .ok (.aload_n 1, 1) := by decide +kernel
theorem dX8_encodeLayer_23 : decode cX8_encodeLayer 23 = .ok (.iconst 0, 1) := by decide +kernel
theorem dX8_encodeLayer_24 : decode cX8_encodeLayer 24 = .ok (.putfield 224, 3) := by decide +kernel
theorem dX8_encodeLayer_27 : decode cX8_encodeLayer 27 = .ok (.iconst 0, 1) := by decide +kernel
theorem dX8_encodeLayer_28 : decode cX8_encodeLayer 28 = .ok (.istore 4, 2) := by decide +kernel
theorem dX8_encodeLayer_30 : decode cX8_encodeLayer 30 = .ok (.iload 4, 2) := by decide +kernel
theorem dX8_encodeLayer_32 : decode cX8_encodeLayer 32 = .ok (.iload_n 3, 1) := by decide +kernel
theorem dX8_encodeLayer_33 : decode cX8_encodeLayer 33 = .ok (.if_icmp .ge 85, 3) := by decide +kernel
theorem dX8_encodeLayer_36 : decode cX8_encodeLayer 36 = .ok (.iconst 0, 1) := by decide +kernel
theorem dX8_encodeLayer_37 : decode cX8_encodeLayer 37 = .ok (.istore 5, 2) := by decide +kernel
theorem dX8_encodeLayer_39 : decode cX8_encodeLayer 39 = .ok (.iload 5, 2) := by decide +kernel
theorem dX8_encodeLayer_41 : decode cX8_encodeLayer 41 = .ok (.iload_n 2, 1) := by decide +kernel
theorem dX8_encodeLayer_42 : decode cX8_encodeLayer 42 = .ok (.if_icmp .ge 27, 3) := by decide +kernel
theorem dX8_encodeLayer_45 : decode cX8_encodeLayer 45 = .ok (.aload_n 1, 1) := by decide +kernel
theorem dX8_encodeLayer_46 : decode cX8_encodeLayer 46 = .ok (.aload_n 0, 1) := by decide +kernel
theorem dX8_encodeLayer_47 : decode cX8_encodeLayer 47 = .ok (.getfield 67, 3) := by decide +kernel
theorem dX8_encodeLayer_50 : decode cX8_encodeLayer 50 = .ok (.iload 5, 2) := by decide +kernel
theorem dX8_encodeLayer_52 : decode cX8_encodeLayer 52 = .ok (.bipush 8, 2) := by decide +kernel
theorem dX8_encodeLayer_54 : decode cX8_encodeLayer 54 = .ok (.imul, 1) := by decide +kernel
theorem dX8_encodeLayer_55 : decode cX8_encodeLayer 55 = .ok (.iload 4, 2) := by decide +kernel
theorem dX8_encodeLayer_57 : decode cX8_encodeLayer 57 = .ok (.bipush 8, 2) := by decide +kernel
theorem dX8_encodeLayer_59 : decode cX8_encodeLayer 59 = .ok (.imul, 1) := by decide +kernel
theorem dX8_encodeLayer_60 : decode cX8_encodeLayer 60 = .ok (.invokevirtual 289, 3) := by decide +kernel
theorem dX8_encodeLayer_63 : decode cX8_encodeLayer 63 = .ok (.iinc 5 1, 3) := by decide +kernel
theorem dX8_encodeLayer_66 : decode cX8_encodeLayer 66 = .ok (.goto (-27), 3) := by decide +kernel
theorem dX8_encodeLayer_69 : decode cX8_encodeLayer 69 = .ok (.aload_n 0, 1) := by decide +kernel
theorem dX8_encodeLayer_70 : decode cX8_encodeLayer 70 = .ok (.getfield 77, 3) := by decide +kernel
theorem dX8_encodeLayer_73 : decode cX8_encodeLayer 73 = .ok (.invokevirtual 293, 3) := by decide +kernel
theorem dX8_encodeLayer_76 : decode cX8_encodeLayer 76 = .ok (.aload_n 0, 1) := by decide +kernel
theorem dX8_encodeLayer_77 : decode cX8_encodeLayer 77 = .ok (.getfield 77, 3) := by decide +kernel
theorem dX8_encodeLayer_80 : decode cX8_encodeLayer 80 = .ok (.aload_n 1, 1) := by decide +kernel
theorem dX8_encodeLayer_81 : decode cX8_encodeLayer 81 = .ok (.iload 4, 2) := by decide +kernel
theorem dX8_encodeLayer_83 : decode cX8_encodeLayer 83 = .ok (.iload_n 2, 1) := by decide +kernel
theorem dX8_encodeLayer_84 : decode cX8_encodeLayer 84 = .ok (.invokestatic 296, 3) := by decide +kernel
theorem dX8_encodeLayer_87 : decode cX8_encodeLayer 87 = .ok (.aload_n 0, 1) := by decide +kernel
theorem dX8_encodeLayer_88 : decode cX8_encodeLayer 88 = .ok (.getfield 77, 3) := by decide +kernel
theorem dX8_encodeLayer_91 : decode cX8_encodeLayer 91 = .ok (.invokevirtual 300, 3) := by decide +kernel
theorem dX8_encodeLayer_94 : decode cX8_encodeLayer 94 = .ok (.aload_n 1, 1) := by decide +kernel
theorem dX8_encodeLayer_95 : decode cX8_encodeLayer 95 = .ok (.getfield 248, 3) := by decide +kernel
theorem dX8_encodeLayer_98 : decode cX8_encodeLayer 98 = .ok (.iload 4, 2) := by decide +kernel
theorem dX8_encodeLayer_100 : decode cX8_encodeLayer 100 = .ok (.aload_n 0, 1) := by decide +kernel
theorem dX8_encodeLayer_101 : decode cX8_encodeLayer 101 = .ok (.getfield 77, 3) := by decide +kernel
theorem dX8_encodeLayer_104 : decode cX8_encodeLayer 104 = .ok (.invokevirtual 303, 3) := by decide +kernel
theorem dX8_encodeLayer_107 : decode cX8_encodeLayer 107 = .ok (.iastore, 1) := by decide +kernel
theorem dX8_encodeLayer_108 : decode cX8_encodeLayer 108 = .ok (.aload_n 0, 1) := by decide +kernel
theorem dX8_encodeLayer_109 : decode cX8_encodeLayer 109 = .ok (.invokevirtual 306, 3) := by decide +kernel
theorem dX8_encodeLayer_112 : decode cX8_encodeLayer 112 = .ok (.iinc 4 1, 3) := by decide +kernel
theorem dX8_encodeLayer_115 : decode cX8_encodeLayer 115 = .ok (.goto (-85), 3) := by decide +kernel
theorem dX8_encodeLayer_118 : decode cX8_encodeLayer 118 = .ok (.return_, 1) := by decide +kernel
theorem dX8_appendPart_0 : decode cX8_appendPart 0 = .ok (.aload_n 0, 1) := by decide +kernel
theorem dX8_appendPart_1 : decode cX8_appendPart 1 = .ok (.getfield 77, 3) := by decide +kernel
theorem dX8_appendPart_4 : decode cX8_appendPart 4 = .ok (.invokevirtual 303, 3) := by decide +kernel
theorem dX8_appendPart_7 : decode cX8_appendPart 7 = .ok (.istore_n 1, 1) := by decide +kernel
theorem dX8_appendPart_8 : decode cX8_appendPart 8 = .ok (.aload_n 0, 1) := by decide +kernel
theorem dX8_appendPart_9 : decode cX8_appendPart 9 = .ok (.getfield 27, 3) := by decide +kernel
theorem dX8_appendPart_12 : decode cX8_appendPart 12 = .ok (.iload_n 1, 1) := by decide +kernel
theorem dX8_appendPart_13 : decode cX8_appendPart 13 = .ok (.sipush 256, 3) := by decide +kernel
theorem dX8_appendPart_16 : decode cX8_appendPart 16 = .ok (.idiv, 1) := by decide +kernel
theorem dX8_appendPart_17 : decode cX8_appendPart 17 = .ok (.invokevirtual 160, 3) := by decide +kernel
theorem dX8_appendPart_20 : decode cX8_appendPart 20 = .ok (.aload_n 0, 1) := by decide +kernel
theorem dX8_appendPart_21 : decode cX8_appendPart 21 = .ok (.getfield 27, 3) := by decide +kernel
theorem dX8_appendPart_24 : decode cX8_appendPart 24 = .ok (.iload_n 1, 1) := by decide +kernel
theorem dX8_appendPart_25 : decode cX8_appendPart 25 = .ok (.sipush 256, 3) := by decide +kernel
theorem dX8_appendPart_28 : decode cX8_appendPart 28 = .ok (.irem, 1) := by decide +kernel
theorem dX8_appendPart_29 : decode cX8_appendPart 29 = .ok (.invokevirtual 160, 3) := by decide +kernel
theorem dX8_appendPart_32 : decode cX8_appendPart 32 = .ok (.aload_n 0, 1) := by decide +kernel
theorem dX8_appendPart_33 : decode cX8_appendPart 33 = .ok (.getfield 27, 3) := by decide +kernel
theorem dX8_appendPart_36 : decode cX8_appendPart 36 = .ok (.aload_n 0, 1) := by decide +kernel
theorem dX8_appendPart_37 : decode cX8_appendPart 37 = .ok (.getfield 77, 3) := by decide +kernel
theorem dX8_appendPart_40 : decode cX8_appendPart 40 = .ok (.getfield 309, 3) := by decide +kernel
theorem dX8_appendPart_43 : decode cX8_appendPart 43 = .ok (.iconst 0, 1) := by decide +kernel
theorem dX8_appendPart_44 : decode cX8_appendPart 44 = .ok (.iload_n 1, 1) := by decide +kernel
theorem dX8_appendPart_45 : decode cX8_appendPart 45 = .ok (.invokestatic 312, 3) := by decide +kernel
theorem dX8_appendPart_48 : decode cX8_appendPart 48 = .ok (.invokevirtual 160, 3) := by decide +kernel
theorem dX8_appendPart_51 : decode cX8_appendPart 51 = .ok (.iconst 0, 1) := by decide +kernel
theorem dX8_appendPart_52 : decode cX8_appendPart 52 = .ok (.istore_n 2, 1) := by decide +kernel
theorem dX8_appendPart_53 : decode cX8_appendPart 53 = .ok (.iload_n 2, 1) := by decide +kernel
theorem dX8_appendPart_54 : decode cX8_appendPart 54 = .ok (.iload_n 1, 1) := by decide +kernel
theorem dX8_appendPart_55 : decode cX8_appendPart 55 = .ok (.if_icmp .ge 25, 3) := by decide +kernel
theorem dX8_appendPart_58 : decode cX8_appendPart 58 = .ok (.aload_n 0, 1) := by decide +kernel
theorem dX8_appendPart_59 : decode cX8_appendPart 59 = .ok (.getfield 27, 3) := by decide +kernel
theorem dX8_appendPart_62 : decode cX8_appendPart 62 = .ok (.aload_n 0, 1) := by decide +kernel
theorem dX8_appendPart_63 : decode cX8_appendPart 63 = .ok (.getfield 77, 3) := by decide +kernel
theorem dX8_appendPart_66 : decode cX8_appendPart 66 = .ok (.getfield 309, 3) := by decide +kernel
theorem dX8_appendPart_69 : decode cX8_appendPart 69 = .ok (.iload_n 2, 1) := by decide +kernel
theorem dX8_appendPart_70 : decode cX8_appendPart 70 = .ok (.iaload, 1) := by decide +kernel
theorem dX8_appendPart_71 : decode cX8_appendPart 71 = .ok (.invokevirtual 160, 3) := by decide +kernel
theorem dX8_appendPart_74 : decode cX8_appendPart 74 = .ok (.iinc 2 1, 3) := by decide +kernel
theorem dX8_appendPart_77 : decode cX8_appendPart 77 = .ok (.goto (-24), 3) := by decide +kernel
theorem dX8_appendPart_80 : decode cX8_appendPart 80 = .ok (.return_, 1) := by decide +kernel
theorem dX8_checksum_0 : decode cX8_checksum 0 = .ok (.iconst 0, 1) := by decide +kernel
theorem dX8_checksum_1 : decode cX8_checksum 1 = .ok (.istore_n 3, 1) := by decide +kernel
theorem dX8_checksum_2 : decode cX8_checksum 2 = .ok (.iconst 0, 1) := by decide +kernel
theorem dX8_checksum_3 : decode cX8_checksum 3 = .ok (.istore 4, 2) := by decide +kernel
theorem dX8_checksum_5 : decode cX8_checksum 5 = .ok (.iload 4, 2) := by decide +kernel
theorem dX8_checksum_7 : decode cX8_checksum 7 = .ok (.iload_n 2, 1) := by decide +kernel
theorem dX8_checksum_8 : decode cX8_checksum 8 = .ok (.if_icmp .ge 27, 3) := by decide +kernel
theorem dX8_checksum_11 : decode cX8_checksum 11 = .ok (.iload_n 3, 1) := by decide +kernel
theorem dX8_checksum_12 : decode cX8_checksum 12 = .ok (.iload 4, 2) := by decide +kernel
theorem dX8_checksum_14 : decode cX8_checksum 14 = .ok (.iconst 1, 1) := by decide +kernel
theorem dX8_checksum_15 : decode cX8_checksum 15 = .ok (.iadd, 1) := by decide +kernel
theorem dX8_checksum_16 : decode cX8_checksum 16 = .ok (.aload_n 0, 1) := by decide +kernel
theorem dX8_checksum_17 : decode cX8_checksum 17 = .ok (.iload_n 1, 1) := by decide +kernel
theorem dX8_checksum_18 : decode cX8_checksum 18 = .ok (.iload 4, 2) := by decide +kernel
theorem dX8_checksum_20 : decode cX8_checksum 20 = .ok (.iadd, 1) := by decide +kernel
theorem dX8_checksum_21 : decode cX8_checksum 21 = .ok (.iaload, 1) := by decide +kernel
theorem dX8_checksum_22 : decode cX8_checksum 22 = .ok (.imul, 1) := by decide +kernel
theorem dX8_checksum_23 : decode cX8_checksum 23 = .ok (.iadd, 1) := by decide +kernel
theorem dX8_checksum_24 : decode cX8_checksum 24 = .ok (.sipush 251, 3) := by decide +kernel
theorem dX8_checksum_27 : decode cX8_checksum 27 = .ok (.irem, 1) := by decide +kernel
theorem dX8_checksum_28 : decode cX8_checksum 28 = .ok (.istore_n 3, 1) := by decide +kernel
theorem dX8_checksum_29 : decode cX8_checksum 29 = .ok (.iinc 4 1, 3) := by decide +kernel
theorem dX8_checksum_32 : decode cX8_checksum 32 = .ok (.goto (-27), 3) := by decide +kernel
theorem dX8_checksum_35 : decode cX8_checksum 35 = .ok (.iload_n 3, 1) := by decide +kernel
theorem dX8_checksum_36 : decode cX8_checksum 36 = .ok (.ireturn, 1) := by decide +kernel
theorem dX8_codePart_0 : decode cX8_codePart 0 = .ok (.iload_n 2, 1) := by decide +kernel
theorem dX8_codePart_1 : decode cX8_codePart 1 = .ok (.bipush 8, 2) := by decide +kernel
theorem dX8_codePart_3 : decode cX8_codePart 3 = .ok (.imul, 1) := by decide +kernel
theorem dX8_codePart_4 : decode cX8_codePart 4 = .ok (.istore 4, 2) := by decide +kernel
theorem dX8_codePart_6 : decode cX8_codePart 6 = .ok (.iconst 0, 1) := by decide +kernel
theorem dX8_codePart_7 : decode cX8_codePart 7 = .ok (.istore 5, 2) := by decide +kernel
theorem dX8_codePart_9 : decode cX8_codePart 9 = .ok (.iload 5, 2) := by decide +kernel
theorem dX8_codePart_11 : decode cX8_codePart 11 = .ok (.iload_n 3, 1) := by decide +kernel
theorem dX8_codePart_12 : decode cX8_codePart 12 = .ok (.if_icmp .ge 121, 3) := by decide +kernel
theorem dX8_codePart_15 : decode cX8_codePart 15 = .ok (.iload 5, 2) := by decide +kernel
theorem dX8_codePart_17 : decode cX8_codePart 17 = .ok (.bipush 8, 2) := by decide +kernel
theorem dX8_codePart_19 : decode cX8_codePart 19 = .ok (.imul, 1) := by decide +kernel
theorem dX8_codePart_20 : decode cX8_codePart 20 = .ok (.istore 6, 2) := by decide +kernel
theorem dX8_codePart_22 : decode cX8_codePart 22 = .ok (.aload_n 0, 1) := by decide +kernel
theorem dX8_codePart_23 : decode cX8_codePart 23 = .ok (.aload_n 1, 1) := by decide +kernel
theorem dX8_codePart_24 : decode cX8_codePart 24 = .ok (.iload 6, 2) := by decide +kernel
theorem dX8_codePart_26 : decode cX8_codePart 26 = .ok (.iload 4, 2) := by decide +kernel
theorem dX8_codePart_28 : decode cX8_codePart 28 = .ok (.invokevirtual 230, 3) := by decide +kernel
theorem dX8_codePart_31 : decode cX8_codePart 31 = .ok (.iconst 4, 1) := by decide +kernel
theorem dX8_codePart_32 : decode cX8_codePart 32 = .ok (.if_icmp .ne 7, 3) := by decide +kernel
theorem dX8_codePart_35 : decode cX8_codePart 35 = .ok (.iconst 1, 1) := by decide +kernel
theorem dX8_codePart_36 : decode cX8_codePart 36 = .ok (.goto 4, 3) := by decide +kernel
theorem dX8_codePart_39 : decode cX8_codePart 39 = .ok (.iconst 0, 1) := by decide +kernel
theorem dX8_codePart_40 : decode cX8_codePart 40 = .ok (.iconst 0, 1) := by decide +kernel
theorem dX8_codePart_41 : decode cX8_codePart 41 = .ok (.invokevirtual 316, 3) := by decide +kernel
theorem dX8_codePart_44 : decode cX8_codePart 44 = .ok (.istore 7, 2) := by decide +kernel
theorem dX8_codePart_46 : decode cX8_codePart 46 = .ok (.iload 7, 2) := by decide +kernel
theorem dX8_codePart_48 : decode cX8_codePart 48 = .ok (.iconst 1, 1) := by decide +kernel
theorem dX8_codePart_49 : decode cX8_codePart 49 = .ok (.if_icmp .ne 7, 3) := by decide +kernel
theorem dX8_codePart_52 : decode cX8_codePart 52 = .ok (.iconst 4, 1) := by decide +kernel
theorem dX8_codePart_53 : decode cX8_codePart 53 = .ok (.goto 5, 3) := by decide +kernel
theorem dX8_codePart_56 : decode cX8_codePart 56 = .ok (.bipush 8, 2) := by decide +kernel
theorem dX8_codePart_58 : decode cX8_codePart 58 = .ok (.istore 8, 2) := by decide +kernel
theorem dX8_codePart_60 : decode cX8_codePart 60 = .ok (.aload_n 1, 1) := by decide +kernel
theorem dX8_codePart_61 : decode cX8_codePart 61 = .ok (.iload 6, 2) := by decide +kernel
theorem dX8_codePart_63 : decode cX8_codePart 63 = .ok (.iload 4, 2) := by decide +kernel
theorem dX8_codePart_65 : decode cX8_codePart 65 = .ok (.iload 8, 2) := by decide +kernel
theorem dX8_codePart_67 : decode cX8_codePart 67 = .ok (.invokevirtual 321, 3) := by decide +kernel
theorem dX8_codePart_70 : decode cX8_codePart 70 = .ok (.iconst 0, 1) := by decide +kernel
theorem dX8_codePart_71 : decode cX8_codePart 71 = .ok (.istore 9, 2) := by decide +kernel
theorem dX8_codePart_73 : decode cX8_codePart 73 = .ok (.iload 9, 2) := by decide +kernel
theorem dX8_codePart_75 : decode cX8_codePart 75 = .ok (.bipush 8, 2) := by decide +kernel
theorem dX8_codePart_77 : decode cX8_codePart 77 = .ok (.if_icmp .ge 50, 3) := by decide +kernel
theorem dX8_codePart_80 : decode cX8_codePart 80 = .ok (.iconst 0, 1) := by decide +kernel
theorem dX8_codePart_81 : decode cX8_codePart 81 = .ok (.istore 10, 2) := by decide +kernel
theorem dX8_codePart_83 : decode cX8_codePart 83 = .ok (.iload 10, 2) := by decide +kernel
theorem dX8_codePart_85 : decode cX8_codePart 85 = .ok (.bipush 8, 2) := by decide +kernel
theorem dX8_codePart_87 : decode cX8_codePart 87 = .ok (.if_icmp .ge 30, 3) := by decide +kernel
theorem dX8_codePart_90 : decode cX8_codePart 90 = .ok (.aload_n 0, 1) := by decide +kernel
theorem dX8_codePart_91 : decode cX8_codePart 91 = .ok (.aload_n 1, 1) := by decide +kernel
theorem dX8_codePart_92 : decode cX8_codePart 92 = .ok (.iload 6, 2) := by decide +kernel
theorem dX8_codePart_94 : decode cX8_codePart 94 = .ok (.iload 10, 2) := by decide +kernel
theorem dX8_codePart_96 : decode cX8_codePart 96 = .ok (.iadd, 1) := by decide +kernel
theorem dX8_codePart_97 : decode cX8_codePart 97 = .ok (.iload 4, 2) := by decide +kernel
theorem dX8_codePart_99 : decode cX8_codePart 99 = .ok (.iload 9, 2) := by decide +kernel
theorem dX8_codePart_101 : decode cX8_codePart 101 = .ok (.iadd, 1) := by decide +kernel
theorem dX8_codePart_102 : decode cX8_codePart 102 = .ok (.iload 8, 2) := by decide +kernel
theorem dX8_codePart_104 : decode cX8_codePart 104 = .ok (.invokestatic 324, 3) := by decide +kernel
theorem dX8_codePart_107 : decode cX8_codePart 107 = .ok (.iload 10, 2) := by decide +kernel
theorem dX8_codePart_109 : decode cX8_codePart 109 = .ok (.iload 8, 2) := by decide +kernel
theorem dX8_codePart_111 : decode cX8_codePart 111 = .ok (.iadd, 1) := by decide +kernel
theorem dX8_codePart_112 : decode cX8_codePart 112 = .ok (.istore 10, 2) := by decide +kernel
theorem dX8_codePart_114 : decode cX8_codePart 114 = .ok (.goto (-31), 3) := by decide +kernel
theorem dX8_codePart_117 : decode cX8_codePart 117 = .ok (.iload 9, 2) := by decide +kernel
theorem dX8_codePart_119 : decode cX8_codePart 119 = .ok (.iload 8, 2) := by decide +kernel
theorem dX8_codePart_121 : decode cX8_codePart 121 = .ok (.iadd, 1) := by decide +kernel
theorem dX8_codePart_122 : decode cX8_codePart 122 = .ok (.istore 9, 2) := by decide +kernel
theorem dX8_codePart_124 : decode cX8_codePart 124 = .ok (.goto (-51), 3) := by decide +kernel
theorem dX8_codePart_127 : decode cX8_codePart 127 = .ok (.iinc 5 1, 3) := by decide +kernel
theorem dX8_codePart_130 : decode cX8_codePart 130 = .ok (.goto (-121), 3) := by decide +kernel
theorem dX8_codePart_133 : decode cX8_codePart 133 = .ok (.return_, 1) := by decide +kernel
theorem dX8_codeBlock_0 : decode cX8_codeBlock 0 = .ok (.aload_n 1, 1) := by decide +kernel
theorem dX8_codeBlock_1 : decode cX8_codeBlock 1 = .ok (.iload_n 2, 1) := by decide +kernel
theorem dX8_codeBlock_2 : decode cX8_codeBlock 2 = .ok (.iload_n 3, 1) := by decide +kernel
theorem dX8_codeBlock_3 : decode cX8_codeBlock 3 = .ok (.invokevirtual 239, 3) := by decide +kernel
theorem dX8_codeBlock_6 : decode cX8_codeBlock 6 = .ok (.istore 5, 2) := by decide +kernel
theorem dX8_codeBlock_8 : decode cX8_codeBlock 8 = .ok (.aload_n 0, 1) := by decide +kernel
theorem dX8_codeBlock_9 : decode cX8_codeBlock 9 = .ok (.aload_n 1, 1) := by decide +kernel
theorem dX8_codeBlock_10 : decode cX8_codeBlock 10 = .ok (.getfield 236, 3) := by decide +kernel
theorem dX8_codeBlock_13 : decode cX8_codeBlock 13 = .ok (.iload 5, 2) := by decide +kernel
theorem dX8_codeBlock_15 : decode cX8_codeBlock 15 = .ok (.iaload, 1) := by decide +kernel
theorem dX8_codeBlock_16 : decode cX8_codeBlock 16 = .ok (.iconst 2, 1) := by decide +kernel
theorem dX8_codeBlock_17 : decode cX8_codeBlock 17 = .ok (.idiv, 1) := by decide +kernel
theorem dX8_codeBlock_18 : decode cX8_codeBlock 18 = .ok (.iconst 1, 1) := by decide +kernel
theorem dX8_codeBlock_19 : decode cX8_codeBlock 19 = .ok (.invokevirtual 316, 3) := by decide +kernel
theorem dX8_codeBlock_22 : decode cX8_codeBlock 22 = .ok (.istore 6, 2) := by decide +kernel
theorem dX8_codeBlock_24 : decode cX8_codeBlock 24 = .ok (.aload_n 0, 1) := by decide +kernel
theorem dX8_codeBlock_25 : decode cX8_codeBlock 25 = .ok (.aload_n 1, 1) := by decide +kernel
theorem dX8_codeBlock_26 : decode cX8_codeBlock 26 = .ok (.getfield 236, 3) := by decide +kernel
theorem dX8_codeBlock_29 : decode cX8_codeBlock 29 = .ok (.iload 5, 2) := by decide +kernel
theorem dX8_codeBlock_31 : decode cX8_codeBlock 31 = .ok (.iaload, 1) := by decide +kernel
theorem dX8_codeBlock_32 : decode cX8_codeBlock 32 = .ok (.iconst 2, 1) := by decide +kernel
theorem dX8_codeBlock_33 : decode cX8_codeBlock 33 = .ok (.irem, 1) := by decide +kernel
theorem dX8_codeBlock_34 : decode cX8_codeBlock 34 = .ok (.iconst 2, 1) := by decide +kernel
theorem dX8_codeBlock_35 : decode cX8_codeBlock 35 = .ok (.iload 6, 2) := by decide +kernel
theorem dX8_codeBlock_37 : decode cX8_codeBlock 37 = .ok (.iadd, 1) := by decide +kernel
theorem dX8_codeBlock_38 : decode cX8_codeBlock 38 = .ok (.invokevirtual 316, 3) := by decide +kernel
theorem dX8_codeBlock_41 : decode cX8_codeBlock 41 = .ok (.istore 7, 2) := by decide +kernel
theorem dX8_codeBlock_43 : decode cX8_codeBlock 43 = .ok (.aload_n 1, 1) := by decide +kernel
theorem dX8_codeBlock_44 : decode cX8_codeBlock 44 = .ok (.getfield 236, 3) := by decide +kernel
theorem dX8_codeBlock_47 : decode cX8_codeBlock 47 = .ok (.iload 5, 2) := by decide +kernel
theorem dX8_codeBlock_49 : decode cX8_codeBlock 49 = .ok (.iload 6, 2) := by decide +kernel
theorem dX8_codeBlock_51 : decode cX8_codeBlock 51 = .ok (.iconst 2, 1) := by decide +kernel
theorem dX8_codeBlock_52 : decode cX8_codeBlock 52 = .ok (.imul, 1) := by decide +kernel
theorem dX8_codeBlock_53 : decode cX8_codeBlock 53 = .ok (.iload 7, 2) := by decide +kernel
theorem dX8_codeBlock_55 : decode cX8_codeBlock 55 = .ok (.iadd, 1) := by decide +kernel
theorem dX8_codeBlock_56 : decode cX8_codeBlock 56 = .ok (.iastore, 1) := by decide +kernel
theorem dX8_codeBlock_57 : decode cX8_codeBlock 57 = .ok (.iconst 0, 1) := by decide +kernel
theorem dX8_codeBlock_58 : decode cX8_codeBlock 58 = .ok (.istore 8, 2) := by decide +kernel
theorem dX8_codeBlock_60 : decode cX8_codeBlock 60 = .ok (.iload 8, 2) := by decide +kernel
theorem dX8_codeBlock_62 : decode cX8_codeBlock 62 = .ok (.iload 4, 2) := by decide +kernel
theorem dX8_codeBlock_64 : decode cX8_codeBlock 64 = .ok (.if_icmp .ge 74, 3) := by decide +kernel
theorem dX8_codeBlock_67 : decode cX8_codeBlock 67 = .ok (.iconst 0, 1) := by decide +kernel
theorem dX8_codeBlock_68 : decode cX8_codeBlock 68 = .ok (.istore 9, 2) := by decide +kernel
theorem dX8_codeBlock_70 : decode cX8_codeBlock 70 = .ok (.iload 9, 2) := by decide +kernel
theorem dX8_codeBlock_72 : decode cX8_codeBlock 72 = .ok (.iload 4, 2) := by decide +kernel
theorem dX8_codeBlock_74 : decode cX8_codeBlock 74 = .ok (.if_icmp .ge 58, 3) := by decide +kernel
theorem dX8_codeBlock_77 : decode cX8_codeBlock 77 = .ok (.iload_n 3, 1) := by decide +kernel
theorem dX8_codeBlock_78 : decode cX8_codeBlock 78 = .ok (.iload 8, 2) := by decide +kernel
theorem dX8_codeBlock_80 : decode cX8_codeBlock 80 = .ok (.iadd, 1) := by decide +kernel
theorem dX8_codeBlock_81 : decode cX8_codeBlock 81 = .ok (.bipush 16, 2) := by decide +kernel
theorem dX8_codeBlock_83 : decode cX8_codeBlock 83 = .ok (.imul, 1) := by decide +kernel
theorem dX8_codeBlock_84 : decode cX8_codeBlock 84 = .ok (.iload_n 2, 1) := by decide +kernel
theorem dX8_codeBlock_85 : decode cX8_codeBlock 85 = .ok (.iadd, 1) := by decide +kernel
theorem dX8_codeBlock_86 : decode cX8_codeBlock 86 = .ok (.iload 9, 2) := by decide +kernel
theorem dX8_codeBlock_88 : decode cX8_codeBlock 88 = .ok (.iadd, 1) := by decide +kernel
theorem dX8_codeBlock_89 : decode cX8_codeBlock 89 = .ok (.istore 10, 2) := by decide +kernel
theorem dX8_codeBlock_91 : decode cX8_codeBlock 91 = .ok (.aload_n 1, 1) := by decide +kernel
theorem dX8_codeBlock_92 : decode cX8_codeBlock 92 = .ok (.getfield 242, 3) := by decide +kernel
theorem dX8_codeBlock_95 : decode cX8_codeBlock 95 = .ok (.iload 10, 2) := by decide +kernel
theorem dX8_codeBlock_97 : decode cX8_codeBlock 97 = .ok (.iload 8, 2) := by decide +kernel
theorem dX8_codeBlock_99 : decode cX8_codeBlock 99 = .ok (.iload 9, 2) := by decide +kernel
theorem dX8_codeBlock_101 : decode cX8_codeBlock 101 = .ok (.invokestatic 328, 3) := by decide +kernel
theorem dX8_codeBlock_104 : decode cX8_codeBlock 104 = .ok (.istore 11, 2) := by decide +kernel
theorem dX8_codeBlock_106 : decode cX8_codeBlock 106 = .ok (.aload_n 1, 1) := by decide +kernel
theorem dX8_codeBlock_107 : decode cX8_codeBlock 107 = .ok (.getfield 242, 3) := by decide +kernel
theorem dX8_codeBlock_110 : decode cX8_codeBlock 110 = .ok (.iload 10, 2) := by decide +kernel
theorem dX8_codeBlock_112 : decode cX8_codeBlock 112 = .ok (.aload_n 0, 1) := by decide +kernel
theorem dX8_codeBlock_113 : decode cX8_codeBlock 113 = .ok (.aload_n 1, 1) := by decide +kernel
theorem dX8_codeBlock_114 : decode cX8_codeBlock 114 = .ok (.getfield 242, 3) := by decide +kernel
theorem dX8_codeBlock_117 : decode cX8_codeBlock 117 = .ok (.iload 10, 2) := by decide +kernel
theorem dX8_codeBlock_119 : decode cX8_codeBlock 119 = .ok (.iaload, 1) := by decide +kernel
theorem dX8_codeBlock_120 : decode cX8_codeBlock 120 = .ok (.iload 11, 2) := by decide +kernel
theorem dX8_codeBlock_122 : decode cX8_codeBlock 122 = .ok (.invokestatic 332, 3) := by decide +kernel
theorem dX8_codeBlock_125 : decode cX8_codeBlock 125 = .ok (.iastore, 1) := by decide +kernel
theorem dX8_codeBlock_126 : decode cX8_codeBlock 126 = .ok (.iinc 9 1, 3) := by decide +kernel
theorem dX8_codeBlock_129 : decode cX8_codeBlock 129 = .ok (.goto (-59), 3) := by decide +kernel
theorem dX8_codeBlock_132 : decode cX8_codeBlock 132 = .ok (.iinc 8 1, 3) := by decide +kernel
theorem dX8_codeBlock_135 : decode cX8_codeBlock 135 = .ok (.goto (-75), 3) := by decide +kernel
theorem dX8_codeBlock_138 : decode cX8_codeBlock 138 = .ok (.return_, 1) := by decide +kernel
theorem dX8_levelContext_0 : decode cX8_levelContext 0 = .ok (.iload_n 2, 1) := by decide +kernel
theorem dX8_levelContext_1 : decode cX8_levelContext 1 = .ok (.ifCond .ne 9, 3) := by decide +kernel
theorem dX8_levelContext_4 : decode cX8_levelContext 4 = .ok (.iload_n 3, 1) := by decide +kernel
theorem dX8_levelContext_5 : decode cX8_levelContext 5 = .ok (.ifCond .ne 5, 3) := by decide +kernel
theorem dX8_levelContext_8 : decode cX8_levelContext 8 = .ok (.iconst 4, 1) := by decide +kernel
theorem dX8_levelContext_9 : decode cX8_levelContext 9 = .ok (.ireturn, 1) := by decide +kernel
theorem dX8_levelContext_10 : decode cX8_levelContext 10 = .ok (.iload_n 3, 1) := by decide +kernel
theorem dX8_levelContext_11 : decode cX8_levelContext 11 = .ok (.ifCond .le 15, 3) := by decide +kernel
theorem dX8_levelContext_14 : decode cX8_levelContext 14 = .ok (.aload_n 0, 1) := by decide +kernel
theorem dX8_levelContext_15 : decode cX8_levelContext 15 = .ok (.iload_n 1, 1) := by decide +kernel
theorem dX8_levelContext_16 : decode cX8_levelContext 16 = .ok (.iconst 1, 1) := by decide +kernel
theorem dX8_levelContext_17 : decode cX8_levelContext 17 = .ok (.isub, 1) := by decide +kernel
theorem dX8_levelContext_18 : decode cX8_levelContext 18 = .ok (.iaload, 1) := by decide +kernel
theorem dX8_levelContext_19 : decode cX8_levelContext 19 = .ok (.ifCond .eq 7, 3) := by decide +kernel
theorem dX8_levelContext_22 : decode cX8_levelContext 22 = .ok (.iconst 1, 1) := by decide +kernel
theorem dX8_levelContext_23 : decode cX8_levelContext 23 = .ok (.goto 4, 3) := by decide +kernel
theorem dX8_levelContext_26 : decode cX8_levelContext 26 = .ok (.iconst 0, 1) := by decide +kernel
theorem dX8_levelContext_27 : decode cX8_levelContext 27 = .ok (.istore 4, 2) := by decide +kernel
theorem dX8_levelContext_29 : decode cX8_levelContext 29 = .ok (.iload_n 2, 1) := by decide +kernel
theorem dX8_levelContext_30 : decode cX8_levelContext 30 = .ok (.ifCond .le 16, 3) := by decide +kernel
theorem dX8_levelContext_33 : decode cX8_levelContext 33 = .ok (.aload_n 0, 1) := by decide +kernel
theorem dX8_levelContext_34 : decode cX8_levelContext 34 = .ok (.iload_n 1, 1) := by decide +kernel
theorem dX8_levelContext_35 : decode cX8_levelContext 35 = .ok (.bipush 16, 2) := by decide +kernel
theorem dX8_levelContext_37 : decode cX8_levelContext 37 = .ok (.isub, 1) := by decide +kernel
theorem dX8_levelContext_38 : decode cX8_levelContext 38 = .ok (.iaload, 1) := by decide +kernel
theorem dX8_levelContext_39 : decode cX8_levelContext 39 = .ok (.ifCond .eq 7, 3) := by decide +kernel
theorem dX8_levelContext_42 : decode cX8_levelContext 42 = .ok (.iconst 1, 1) := by decide +kernel
theorem dX8_levelContext_43 : decode cX8_levelContext 43 = .ok (.goto 4, 3) := by decide +kernel
theorem dX8_levelContext_46 : decode cX8_levelContext 46 = .ok (.iconst 0, 1) := by decide +kernel
theorem dX8_levelContext_47 : decode cX8_levelContext 47 = .ok (.istore 5, 2) := by decide +kernel
theorem dX8_levelContext_49 : decode cX8_levelContext 49 = .ok (.iconst 5, 1) := by decide +kernel
theorem dX8_levelContext_50 : decode cX8_levelContext 50 = .ok (.iload 4, 2) := by decide +kernel
theorem dX8_levelContext_52 : decode cX8_levelContext 52 = .ok (.iadd, 1) := by decide +kernel
theorem dX8_levelContext_53 : decode cX8_levelContext 53 = .ok (.iload 5, 2) := by decide +kernel
theorem dX8_levelContext_55 : decode cX8_levelContext 55 = .ok (.iadd, 1) := by decide +kernel
theorem dX8_levelContext_56 : decode cX8_levelContext 56 = .ok (.ireturn, 1) := by decide +kernel
theorem dX8_codeLevel_0 : decode cX8_codeLevel 0 = .ok (.aload_n 0, 1) := by decide +kernel
theorem dX8_codeLevel_1 : decode cX8_codeLevel 1 = .ok (.iload_n 1, 1) := by decide +kernel
theorem dX8_codeLevel_2 : decode cX8_codeLevel 2 = .ok (.ifCond .eq 7, 3) := by decide +kernel
theorem dX8_codeLevel_5 : decode cX8_codeLevel 5 = .ok (.iconst 1, 1) := by decide +kernel
theorem dX8_codeLevel_6 : decode cX8_codeLevel 6 = .ok (.goto 4, 3) := by decide +kernel
theorem dX8_codeLevel_9 : decode cX8_codeLevel 9 = .ok (.iconst 0, 1) := by decide +kernel
theorem dX8_codeLevel_10 : decode cX8_codeLevel 10 = .ok (.iload_n 2, 1) := by decide +kernel
theorem dX8_codeLevel_11 : decode cX8_codeLevel 11 = .ok (.invokevirtual 316, 3) := by decide +kernel
theorem dX8_codeLevel_14 : decode cX8_codeLevel 14 = .ok (.ifCond .ne 5, 3) := by decide +kernel
theorem dX8_codeLevel_17 : decode cX8_codeLevel 17 = .ok (.iconst 0, 1) := by decide +kernel
theorem dX8_codeLevel_18 : decode cX8_codeLevel 18 = .ok (.ireturn, 1) := by decide +kernel
theorem dX8_codeLevel_19 : decode cX8_codeLevel 19 = .ok (.aload_n 0, 1) := by decide +kernel
theorem dX8_codeLevel_20 : decode cX8_codeLevel 20 = .ok (.iload_n 1, 1) := by decide +kernel
theorem dX8_codeLevel_21 : decode cX8_codeLevel 21 = .ok (.ifCond .ge 7, 3) := by decide +kernel
theorem dX8_codeLevel_24 : decode cX8_codeLevel 24 = .ok (.iconst 1, 1) := by decide +kernel
theorem dX8_codeLevel_25 : decode cX8_codeLevel 25 = .ok (.goto 4, 3) := by decide +kernel
theorem dX8_codeLevel_28 : decode cX8_codeLevel 28 = .ok (.iconst 0, 1) := by decide +kernel
theorem dX8_codeLevel_29 : decode cX8_codeLevel 29 = .ok (.bipush 8, 2) := by decide +kernel
theorem dX8_codeLevel_31 : decode cX8_codeLevel 31 = .ok (.invokevirtual 316, 3) := by decide +kernel
theorem dX8_codeLevel_34 : decode cX8_codeLevel 34 = .ok (.istore_n 3, 1) := by decide +kernel
theorem dX8_codeLevel_35 : decode cX8_codeLevel 35 = .ok (.iload_n 1, 1) := by decide +kernel
theorem dX8_codeLevel_36 : decode cX8_codeLevel 36 = .ok (.ifCond .ge 8, 3) := by decide +kernel
theorem dX8_codeLevel_39 : decode cX8_codeLevel 39 = .ok (.iload_n 1, 1) := by decide +kernel
theorem dX8_codeLevel_40 : decode cX8_codeLevel 40 = .ok (.ineg, 1) := by decide +kernel
theorem dX8_codeLevel_41 : decode cX8_codeLevel 41 = .ok (.goto 4, 3) := by decide +kernel
theorem dX8_codeLevel_44 : decode cX8_codeLevel 44 = .ok (.iload_n 1, 1) := by decide +kernel
theorem dX8_codeLevel_45 : decode cX8_codeLevel 45 = .ok (.istore 4, 2) := by decide +kernel
theorem dX8_codeLevel_47 : decode cX8_codeLevel 47 = .ok (.iload 4, 2) := by decide +kernel
theorem dX8_codeLevel_49 : decode cX8_codeLevel 49 = .ok (.invokestatic 336, 3) := by decide +kernel
theorem dX8_codeLevel_52 : decode cX8_codeLevel 52 = .ok (.istore 5, 2) := by decide +kernel
theorem dX8_codeLevel_54 : decode cX8_codeLevel 54 = .ok (.iconst 1, 1) := by decide +kernel
theorem dX8_codeLevel_55 : decode cX8_codeLevel 55 = .ok (.istore 6, 2) := by decide +kernel
theorem dX8_codeLevel_57 : decode cX8_codeLevel 57 = .ok (.iload 6, 2) := by decide +kernel
theorem dX8_codeLevel_59 : decode cX8_codeLevel 59 = .ok (.bipush 12, 2) := by decide +kernel
theorem dX8_codeLevel_61 : decode cX8_codeLevel 61 = .ok (.if_icmp .ge 34, 3) := by decide +kernel
theorem dX8_codeLevel_64 : decode cX8_codeLevel 64 = .ok (.aload_n 0, 1) := by decide +kernel
theorem dX8_codeLevel_65 : decode cX8_codeLevel 65 = .ok (.iload 5, 2) := by decide +kernel
theorem dX8_codeLevel_67 : decode cX8_codeLevel 67 = .ok (.iload 6, 2) := by decide +kernel
theorem dX8_codeLevel_69 : decode cX8_codeLevel 69 = .ok (.if_icmp .le 7, 3) := by decide +kernel
theorem dX8_codeLevel_72 : decode cX8_codeLevel 72 = .ok (.iconst 1, 1) := by decide +kernel
theorem dX8_codeLevel_73 : decode cX8_codeLevel 73 = .ok (.goto 4, 3) := by decide +kernel
theorem dX8_codeLevel_76 : decode cX8_codeLevel 76 = .ok (.iconst 0, 1) := by decide +kernel
theorem dX8_codeLevel_77 : decode cX8_codeLevel 77 = .ok (.bipush 8, 2) := by decide +kernel
theorem dX8_codeLevel_79 : decode cX8_codeLevel 79 = .ok (.iload 6, 2) := by decide +kernel
theorem dX8_codeLevel_81 : decode cX8_codeLevel 81 = .ok (.iadd, 1) := by decide +kernel
theorem dX8_codeLevel_82 : decode cX8_codeLevel 82 = .ok (.invokevirtual 316, 3) := by decide +kernel
theorem dX8_codeLevel_85 : decode cX8_codeLevel 85 = .ok (.iconst 1, 1) := by decide +kernel
theorem dX8_codeLevel_86 : decode cX8_codeLevel 86 = .ok (.if_icmp .ne 9, 3) := by decide +kernel
theorem dX8_codeLevel_89 : decode cX8_codeLevel 89 = .ok (.iinc 6 1, 3) := by decide +kernel
theorem dX8_codeLevel_92 : decode cX8_codeLevel 92 = .ok (.goto (-35), 3) := by decide +kernel
theorem dX8_codeLevel_95 : decode cX8_codeLevel 95 = .ok (.iconst 1, 1) := by decide +kernel
theorem dX8_codeLevel_96 : decode cX8_codeLevel 96 = .ok (.istore 7, 2) := by decide +kernel
theorem dX8_codeLevel_98 : decode cX8_codeLevel 98 = .ok (.iload 6, 2) := by decide +kernel
theorem dX8_codeLevel_100 : decode cX8_codeLevel 100 = .ok (.iconst 2, 1) := by decide +kernel
theorem dX8_codeLevel_101 : decode cX8_codeLevel 101 = .ok (.isub, 1) := by decide +kernel
theorem dX8_codeLevel_102 : decode cX8_codeLevel 102 = .ok (.istore 8, 2) := by decide +kernel
theorem dX8_codeLevel_104 : decode cX8_codeLevel 104 = .ok (.iload 8, 2) := by decide +kernel
theorem dX8_codeLevel_106 : decode cX8_codeLevel 106 = .ok (.ifCond .lt 28, 3) := by decide +kernel
theorem dX8_codeLevel_109 : decode cX8_codeLevel 109 = .ok (.iload 7, 2) := by decide +kernel
theorem dX8_codeLevel_111 : decode cX8_codeLevel 111 = .ok (.iconst 2, 1) := by decide +kernel
theorem dX8_codeLevel_112 : decode cX8_codeLevel 112 = .ok (.imul, 1) := by decide +kernel
theorem dX8_codeLevel_113 : decode cX8_codeLevel 113 = .ok (.aload_n 0, 1) := by decide +kernel
theorem dX8_codeLevel_114 : decode cX8_codeLevel 114 = .ok (.iload 4, 2) := by decide +kernel
theorem dX8_codeLevel_116 : decode cX8_codeLevel 116 = .ok (.iload 8, 2) := by decide +kernel
theorem dX8_codeLevel_118 : decode cX8_codeLevel 118 = .ok (.ishr, 1) := by decide +kernel
theorem dX8_codeLevel_119 : decode cX8_codeLevel 119 = .ok (.iconst 1, 1) := by decide +kernel
theorem dX8_codeLevel_120 : decode cX8_codeLevel 120 = .ok (.iand, 1) := by decide +kernel
theorem dX8_codeLevel_121 : decode cX8_codeLevel 121 = .ok (.iconst (-1), 1) := by decide +kernel
theorem dX8_codeLevel_122 : decode cX8_codeLevel 122 = .ok (.invokevirtual 316, 3) := by decide +kernel
theorem dX8_codeLevel_125 : decode cX8_codeLevel 125 = .ok (.iadd, 1) := by decide +kernel
theorem dX8_codeLevel_126 : decode cX8_codeLevel 126 = .ok (.istore 7, 2) := by decide +kernel
theorem dX8_codeLevel_128 : decode cX8_codeLevel 128 = .ok (.iinc 8 (-1), 3) := by decide +kernel
theorem dX8_codeLevel_131 : decode cX8_codeLevel 131 = .ok (.goto (-27), 3) := by decide +kernel
theorem dX8_codeLevel_134 : decode cX8_codeLevel 134 = .ok (.iload_n 3, 1) := by decide +kernel
theorem dX8_codeLevel_135 : decode cX8_codeLevel 135 = .ok (.iconst 1, 1) := by decide +kernel
theorem dX8_codeLevel_136 : decode cX8_codeLevel 136 = .ok (.if_icmp .ne 9, 3) := by decide +kernel
theorem dX8_codeLevel_139 : decode cX8_codeLevel 139 = .ok (.iload 7, 2) := by decide +kernel
theorem dX8_codeLevel_141 : decode cX8_codeLevel 141 = .ok (.ineg, 1) := by decide +kernel
theorem dX8_codeLevel_142 : decode cX8_codeLevel 142 = .ok (.goto 5, 3) := by decide +kernel
theorem dX8_codeLevel_145 : decode cX8_codeLevel 145 = .ok (.iload 7, 2) := by decide +kernel
theorem dX8_codeLevel_147 : decode cX8_codeLevel 147 = .ok (.ireturn, 1) := by decide +kernel
theorem dX8_digitsOf_0 : decode cX8_digitsOf 0 = .ok (.iconst 0, 1) := by decide +kernel
theorem dX8_digitsOf_1 : decode cX8_digitsOf 1 = .ok (.istore_n 1, 1) := by decide +kernel
theorem dX8_digitsOf_2 : decode cX8_digitsOf 2 = .ok (.iload_n 0, 1) := by decide +kernel
theorem dX8_digitsOf_3 : decode cX8_digitsOf 3 = .ok (.istore_n 2, 1) := by decide +kernel
theorem dX8_digitsOf_4 : decode cX8_digitsOf 4 = .ok (.iload_n 2, 1) := by decide +kernel
theorem dX8_digitsOf_5 : decode cX8_digitsOf 5 = .ok (.ifCond .le 13, 3) := by decide +kernel
theorem dX8_digitsOf_8 : decode cX8_digitsOf 8 = .ok (.iinc 1 1, 3) := by decide +kernel
theorem dX8_digitsOf_11 : decode cX8_digitsOf 11 = .ok (.iload_n 2, 1) := by decide +kernel
theorem dX8_digitsOf_12 : decode cX8_digitsOf 12 = .ok (.iconst 2, 1) := by decide +kernel
theorem dX8_digitsOf_13 : decode cX8_digitsOf 13 = .ok (.idiv, 1) := by decide +kernel
theorem dX8_digitsOf_14 : decode cX8_digitsOf 14 = .ok (.istore_n 2, 1) := by decide +kernel
theorem dX8_digitsOf_15 : decode cX8_digitsOf 15 = .ok (.goto (-11), 3) := by decide +kernel
theorem dX8_digitsOf_18 : decode cX8_digitsOf 18 = .ok (.iload_n 1, 1) := by decide +kernel
theorem dX8_digitsOf_19 : decode cX8_digitsOf 19 = .ok (.ireturn, 1) := by decide +kernel
theorem dX8_hasValidHeader_0 : decode cX8_hasValidHeader 0 = .ok (.aload_n 0, 1) := by decide +kernel
theorem dX8_hasValidHeader_1 : decode cX8_hasValidHeader 1 = .ok (.getfield 27, 3) := by decide +kernel
theorem dX8_hasValidHeader_4 : decode cX8_hasValidHeader 4 = .ok (.iconst 1, 1) := by decide +kernel
theorem dX8_hasValidHeader_5 : decode cX8_hasValidHeader 5 = .ok (.invokevirtual 166, 3) := by decide +kernel
theorem dX8_hasValidHeader_8 : decode cX8_hasValidHeader 8 = .ok (.aload_n 0, 1) := by decide +kernel
theorem dX8_hasValidHeader_9 : decode cX8_hasValidHeader 9 = .ok (.getfield 27, 3) := by decide +kernel
theorem dX8_hasValidHeader_12 : decode cX8_hasValidHeader 12 = .ok (.iconst 2, 1) := by decide +kernel
theorem dX8_hasValidHeader_13 : decode cX8_hasValidHeader 13 = .ok (.invokevirtual 166, 3) := by decide +kernel
theorem dX8_hasValidHeader_16 : decode cX8_hasValidHeader 16 = .ok (.invokestatic 88, 3) := by decide +kernel
theorem dX8_hasValidHeader_19 : decode cX8_hasValidHeader 19 = .ok (.ifCond .ne 5, 3) := by decide +kernel
theorem dX8_hasValidHeader_22 : decode cX8_hasValidHeader 22 = .ok (.iconst 0, 1) := by decide +kernel
theorem dX8_hasValidHeader_23 : decode cX8_hasValidHeader 23 = .ok (.ireturn, 1) := by decide +kernel
theorem dX8_hasValidHeader_24 : decode cX8_hasValidHeader 24 = .ok (.aload_n 0, 1) := by decide +kernel
theorem dX8_hasValidHeader_25 : decode cX8_hasValidHeader 25 = .ok (.getfield 27, 3) := by decide +kernel
theorem dX8_hasValidHeader_28 : decode cX8_hasValidHeader 28 = .ok (.iconst 0, 1) := by decide +kernel
theorem dX8_hasValidHeader_29 : decode cX8_hasValidHeader 29 = .ok (.invokevirtual 166, 3) := by decide +kernel
theorem dX8_hasValidHeader_32 : decode cX8_hasValidHeader 32 = .ok (.bipush 82, 2) := by decide +kernel
theorem dX8_hasValidHeader_34 : decode cX8_hasValidHeader 34 = .ok (.if_icmp .ne 5, 3) := by decide +kernel
theorem dX8_hasValidHeader_37 : decode cX8_hasValidHeader 37 = .ok (.iconst 1, 1) := by decide +kernel
theorem dX8_hasValidHeader_38 : decode cX8_hasValidHeader 38 = .ok (.ireturn, 1) := by decide +kernel
theorem dX8_hasValidHeader_39 : decode cX8_hasValidHeader 39 = .ok (.aload_n 0, 1) := by decide +kernel
theorem dX8_hasValidHeader_40 : decode cX8_hasValidHeader 40 = .ok (.getfield 27, 3) := by decide +kernel
theorem dX8_hasValidHeader_43 : decode cX8_hasValidHeader 43 = .ok (.iconst 0, 1) := by decide +kernel
theorem dX8_hasValidHeader_44 : decode cX8_hasValidHeader 44 = .ok (.invokevirtual 166, 3) := by decide +kernel
theorem dX8_hasValidHeader_47 : decode cX8_hasValidHeader 47 = .ok (.bipush 80, 2) := by decide +kernel
theorem dX8_hasValidHeader_49 : decode cX8_hasValidHeader 49 = .ok (.if_icmp .ne 14, 3) := by decide +kernel
theorem dX8_hasValidHeader_52 : decode cX8_hasValidHeader 52 = .ok (.aload_n 0, 1) := by decide +kernel
theorem dX8_hasValidHeader_53 : decode cX8_hasValidHeader 53 = .ok (.invokevirtual 339, 3) := by decide +kernel
theorem dX8_hasValidHeader_56 : decode cX8_hasValidHeader 56 = .ok (.ifCond .eq 7, 3) := by decide +kernel
theorem dX8_hasValidHeader_59 : decode cX8_hasValidHeader 59 = .ok (.iconst 1, 1) := by decide +kernel
theorem dX8_hasValidHeader_60 : decode cX8_hasValidHeader 60 = .ok (.goto 4, 3) := by decide +kernel
theorem dX8_hasValidHeader_63 : decode cX8_hasValidHeader 63 = .ok (.iconst 0, 1) := by decide +kernel
theorem dX8_hasValidHeader_64 : decode cX8_hasValidHeader 64 = .ok (.ireturn, 1) := by decide +kernel
theorem dX8_hasValidSteps_0 : decode cX8_hasValidSteps 0 = .ok (.aload_n 0, 1) := by decide +kernel
theorem dX8_hasValidSteps_1 : decode cX8_hasValidSteps 1 = .ok (.getfield 27, 3) := by decide +kernel
theorem dX8_hasValidSteps_4 : decode cX8_hasValidSteps 4 = .ok (.iconst 3, 1) := by decide +kernel
theorem dX8_hasValidSteps_5 : decode cX8_hasValidSteps 5 = .ok (.invokevirtual 166, 3) := by decide +kernel
theorem dX8_hasValidSteps_8 : decode cX8_hasValidSteps 8 = .ok (.istore_n 1, 1) := by decide +kernel
theorem dX8_hasValidSteps_9 : decode cX8_hasValidSteps 9 = .ok (.iload_n 1, 1) := by decide +kernel
theorem dX8_hasValidSteps_10 : decode cX8_hasValidSteps 10 = .ok (.iconst 1, 1) := by decide +kernel
theorem dX8_hasValidSteps_11 : decode cX8_hasValidSteps 11 = .ok (.if_icmp .lt 8, 3) := by decide +kernel
theorem dX8_hasValidSteps_14 : decode cX8_hasValidSteps 14 = .ok (.iload_n 1, 1) := by decide +kernel
theorem dX8_hasValidSteps_15 : decode cX8_hasValidSteps 15 = .ok (.iconst 3, 1) := by decide +kernel
theorem dX8_hasValidSteps_16 : decode cX8_hasValidSteps 16 = .ok (.if_icmp .le 5, 3) := by decide +kernel
theorem dX8_hasValidSteps_19 : decode cX8_hasValidSteps 19 = .ok (.iconst 0, 1) := by decide +kernel
theorem dX8_hasValidSteps_20 : decode cX8_hasValidSteps 20 = .ok (.ireturn, 1) := by decide +kernel
theorem dX8_hasValidSteps_21 : decode cX8_hasValidSteps 21 = .ok (.bipush 33, 2) := by decide +kernel
theorem dX8_hasValidSteps_23 : decode cX8_hasValidSteps 23 = .ok (.istore_n 2, 1) := by decide +kernel
theorem dX8_hasValidSteps_24 : decode cX8_hasValidSteps 24 = .ok (.iconst 0, 1) := by decide +kernel
theorem dX8_hasValidSteps_25 : decode cX8_hasValidSteps 25 = .ok (.istore_n 3, 1) := by decide +kernel
theorem dX8_hasValidSteps_26 : decode cX8_hasValidSteps 26 = .ok (.iload_n 3, 1) := by decide +kernel
theorem dX8_hasValidSteps_27 : decode cX8_hasValidSteps 27 = .ok (.iload_n 1, 1) := by decide +kernel
theorem dX8_hasValidSteps_28 : decode cX8_hasValidSteps 28 = .ok (.if_icmp .ge 35, 3) := by decide +kernel
theorem dX8_hasValidSteps_31 : decode cX8_hasValidSteps 31 = .ok (.aload_n 0, 1) := by decide +kernel
theorem dX8_hasValidSteps_32 : decode cX8_hasValidSteps 32 = .ok (.getfield 27, 3) := by decide +kernel
theorem dX8_hasValidSteps_35 : decode cX8_hasValidSteps 35 = .ok (.iconst 4, 1) := by decide +kernel
theorem dX8_hasValidSteps_36 : decode cX8_hasValidSteps 36 = .ok (.iload_n 3, 1) := by decide +kernel
theorem dX8_hasValidSteps_37 : decode cX8_hasValidSteps 37 = .ok (.iadd, 1) := by decide +kernel
theorem dX8_hasValidSteps_38 : decode cX8_hasValidSteps 38 = .ok (.invokevirtual 166, 3) := by decide +kernel
theorem dX8_hasValidSteps_41 : decode cX8_hasValidSteps 41 = .ok (.istore 4, 2) := by decide +kernel
theorem dX8_hasValidSteps_43 : decode cX8_hasValidSteps 43 = .ok (.iload_n 2, 1) := by decide +kernel
theorem dX8_hasValidSteps_44 : decode cX8_hasValidSteps 44 = .ok (.iload 4, 2) := by decide +kernel
theorem dX8_hasValidSteps_46 : decode cX8_hasValidSteps 46 = .ok (.invokestatic 127, 3) := by decide +kernel
theorem dX8_hasValidSteps_49 : decode cX8_hasValidSteps 49 = .ok (.ifCond .ne 5, 3) := by decide +kernel
theorem dX8_hasValidSteps_52 : decode cX8_hasValidSteps 52 = .ok (.iconst 0, 1) := by decide +kernel
theorem dX8_hasValidSteps_53 : decode cX8_hasValidSteps 53 = .ok (.ireturn, 1) := by decide +kernel
theorem dX8_hasValidSteps_54 : decode cX8_hasValidSteps 54 = .ok (.iload 4, 2) := by decide +kernel
theorem dX8_hasValidSteps_56 : decode cX8_hasValidSteps 56 = .ok (.istore_n 2, 1) := by decide +kernel
theorem dX8_hasValidSteps_57 : decode cX8_hasValidSteps 57 = .ok (.iinc 3 1, 3) := by decide +kernel
theorem dX8_hasValidSteps_60 : decode cX8_hasValidSteps 60 = .ok (.goto (-34), 3) := by decide +kernel
theorem dX8_hasValidSteps_63 : decode cX8_hasValidSteps 63 = .ok (.iconst 1, 1) := by decide +kernel
theorem dX8_hasValidSteps_64 : decode cX8_hasValidSteps 64 = .ok (.ireturn, 1) := by decide +kernel
theorem dX8_forgetSlices_0 : decode cX8_forgetSlices 0 = .ok (.iconst 0, 1) := by decide +kernel
theorem dX8_forgetSlices_1 : decode cX8_forgetSlices 1 = .ok (.istore_n 1, 1) := by decide +kernel
theorem dX8_forgetSlices_2 : decode cX8_forgetSlices 2 = .ok (.iload_n 1, 1) := by decide +kernel
theorem dX8_forgetSlices_3 : decode cX8_forgetSlices 3 = .ok (.iconst 3, 1) := by decide +kernel
theorem dX8_forgetSlices_4 : decode cX8_forgetSlices 4 = .ok (.if_icmp .ge 24, 3) := by decide +kernel
theorem dX8_forgetSlices_7 : decode cX8_forgetSlices 7 = .ok (.aload_n 0, 1) := by decide +kernel
theorem dX8_forgetSlices_8 : decode cX8_forgetSlices 8 = .ok (.getfield 38, 3) := by decide +kernel
theorem dX8_forgetSlices_11 : decode cX8_forgetSlices 11 = .ok (.iload_n 1, 1) := by decide +kernel
theorem dX8_forgetSlices_12 : decode cX8_forgetSlices 12 = .ok (.bipush 110, 2) := by decide +kernel
theorem dX8_forgetSlices_14 : decode cX8_forgetSlices 14 = .ok (.castore, 1) := by decide +kernel
theorem dX8_forgetSlices_15 : decode cX8_forgetSlices 15 = .ok (.aload_n 0, 1) := by decide +kernel
theorem dX8_forgetSlices_16 : decode cX8_forgetSlices 16 = .ok (.getfield 42, 3) := by decide +kernel
theorem dX8_forgetSlices_19 : decode cX8_forgetSlices 19 = .ok (.iload_n 1, 1) := by decide +kernel
theorem dX8_forgetSlices_20 : decode cX8_forgetSlices 20 = .ok (.iconst 0, 1) := by decide +kernel
theorem dX8_forgetSlices_21 : decode cX8_forgetSlices 21 = .ok (.iastore, 1) := by decide +kernel
theorem dX8_forgetSlices_22 : decode cX8_forgetSlices 22 = .ok (.iinc 1 1, 3) := by decide +kernel
theorem dX8_forgetSlices_25 : decode cX8_forgetSlices 25 = .ok (.goto (-23), 3) := by decide +kernel
theorem dX8_forgetSlices_28 : decode cX8_forgetSlices 28 = .ok (.return_, 1) := by decide +kernel
theorem dX8_readPlainPixels_0 : decode cX8_readPlainPixels 0 = .ok (.iconst 0, 1) := by decide +kernel
theorem dX8_readPlainPixels_1 : decode cX8_readPlainPixels 1 = .ok (.istore_n 1, 1) := by decide +kernel
theorem dX8_readPlainPixels_2 : decode cX8_readPlainPixels 2 = .ok (.iload_n 1, 1) := by decide +kernel
theorem dX8_readPlainPixels_3 : decode cX8_readPlainPixels 3 = .ok (.aload_n 0, 1) := by decide +kernel
theorem dX8_readPlainPixels_4 : decode cX8_readPlainPixels 4 = .ok (.getfield 31, 3) := by decide +kernel
theorem dX8_readPlainPixels_7 : decode cX8_readPlainPixels 7 = .ok (.getfield 122, 3) := by decide +kernel
theorem dX8_readPlainPixels_10 : decode cX8_readPlainPixels 10 = .ok (.invokestatic 266, 3) := by decide +kernel
theorem dX8_readPlainPixels_13 : decode cX8_readPlainPixels 13 = .ok (.if_icmp .ge 74, 3) := by decide +kernel
theorem dX8_readPlainPixels_16 : decode cX8_readPlainPixels 16 = .ok (.iload_n 1, 1) := by decide +kernel
theorem dX8_readPlainPixels_17 : decode cX8_readPlainPixels 17 = .ok (.iconst 1, 1) := by decide +kernel
theorem dX8_readPlainPixels_18 : decode cX8_readPlainPixels 18 = .ok (.iadd, 1) := by decide +kernel
theorem dX8_readPlainPixels_19 : decode cX8_readPlainPixels 19 = .ok (.bipush 8, 2) := by decide +kernel
theorem dX8_readPlainPixels_21 : decode cX8_readPlainPixels 21 = .ok (.imul, 1) := by decide +kernel
theorem dX8_readPlainPixels_22 : decode cX8_readPlainPixels 22 = .ok (.aload_n 0, 1) := by decide +kernel
theorem dX8_readPlainPixels_23 : decode cX8_readPlainPixels 23 = .ok (.getfield 31, 3) := by decide +kernel
theorem dX8_readPlainPixels_26 : decode cX8_readPlainPixels 26 = .ok (.getfield 122, 3) := by decide +kernel
theorem dX8_readPlainPixels_29 : decode cX8_readPlainPixels 29 = .ok (.invokestatic 190, 3) := by decide +kernel
theorem dX8_readPlainPixels_32 : decode cX8_readPlainPixels 32 = .ok (.istore_n 2, 1) := by decide +kernel
theorem dX8_readPlainPixels_33 : decode cX8_readPlainPixels 33 = .ok (.iconst 3, 1) := by decide +kernel
theorem dX8_readPlainPixels_34 : decode cX8_readPlainPixels 34 = .ok (.iload_n 2, 1) := by decide +kernel
theorem dX8_readPlainPixels_35 : decode cX8_readPlainPixels 35 = .ok (.aload_n 0, 1) := by decide +kernel
theorem dX8_readPlainPixels_36 : decode cX8_readPlainPixels 36 = .ok (.getfield 31, 3) := by decide +kernel
theorem dX8_readPlainPixels_39 : decode cX8_readPlainPixels 39 = .ok (.getfield 119, 3) := by decide +kernel
theorem dX8_readPlainPixels_42 : decode cX8_readPlainPixels 42 = .ok (.imul, 1) := by decide +kernel
theorem dX8_readPlainPixels_43 : decode cX8_readPlainPixels 43 = .ok (.iadd, 1) := by decide +kernel
theorem dX8_readPlainPixels_44 : decode cX8_readPlainPixels 44 = .ok (.aload_n 0, 1) := by decide +kernel
theorem dX8_readPlainPixels_45 : decode cX8_readPlainPixels 45 = .ok (.getfield 27, 3) := by decide +kernel
theorem dX8_readPlainPixels_48 : decode cX8_readPlainPixels 48 = .ok (.getfield 155, 3) := by decide +kernel
theorem dX8_readPlainPixels_51 : decode cX8_readPlainPixels 51 = .ok (.if_icmp .le 14, 3) := by decide +kernel
theorem dX8_readPlainPixels_54 : decode cX8_readPlainPixels 54 = .ok (.aload_n 0, 1) := by decide +kernel
theorem dX8_readPlainPixels_55 : decode cX8_readPlainPixels 55 = .ok (.getfield 38, 3) := by decide +kernel
theorem dX8_readPlainPixels_58 : decode cX8_readPlainPixels 58 = .ok (.iload_n 1, 1) := by decide +kernel
theorem dX8_readPlainPixels_59 : decode cX8_readPlainPixels 59 = .ok (.bipush 101, 2) := by decide +kernel
theorem dX8_readPlainPixels_61 : decode cX8_readPlainPixels 61 = .ok (.castore, 1) := by decide +kernel
theorem dX8_readPlainPixels_62 : decode cX8_readPlainPixels 62 = .ok (.goto 19, 3) := by decide +kernel
theorem dX8_readPlainPixels_65 : decode cX8_readPlainPixels 65 = .ok (.aload_n 0, 1) := by decide +kernel
theorem dX8_readPlainPixels_66 : decode cX8_readPlainPixels 66 = .ok (.iload_n 1, 1) := by decide +kernel
theorem dX8_readPlainPixels_67 : decode cX8_readPlainPixels 67 = .ok (.bipush 8, 2) := by decide +kernel
theorem dX8_readPlainPixels_69 : decode cX8_readPlainPixels 69 = .ok (.imul, 1) := by decide +kernel
theorem dX8_readPlainPixels_70 : decode cX8_readPlainPixels 70 = .ok (.iload_n 2, 1) := by decide +kernel
theorem dX8_readPlainPixels_71 : decode cX8_readPlainPixels 71 = .ok (.invokevirtual 342, 3) := by decide +kernel
theorem dX8_readPlainPixels_74 : decode cX8_readPlainPixels 74 = .ok (.aload_n 0, 1) := by decide +kernel
theorem dX8_readPlainPixels_75 : decode cX8_readPlainPixels 75 = .ok (.getfield 42, 3) := by decide +kernel
theorem dX8_readPlainPixels_78 : decode cX8_readPlainPixels 78 = .ok (.iload_n 1, 1) := by decide +kernel
theorem dX8_readPlainPixels_79 : decode cX8_readPlainPixels 79 = .ok (.iconst 1, 1) := by decide +kernel
theorem dX8_readPlainPixels_80 : decode cX8_readPlainPixels 80 = .ok (.iastore, 1) := by decide +kernel
theorem dX8_readPlainPixels_81 : decode cX8_readPlainPixels 81 = .ok (.iinc 1 1, 3) := by decide +kernel
theorem dX8_readPlainPixels_84 : decode cX8_readPlainPixels 84 = .ok (.goto (-82), 3) := by decide +kernel
theorem dX8_readPlainPixels_87 : decode cX8_readPlainPixels 87 = .ok (.return_, 1) := by decide +kernel
theorem dX8_readPlainRows_0 : decode cX8_readPlainRows 0 = .ok (.iload_n 1, 1) := by decide +kernel
theorem dX8_readPlainRows_1 : decode cX8_readPlainRows 1 = .ok (.istore_n 3, 1) := by decide +kernel
theorem dX8_readPlainRows_2 : decode cX8_readPlainRows 2 = .ok (.iload_n 3, 1) := by decide +kernel
theorem dX8_readPlainRows_3 : decode cX8_readPlainRows 3 = .ok (.iload_n 2, 1) := by decide +kernel
theorem dX8_readPlainRows_4 : decode cX8_readPlainRows 4 = .ok (.if_icmp .ge 61, 3) := by decide +kernel
theorem dX8_readPlainRows_7 : decode cX8_readPlainRows 7 = .ok (.iconst 0, 1) := by decide +kernel
theorem dX8_readPlainRows_8 : decode cX8_readPlainRows 8 = .ok (.istore 4, 2) := by decide +kernel
theorem dX8_readPlainRows_10 : decode cX8_readPlainRows 10 = .ok (.iload 4, 2) := by decide +kernel
theorem dX8_readPlainRows_12 : decode cX8_readPlainRows 12 = .ok (.aload_n 0, 1) := by decide +kernel
theorem dX8_readPlainRows_13 : decode cX8_readPlainRows 13 = .ok (.getfield 31, 3) := by decide +kernel
theorem dX8_readPlainRows_16 : decode cX8_readPlainRows 16 = .ok (.getfield 119, 3) := by decide +kernel
theorem dX8_readPlainRows_19 : decode cX8_readPlainRows 19 = .ok (.if_icmp .ge 40, 3) := by decide +kernel
theorem dX8_readPlainRows_22 : decode cX8_readPlainRows 22 = .ok (.aload_n 0, 1) := by decide +kernel
theorem dX8_readPlainRows_23 : decode cX8_readPlainRows 23 = .ok (.getfield 31, 3) := by decide +kernel
theorem dX8_readPlainRows_26 : decode cX8_readPlainRows 26 = .ok (.iload 4, 2) := by decide +kernel
theorem dX8_readPlainRows_28 : decode cX8_readPlainRows 28 = .ok (.iload_n 3, 1) := by decide +kernel
theorem dX8_readPlainRows_29 : decode cX8_readPlainRows 29 = .ok (.aload_n 0, 1) := by decide +kernel
theorem dX8_readPlainRows_30 : decode cX8_readPlainRows 30 = .ok (.getfield 27, 3) := by decide +kernel
theorem dX8_readPlainRows_33 : decode cX8_readPlainRows 33 = .ok (.iconst 3, 1) := by decide +kernel
theorem dX8_readPlainRows_34 : decode cX8_readPlainRows 34 = .ok (.iload_n 3, 1) := by decide +kernel
theorem dX8_readPlainRows_35 : decode cX8_readPlainRows 35 = .ok (.aload_n 0, 1) := by decide +kernel
theorem dX8_readPlainRows_36 : decode cX8_readPlainRows 36 = .ok (.getfield 31, 3) := by decide +kernel
theorem dX8_readPlainRows_39 : decode cX8_readPlainRows 39 = .ok (.getfield 119, 3) := by decide +kernel
theorem dX8_readPlainRows_42 : decode cX8_readPlainRows 42 = .ok (.imul, 1) := by decide +kernel
theorem dX8_readPlainRows_43 : decode cX8_readPlainRows 43 = .ok (.iadd, 1) := by decide +kernel
theorem dX8_readPlainRows_44 : decode cX8_readPlainRows 44 = .ok (.iload 4, 2) := by decide +kernel
theorem dX8_readPlainRows_46 : decode cX8_readPlainRows 46 = .ok (.iadd, 1) := by decide +kernel
theorem dX8_readPlainRows_47 : decode cX8_readPlainRows 47 = .ok (.invokevirtual 166, 3) := by decide +kernel
theorem dX8_readPlainRows_50 : decode cX8_readPlainRows 50 = .ok (.invokevirtual 115, 3) := by decide +kernel
theorem dX8_readPlainRows_53 : decode cX8_readPlainRows 53 = .ok (.iinc 4 1, 3) := by decide +kernel
theorem dX8_readPlainRows_56 : decode cX8_readPlainRows 56 = .ok (.goto (-46), 3) := by decide +kernel
theorem dX8_readPlainRows_59 : decode cX8_readPlainRows 59 = .ok (.iinc 3 1, 3) := by decide +kernel
theorem dX8_readPlainRows_62 : decode cX8_readPlainRows 62 = .ok (.goto (-60), 3) := by decide +kernel
theorem dX8_readPlainRows_65 : decode cX8_readPlainRows 65 = .ok (.return_, 1) := by decide +kernel
theorem dX8_readParts_0 : decode cX8_readParts 0 = .ok (.aload_n 0, 1) := by decide +kernel
theorem dX8_readParts_1 : decode cX8_readParts 1 = .ok (.getfield 31, 3) := by decide +kernel
theorem dX8_readParts_4 : decode cX8_readParts 4 = .ok (.getfield 119, 3) := by decide +kernel
theorem dX8_readParts_7 : decode cX8_readParts 7 = .ok (.invokestatic 283, 3) := by decide +kernel
theorem dX8_readParts_10 : decode cX8_readParts 10 = .ok (.istore_n 2, 1) := by decide +kernel
theorem dX8_readParts_11 : decode cX8_readParts 11 = .ok (.aload_n 0, 1) := by decide +kernel
theorem dX8_readParts_12 : decode cX8_readParts 12 = .ok (.getfield 31, 3) := by decide +kernel
theorem dX8_readParts_15 : decode cX8_readParts 15 = .ok (.getfield 122, 3) := by decide +kernel
theorem dX8_readParts_18 : decode cX8_readParts 18 = .ok (.invokestatic 266, 3) := by decide +kernel
theorem dX8_readParts_21 : decode cX8_readParts 21 = .ok (.istore_n 3, 1) := by decide +kernel
theorem dX8_readParts_22 : decode cX8_readParts 22 = .ok (.iconst 4, 1) := by decide +kernel
theorem dX8_readParts_23 : decode cX8_readParts 23 = .ok (.aload_n 0, 1) := by decide +kernel
theorem dX8_readParts_24 : decode cX8_readParts 24 = .ok (.getfield 27, 3) := by decide +kernel
theorem dX8_readParts_27 : decode cX8_readParts 27 = .ok (.iconst 3, 1) := by decide +kernel
theorem dX8_readParts_28 : decode cX8_readParts 28 = .ok (.invokevirtual 166, 3) := by decide +kernel
theorem dX8_readParts_31 : decode cX8_readParts 31 = .ok (.iadd, 1) := by decide +kernel
theorem dX8_readParts_32 : decode cX8_readParts 32 = .ok (.istore 4, 2) := by decide +kernel
theorem dX8_readParts_34 : decode cX8_readParts 34 = .ok (.iconst 0, 1) := by decide +kernel
theorem dX8_readParts_35 : decode cX8_readParts 35 = .ok (.istore 5, 2) := by decide +kernel
theorem dX8_readParts_37 : decode cX8_readParts 37 = .ok (.iload 5, 2) := by decide +kernel
theorem dX8_readParts_39 : decode cX8_readParts 39 = .ok (.iload_n 1, 1) := by decide +kernel
theorem dX8_readParts_40 : decode cX8_readParts 40 = .ok (.if_icmp .ge 203, 3) := by decide +kernel
theorem dX8_readParts_43 : decode cX8_readParts 43 = .ok (.aload_n 0, 1) := by decide +kernel
theorem dX8_readParts_44 : decode cX8_readParts 44 = .ok (.getfield 70, 3) := by decide +kernel
theorem dX8_readParts_47 : decode cX8_readParts 47 = .ok (.aload_n 0, 1) := by decide +kernel
theorem dX8_readParts_48 : decode cX8_readParts 48 = .ok (.getfield 27, 3) := by decide +kernel
theorem dX8_readParts_51 : decode cX8_readParts 51 = .ok (.iconst 4, 1) := by decide +kernel
theorem dX8_readParts_52 : decode cX8_readParts 52 = .ok (.iload 5, 2) := by decide +kernel
theorem dX8_readParts_54 : decode cX8_readParts 54 = .ok (.iadd, 1) := by decide +kernel
theorem dX8_readParts_55 : decode cX8_readParts 55 = .ok (.invokevirtual 166, 3) := by decide +kernel
theorem dX8_readParts_58 : decode cX8_readParts 58 = .ok (.putfield 142, 3) := by decide +kernel
theorem dX8_readParts_61 : decode cX8_readParts 61 = .ok (.iconst 0, 1) := by decide +kernel
theorem dX8_readParts_62 : decode cX8_readParts 62 = .ok (.istore 6, 2) := by decide +kernel
theorem dX8_readParts_64 : decode cX8_readParts 64 = .ok (.iload 6, 2) := by decide +kernel
theorem dX8_readParts_66 : decode cX8_readParts 66 = .ok (.iload_n 3, 1) := by decide +kernel
theorem dX8_readParts_67 : decode cX8_readParts 67 = .ok (.if_icmp .ge 170, 3) := by decide +kernel
theorem dX8_readParts_70 : decode cX8_readParts 70 = .ok (.aload_n 0, 1) := by decide +kernel
theorem dX8_readParts_71 : decode cX8_readParts 71 = .ok (.iload 4, 2) := by decide +kernel
theorem dX8_readParts_73 : decode cX8_readParts 73 = .ok (.invokevirtual 345, 3) := by decide +kernel
theorem dX8_readParts_76 : decode cX8_readParts 76 = .ok (.istore 7, 2) := by decide +kernel
theorem dX8_readParts_78 : decode cX8_readParts 78 = .ok (.aload_n 0, 1) := by decide +kernel
theorem dX8_readParts_79 : decode cX8_readParts 79 = .ok (.iload 4, 2) := by decide +kernel
theorem dX8_readParts_81 : decode cX8_readParts 81 = .ok (.iload 7, 2) := by decide +kernel
theorem dX8_readParts_83 : decode cX8_readParts 83 = .ok (.invokevirtual 348, 3) := by decide +kernel
theorem dX8_readParts_86 : decode cX8_readParts 86 = .ok (.istore 8, 2) := by decide +kernel
theorem dX8_readParts_88 : decode cX8_readParts 88 = .ok (.aload_n 0, 1) := by decide +kernel
theorem dX8_readParts_89 : decode cX8_readParts 89 = .ok (.getfield 38, 3) := by decide +kernel
theorem dX8_readParts_92 : decode cX8_readParts 92 = .ok (.iload 6, 2) := by decide +kernel
theorem dX8_readParts_94 : decode cX8_readParts 94 = .ok (.caload, 1) := by decide +kernel
theorem dX8_readParts_95 : decode cX8_readParts 95 = .ok (.bipush 110, 2) := by decide +kernel
theorem dX8_readParts_97 : decode cX8_readParts 97 = .ok (.if_icmp .ne 87, 3) := by decide +kernel
theorem dX8_readParts_100 : decode cX8_readParts 100 = .ok (.iload 8, 2) := by decide +kernel
theorem dX8_readParts_102 : decode cX8_readParts 102 = .ok (.bipush 110, 2) := by decide +kernel
theorem dX8_readParts_104 : decode cX8_readParts 104 = .ok (.if_icmp .ne 80, 3) := by decide +kernel
theorem dX8_readParts_107 : decode cX8_readParts 107 = .ok (.aload_n 0, 1) := by decide +kernel
theorem dX8_readParts_108 : decode cX8_readParts 108 = .ok (.getfield 84, 3) := by decide +kernel
theorem dX8_readParts_111 : decode cX8_readParts 111 = .ok (.aload_n 0, 1) := by decide +kernel
theorem dX8_readParts_112 : decode cX8_readParts 112 = .ok (.getfield 27, 3) := by decide +kernel
theorem dX8_readParts_115 : decode cX8_readParts 115 = .ok (.getfield 352, 3) := by decide +kernel
theorem dX8_readParts_118 : decode cX8_readParts 118 = .ok (.iload 4, 2) := by decide +kernel
theorem dX8_readParts_120 : decode cX8_readParts 120 = .ok (.iconst 3, 1) := by decide +kernel
theorem dX8_readParts_121 : decode cX8_readParts 121 = .ok (.iadd, 1) := by decide +kernel
theorem dX8_readParts_122 : decode cX8_readParts 122 = .ok (.iload 7, 2) := by decide +kernel
theorem dX8_readParts_124 : decode cX8_readParts 124 = .ok (.invokevirtual 353, 3) := by decide +kernel
theorem dX8_readParts_127 : decode cX8_readParts 127 = .ok (.aload_n 0, 1) := by decide +kernel
theorem dX8_readParts_128 : decode cX8_readParts 128 = .ok (.getfield 84, 3) := by decide +kernel
theorem dX8_readParts_131 : decode cX8_readParts 131 = .ok (.aload_n 0, 1) := by decide +kernel
theorem dX8_readParts_132 : decode cX8_readParts 132 = .ok (.getfield 70, 3) := by decide +kernel
theorem dX8_readParts_135 : decode cX8_readParts 135 = .ok (.iload 6, 2) := by decide +kernel
theorem dX8_readParts_137 : decode cX8_readParts 137 = .ok (.iload_n 2, 1) := by decide +kernel
theorem dX8_readParts_138 : decode cX8_readParts 138 = .ok (.invokestatic 296, 3) := by decide +kernel
theorem dX8_readParts_141 : decode cX8_readParts 141 = .ok (.aload_n 0, 1) := by decide +kernel
theorem dX8_readParts_142 : decode cX8_readParts 142 = .ok (.getfield 70, 3) := by decide +kernel
theorem dX8_readParts_145 : decode cX8_readParts 145 = .ok (.iload 6, 2) := by decide +kernel
theorem dX8_readParts_147 : decode cX8_readParts 147 = .ok (.iload_n 2, 1) := by decide +kernel
theorem dX8_readParts_148 : decode cX8_readParts 148 = .ok (.invokevirtual 355, 3) := by decide +kernel
theorem dX8_readParts_151 : decode cX8_readParts 151 = .ok (.aload_n 0, 1) := by decide +kernel
theorem dX8_readParts_152 : decode cX8_readParts 152 = .ok (.getfield 31, 3) := by decide +kernel
theorem dX8_readParts_155 : decode cX8_readParts 155 = .ok (.aload_n 0, 1) := by decide +kernel
theorem dX8_readParts_156 : decode cX8_readParts 156 = .ok (.getfield 70, 3) := by decide +kernel
theorem dX8_readParts_159 : decode cX8_readParts 159 = .ok (.getfield 286, 3) := by decide +kernel
theorem dX8_readParts_162 : decode cX8_readParts 162 = .ok (.iload 6, 2) := by decide +kernel
theorem dX8_readParts_164 : decode cX8_readParts 164 = .ok (.bipush 8, 2) := by decide +kernel
theorem dX8_readParts_166 : decode cX8_readParts 166 = .ok (.imul, 1) := by decide +kernel
theorem dX8_readParts_167 : decode cX8_readParts 167 = .ok (.invokevirtual 358, 3) := by decide +kernel
theorem dX8_readParts_170 : decode cX8_readParts 170 = .ok (.aload_n 0, 1) := by decide +kernel
theorem dX8_readParts_171 : decode cX8_readParts 171 = .ok (.getfield 42, 3) := by decide +kernel
theorem dX8_readParts_174 : decode cX8_readParts 174 = .ok (.iload 6, 2) := by decide +kernel
theorem dX8_readParts_176 : decode cX8_readParts 176 = .ok (.dup2, 1) := by decide +kernel
theorem dX8_readParts_177 : decode cX8_readParts 177 = .ok (.iaload, 1) := by decide +kernel
theorem dX8_readParts_178 : decode cX8_readParts 178 = .ok (.iconst 1, 1) := by decide +kernel
theorem dX8_readParts_179 : decode cX8_readParts 179 = .ok (.iadd, 1) := by decide +kernel
theorem dX8_readParts_180 : decode cX8_readParts 180 = .ok (.iastore, 1) := by decide +kernel
theorem dX8_readParts_181 : decode cX8_readParts 181 = .ok (.goto 24, 3) := by decide +kernel
theorem dX8_readParts_184 : decode cX8_readParts 184 = .ok (.aload_n 0, 1) := by decide +kernel
theorem dX8_readParts_185 : decode cX8_readParts 185 = .ok (.getfield 38, 3) := by decide +kernel
theorem dX8_readParts_188 : decode cX8_readParts 188 = .ok (.iload 6, 2) := by decide +kernel
theorem dX8_readParts_190 : decode cX8_readParts 190 = .ok (.caload, 1) := by decide +kernel
theorem dX8_readParts_191 : decode cX8_readParts 191 = .ok (.bipush 110, 2) := by decide +kernel
theorem dX8_readParts_193 : decode cX8_readParts 193 = .ok (.if_icmp .ne 12, 3) := by decide +kernel
theorem dX8_readParts_196 : decode cX8_readParts 196 = .ok (.aload_n 0, 1) := by decide +kernel
theorem dX8_readParts_197 : decode cX8_readParts 197 = .ok (.getfield 38, 3) := by decide +kernel
theorem dX8_readParts_200 : decode cX8_readParts 200 = .ok (.iload 6, 2) := by decide +kernel
theorem dX8_readParts_202 : decode cX8_readParts 202 = .ok (.iload 8, 2) := by decide +kernel
theorem dX8_readParts_204 : decode cX8_readParts 204 = .ok (.castore, 1) := by decide +kernel
theorem dX8_readParts_205 : decode cX8_readParts 205 = .ok (.iload 8, 2) := by decide +kernel
theorem dX8_readParts_207 : decode cX8_readParts 207 = .ok (.bipush 101, 2) := by decide +kernel
theorem dX8_readParts_209 : decode cX8_readParts 209 = .ok (.if_icmp .ne 13, 3) := by decide +kernel
theorem dX8_readParts_212 : decode cX8_readParts 212 = .ok (.aload_n 0, 1) := by decide +kernel
theorem dX8_readParts_213 : decode cX8_readParts 213 = .ok (.getfield 27, 3) := by decide +kernel
theorem dX8_readParts_216 : decode cX8_readParts 216 = .ok (.getfield 155, 3) := by decide +kernel
theorem dX8_readParts_219 : decode cX8_readParts 219 = .ok (.goto 10, 3) := by decide +kernel
theorem dX8_readParts_222 : decode cX8_readParts 222 = .ok (.iload 4, 2) := by decide +kernel
theorem dX8_readParts_224 : decode cX8_readParts 224 = .ok (.iconst 3, 1) := by decide +kernel
theorem dX8_readParts_225 : decode cX8_readParts 225 = .ok (.iadd, 1) := by decide +kernel
theorem dX8_readParts_226 : decode cX8_readParts 226 = .ok (.iload 7, 2) := by decide +kernel
theorem dX8_readParts_228 : decode cX8_readParts 228 = .ok (.iadd, 1) := by decide +kernel
theorem dX8_readParts_229 : decode cX8_readParts 229 = .ok (.istore 4, 2) := by decide +kernel
theorem dX8_readParts_231 : decode cX8_readParts 231 = .ok (.iinc 6 1, 3) := by decide +kernel
theorem dX8_readParts_234 : decode cX8_readParts 234 = .ok (.goto (-170), 3) := by decide +kernel
theorem dX8_readParts_237 : decode cX8_readParts 237 = .ok (.iinc 5 1, 3) := by decide +kernel
theorem dX8_readParts_240 : decode cX8_readParts 240 = .ok (.goto (-203), 3) := by decide +kernel
theorem dX8_readParts_243 : decode cX8_readParts 243 = .ok (.return_, 1) := by decide +kernel
theorem dX8_partCount_0 : decode cX8_partCount 0 = .ok (.iload_n 1, 1) := by decide +kernel
theorem dX8_partCount_1 : decode cX8_partCount 1 = .ok (.iconst 3, 1) := by decide +kernel
theorem dX8_partCount_2 : decode cX8_partCount 2 = .ok (.iadd, 1) := by decide +kernel
theorem dX8_partCount_3 : decode cX8_partCount 3 = .ok (.aload_n 0, 1) := by decide +kernel
theorem dX8_partCount_4 : decode cX8_partCount 4 = .ok (.getfield 27, 3) := by decide +kernel
theorem dX8_partCount_7 : decode cX8_partCount 7 = .ok (.getfield 155, 3) := by decide +kernel
theorem dX8_partCount_10 : decode cX8_partCount 10 = .ok (.if_icmp .le 5, 3) := by decide +kernel
theorem dX8_partCount_13 : decode cX8_partCount 13 = .ok (.iconst (-1), 1) := by decide +kernel
theorem dX8_partCount_14 : decode cX8_partCount 14 = .ok (.ireturn, 1) := by decide +kernel
theorem dX8_partCount_15 : decode cX8_partCount 15 = .ok (.aload_n 0, 1) := by decide +kernel
theorem dX8_partCount_16 : decode cX8_partCount 16 = .ok (.getfield 27, 3) := by decide +kernel
theorem dX8_partCount_19 : decode cX8_partCount 19 = .ok (.iload_n 1, 1) := by decide +kernel
theorem dX8_partCount_20 : decode cX8_partCount 20 = .ok (.invokevirtual 166, 3) := by decide +kernel
theorem dX8_partCount_23 : decode cX8_partCount 23 = .ok (.sipush 256, 3) := by decide +kernel
theorem dX8_partCount_26 : decode cX8_partCount 26 = .ok (.imul, 1) := by decide +kernel
theorem dX8_partCount_27 : decode cX8_partCount 27 = .ok (.aload_n 0, 1) := by decide +kernel
theorem dX8_partCount_28 : decode cX8_partCount 28 = .ok (.getfield 27, 3) := by decide +kernel
theorem dX8_partCount_31 : decode cX8_partCount 31 = .ok (.iload_n 1, 1) := by decide +kernel
theorem dX8_partCount_32 : decode cX8_partCount 32 = .ok (.iconst 1, 1) := by decide +kernel
theorem dX8_partCount_33 : decode cX8_partCount 33 = .ok (.iadd, 1) := by decide +kernel
theorem dX8_partCount_34 : decode cX8_partCount 34 = .ok (.invokevirtual 166, 3) := by decide +kernel
theorem dX8_partCount_37 : decode cX8_partCount 37 = .ok (.iadd, 1) := by decide +kernel
theorem dX8_partCount_38 : decode cX8_partCount 38 = .ok (.ireturn, 1) := by decide +kernel
theorem dX8_partFault_0 : decode cX8_partFault 0 = .ok (.iload_n 2, 1) := by decide +kernel
theorem dX8_partFault_1 : decode cX8_partFault 1 = .ok (.ifCond .lt 18, 3) := by decide +kernel
theorem dX8_partFault_4 : decode cX8_partFault 4 = .ok (.iload_n 1, 1) := by decide +kernel
theorem dX8_partFault_5 : decode cX8_partFault 5 = .ok (.iconst 3, 1) := by decide +kernel
theorem dX8_partFault_6 : decode cX8_partFault 6 = .ok (.iadd, 1) := by decide +kernel
theorem dX8_partFault_7 : decode cX8_partFault 7 = .ok (.iload_n 2, 1) := by decide +kernel
theorem dX8_partFault_8 : decode cX8_partFault 8 = .ok (.iadd, 1) := by decide +kernel
theorem dX8_partFault_9 : decode cX8_partFault 9 = .ok (.aload_n 0, 1) := by decide +kernel
theorem dX8_partFault_10 : decode cX8_partFault 10 = .ok (.getfield 27, 3) := by decide +kernel
theorem dX8_partFault_13 : decode cX8_partFault 13 = .ok (.getfield 155, 3) := by decide +kernel
theorem dX8_partFault_16 : decode cX8_partFault 16 = .ok (.if_icmp .le 6, 3) := by decide +kernel
theorem dX8_partFault_19 : decode cX8_partFault 19 = .ok (.bipush 101, 2) := by decide +kernel
theorem dX8_partFault_21 : decode cX8_partFault 21 = .ok (.ireturn, 1) := by decide +kernel
theorem dX8_partFault_22 : decode cX8_partFault 22 = .ok (.aload_n 0, 1) := by decide +kernel
theorem dX8_partFault_23 : decode cX8_partFault 23 = .ok (.getfield 27, 3) := by decide +kernel
theorem dX8_partFault_26 : decode cX8_partFault 26 = .ok (.getfield 352, 3) := by decide +kernel
theorem dX8_partFault_29 : decode cX8_partFault 29 = .ok (.iload_n 1, 1) := by decide +kernel
theorem dX8_partFault_30 : decode cX8_partFault 30 = .ok (.iconst 3, 1) := by decide +kernel
theorem dX8_partFault_31 : decode cX8_partFault 31 = .ok (.iadd, 1) := by decide +kernel
theorem dX8_partFault_32 : decode cX8_partFault 32 = .ok (.iload_n 2, 1) := by decide +kernel
theorem dX8_partFault_33 : decode cX8_partFault 33 = .ok (.invokestatic 312, 3) := by decide +kernel
theorem dX8_partFault_36 : decode cX8_partFault 36 = .ok (.aload_n 0, 1) := by decide +kernel
theorem dX8_partFault_37 : decode cX8_partFault 37 = .ok (.getfield 27, 3) := by decide +kernel
theorem dX8_partFault_40 : decode cX8_partFault 40 = .ok (.iload_n 1, 1) := by decide +kernel
theorem dX8_partFault_41 : decode cX8_partFault 41 = .ok (.iconst 2, 1) := by decide +kernel
theorem dX8_partFault_42 : decode cX8_partFault 42 = .ok (.iadd, 1) := by decide +kernel
theorem dX8_partFault_43 : decode cX8_partFault 43 = .ok (.invokevirtual 166, 3) := by decide +kernel
theorem dX8_partFault_46 : decode cX8_partFault 46 = .ok (.if_icmp .ne 8, 3) := by decide +kernel
theorem dX8_partFault_49 : decode cX8_partFault 49 = .ok (.bipush 110, 2) := by decide +kernel
theorem dX8_partFault_51 : decode cX8_partFault 51 = .ok (.goto 5, 3) := by decide +kernel
theorem dX8_partFault_54 : decode cX8_partFault 54 = .ok (.bipush 115, 2) := by decide +kernel
theorem dX8_partFault_56 : decode cX8_partFault 56 = .ok (.ireturn, 1) := by decide +kernel
theorem dX8_countFaultySlices_0 : decode cX8_countFaultySlices 0 = .ok (.iconst 0, 1) := by decide +kernel
theorem dX8_countFaultySlices_1 : decode cX8_countFaultySlices 1 = .ok (.istore_n 1, 1) := by decide +kernel
theorem dX8_countFaultySlices_2 : decode cX8_countFaultySlices 2 = .ok (.iconst 0, 1) := by decide +kernel
theorem dX8_countFaultySlices_3 : decode cX8_countFaultySlices 3 = .ok (.istore_n 2, 1) := by decide +kernel
theorem dX8_countFaultySlices_4 : decode cX8_countFaultySlices 4 = .ok (.iload_n 2, 1) := by decide +kernel
theorem dX8_countFaultySlices_5 : decode cX8_countFaultySlices 5 = .ok (.aload_n 0, 1) := by decide +kernel
theorem dX8_countFaultySlices_6 : decode cX8_countFaultySlices 6 = .ok (.getfield 31, 3) := by decide +kernel
theorem dX8_countFaultySlices_9 : decode cX8_countFaultySlices 9 = .ok (.getfield 122, 3) := by decide +kernel
theorem dX8_countFaultySlices_12 : decode cX8_countFaultySlices 12 = .ok (.invokestatic 266, 3) := by decide +kernel
theorem dX8_countFaultySlices_15 : decode cX8_countFaultySlices 15 = .ok (.if_icmp .ge 23, 3) := by decide +kernel
theorem dX8_countFaultySlices_18 : decode cX8_countFaultySlices 18 = .ok (.aload_n 0, 1) := by decide +kernel
theorem dX8_countFaultySlices_19 : decode cX8_countFaultySlices 19 = .ok (.getfield 38, 3) := by decide +kernel
theorem dX8_countFaultySlices_22 : decode cX8_countFaultySlices 22 = .ok (.iload_n 2, 1) := by decide +kernel
theorem dX8_countFaultySlices_23 : decode cX8_countFaultySlices 23 = .ok (.caload, 1) := by decide +kernel
theorem dX8_countFaultySlices_24 : decode cX8_countFaultySlices 24 = .ok (.bipush 110, 2) := by decide +kernel
theorem dX8_countFaultySlices_26 : decode cX8_countFaultySlices 26 = .ok (.if_icmp .eq 6, 3) := by decide +kernel
theorem dX8_countFaultySlices_29 : decode cX8_countFaultySlices 29 = .ok (.iinc 1 1, 3) := by decide +kernel
theorem dX8_countFaultySlices_32 : decode cX8_countFaultySlices 32 = .ok (.iinc 2 1, 3) := by decide +kernel
theorem dX8_countFaultySlices_35 : decode cX8_countFaultySlices 35 = .ok (.goto (-31), 3) := by decide +kernel
theorem dX8_countFaultySlices_38 : decode cX8_countFaultySlices 38 = .ok (.iload_n 1, 1) := by decide +kernel
theorem dX8_countFaultySlices_39 : decode cX8_countFaultySlices 39 = .ok (.ireturn, 1) := by decide +kernel
theorem dX8_largestDifference_0 : decode cX8_largestDifference 0 = .ok (.iconst 0, 1) := by decide +kernel
theorem dX8_largestDifference_1 : decode cX8_largestDifference 1 = .ok (.istore_n 1, 1) := by decide +kernel
theorem dX8_largestDifference_2 : decode cX8_largestDifference 2 = .ok (.iconst 0, 1) := by decide +kernel
theorem dX8_largestDifference_3 : decode cX8_largestDifference 3 = .ok (.istore_n 2, 1) := by decide +kernel
theorem dX8_largestDifference_4 : decode cX8_largestDifference 4 = .ok (.iload_n 2, 1) := by decide +kernel
theorem dX8_largestDifference_5 : decode cX8_largestDifference 5 = .ok (.aload_n 0, 1) := by decide +kernel
theorem dX8_largestDifference_6 : decode cX8_largestDifference 6 = .ok (.getfield 12, 3) := by decide +kernel
theorem dX8_largestDifference_9 : decode cX8_largestDifference 9 = .ok (.getfield 122, 3) := by decide +kernel
theorem dX8_largestDifference_12 : decode cX8_largestDifference 12 = .ok (.if_icmp .ge 55, 3) := by decide +kernel
theorem dX8_largestDifference_15 : decode cX8_largestDifference 15 = .ok (.iconst 0, 1) := by decide +kernel
theorem dX8_largestDifference_16 : decode cX8_largestDifference 16 = .ok (.istore_n 3, 1) := by decide +kernel
theorem dX8_largestDifference_17 : decode cX8_largestDifference 17 = .ok (.iload_n 3, 1) := by decide +kernel
theorem dX8_largestDifference_18 : decode cX8_largestDifference 18 = .ok (.aload_n 0, 1) := by decide +kernel
theorem dX8_largestDifference_19 : decode cX8_largestDifference 19 = .ok (.getfield 12, 3) := by decide +kernel
theorem dX8_largestDifference_22 : decode cX8_largestDifference 22 = .ok (.getfield 119, 3) := by decide +kernel
theorem dX8_largestDifference_25 : decode cX8_largestDifference 25 = .ok (.if_icmp .ge 36, 3) := by decide +kernel
theorem dX8_largestDifference_28 : decode cX8_largestDifference 28 = .ok (.iload_n 1, 1) := by decide +kernel
theorem dX8_largestDifference_29 : decode cX8_largestDifference 29 = .ok (.aload_n 0, 1) := by decide +kernel
theorem dX8_largestDifference_30 : decode cX8_largestDifference 30 = .ok (.getfield 12, 3) := by decide +kernel
theorem dX8_largestDifference_33 : decode cX8_largestDifference 33 = .ok (.iload_n 3, 1) := by decide +kernel
theorem dX8_largestDifference_34 : decode cX8_largestDifference 34 = .ok (.iload_n 2, 1) := by decide +kernel
theorem dX8_largestDifference_35 : decode cX8_largestDifference 35 = .ok (.invokevirtual 111, 3) := by decide +kernel
theorem dX8_largestDifference_38 : decode cX8_largestDifference 38 = .ok (.aload_n 0, 1) := by decide +kernel
theorem dX8_largestDifference_39 : decode cX8_largestDifference 39 = .ok (.getfield 31, 3) := by decide +kernel
theorem dX8_largestDifference_42 : decode cX8_largestDifference 42 = .ok (.iload_n 3, 1) := by decide +kernel
theorem dX8_largestDifference_43 : decode cX8_largestDifference 43 = .ok (.iload_n 2, 1) := by decide +kernel
theorem dX8_largestDifference_44 : decode cX8_largestDifference 44 = .ok (.invokevirtual 111, 3) := by decide +kernel
theorem dX8_largestDifference_47 : decode cX8_largestDifference 47 = .ok (.isub, 1) := by decide +kernel
theorem dX8_largestDifference_48 : decode cX8_largestDifference 48 = .ok (.invokestatic 362, 3) := by decide +kernel
theorem dX8_largestDifference_51 : decode cX8_largestDifference 51 = .ok (.invokestatic 365, 3) := by decide +kernel
theorem dX8_largestDifference_54 : decode cX8_largestDifference 54 = .ok (.istore_n 1, 1) := by decide +kernel
theorem dX8_largestDifference_55 : decode cX8_largestDifference 55 = .ok (.iinc 3 1, 3) := by decide +kernel
theorem dX8_largestDifference_58 : decode cX8_largestDifference 58 = .ok (.goto (-41), 3) := by decide +kernel
theorem dX8_largestDifference_61 : decode cX8_largestDifference 61 = .ok (.iinc 2 1, 3) := by decide +kernel
theorem dX8_largestDifference_64 : decode cX8_largestDifference 64 = .ok (.goto (-60), 3) := by decide +kernel
theorem dX8_largestDifference_67 : decode cX8_largestDifference 67 = .ok (.iload_n 1, 1) := by decide +kernel
theorem dX8_largestDifference_68 : decode cX8_largestDifference 68 = .ok (.ireturn, 1) := by decide +kernel
theorem dX9_init_0 : decode cX9_init 0 = .ok (.aload_n 0, 1) := by decide +kernel
theorem dX9_init_1 : decode cX9_init 1 = .ok (.invokespecial 1, 3) := by decide +kernel
theorem dX9_init_4 : decode cX9_init 4 = .ok (.aload_n 0, 1) := by decide +kernel
theorem dX9_init_5 : decode cX9_init 5 = .ok (.bipush 8, 2) := by decide +kernel
theorem dX9_init_7 : decode cX9_init 7 = .ok (.putfield 7, 3) := by decide +kernel
theorem dX9_init_10 : decode cX9_init 10 = .ok (.aload_n 0, 1) := by decide +kernel
theorem dX9_init_11 : decode cX9_init 11 = .ok (.bipush 8, 2) := by decide +kernel
theorem dX9_init_13 : decode cX9_init 13 = .ok (.putfield 13, 3) := by decide +kernel
theorem dX9_init_16 : decode cX9_init 16 = .ok (.aload_n 0, 1) := by decide +kernel
theorem dX9_init_17 : decode cX9_init 17 = .ok (.iconst 1, 1) := by decide +kernel
theorem dX9_init_18 : decode cX9_init 18 = .ok (.putfield 16, 3) := by decide +kernel
theorem dX9_init_21 : decode cX9_init 21 = .ok (.aload_n 0, 1) := by decide +kernel
theorem dX9_init_22 : decode cX9_init 22 = .ok (.sipush 384, 3) := by decide +kernel
theorem dX9_init_25 : decode cX9_init 25 = .ok (.newarray .int, 2) := by decide +kernel
theorem dX9_init_27 : decode cX9_init 27 = .ok (.putfield 19, 3) := by decide +kernel
theorem dX9_init_30 : decode cX9_init 30 = .ok (.aload_n 0, 1) := by decide +kernel
theorem dX9_init_31 : decode cX9_init 31 = .ok (.iconst 3, 1) := by decide +kernel
theorem dX9_init_32 : decode cX9_init 32 = .ok (.newarray .int, 2) := by decide +kernel
theorem dX9_init_34 : decode cX9_init 34 = .ok (.dup, 1) := by decide +kernel
theorem dX9_init_35 : decode cX9_init 35 = .ok (.iconst 0, 1) := by decide +kernel
theorem dX9_init_36 : decode cX9_init 36 = .ok (.iconst 1, 1) := by decide +kernel
theorem dX9_init_37 : decode cX9_init 37 = .ok (.iastore, 1) := by decide +kernel
theorem dX9_init_38 : decode cX9_init 38 = .ok (.dup, 1) := by decide +kernel
theorem dX9_init_39 : decode cX9_init 39 = .ok (.iconst 1, 1) := by decide +kernel
theorem dX9_init_40 : decode cX9_init 40 = .ok (.iconst 0, 1) := by decide +kernel
theorem dX9_init_41 : decode cX9_init 41 = .ok (.iastore, 1) := by decide +kernel
theorem dX9_init_42 : decode cX9_init 42 = .ok (.dup, 1) := by decide +kernel
theorem dX9_init_43 : decode cX9_init 43 = .ok (.iconst 2, 1) := by decide +kernel
theorem dX9_init_44 : decode cX9_init 44 = .ok (.iconst 0, 1) := by decide +kernel
theorem dX9_init_45 : decode cX9_init 45 = .ok (.iastore, 1) := by decide +kernel
theorem dX9_init_46 : decode cX9_init 46 = .ok (.putfield 23, 3) := by decide +kernel
theorem dX9_init_49 : decode cX9_init 49 = .ok (.aload_n 0, 1) := by decide +kernel
theorem dX9_init_50 : decode cX9_init 50 = .ok (.sipush 20000, 3) := by decide +kernel
theorem dX9_init_53 : decode cX9_init 53 = .ok (.newarray .int, 2) := by decide +kernel
theorem dX9_init_55 : decode cX9_init 55 = .ok (.putfield 26, 3) := by decide +kernel
theorem dX9_init_58 : decode cX9_init 58 = .ok (.aload_n 0, 1) := by decide +kernel
theorem dX9_init_59 : decode cX9_init 59 = .ok (.sipush 384, 3) := by decide +kernel
theorem dX9_init_62 : decode cX9_init 62 = .ok (.newarray .int, 2) := by decide +kernel
theorem dX9_init_64 : decode cX9_init 64 = .ok (.putfield 29, 3) := by decide +kernel
theorem dX9_init_67 : decode cX9_init 67 = .ok (.aload_n 0, 1) := by decide +kernel
theorem dX9_init_68 : decode cX9_init 68 = .ok (.sipush 384, 3) := by decide +kernel
theorem dX9_init_71 : decode cX9_init 71 = .ok (.newarray .int, 2) := by decide +kernel
theorem dX9_init_73 : decode cX9_init 73 = .ok (.putfield 32, 3) := by decide +kernel
theorem dX9_init_76 : decode cX9_init 76 = .ok (.aload_n 0, 1) := by decide +kernel
theorem dX9_init_77 : decode cX9_init 77 = .ok (.sipush 384, 3) := by decide +kernel
theorem dX9_init_80 : decode cX9_init 80 = .ok (.newarray .int, 2) := by decide +kernel
theorem dX9_init_82 : decode cX9_init 82 = .ok (.putfield 35, 3) := by decide +kernel
theorem dX9_init_85 : decode cX9_init 85 = .ok (.aload_n 0, 1) := by decide +kernel
theorem dX9_init_86 : decode cX9_init 86 = .ok (.sipush 384, 3) := by decide +kernel
theorem dX9_init_89 : decode cX9_init 89 = .ok (.newarray .int, 2) := by decide +kernel
theorem dX9_init_91 : decode cX9_init 91 = .ok (.putfield 38, 3) := by decide +kernel
theorem dX9_init_94 : decode cX9_init 94 = .ok (.aload_n 0, 1) := by decide +kernel
theorem dX9_init_95 : decode cX9_init 95 = .ok (.iconst 3, 1) := by decide +kernel
theorem dX9_init_96 : decode cX9_init 96 = .ok (.newarray .int, 2) := by decide +kernel
theorem dX9_init_98 : decode cX9_init 98 = .ok (.putfield 41, 3) := by decide +kernel
theorem dX9_init_101 : decode cX9_init 101 = .ok (.aload_n 0, 1) := by decide +kernel
theorem dX9_init_102 : decode cX9_init 102 = .ok (.iconst 3, 1) := by decide +kernel
theorem dX9_init_103 : decode cX9_init 103 = .ok (.newarray .int, 2) := by decide +kernel
theorem dX9_init_105 : decode cX9_init 105 = .ok (.putfield 44, 3) := by decide +kernel
theorem dX9_init_108 : decode cX9_init 108 = .ok (.aload_n 0, 1) := by decide +kernel
theorem dX9_init_109 : decode cX9_init 109 = .ok (.sipush 1152, 3) := by decide +kernel
theorem dX9_init_112 : decode cX9_init 112 = .ok (.newarray .int, 2) := by decide +kernel
theorem dX9_init_114 : decode cX9_init 114 = .ok (.putfield 47, 3) := by decide +kernel
theorem dX9_init_117 : decode cX9_init 117 = .ok (.aload_n 0, 1) := by decide +kernel
theorem dX9_init_118 : decode cX9_init 118 = .ok (.sipush 1152, 3) := by decide +kernel
theorem dX9_init_121 : decode cX9_init 121 = .ok (.newarray .int, 2) := by decide +kernel
theorem dX9_init_123 : decode cX9_init 123 = .ok (.putfield 50, 3) := by decide +kernel
theorem dX9_init_126 : decode cX9_init 126 = .ok (.aload_n 0, 1) := by decide +kernel
theorem dX9_init_127 : decode cX9_init 127 = .ok (.sipush 1152, 3) := by decide +kernel
theorem dX9_init_130 : decode cX9_init 130 = .ok (.newarray .int, 2) := by decide +kernel
theorem dX9_init_132 : decode cX9_init 132 = .ok (.putfield 53, 3) := by decide +kernel
theorem dX9_init_135 : decode cX9_init 135 = .ok (.aload_n 0, 1) := by decide +kernel
theorem dX9_init_136 : decode cX9_init 136 = .ok (.sipush 1152, 3) := by decide +kernel
theorem dX9_init_139 : decode cX9_init 139 = .ok (.newarray .int, 2) := by decide +kernel
theorem dX9_init_141 : decode cX9_init 141 = .ok (.putfield 56, 3) := by decide +kernel
theorem dX9_init_144 : decode cX9_init 144 = .ok (.aload_n 0, 1) := by decide +kernel
theorem dX9_init_145 : decode cX9_init 145 = .ok (.iconst 3, 1) := by decide +kernel
theorem dX9_init_146 : decode cX9_init 146 = .ok (.newarray .int, 2) := by decide +kernel
theorem dX9_init_148 : decode cX9_init 148 = .ok (.putfield 59, 3) := by decide +kernel
theorem dX9_init_151 : decode cX9_init 151 = .ok (.aload_n 0, 1) := by decide +kernel
theorem dX9_init_152 : decode cX9_init 152 = .ok (.bipush 9, 2) := by decide +kernel
theorem dX9_init_154 : decode cX9_init 154 = .ok (.newarray .int, 2) := by decide +kernel
theorem dX9_init_156 : decode cX9_init 156 = .ok (.putfield 62, 3) := by decide +kernel
theorem dX9_init_159 : decode cX9_init 159 = .ok (.aload_n 0, 1) := by decide +kernel
theorem dX9_init_160 : decode cX9_init 160 = .ok (.bipush 64, 2) := by decide +kernel
theorem dX9_init_162 : decode cX9_init 162 = .ok (.newarray .int, 2) := by decide +kernel
theorem dX9_init_164 : decode cX9_init 164 = .ok (.putfield 65, 3) := by decide +kernel
theorem dX9_init_167 : decode cX9_init 167 = .ok (.aload_n 0, 1) := by decide +kernel
theorem dX9_init_168 : decode cX9_init 168 = .ok (.bipush 8, 2) := by decide +kernel
theorem dX9_init_170 : decode cX9_init 170 = .ok (.newarray .int, 2) := by decide +kernel
theorem dX9_init_172 : decode cX9_init 172 = .ok (.putfield 68, 3) := by decide +kernel
theorem dX9_init_175 : decode cX9_init 175 = .ok (.aload_n 0, 1) := by decide +kernel
theorem dX9_init_176 : decode cX9_init 176 = .ok (.bipush 64, 2) := by decide +kernel
theorem dX9_init_178 : decode cX9_init 178 = .ok (.newarray .int, 2) := by decide +kernel
theorem dX9_init_180 : decode cX9_init 180 = .ok (.putfield 71, 3) := by decide +kernel
theorem dX9_init_183 : decode cX9_init 183 = .ok (.aload_n 0, 1) := by decide +kernel
theorem dX9_init_184 : decode cX9_init 184 = .ok (.bipush 64, 2) := by decide +kernel
theorem dX9_init_186 : decode cX9_init 186 = .ok (.newarray .int, 2) := by decide +kernel
theorem dX9_init_188 : decode cX9_init 188 = .ok (.putfield 74, 3) := by decide +kernel
theorem dX9_init_191 : decode cX9_init 191 = .ok (.aload_n 0, 1) := by decide +kernel
theorem dX9_init_192 : decode cX9_init 192 = .ok (.bipush 40, 2) := by decide +kernel
theorem dX9_init_194 : decode cX9_init 194 = .ok (.newarray .int, 2) := by decide +kernel
theorem dX9_init_196 : decode cX9_init 196 = .ok (.putfield 77, 3) := by decide +kernel
theorem dX9_init_199 : decode cX9_init 199 = .ok (.return_, 1) := by decide +kernel
theorem dX9_thrown_0 : decode cX9_thrown 0 = .ok (.aload_n 0, 1) := by decide +kernel
theorem dX9_thrown_1 : decode cX9_thrown 1 = .ok (.getfield 80, 3) := by decide +kernel
theorem dX9_thrown_4 : decode cX9_thrown 4 = .ok (.ireturn, 1) := by decide +kernel
theorem dX9_fail_0 : decode cX9_fail 0 = .ok (.aload_n 0, 1) := by decide +kernel
theorem dX9_fail_1 : decode cX9_fail 1 = .ok (.iload_n 1, 1) := by decide +kernel
theorem dX9_fail_2 : decode cX9_fail 2 = .ok (.putfield 80, 3) := by decide +kernel
theorem dX9_fail_5 : decode cX9_fail 5 = .ok (.iconst 0, 1) := by decide +kernel
theorem dX9_fail_6 : decode cX9_fail 6 = .ok (.ireturn, 1) := by decide +kernel
theorem dX9_isIn_0 : decode cX9_isIn 0 = .ok (.iload_n 0, 1) := by decide +kernel
theorem dX9_isIn_1 : decode cX9_isIn 1 = .ok (.iload_n 1, 1) := by decide +kernel
theorem dX9_isIn_2 : decode cX9_isIn 2 = .ok (.if_icmp .lt 12, 3) := by decide +kernel
theorem dX9_isIn_5 : decode cX9_isIn 5 = .ok (.iload_n 0, 1) := by decide +kernel
theorem dX9_isIn_6 : decode cX9_isIn 6 = .ok (.iload_n 2, 1) := by decide +kernel
theorem dX9_isIn_7 : decode cX9_isIn 7 = .ok (.if_icmp .gt 7, 3) := by decide +kernel
theorem dX9_isIn_10 : decode cX9_isIn 10 = .ok (.iconst 1, 1) := by decide +kernel
theorem dX9_isIn_11 : decode cX9_isIn 11 = .ok (.goto 4, 3) := by decide +kernel
theorem dX9_isIn_14 : decode cX9_isIn 14 = .ok (.iconst 0, 1) := by decide +kernel
theorem dX9_isIn_15 : decode cX9_isIn 15 = .ok (.ireturn, 1) := by decide +kernel
theorem dX9_resize_0 : decode cX9_resize 0 = .ok (.iload_n 1, 1) := by decide +kernel
theorem dX9_resize_1 : decode cX9_resize 1 = .ok (.iconst 1, 1) := by decide +kernel
theorem dX9_resize_2 : decode cX9_resize 2 = .ok (.bipush 16, 2) := by decide +kernel
theorem dX9_resize_4 : decode cX9_resize 4 = .ok (.invokestatic 83, 3) := by decide +kernel
theorem dX9_resize_7 : decode cX9_resize 7 = .ok (.ifCond .eq 13, 3) := by decide +kernel
theorem dX9_resize_10 : decode cX9_resize 10 = .ok (.iload_n 2, 1) := by decide +kernel
theorem dX9_resize_11 : decode cX9_resize 11 = .ok (.iconst 1, 1) := by decide +kernel
theorem dX9_resize_12 : decode cX9_resize 12 = .ok (.bipush 24, 2) := by decide +kernel
theorem dX9_resize_14 : decode cX9_resize 14 = .ok (.invokestatic 83, 3) := by decide +kernel
theorem dX9_resize_17 : decode cX9_resize 17 = .ok (.ifCond .ne 9, 3) := by decide +kernel
theorem dX9_resize_20 : decode cX9_resize 20 = .ok (.aload_n 0, 1) := by decide +kernel
theorem dX9_resize_21 : decode cX9_resize 21 = .ok (.iconst 1, 1) := by decide +kernel
theorem dX9_resize_22 : decode cX9_resize 22 = .ok (.invokevirtual 87, 3) := by decide +kernel
theorem dX9_resize_25 : decode cX9_resize 25 = .ok (.ireturn, 1) := by decide +kernel
theorem dX9_resize_26 : decode cX9_resize 26 = .ok (.aload_n 0, 1) := by decide +kernel
theorem dX9_resize_27 : decode cX9_resize 27 = .ok (.iconst 0, 1) := by decide +kernel
theorem dX9_resize_28 : decode cX9_resize 28 = .ok (.putfield 80, 3) := by decide +kernel
theorem dX9_resize_31 : decode cX9_resize 31 = .ok (.aload_n 0, 1) := by decide +kernel
theorem dX9_resize_32 : decode cX9_resize 32 = .ok (.iload_n 1, 1) := by decide +kernel
theorem dX9_resize_33 : decode cX9_resize 33 = .ok (.putfield 7, 3) := by decide +kernel
theorem dX9_resize_36 : decode cX9_resize 36 = .ok (.aload_n 0, 1) := by decide +kernel
theorem dX9_resize_37 : decode cX9_resize 37 = .ok (.iload_n 2, 1) := by decide +kernel
theorem dX9_resize_38 : decode cX9_resize 38 = .ok (.putfield 13, 3) := by decide +kernel
theorem dX9_resize_41 : decode cX9_resize 41 = .ok (.iconst 0, 1) := by decide +kernel
theorem dX9_resize_42 : decode cX9_resize 42 = .ok (.istore_n 3, 1) := by decide +kernel
theorem dX9_resize_43 : decode cX9_resize 43 = .ok (.iload_n 3, 1) := by decide +kernel
theorem dX9_resize_44 : decode cX9_resize 44 = .ok (.sipush 384, 3) := by decide +kernel
theorem dX9_resize_47 : decode cX9_resize 47 = .ok (.if_icmp .ge 16, 3) := by decide +kernel
theorem dX9_resize_50 : decode cX9_resize 50 = .ok (.aload_n 0, 1) := by decide +kernel
theorem dX9_resize_51 : decode cX9_resize 51 = .ok (.getfield 19, 3) := by decide +kernel
theorem dX9_resize_54 : decode cX9_resize 54 = .ok (.iload_n 3, 1) := by decide +kernel
theorem dX9_resize_55 : decode cX9_resize 55 = .ok (.iconst 0, 1) := by decide +kernel
theorem dX9_resize_56 : decode cX9_resize 56 = .ok (.iastore, 1) := by decide +kernel
theorem dX9_resize_57 : decode cX9_resize 57 = .ok (.iinc 3 1, 3) := by decide +kernel
theorem dX9_resize_60 : decode cX9_resize 60 = .ok (.goto (-17), 3) := by decide +kernel
theorem dX9_resize_63 : decode cX9_resize 63 = .ok (.aload_n 0, 1) := by decide +kernel
theorem dX9_resize_64 : decode cX9_resize 64 = .ok (.getfield 7, 3) := by decide +kernel
theorem dX9_resize_67 : decode cX9_resize 67 = .ok (.aload_n 0, 1) := by decide +kernel
theorem dX9_resize_68 : decode cX9_resize 68 = .ok (.getfield 13, 3) := by decide +kernel
theorem dX9_resize_71 : decode cX9_resize 71 = .ok (.imul, 1) := by decide +kernel
theorem dX9_resize_72 : decode cX9_resize 72 = .ok (.ireturn, 1) := by decide +kernel
theorem dX9_isPixel_0 : decode cX9_isPixel 0 = .ok (.iload_n 1, 1) := by decide +kernel
theorem dX9_isPixel_1 : decode cX9_isPixel 1 = .ok (.iconst 0, 1) := by decide +kernel
theorem dX9_isPixel_2 : decode cX9_isPixel 2 = .ok (.aload_n 0, 1) := by decide +kernel
theorem dX9_isPixel_3 : decode cX9_isPixel 3 = .ok (.getfield 7, 3) := by decide +kernel
theorem dX9_isPixel_6 : decode cX9_isPixel 6 = .ok (.iconst 1, 1) := by decide +kernel
theorem dX9_isPixel_7 : decode cX9_isPixel 7 = .ok (.isub, 1) := by decide +kernel
theorem dX9_isPixel_8 : decode cX9_isPixel 8 = .ok (.invokestatic 83, 3) := by decide +kernel
theorem dX9_isPixel_11 : decode cX9_isPixel 11 = .ok (.ifCond .eq 21, 3) := by decide +kernel
theorem dX9_isPixel_14 : decode cX9_isPixel 14 = .ok (.iload_n 2, 1) := by decide +kernel
theorem dX9_isPixel_15 : decode cX9_isPixel 15 = .ok (.iconst 0, 1) := by decide +kernel
theorem dX9_isPixel_16 : decode cX9_isPixel 16 = .ok (.aload_n 0, 1) := by decide +kernel
theorem dX9_isPixel_17 : decode cX9_isPixel 17 = .ok (.getfield 13, 3) := by decide +kernel
theorem dX9_isPixel_20 : decode cX9_isPixel 20 = .ok (.iconst 1, 1) := by decide +kernel
theorem dX9_isPixel_21 : decode cX9_isPixel 21 = .ok (.isub, 1) := by decide +kernel
theorem dX9_isPixel_22 : decode cX9_isPixel 22 = .ok (.invokestatic 83, 3) := by decide +kernel
theorem dX9_isPixel_25 : decode cX9_isPixel 25 = .ok (.ifCond .eq 7, 3) := by decide +kernel
theorem dX9_isPixel_28 : decode cX9_isPixel 28 = .ok (.iconst 1, 1) := by decide +kernel
theorem dX9_isPixel_29 : decode cX9_isPixel 29 = .ok (.goto 4, 3) := by decide +kernel
theorem dX9_isPixel_32 : decode cX9_isPixel 32 = .ok (.iconst 0, 1) := by decide +kernel
theorem dX9_isPixel_33 : decode cX9_isPixel 33 = .ok (.ireturn, 1) := by decide +kernel
theorem dX9_set_0 : decode cX9_set 0 = .ok (.aload_n 0, 1) := by decide +kernel
theorem dX9_set_1 : decode cX9_set 1 = .ok (.iload_n 1, 1) := by decide +kernel
theorem dX9_set_2 : decode cX9_set 2 = .ok (.iload_n 2, 1) := by decide +kernel
theorem dX9_set_3 : decode cX9_set 3 = .ok (.invokevirtual 91, 3) := by decide +kernel
theorem dX9_set_6 : decode cX9_set 6 = .ok (.ifCond .ne 9, 3) := by decide +kernel
theorem dX9_set_9 : decode cX9_set 9 = .ok (.aload_n 0, 1) := by decide +kernel
theorem dX9_set_10 : decode cX9_set 10 = .ok (.iconst 1, 1) := by decide +kernel
theorem dX9_set_11 : decode cX9_set 11 = .ok (.invokevirtual 87, 3) := by decide +kernel
theorem dX9_set_14 : decode cX9_set 14 = .ok (.ireturn, 1) := by decide +kernel
theorem dX9_set_15 : decode cX9_set 15 = .ok (.iload_n 3, 1) := by decide +kernel
theorem dX9_set_16 : decode cX9_set 16 = .ok (.iconst 0, 1) := by decide +kernel
theorem dX9_set_17 : decode cX9_set 17 = .ok (.sipush 255, 3) := by decide +kernel
theorem dX9_set_20 : decode cX9_set 20 = .ok (.invokestatic 83, 3) := by decide +kernel
theorem dX9_set_23 : decode cX9_set 23 = .ok (.ifCond .ne 9, 3) := by decide +kernel
theorem dX9_set_26 : decode cX9_set 26 = .ok (.aload_n 0, 1) := by decide +kernel
theorem dX9_set_27 : decode cX9_set 27 = .ok (.iconst 2, 1) := by decide +kernel
theorem dX9_set_28 : decode cX9_set 28 = .ok (.invokevirtual 87, 3) := by decide +kernel
theorem dX9_set_31 : decode cX9_set 31 = .ok (.ireturn, 1) := by decide +kernel
theorem dX9_set_32 : decode cX9_set 32 = .ok (.aload_n 0, 1) := by decide +kernel
theorem dX9_set_33 : decode cX9_set 33 = .ok (.iconst 0, 1) := by decide +kernel
theorem dX9_set_34 : decode cX9_set 34 = .ok (.putfield 80, 3) := by decide +kernel
theorem dX9_set_37 : decode cX9_set 37 = .ok (.aload_n 0, 1) := by decide +kernel
theorem dX9_set_38 : decode cX9_set 38 = .ok (.getfield 19, 3) := by decide +kernel
theorem dX9_set_41 : decode cX9_set 41 = .ok (.bipush 16, 2) := by decide +kernel
theorem dX9_set_43 : decode cX9_set 43 = .ok (.iload_n 2, 1) := by decide +kernel
theorem dX9_set_44 : decode cX9_set 44 = .ok (.imul, 1) := by decide +kernel
theorem dX9_set_45 : decode cX9_set 45 = .ok (.iload_n 1, 1) := by decide +kernel
theorem dX9_set_46 : decode cX9_set 46 = .ok (.iadd, 1) := by decide +kernel
theorem dX9_set_47 : decode cX9_set 47 = .ok (.iaload, 1) := by decide +kernel
theorem dX9_set_48 : decode cX9_set 48 = .ok (.istore 4, 2) := by decide +kernel
theorem dX9_set_50 : decode cX9_set 50 = .ok (.aload_n 0, 1) := by decide +kernel
theorem dX9_set_51 : decode cX9_set 51 = .ok (.getfield 19, 3) := by decide +kernel
theorem dX9_set_54 : decode cX9_set 54 = .ok (.bipush 16, 2) := by decide +kernel
theorem dX9_set_56 : decode cX9_set 56 = .ok (.iload_n 2, 1) := by decide +kernel
theorem dX9_set_57 : decode cX9_set 57 = .ok (.imul, 1) := by decide +kernel
theorem dX9_set_58 : decode cX9_set 58 = .ok (.iload_n 1, 1) := by decide +kernel
theorem dX9_set_59 : decode cX9_set 59 = .ok (.iadd, 1) := by decide +kernel
theorem dX9_set_60 : decode cX9_set 60 = .ok (.iload_n 3, 1) := by decide +kernel
theorem dX9_set_61 : decode cX9_set 61 = .ok (.iastore, 1) := by decide +kernel
theorem dX9_set_62 : decode cX9_set 62 = .ok (.iload 4, 2) := by decide +kernel
theorem dX9_set_64 : decode cX9_set 64 = .ok (.ireturn, 1) := by decide +kernel
theorem dX9_fill_0 : decode cX9_fill 0 = .ok (.aload_n 0, 1) := by decide +kernel
theorem dX9_fill_1 : decode cX9_fill 1 = .ok (.iload_n 1, 1) := by decide +kernel
theorem dX9_fill_2 : decode cX9_fill 2 = .ok (.iload_n 2, 1) := by decide +kernel
theorem dX9_fill_3 : decode cX9_fill 3 = .ok (.invokevirtual 91, 3) := by decide +kernel
theorem dX9_fill_6 : decode cX9_fill 6 = .ok (.ifCond .ne 9, 3) := by decide +kernel
theorem dX9_fill_9 : decode cX9_fill 9 = .ok (.aload_n 0, 1) := by decide +kernel
theorem dX9_fill_10 : decode cX9_fill 10 = .ok (.iconst 1, 1) := by decide +kernel
theorem dX9_fill_11 : decode cX9_fill 11 = .ok (.invokevirtual 87, 3) := by decide +kernel
theorem dX9_fill_14 : decode cX9_fill 14 = .ok (.ireturn, 1) := by decide +kernel
theorem dX9_fill_15 : decode cX9_fill 15 = .ok (.iload 5, 2) := by decide +kernel
theorem dX9_fill_17 : decode cX9_fill 17 = .ok (.iconst 0, 1) := by decide +kernel
theorem dX9_fill_18 : decode cX9_fill 18 = .ok (.sipush 255, 3) := by decide +kernel
theorem dX9_fill_21 : decode cX9_fill 21 = .ok (.invokestatic 83, 3) := by decide +kernel
theorem dX9_fill_24 : decode cX9_fill 24 = .ok (.ifCond .eq 32, 3) := by decide +kernel
theorem dX9_fill_27 : decode cX9_fill 27 = .ok (.iload_n 3, 1) := by decide +kernel
theorem dX9_fill_28 : decode cX9_fill 28 = .ok (.iconst 1, 1) := by decide +kernel
theorem dX9_fill_29 : decode cX9_fill 29 = .ok (.aload_n 0, 1) := by decide +kernel
theorem dX9_fill_30 : decode cX9_fill 30 = .ok (.getfield 7, 3) := by decide +kernel
theorem dX9_fill_33 : decode cX9_fill 33 = .ok (.iload_n 1, 1) := by decide +kernel
theorem dX9_fill_34 : decode cX9_fill 34 = .ok (.isub, 1) := by decide +kernel
theorem dX9_fill_35 : decode cX9_fill 35 = .ok (.invokestatic 83, 3) := by decide +kernel
theorem dX9_fill_38 : decode cX9_fill 38 = .ok (.ifCond .eq 18, 3) := by decide +kernel
theorem dX9_fill_41 : decode cX9_fill 41 = .ok (.iload 4, 2) := by decide +kernel
theorem dX9_fill_43 : decode cX9_fill 43 = .ok (.iconst 1, 1) := by decide +kernel
theorem dX9_fill_44 : decode cX9_fill 44 = .ok (.aload_n 0, 1) := by decide +kernel
theorem dX9_fill_45 : decode cX9_fill 45 = .ok (.getfield 13, 3) := by decide +kernel
theorem dX9_fill_48 : decode cX9_fill 48 = .ok (.iload_n 2, 1) := by decide +kernel
theorem dX9_fill_49 : decode cX9_fill 49 = .ok (.isub, 1) := by decide +kernel
theorem dX9_fill_50 : decode cX9_fill 50 = .ok (.invokestatic 83, 3) := by decide +kernel
theorem dX9_fill_53 : decode cX9_fill 53 = .ok (.ifCond .ne 9, 3) := by decide +kernel
theorem dX9_fill_56 : decode cX9_fill 56 = .ok (.aload_n 0, 1) := by decide +kernel
theorem dX9_fill_57 : decode cX9_fill 57 = .ok (.iconst 2, 1) := by decide +kernel
theorem dX9_fill_58 : decode cX9_fill 58 = .ok (.invokevirtual 87, 3) := by decide +kernel
theorem dX9_fill_61 : decode cX9_fill 61 = .ok (.ireturn, 1) := by decide +kernel
theorem dX9_fill_62 : decode cX9_fill 62 = .ok (.aload_n 0, 1) := by decide +kernel
theorem dX9_fill_63 : decode cX9_fill 63 = .ok (.iconst 0, 1) := by decide +kernel
theorem dX9_fill_64 : decode cX9_fill 64 = .ok (.putfield 80, 3) := by decide +kernel
theorem dX9_fill_67 : decode cX9_fill 67 = .ok (.iload_n 2, 1) := by decide +kernel
theorem dX9_fill_68 : decode cX9_fill 68 = .ok (.istore 6, 2) := by decide +kernel
theorem dX9_fill_70 : decode cX9_fill 70 = .ok (.iload 6, 2) := by decide +kernel
theorem dX9_fill_72 : decode cX9_fill 72 = .ok (.iload_n 2, 1) := by decide +kernel
theorem dX9_fill_73 : decode cX9_fill 73 = .ok (.iload 4, 2) := by decide +kernel
theorem dX9_fill_75 : decode cX9_fill 75 = .ok (.iadd, 1) := by decide +kernel
theorem dX9_fill_76 : decode cX9_fill 76 = .ok (.if_icmp .ge 41, 3) := by decide +kernel
theorem dX9_fill_79 : decode cX9_fill 79 = .ok (.iload_n 1, 1) := by decide +kernel
theorem dX9_fill_80 : decode cX9_fill 80 = .ok (.istore 7, 2) := by decide +kernel
theorem dX9_fill_82 : decode cX9_fill 82 = .ok (.iload 7, 2) := by decide +kernel
theorem dX9_fill_84 : decode cX9_fill 84 = .ok (.iload_n 1, 1) := by decide +kernel
theorem dX9_fill_85 : decode cX9_fill 85 = .ok (.iload_n 3, 1) := by decide +kernel
theorem dX9_fill_86 : decode cX9_fill 86 = .ok (.iadd, 1) := by decide +kernel
theorem dX9_fill_87 : decode cX9_fill 87 = .ok (.if_icmp .ge 24, 3) := by decide +kernel
theorem dX9_fill_90 : decode cX9_fill 90 = .ok (.aload_n 0, 1) := by decide +kernel
theorem dX9_fill_91 : decode cX9_fill 91 = .ok (.getfield 19, 3) := by decide +kernel
theorem dX9_fill_94 : decode cX9_fill 94 = .ok (.bipush 16, 2) := by decide +kernel
theorem dX9_fill_96 : decode cX9_fill 96 = .ok (.iload 6, 2) := by decide +kernel
theorem dX9_fill_98 : decode cX9_fill 98 = .ok (.imul, 1) := by decide +kernel
theorem dX9_fill_99 : decode cX9_fill 99 = .ok (.iload 7, 2) := by decide +kernel
theorem dX9_fill_101 : decode cX9_fill 101 = .ok (.iadd, 1) := by decide +kernel
theorem dX9_fill_102 : decode cX9_fill 102 = .ok (.iload 5, 2) := by decide +kernel
theorem dX9_fill_104 : decode cX9_fill 104 = .ok (.iastore, 1) := by decide +kernel
theorem dX9_fill_105 : decode cX9_fill 105 = .ok (.iinc 7 1, 3) := by decide +kernel
theorem dX9_fill_108 : decode cX9_fill 108 = .ok (.goto (-26), 3) := by decide +kernel
theorem dX9_fill_111 : decode cX9_fill 111 = .ok (.iinc 6 1, 3) := by decide +kernel
theorem dX9_fill_114 : decode cX9_fill 114 = .ok (.goto (-44), 3) := by decide +kernel
theorem dX9_fill_117 : decode cX9_fill 117 = .ok (.iload_n 3, 1) := by decide +kernel
theorem dX9_fill_118 : decode cX9_fill 118 = .ok (.iload 4, 2) := by decide +kernel
theorem dX9_fill_120 : decode cX9_fill 120 = .ok (.imul, 1) := by decide +kernel
theorem dX9_fill_121 : decode cX9_fill 121 = .ok (.ireturn, 1) := by decide +kernel
theorem dX9_ramp_0 : decode cX9_ramp 0 = .ok (.iload_n 1, 1) := by decide +kernel
theorem dX9_ramp_1 : decode cX9_ramp 1 = .ok (.iconst 0, 1) := by decide +kernel
theorem dX9_ramp_2 : decode cX9_ramp 2 = .ok (.sipush 255, 3) := by decide +kernel
theorem dX9_ramp_5 : decode cX9_ramp 5 = .ok (.invokestatic 83, 3) := by decide +kernel
theorem dX9_ramp_8 : decode cX9_ramp 8 = .ok (.ifCond .eq 25, 3) := by decide +kernel
theorem dX9_ramp_11 : decode cX9_ramp 11 = .ok (.iload_n 2, 1) := by decide +kernel
theorem dX9_ramp_12 : decode cX9_ramp 12 = .ok (.iconst 0, 1) := by decide +kernel
theorem dX9_ramp_13 : decode cX9_ramp 13 = .ok (.sipush 255, 3) := by decide +kernel
theorem dX9_ramp_16 : decode cX9_ramp 16 = .ok (.invokestatic 83, 3) := by decide +kernel
theorem dX9_ramp_19 : decode cX9_ramp 19 = .ok (.ifCond .eq 14, 3) := by decide +kernel
theorem dX9_ramp_22 : decode cX9_ramp 22 = .ok (.iload_n 3, 1) := by decide +kernel
theorem dX9_ramp_23 : decode cX9_ramp 23 = .ok (.iconst 0, 1) := by decide +kernel
theorem dX9_ramp_24 : decode cX9_ramp 24 = .ok (.sipush 255, 3) := by decide +kernel
theorem dX9_ramp_27 : decode cX9_ramp 27 = .ok (.invokestatic 83, 3) := by decide +kernel
theorem dX9_ramp_30 : decode cX9_ramp 30 = .ok (.ifCond .ne 9, 3) := by decide +kernel
theorem dX9_ramp_33 : decode cX9_ramp 33 = .ok (.aload_n 0, 1) := by decide +kernel
theorem dX9_ramp_34 : decode cX9_ramp 34 = .ok (.iconst 1, 1) := by decide +kernel
theorem dX9_ramp_35 : decode cX9_ramp 35 = .ok (.invokevirtual 87, 3) := by decide +kernel
theorem dX9_ramp_38 : decode cX9_ramp 38 = .ok (.ireturn, 1) := by decide +kernel
theorem dX9_ramp_39 : decode cX9_ramp 39 = .ok (.aload_n 0, 1) := by decide +kernel
theorem dX9_ramp_40 : decode cX9_ramp 40 = .ok (.iconst 0, 1) := by decide +kernel
theorem dX9_ramp_41 : decode cX9_ramp 41 = .ok (.putfield 80, 3) := by decide +kernel
theorem dX9_ramp_44 : decode cX9_ramp 44 = .ok (.iconst 0, 1) := by decide +kernel
theorem dX9_ramp_45 : decode cX9_ramp 45 = .ok (.istore 4, 2) := by decide +kernel
theorem dX9_ramp_47 : decode cX9_ramp 47 = .ok (.iload 4, 2) := by decide +kernel
theorem dX9_ramp_49 : decode cX9_ramp 49 = .ok (.aload_n 0, 1) := by decide +kernel
theorem dX9_ramp_50 : decode cX9_ramp 50 = .ok (.getfield 13, 3) := by decide +kernel
theorem dX9_ramp_53 : decode cX9_ramp 53 = .ok (.if_icmp .ge 55, 3) := by decide +kernel
theorem dX9_ramp_56 : decode cX9_ramp 56 = .ok (.iconst 0, 1) := by decide +kernel
theorem dX9_ramp_57 : decode cX9_ramp 57 = .ok (.istore 5, 2) := by decide +kernel
theorem dX9_ramp_59 : decode cX9_ramp 59 = .ok (.iload 5, 2) := by decide +kernel
theorem dX9_ramp_61 : decode cX9_ramp 61 = .ok (.aload_n 0, 1) := by decide +kernel
theorem dX9_ramp_62 : decode cX9_ramp 62 = .ok (.getfield 7, 3) := by decide +kernel
theorem dX9_ramp_65 : decode cX9_ramp 65 = .ok (.if_icmp .ge 37, 3) := by decide +kernel
theorem dX9_ramp_68 : decode cX9_ramp 68 = .ok (.aload_n 0, 1) := by decide +kernel
theorem dX9_ramp_69 : decode cX9_ramp 69 = .ok (.getfield 19, 3) := by decide +kernel
theorem dX9_ramp_72 : decode cX9_ramp 72 = .ok (.bipush 16, 2) := by decide +kernel
theorem dX9_ramp_74 : decode cX9_ramp 74 = .ok (.iload 4, 2) := by decide +kernel
theorem dX9_ramp_76 : decode cX9_ramp 76 = .ok (.imul, 1) := by decide +kernel
theorem dX9_ramp_77 : decode cX9_ramp 77 = .ok (.iload 5, 2) := by decide +kernel
theorem dX9_ramp_79 : decode cX9_ramp 79 = .ok (.iadd, 1) := by decide +kernel
theorem dX9_ramp_80 : decode cX9_ramp 80 = .ok (.iload_n 1, 1) := by decide +kernel
theorem dX9_ramp_81 : decode cX9_ramp 81 = .ok (.iload_n 2, 1) := by decide +kernel
theorem dX9_ramp_82 : decode cX9_ramp 82 = .ok (.iload 5, 2) := by decide +kernel
theorem dX9_ramp_84 : decode cX9_ramp 84 = .ok (.imul, 1) := by decide +kernel
theorem dX9_ramp_85 : decode cX9_ramp 85 = .ok (.iadd, 1) := by decide +kernel
theorem dX9_ramp_86 : decode cX9_ramp 86 = .ok (.iload_n 3, 1) := by decide +kernel
theorem dX9_ramp_87 : decode cX9_ramp 87 = .ok (.iload 4, 2) := by decide +kernel
theorem dX9_ramp_89 : decode cX9_ramp 89 = .ok (.imul, 1) := by decide +kernel
theorem dX9_ramp_90 : decode cX9_ramp 90 = .ok (.iadd, 1) := by decide +kernel
theorem dX9_ramp_91 : decode cX9_ramp 91 = .ok (.sipush 256, 3) := by decide +kernel
theorem dX9_ramp_94 : decode cX9_ramp 94 = .ok (.irem, 1) := by decide +kernel
theorem dX9_ramp_95 : decode cX9_ramp 95 = .ok (.iastore, 1) := by decide +kernel
theorem dX9_ramp_96 : decode cX9_ramp 96 = .ok (.iinc 5 1, 3) := by decide +kernel
theorem dX9_ramp_99 : decode cX9_ramp 99 = .ok (.goto (-40), 3) := by decide +kernel
theorem dX9_ramp_102 : decode cX9_ramp 102 = .ok (.iinc 4 1, 3) := by decide +kernel
theorem dX9_ramp_105 : decode cX9_ramp 105 = .ok (.goto (-58), 3) := by decide +kernel
theorem dX9_ramp_108 : decode cX9_ramp 108 = .ok (.aload_n 0, 1) := by decide +kernel
theorem dX9_ramp_109 : decode cX9_ramp 109 = .ok (.getfield 19, 3) := by decide +kernel
theorem dX9_ramp_112 : decode cX9_ramp 112 = .ok (.bipush 16, 2) := by decide +kernel
theorem dX9_ramp_114 : decode cX9_ramp 114 = .ok (.aload_n 0, 1) := by decide +kernel
theorem dX9_ramp_115 : decode cX9_ramp 115 = .ok (.getfield 13, 3) := by decide +kernel
theorem dX9_ramp_118 : decode cX9_ramp 118 = .ok (.iconst 1, 1) := by decide +kernel
theorem dX9_ramp_119 : decode cX9_ramp 119 = .ok (.isub, 1) := by decide +kernel
theorem dX9_ramp_120 : decode cX9_ramp 120 = .ok (.imul, 1) := by decide +kernel
theorem dX9_ramp_121 : decode cX9_ramp 121 = .ok (.aload_n 0, 1) := by decide +kernel
theorem dX9_ramp_122 : decode cX9_ramp 122 = .ok (.getfield 7, 3) := by decide +kernel
theorem dX9_ramp_125 : decode cX9_ramp 125 = .ok (.iadd, 1) := by decide +kernel
theorem dX9_ramp_126 : decode cX9_ramp 126 = .ok (.iconst 1, 1) := by decide +kernel
theorem dX9_ramp_127 : decode cX9_ramp 127 = .ok (.isub, 1) := by decide +kernel
theorem dX9_ramp_128 : decode cX9_ramp 128 = .ok (.iaload, 1) := by decide +kernel
theorem dX9_ramp_129 : decode cX9_ramp 129 = .ok (.ireturn, 1) := by decide +kernel
theorem dX9_pixel_0 : decode cX9_pixel 0 = .ok (.aload_n 0, 1) := by decide +kernel
theorem dX9_pixel_1 : decode cX9_pixel 1 = .ok (.iload_n 1, 1) := by decide +kernel
theorem dX9_pixel_2 : decode cX9_pixel 2 = .ok (.iload_n 2, 1) := by decide +kernel
theorem dX9_pixel_3 : decode cX9_pixel 3 = .ok (.invokevirtual 91, 3) := by decide +kernel
theorem dX9_pixel_6 : decode cX9_pixel 6 = .ok (.ifCond .ne 9, 3) := by decide +kernel
theorem dX9_pixel_9 : decode cX9_pixel 9 = .ok (.aload_n 0, 1) := by decide +kernel
theorem dX9_pixel_10 : decode cX9_pixel 10 = .ok (.iconst 1, 1) := by decide +kernel
theorem dX9_pixel_11 : decode cX9_pixel 11 = .ok (.invokevirtual 87, 3) := by decide +kernel
theorem dX9_pixel_14 : decode cX9_pixel 14 = .ok (.ireturn, 1) := by decide +kernel
theorem dX9_pixel_15 : decode cX9_pixel 15 = .ok (.aload_n 0, 1) := by decide +kernel
theorem dX9_pixel_16 : decode cX9_pixel 16 = .ok (.iconst 0, 1) := by decide +kernel
theorem dX9_pixel_17 : decode cX9_pixel 17 = .ok (.putfield 80, 3) := by decide +kernel
theorem dX9_pixel_20 : decode cX9_pixel 20 = .ok (.aload_n 0, 1) := by decide +kernel
theorem dX9_pixel_21 : decode cX9_pixel 21 = .ok (.getfield 19, 3) := by decide +kernel
theorem dX9_pixel_24 : decode cX9_pixel 24 = .ok (.bipush 16, 2) := by decide +kernel
theorem dX9_pixel_26 : decode cX9_pixel 26 = .ok (.iload_n 2, 1) := by decide +kernel
theorem dX9_pixel_27 : decode cX9_pixel 27 = .ok (.imul, 1) := by decide +kernel
theorem dX9_pixel_28 : decode cX9_pixel 28 = .ok (.iload_n 1, 1) := by decide +kernel
theorem dX9_pixel_29 : decode cX9_pixel 29 = .ok (.iadd, 1) := by decide +kernel
theorem dX9_pixel_30 : decode cX9_pixel 30 = .ok (.iaload, 1) := by decide +kernel
theorem dX9_pixel_31 : decode cX9_pixel 31 = .ok (.ireturn, 1) := by decide +kernel
theorem dX9_width_0 : decode cX9_width 0 = .ok (.aload_n 0, 1) := by decide +kernel
theorem dX9_width_1 : decode cX9_width 1 = .ok (.getfield 7, 3) := by decide +kernel
theorem dX9_width_4 : decode cX9_width 4 = .ok (.ireturn, 1) := by decide +kernel
theorem dX9_height_0 : decode cX9_height 0 = .ok (.aload_n 0, 1) := by decide +kernel
theorem dX9_height_1 : decode cX9_height 1 = .ok (.getfield 13, 3) := by decide +kernel
theorem dX9_height_4 : decode cX9_height 4 = .ok (.ireturn, 1) := by decide +kernel
theorem dX9_setSteps_0 : decode cX9_setSteps 0 = .ok (.iload_n 1, 1) := by decide +kernel
theorem dX9_setSteps_1 : decode cX9_setSteps 1 = .ok (.iconst 1, 1) := by decide +kernel
theorem dX9_setSteps_2 : decode cX9_setSteps 2 = .ok (.bipush 32, 2) := by decide +kernel
theorem dX9_setSteps_4 : decode cX9_setSteps 4 = .ok (.invokestatic 83, 3) := by decide +kernel
theorem dX9_setSteps_7 : decode cX9_setSteps 7 = .ok (.ifCond .eq 33, 3) := by decide +kernel
theorem dX9_setSteps_10 : decode cX9_setSteps 10 = .ok (.iload_n 2, 1) := by decide +kernel
theorem dX9_setSteps_11 : decode cX9_setSteps 11 = .ok (.iconst 0, 1) := by decide +kernel
theorem dX9_setSteps_12 : decode cX9_setSteps 12 = .ok (.iload_n 1, 1) := by decide +kernel
theorem dX9_setSteps_13 : decode cX9_setSteps 13 = .ok (.iconst 1, 1) := by decide +kernel
theorem dX9_setSteps_14 : decode cX9_setSteps 14 = .ok (.isub, 1) := by decide +kernel
theorem dX9_setSteps_15 : decode cX9_setSteps 15 = .ok (.invokestatic 83, 3) := by decide +kernel
theorem dX9_setSteps_18 : decode cX9_setSteps 18 = .ok (.ifCond .eq 22, 3) := by decide +kernel
theorem dX9_setSteps_21 : decode cX9_setSteps 21 = .ok (.iload_n 3, 1) := by decide +kernel
theorem dX9_setSteps_22 : decode cX9_setSteps 22 = .ok (.iconst 0, 1) := by decide +kernel
theorem dX9_setSteps_23 : decode cX9_setSteps 23 = .ok (.iload_n 2, 1) := by decide +kernel
theorem dX9_setSteps_24 : decode cX9_setSteps 24 = .ok (.ifCond .ne 7, 3) := by decide +kernel
theorem dX9_setSteps_27 : decode cX9_setSteps 27 = .ok (.iconst 0, 1) := by decide +kernel
theorem dX9_setSteps_28 : decode cX9_setSteps 28 = .ok (.goto 6, 3) := by decide +kernel
theorem dX9_setSteps_31 : decode cX9_setSteps 31 = .ok (.iload_n 2, 1) := by decide +kernel
theorem dX9_setSteps_32 : decode cX9_setSteps 32 = .ok (.iconst 1, 1) := by decide +kernel
theorem dX9_setSteps_33 : decode cX9_setSteps 33 = .ok (.isub, 1) := by decide +kernel
theorem dX9_setSteps_34 : decode cX9_setSteps 34 = .ok (.invokestatic 83, 3) := by decide +kernel
theorem dX9_setSteps_37 : decode cX9_setSteps 37 = .ok (.ifCond .ne 9, 3) := by decide +kernel
theorem dX9_setSteps_40 : decode cX9_setSteps 40 = .ok (.aload_n 0, 1) := by decide +kernel
theorem dX9_setSteps_41 : decode cX9_setSteps 41 = .ok (.iconst 1, 1) := by decide +kernel
theorem dX9_setSteps_42 : decode cX9_setSteps 42 = .ok (.invokevirtual 87, 3) := by decide +kernel
theorem dX9_setSteps_45 : decode cX9_setSteps 45 = .ok (.ireturn, 1) := by decide +kernel
theorem dX9_setSteps_46 : decode cX9_setSteps 46 = .ok (.aload_n 0, 1) := by decide +kernel
theorem dX9_setSteps_47 : decode cX9_setSteps 47 = .ok (.iconst 0, 1) := by decide +kernel
theorem dX9_setSteps_48 : decode cX9_setSteps 48 = .ok (.putfield 80, 3) := by decide +kernel
theorem dX9_setSteps_51 : decode cX9_setSteps 51 = .ok (.aload_n 0, 1) := by decide +kernel
theorem dX9_setSteps_52 : decode cX9_setSteps 52 = .ok (.getfield 23, 3) := by decide +kernel
theorem dX9_setSteps_55 : decode cX9_setSteps 55 = .ok (.iconst 0, 1) := by decide +kernel
theorem dX9_setSteps_56 : decode cX9_setSteps 56 = .ok (.iload_n 1, 1) := by decide +kernel
theorem dX9_setSteps_57 : decode cX9_setSteps 57 = .ok (.iastore, 1) := by decide +kernel
theorem dX9_setSteps_58 : decode cX9_setSteps 58 = .ok (.aload_n 0, 1) := by decide +kernel
theorem dX9_setSteps_59 : decode cX9_setSteps 59 = .ok (.getfield 23, 3) := by decide +kernel
theorem dX9_setSteps_62 : decode cX9_setSteps 62 = .ok (.iconst 1, 1) := by decide +kernel
theorem dX9_setSteps_63 : decode cX9_setSteps 63 = .ok (.iload_n 2, 1) := by decide +kernel
theorem dX9_setSteps_64 : decode cX9_setSteps 64 = .ok (.iastore, 1) := by decide +kernel
theorem dX9_setSteps_65 : decode cX9_setSteps 65 = .ok (.aload_n 0, 1) := by decide +kernel
theorem dX9_setSteps_66 : decode cX9_setSteps 66 = .ok (.getfield 23, 3) := by decide +kernel
theorem dX9_setSteps_69 : decode cX9_setSteps 69 = .ok (.iconst 2, 1) := by decide +kernel
theorem dX9_setSteps_70 : decode cX9_setSteps 70 = .ok (.iload_n 3, 1) := by decide +kernel
theorem dX9_setSteps_71 : decode cX9_setSteps 71 = .ok (.iastore, 1) := by decide +kernel
theorem dX9_setSteps_72 : decode cX9_setSteps 72 = .ok (.aload_n 0, 1) := by decide +kernel
theorem dX9_setSteps_73 : decode cX9_setSteps 73 = .ok (.iload_n 3, 1) := by decide +kernel
theorem dX9_setSteps_74 : decode cX9_setSteps 74 = .ok (.ifCond .le 7, 3) := by decide +kernel
theorem dX9_setSteps_77 : decode cX9_setSteps 77 = .ok (.iconst 3, 1) := by decide +kernel
theorem dX9_setSteps_78 : decode cX9_setSteps 78 = .ok (.goto 12, 3) := by decide +kernel
theorem dX9_setSteps_81 : decode cX9_setSteps 81 = .ok (.iload_n 2, 1) := by decide +kernel
theorem dX9_setSteps_82 : decode cX9_setSteps 82 = .ok (.ifCond .le 7, 3) := by decide +kernel
theorem dX9_setSteps_85 : decode cX9_setSteps 85 = .ok (.iconst 2, 1) := by decide +kernel
theorem dX9_setSteps_86 : decode cX9_setSteps 86 = .ok (.goto 4, 3) := by decide +kernel
theorem dX9_setSteps_89 : decode cX9_setSteps 89 = .ok (.iconst 1, 1) := by decide +kernel
theorem dX9_setSteps_90 : decode cX9_setSteps 90 = .ok (.putfield 16, 3) := by decide +kernel
theorem dX9_setSteps_93 : decode cX9_setSteps 93 = .ok (.aload_n 0, 1) := by decide +kernel
theorem dX9_setSteps_94 : decode cX9_setSteps 94 = .ok (.getfield 16, 3) := by decide +kernel
theorem dX9_setSteps_97 : decode cX9_setSteps 97 = .ok (.ireturn, 1) := by decide +kernel
theorem dX9_isLossless_0 : decode cX9_isLossless 0 = .ok (.aload_n 0, 1) := by decide +kernel
theorem dX9_isLossless_1 : decode cX9_isLossless 1 = .ok (.getfield 23, 3) := by decide +kernel
theorem dX9_isLossless_4 : decode cX9_isLossless 4 = .ok (.aload_n 0, 1) := by decide +kernel
theorem dX9_isLossless_5 : decode cX9_isLossless 5 = .ok (.getfield 16, 3) := by decide +kernel
theorem dX9_isLossless_8 : decode cX9_isLossless 8 = .ok (.iconst 1, 1) := by decide +kernel
theorem dX9_isLossless_9 : decode cX9_isLossless 9 = .ok (.isub, 1) := by decide +kernel
theorem dX9_isLossless_10 : decode cX9_isLossless 10 = .ok (.iaload, 1) := by decide +kernel
theorem dX9_isLossless_11 : decode cX9_isLossless 11 = .ok (.iconst 1, 1) := by decide +kernel
theorem dX9_isLossless_12 : decode cX9_isLossless 12 = .ok (.if_icmp .ne 7, 3) := by decide +kernel
theorem dX9_isLossless_15 : decode cX9_isLossless 15 = .ok (.iconst 1, 1) := by decide +kernel
theorem dX9_isLossless_16 : decode cX9_isLossless 16 = .ok (.goto 4, 3) := by decide +kernel
theorem dX9_isLossless_19 : decode cX9_isLossless 19 = .ok (.iconst 0, 1) := by decide +kernel
theorem dX9_isLossless_20 : decode cX9_isLossless 20 = .ok (.ireturn, 1) := by decide +kernel
theorem dX9_half_0 : decode cX9_half 0 = .ok (.iload_n 0, 1) := by decide +kernel
theorem dX9_half_1 : decode cX9_half 1 = .ok (.iconst 1, 1) := by decide +kernel
theorem dX9_half_2 : decode cX9_half 2 = .ok (.ishr, 1) := by decide +kernel
theorem dX9_half_3 : decode cX9_half 3 = .ok (.ireturn, 1) := by decide +kernel
theorem dX9_predicted_0 : decode cX9_predicted 0 = .ok (.iload_n 1, 1) := by decide +kernel
theorem dX9_predicted_1 : decode cX9_predicted 1 = .ok (.ifCond .ne 8, 3) := by decide +kernel
theorem dX9_predicted_4 : decode cX9_predicted 4 = .ok (.aload_n 0, 1) := by decide +kernel
theorem dX9_predicted_5 : decode cX9_predicted 5 = .ok (.getfield 95, 3) := by decide +kernel
theorem dX9_predicted_8 : decode cX9_predicted 8 = .ok (.ireturn, 1) := by decide +kernel
theorem dX9_predicted_9 : decode cX9_predicted 9 = .ok (.iload_n 1, 1) := by decide +kernel
theorem dX9_predicted_10 : decode cX9_predicted 10 = .ok (.iconst 1, 1) := by decide +kernel
theorem dX9_predicted_11 : decode cX9_predicted 11 = .ok (.if_icmp .ne 13, 3) := by decide +kernel
theorem dX9_predicted_14 : decode cX9_predicted 14 = .ok (.aload_n 0, 1) := by decide +kernel
theorem dX9_predicted_15 : decode cX9_predicted 15 = .ok (.iload_n 2, 1) := by decide +kernel
theorem dX9_predicted_16 : decode cX9_predicted 16 = .ok (.iload_n 3, 1) := by decide +kernel
theorem dX9_predicted_17 : decode cX9_predicted 17 = .ok (.iload 6, 2) := by decide +kernel
theorem dX9_predicted_19 : decode cX9_predicted 19 = .ok (.iadd, 1) := by decide +kernel
theorem dX9_predicted_20 : decode cX9_predicted 20 = .ok (.invokevirtual 98, 3) := by decide +kernel
theorem dX9_predicted_23 : decode cX9_predicted 23 = .ok (.ireturn, 1) := by decide +kernel
theorem dX9_predicted_24 : decode cX9_predicted 24 = .ok (.iload_n 1, 1) := by decide +kernel
theorem dX9_predicted_25 : decode cX9_predicted 25 = .ok (.iconst 2, 1) := by decide +kernel
theorem dX9_predicted_26 : decode cX9_predicted 26 = .ok (.if_icmp .ne 15, 3) := by decide +kernel
theorem dX9_predicted_29 : decode cX9_predicted 29 = .ok (.aload_n 0, 1) := by decide +kernel
theorem dX9_predicted_30 : decode cX9_predicted 30 = .ok (.iload_n 2, 1) := by decide +kernel
theorem dX9_predicted_31 : decode cX9_predicted 31 = .ok (.iload 5, 2) := by decide +kernel
theorem dX9_predicted_33 : decode cX9_predicted 33 = .ok (.iadd, 1) := by decide +kernel
theorem dX9_predicted_34 : decode cX9_predicted 34 = .ok (.iload_n 3, 1) := by decide +kernel
theorem dX9_predicted_35 : decode cX9_predicted 35 = .ok (.iload 4, 2) := by decide +kernel
theorem dX9_predicted_37 : decode cX9_predicted 37 = .ok (.invokevirtual 102, 3) := by decide +kernel
theorem dX9_predicted_40 : decode cX9_predicted 40 = .ok (.ireturn, 1) := by decide +kernel
theorem dX9_predicted_41 : decode cX9_predicted 41 = .ok (.aload_n 0, 1) := by decide +kernel
theorem dX9_predicted_42 : decode cX9_predicted 42 = .ok (.iload_n 2, 1) := by decide +kernel
theorem dX9_predicted_43 : decode cX9_predicted 43 = .ok (.iload_n 3, 1) := by decide +kernel
theorem dX9_predicted_44 : decode cX9_predicted 44 = .ok (.iload 6, 2) := by decide +kernel
theorem dX9_predicted_46 : decode cX9_predicted 46 = .ok (.iadd, 1) := by decide +kernel
theorem dX9_predicted_47 : decode cX9_predicted 47 = .ok (.invokevirtual 98, 3) := by decide +kernel
theorem dX9_predicted_50 : decode cX9_predicted 50 = .ok (.aload_n 0, 1) := by decide +kernel
theorem dX9_predicted_51 : decode cX9_predicted 51 = .ok (.iload_n 2, 1) := by decide +kernel
theorem dX9_predicted_52 : decode cX9_predicted 52 = .ok (.iload 5, 2) := by decide +kernel
theorem dX9_predicted_54 : decode cX9_predicted 54 = .ok (.iadd, 1) := by decide +kernel
theorem dX9_predicted_55 : decode cX9_predicted 55 = .ok (.iload_n 3, 1) := by decide +kernel
theorem dX9_predicted_56 : decode cX9_predicted 56 = .ok (.iload 4, 2) := by decide +kernel
theorem dX9_predicted_58 : decode cX9_predicted 58 = .ok (.invokevirtual 102, 3) := by decide +kernel
theorem dX9_predicted_61 : decode cX9_predicted 61 = .ok (.iadd, 1) := by decide +kernel
theorem dX9_predicted_62 : decode cX9_predicted 62 = .ok (.invokestatic 106, 3) := by decide +kernel
theorem dX9_predicted_65 : decode cX9_predicted 65 = .ok (.ireturn, 1) := by decide +kernel
theorem dX9_average_0 : decode cX9_average 0 = .ok (.iconst 0, 1) := by decide +kernel
theorem dX9_average_1 : decode cX9_average 1 = .ok (.istore 5, 2) := by decide +kernel
theorem dX9_average_3 : decode cX9_average 3 = .ok (.iconst 0, 1) := by decide +kernel
theorem dX9_average_4 : decode cX9_average 4 = .ok (.istore 6, 2) := by decide +kernel
theorem dX9_average_6 : decode cX9_average 6 = .ok (.iload 6, 2) := by decide +kernel
theorem dX9_average_8 : decode cX9_average 8 = .ok (.iload_n 3, 1) := by decide +kernel
theorem dX9_average_9 : decode cX9_average 9 = .ok (.if_icmp .ge 35, 3) := by decide +kernel
theorem dX9_average_12 : decode cX9_average 12 = .ok (.iload 5, 2) := by decide +kernel
theorem dX9_average_14 : decode cX9_average 14 = .ok (.aload_n 0, 1) := by decide +kernel
theorem dX9_average_15 : decode cX9_average 15 = .ok (.iload_n 1, 1) := by decide +kernel
theorem dX9_average_16 : decode cX9_average 16 = .ok (.iload_n 2, 1) := by decide +kernel
theorem dX9_average_17 : decode cX9_average 17 = .ok (.iload 6, 2) := by decide +kernel
theorem dX9_average_19 : decode cX9_average 19 = .ok (.iadd, 1) := by decide +kernel
theorem dX9_average_20 : decode cX9_average 20 = .ok (.invokevirtual 98, 3) := by decide +kernel
theorem dX9_average_23 : decode cX9_average 23 = .ok (.aload_n 0, 1) := by decide +kernel
theorem dX9_average_24 : decode cX9_average 24 = .ok (.iload_n 1, 1) := by decide +kernel
theorem dX9_average_25 : decode cX9_average 25 = .ok (.iload 6, 2) := by decide +kernel
theorem dX9_average_27 : decode cX9_average 27 = .ok (.iadd, 1) := by decide +kernel
theorem dX9_average_28 : decode cX9_average 28 = .ok (.iload_n 2, 1) := by decide +kernel
theorem dX9_average_29 : decode cX9_average 29 = .ok (.iload 4, 2) := by decide +kernel
theorem dX9_average_31 : decode cX9_average 31 = .ok (.invokevirtual 102, 3) := by decide +kernel
theorem dX9_average_34 : decode cX9_average 34 = .ok (.iadd, 1) := by decide +kernel
theorem dX9_average_35 : decode cX9_average 35 = .ok (.iadd, 1) := by decide +kernel
theorem dX9_average_36 : decode cX9_average 36 = .ok (.istore 5, 2) := by decide +kernel
theorem dX9_average_38 : decode cX9_average 38 = .ok (.iinc 6 1, 3) := by decide +kernel
theorem dX9_average_41 : decode cX9_average 41 = .ok (.goto (-35), 3) := by decide +kernel
theorem dX9_average_44 : decode cX9_average 44 = .ok (.aload_n 0, 1) := by decide +kernel
theorem dX9_average_45 : decode cX9_average 45 = .ok (.iload 5, 2) := by decide +kernel
theorem dX9_average_47 : decode cX9_average 47 = .ok (.iconst 2, 1) := by decide +kernel
theorem dX9_average_48 : decode cX9_average 48 = .ok (.iload_n 3, 1) := by decide +kernel
theorem dX9_average_49 : decode cX9_average 49 = .ok (.imul, 1) := by decide +kernel
theorem dX9_average_50 : decode cX9_average 50 = .ok (.invokestatic 109, 3) := by decide +kernel
theorem dX9_average_53 : decode cX9_average 53 = .ok (.putfield 95, 3) := by decide +kernel
theorem dX9_average_56 : decode cX9_average 56 = .ok (.return_, 1) := by decide +kernel
theorem dX9_left_0 : decode cX9_left 0 = .ok (.iload_n 1, 1) := by decide +kernel
theorem dX9_left_1 : decode cX9_left 1 = .ok (.ifCond .ne 7, 3) := by decide +kernel
theorem dX9_left_4 : decode cX9_left 4 = .ok (.iconst 0, 1) := by decide +kernel
theorem dX9_left_5 : decode cX9_left 5 = .ok (.goto 16, 3) := by decide +kernel
theorem dX9_left_8 : decode cX9_left 8 = .ok (.aload_n 0, 1) := by decide +kernel
theorem dX9_left_9 : decode cX9_left 9 = .ok (.getfield 32, 3) := by decide +kernel
theorem dX9_left_12 : decode cX9_left 12 = .ok (.bipush 16, 2) := by decide +kernel
theorem dX9_left_14 : decode cX9_left 14 = .ok (.iload_n 2, 1) := by decide +kernel
theorem dX9_left_15 : decode cX9_left 15 = .ok (.imul, 1) := by decide +kernel
theorem dX9_left_16 : decode cX9_left 16 = .ok (.iload_n 1, 1) := by decide +kernel
theorem dX9_left_17 : decode cX9_left 17 = .ok (.iadd, 1) := by decide +kernel
theorem dX9_left_18 : decode cX9_left 18 = .ok (.iconst 1, 1) := by decide +kernel
theorem dX9_left_19 : decode cX9_left 19 = .ok (.isub, 1) := by decide +kernel
theorem dX9_left_20 : decode cX9_left 20 = .ok (.iaload, 1) := by decide +kernel
theorem dX9_left_21 : decode cX9_left 21 = .ok (.ireturn, 1) := by decide +kernel
theorem dX9_above_0 : decode cX9_above 0 = .ok (.iload_n 2, 1) := by decide +kernel
theorem dX9_above_1 : decode cX9_above 1 = .ok (.iload_n 3, 1) := by decide +kernel
theorem dX9_above_2 : decode cX9_above 2 = .ok (.if_icmp .ne 7, 3) := by decide +kernel
theorem dX9_above_5 : decode cX9_above 5 = .ok (.iconst 0, 1) := by decide +kernel
theorem dX9_above_6 : decode cX9_above 6 = .ok (.goto 16, 3) := by decide +kernel
theorem dX9_above_9 : decode cX9_above 9 = .ok (.aload_n 0, 1) := by decide +kernel
theorem dX9_above_10 : decode cX9_above 10 = .ok (.getfield 32, 3) := by decide +kernel
theorem dX9_above_13 : decode cX9_above 13 = .ok (.bipush 16, 2) := by decide +kernel
theorem dX9_above_15 : decode cX9_above 15 = .ok (.iload_n 2, 1) := by decide +kernel
theorem dX9_above_16 : decode cX9_above 16 = .ok (.iconst 1, 1) := by decide +kernel
theorem dX9_above_17 : decode cX9_above 17 = .ok (.isub, 1) := by decide +kernel
theorem dX9_above_18 : decode cX9_above 18 = .ok (.imul, 1) := by decide +kernel
theorem dX9_above_19 : decode cX9_above 19 = .ok (.iload_n 1, 1) := by decide +kernel
theorem dX9_above_20 : decode cX9_above 20 = .ok (.iadd, 1) := by decide +kernel
theorem dX9_above_21 : decode cX9_above 21 = .ok (.iaload, 1) := by decide +kernel
theorem dX9_above_22 : decode cX9_above 22 = .ok (.ireturn, 1) := by decide +kernel
theorem dX9_split_0 : decode cX9_split 0 = .ok (.iconst 0, 1) := by decide +kernel
theorem dX9_split_1 : decode cX9_split 1 = .ok (.istore 4, 2) := by decide +kernel
theorem dX9_split_3 : decode cX9_split 3 = .ok (.iload 4, 2) := by decide +kernel
theorem dX9_split_5 : decode cX9_split 5 = .ok (.iload_n 3, 1) := by decide +kernel
theorem dX9_split_6 : decode cX9_split 6 = .ok (.iconst 2, 1) := by decide +kernel
theorem dX9_split_7 : decode cX9_split 7 = .ok (.idiv, 1) := by decide +kernel
theorem dX9_split_8 : decode cX9_split 8 = .ok (.if_icmp .ge 72, 3) := by decide +kernel
theorem dX9_split_11 : decode cX9_split 11 = .ok (.aload_n 0, 1) := by decide +kernel
theorem dX9_split_12 : decode cX9_split 12 = .ok (.getfield 65, 3) := by decide +kernel
theorem dX9_split_15 : decode cX9_split 15 = .ok (.iload_n 1, 1) := by decide +kernel
theorem dX9_split_16 : decode cX9_split 16 = .ok (.iconst 2, 1) := by decide +kernel
theorem dX9_split_17 : decode cX9_split 17 = .ok (.iload 4, 2) := by decide +kernel
theorem dX9_split_19 : decode cX9_split 19 = .ok (.imul, 1) := by decide +kernel
theorem dX9_split_20 : decode cX9_split 20 = .ok (.iload_n 2, 1) := by decide +kernel
theorem dX9_split_21 : decode cX9_split 21 = .ok (.imul, 1) := by decide +kernel
theorem dX9_split_22 : decode cX9_split 22 = .ok (.iadd, 1) := by decide +kernel
theorem dX9_split_23 : decode cX9_split 23 = .ok (.iaload, 1) := by decide +kernel
theorem dX9_split_24 : decode cX9_split 24 = .ok (.istore 5, 2) := by decide +kernel
theorem dX9_split_26 : decode cX9_split 26 = .ok (.aload_n 0, 1) := by decide +kernel
theorem dX9_split_27 : decode cX9_split 27 = .ok (.getfield 65, 3) := by decide +kernel
theorem dX9_split_30 : decode cX9_split 30 = .ok (.iload_n 1, 1) := by decide +kernel
theorem dX9_split_31 : decode cX9_split 31 = .ok (.iconst 2, 1) := by decide +kernel
theorem dX9_split_32 : decode cX9_split 32 = .ok (.iload 4, 2) := by decide +kernel
theorem dX9_split_34 : decode cX9_split 34 = .ok (.imul, 1) := by decide +kernel
theorem dX9_split_35 : decode cX9_split 35 = .ok (.iconst 1, 1) := by decide +kernel
theorem dX9_split_36 : decode cX9_split 36 = .ok (.iadd, 1) := by decide +kernel
theorem dX9_split_37 : decode cX9_split 37 = .ok (.iload_n 2, 1) := by decide +kernel
theorem dX9_split_38 : decode cX9_split 38 = .ok (.imul, 1) := by decide +kernel
theorem dX9_split_39 : decode cX9_split 39 = .ok (.iadd, 1) := by decide +kernel
theorem dX9_split_40 : decode cX9_split 40 = .ok (.iaload, 1) := by decide +kernel
theorem dX9_split_41 : decode cX9_split 41 = .ok (.istore 6, 2) := by decide +kernel
theorem dX9_split_43 : decode cX9_split 43 = .ok (.aload_n 0, 1) := by decide +kernel
theorem dX9_split_44 : decode cX9_split 44 = .ok (.getfield 68, 3) := by decide +kernel
theorem dX9_split_47 : decode cX9_split 47 = .ok (.iload 4, 2) := by decide +kernel
theorem dX9_split_49 : decode cX9_split 49 = .ok (.iload 5, 2) := by decide +kernel
theorem dX9_split_51 : decode cX9_split 51 = .ok (.iload 6, 2) := by decide +kernel
theorem dX9_split_53 : decode cX9_split 53 = .ok (.iadd, 1) := by decide +kernel
theorem dX9_split_54 : decode cX9_split 54 = .ok (.invokestatic 106, 3) := by decide +kernel
theorem dX9_split_57 : decode cX9_split 57 = .ok (.iastore, 1) := by decide +kernel
theorem dX9_split_58 : decode cX9_split 58 = .ok (.aload_n 0, 1) := by decide +kernel
theorem dX9_split_59 : decode cX9_split 59 = .ok (.getfield 68, 3) := by decide +kernel
theorem dX9_split_62 : decode cX9_split 62 = .ok (.iload_n 3, 1) := by decide +kernel
theorem dX9_split_63 : decode cX9_split 63 = .ok (.iconst 2, 1) := by decide +kernel
theorem dX9_split_64 : decode cX9_split 64 = .ok (.idiv, 1) := by decide +kernel
theorem dX9_split_65 : decode cX9_split 65 = .ok (.iload 4, 2) := by decide +kernel
theorem dX9_split_67 : decode cX9_split 67 = .ok (.iadd, 1) := by decide +kernel
theorem dX9_split_68 : decode cX9_split 68 = .ok (.iload 5, 2) := by decide +kernel
theorem dX9_split_70 : decode cX9_split 70 = .ok (.iload 6, 2) := by decide +kernel
theorem dX9_split_72 : decode cX9_split 72 = .ok (.isub, 1) := by decide +kernel
theorem dX9_split_73 : decode cX9_split 73 = .ok (.iastore, 1) := by decide +kernel
theorem dX9_split_74 : decode cX9_split 74 = .ok (.iinc 4 1, 3) := by decide +kernel
theorem dX9_split_77 : decode cX9_split 77 = .ok (.goto (-74), 3) := by decide +kernel
theorem dX9_split_80 : decode cX9_split 80 = .ok (.iconst 0, 1) := by decide +kernel
theorem dX9_split_81 : decode cX9_split 81 = .ok (.istore 4, 2) := by decide +kernel
theorem dX9_split_83 : decode cX9_split 83 = .ok (.iload 4, 2) := by decide +kernel
theorem dX9_split_85 : decode cX9_split 85 = .ok (.iload_n 3, 1) := by decide +kernel
theorem dX9_split_86 : decode cX9_split 86 = .ok (.if_icmp .ge 27, 3) := by decide +kernel
theorem dX9_split_89 : decode cX9_split 89 = .ok (.aload_n 0, 1) := by decide +kernel
theorem dX9_split_90 : decode cX9_split 90 = .ok (.getfield 65, 3) := by decide +kernel
theorem dX9_split_93 : decode cX9_split 93 = .ok (.iload_n 1, 1) := by decide +kernel
theorem dX9_split_94 : decode cX9_split 94 = .ok (.iload 4, 2) := by decide +kernel
theorem dX9_split_96 : decode cX9_split 96 = .ok (.iload_n 2, 1) := by decide +kernel
theorem dX9_split_97 : decode cX9_split 97 = .ok (.imul, 1) := by decide +kernel
theorem dX9_split_98 : decode cX9_split 98 = .ok (.iadd, 1) := by decide +kernel
theorem dX9_split_99 : decode cX9_split 99 = .ok (.aload_n 0, 1) := by decide +kernel
theorem dX9_split_100 : decode cX9_split 100 = .ok (.getfield 68, 3) := by decide +kernel
theorem dX9_split_103 : decode cX9_split 103 = .ok (.iload 4, 2) := by decide +kernel
theorem dX9_split_105 : decode cX9_split 105 = .ok (.iaload, 1) := by decide +kernel
theorem dX9_split_106 : decode cX9_split 106 = .ok (.iastore, 1) := by decide +kernel
theorem dX9_split_107 : decode cX9_split 107 = .ok (.iinc 4 1, 3) := by decide +kernel
theorem dX9_split_110 : decode cX9_split 110 = .ok (.goto (-27), 3) := by decide +kernel
theorem dX9_split_113 : decode cX9_split 113 = .ok (.return_, 1) := by decide +kernel
theorem dX9_join_0 : decode cX9_join 0 = .ok (.iconst 0, 1) := by decide +kernel
theorem dX9_join_1 : decode cX9_join 1 = .ok (.istore 4, 2) := by decide +kernel
theorem dX9_join_3 : decode cX9_join 3 = .ok (.iload 4, 2) := by decide +kernel
theorem dX9_join_5 : decode cX9_join 5 = .ok (.iload_n 3, 1) := by decide +kernel
theorem dX9_join_6 : decode cX9_join 6 = .ok (.iconst 2, 1) := by decide +kernel
theorem dX9_join_7 : decode cX9_join 7 = .ok (.idiv, 1) := by decide +kernel
theorem dX9_join_8 : decode cX9_join 8 = .ok (.if_icmp .ge 78, 3) := by decide +kernel
theorem dX9_join_11 : decode cX9_join 11 = .ok (.aload_n 0, 1) := by decide +kernel
theorem dX9_join_12 : decode cX9_join 12 = .ok (.getfield 65, 3) := by decide +kernel
theorem dX9_join_15 : decode cX9_join 15 = .ok (.iload_n 1, 1) := by decide +kernel
theorem dX9_join_16 : decode cX9_join 16 = .ok (.iload 4, 2) := by decide +kernel
theorem dX9_join_18 : decode cX9_join 18 = .ok (.iload_n 2, 1) := by decide +kernel
theorem dX9_join_19 : decode cX9_join 19 = .ok (.imul, 1) := by decide +kernel
theorem dX9_join_20 : decode cX9_join 20 = .ok (.iadd, 1) := by decide +kernel
theorem dX9_join_21 : decode cX9_join 21 = .ok (.iaload, 1) := by decide +kernel
theorem dX9_join_22 : decode cX9_join 22 = .ok (.istore 5, 2) := by decide +kernel
theorem dX9_join_24 : decode cX9_join 24 = .ok (.aload_n 0, 1) := by decide +kernel
theorem dX9_join_25 : decode cX9_join 25 = .ok (.getfield 65, 3) := by decide +kernel
theorem dX9_join_28 : decode cX9_join 28 = .ok (.iload_n 1, 1) := by decide +kernel
theorem dX9_join_29 : decode cX9_join 29 = .ok (.iload_n 3, 1) := by decide +kernel
theorem dX9_join_30 : decode cX9_join 30 = .ok (.iconst 2, 1) := by decide +kernel
theorem dX9_join_31 : decode cX9_join 31 = .ok (.idiv, 1) := by decide +kernel
theorem dX9_join_32 : decode cX9_join 32 = .ok (.iload 4, 2) := by decide +kernel
theorem dX9_join_34 : decode cX9_join 34 = .ok (.iadd, 1) := by decide +kernel
theorem dX9_join_35 : decode cX9_join 35 = .ok (.iload_n 2, 1) := by decide +kernel
theorem dX9_join_36 : decode cX9_join 36 = .ok (.imul, 1) := by decide +kernel
theorem dX9_join_37 : decode cX9_join 37 = .ok (.iadd, 1) := by decide +kernel
theorem dX9_join_38 : decode cX9_join 38 = .ok (.iaload, 1) := by decide +kernel
theorem dX9_join_39 : decode cX9_join 39 = .ok (.istore 6, 2) := by decide +kernel
theorem dX9_join_41 : decode cX9_join 41 = .ok (.iload 5, 2) := by decide +kernel
theorem dX9_join_43 : decode cX9_join 43 = .ok (.iload 6, 2) := by decide +kernel
theorem dX9_join_45 : decode cX9_join 45 = .ok (.iconst 1, 1) := by decide +kernel
theorem dX9_join_46 : decode cX9_join 46 = .ok (.iadd, 1) := by decide +kernel
theorem dX9_join_47 : decode cX9_join 47 = .ok (.invokestatic 106, 3) := by decide +kernel
theorem dX9_join_50 : decode cX9_join 50 = .ok (.iadd, 1) := by decide +kernel
theorem dX9_join_51 : decode cX9_join 51 = .ok (.istore 7, 2) := by decide +kernel
theorem dX9_join_53 : decode cX9_join 53 = .ok (.aload_n 0, 1) := by decide +kernel
theorem dX9_join_54 : decode cX9_join 54 = .ok (.getfield 68, 3) := by decide +kernel
theorem dX9_join_57 : decode cX9_join 57 = .ok (.iconst 2, 1) := by decide +kernel
theorem dX9_join_58 : decode cX9_join 58 = .ok (.iload 4, 2) := by decide +kernel
theorem dX9_join_60 : decode cX9_join 60 = .ok (.imul, 1) := by decide +kernel
theorem dX9_join_61 : decode cX9_join 61 = .ok (.iload 7, 2) := by decide +kernel
theorem dX9_join_63 : decode cX9_join 63 = .ok (.iastore, 1) := by decide +kernel
theorem dX9_join_64 : decode cX9_join 64 = .ok (.aload_n 0, 1) := by decide +kernel
theorem dX9_join_65 : decode cX9_join 65 = .ok (.getfield 68, 3) := by decide +kernel
theorem dX9_join_68 : decode cX9_join 68 = .ok (.iconst 2, 1) := by decide +kernel
theorem dX9_join_69 : decode cX9_join 69 = .ok (.iload 4, 2) := by decide +kernel
theorem dX9_join_71 : decode cX9_join 71 = .ok (.imul, 1) := by decide +kernel
theorem dX9_join_72 : decode cX9_join 72 = .ok (.iconst 1, 1) := by decide +kernel
theorem dX9_join_73 : decode cX9_join 73 = .ok (.iadd, 1) := by decide +kernel
theorem dX9_join_74 : decode cX9_join 74 = .ok (.iload 7, 2) := by decide +kernel
theorem dX9_join_76 : decode cX9_join 76 = .ok (.iload 6, 2) := by decide +kernel
theorem dX9_join_78 : decode cX9_join 78 = .ok (.isub, 1) := by decide +kernel
theorem dX9_join_79 : decode cX9_join 79 = .ok (.iastore, 1) := by decide +kernel
theorem dX9_join_80 : decode cX9_join 80 = .ok (.iinc 4 1, 3) := by decide +kernel
theorem dX9_join_83 : decode cX9_join 83 = .ok (.goto (-80), 3) := by decide +kernel
theorem dX9_join_86 : decode cX9_join 86 = .ok (.iconst 0, 1) := by decide +kernel
theorem dX9_join_87 : decode cX9_join 87 = .ok (.istore 4, 2) := by decide +kernel
theorem dX9_join_89 : decode cX9_join 89 = .ok (.iload 4, 2) := by decide +kernel
theorem dX9_join_91 : decode cX9_join 91 = .ok (.iload_n 3, 1) := by decide +kernel
theorem dX9_join_92 : decode cX9_join 92 = .ok (.if_icmp .ge 27, 3) := by decide +kernel
theorem dX9_join_95 : decode cX9_join 95 = .ok (.aload_n 0, 1) := by decide +kernel
theorem dX9_join_96 : decode cX9_join 96 = .ok (.getfield 65, 3) := by decide +kernel
theorem dX9_join_99 : decode cX9_join 99 = .ok (.iload_n 1, 1) := by decide +kernel
theorem dX9_join_100 : decode cX9_join 100 = .ok (.iload 4, 2) := by decide +kernel
theorem dX9_join_102 : decode cX9_join 102 = .ok (.iload_n 2, 1) := by decide +kernel
theorem dX9_join_103 : decode cX9_join 103 = .ok (.imul, 1) := by decide +kernel
theorem dX9_join_104 : decode cX9_join 104 = .ok (.iadd, 1) := by decide +kernel
theorem dX9_join_105 : decode cX9_join 105 = .ok (.aload_n 0, 1) := by decide +kernel
theorem dX9_join_106 : decode cX9_join 106 = .ok (.getfield 68, 3) := by decide +kernel
theorem dX9_join_109 : decode cX9_join 109 = .ok (.iload 4, 2) := by decide +kernel
theorem dX9_join_111 : decode cX9_join 111 = .ok (.iaload, 1) := by decide +kernel
theorem dX9_join_112 : decode cX9_join 112 = .ok (.iastore, 1) := by decide +kernel
theorem dX9_join_113 : decode cX9_join 113 = .ok (.iinc 4 1, 3) := by decide +kernel
theorem dX9_join_116 : decode cX9_join 116 = .ok (.goto (-27), 3) := by decide +kernel
theorem dX9_join_119 : decode cX9_join 119 = .ok (.return_, 1) := by decide +kernel
theorem dX9_rebuild_0 : decode cX9_rebuild 0 = .ok (.aload_n 0, 1) := by decide +kernel
theorem dX9_rebuild_1 : decode cX9_rebuild 1 = .ok (.iload_n 2, 1) := by decide +kernel
theorem dX9_rebuild_2 : decode cX9_rebuild 2 = .ok (.iload_n 3, 1) := by decide +kernel
theorem dX9_rebuild_3 : decode cX9_rebuild 3 = .ok (.iload 4, 2) := by decide +kernel
theorem dX9_rebuild_5 : decode cX9_rebuild 5 = .ok (.iload 5, 2) := by decide +kernel
theorem dX9_rebuild_7 : decode cX9_rebuild 7 = .ok (.invokevirtual 114, 3) := by decide +kernel
theorem dX9_rebuild_10 : decode cX9_rebuild 10 = .ok (.iconst 0, 1) := by decide +kernel
theorem dX9_rebuild_11 : decode cX9_rebuild 11 = .ok (.istore 7, 2) := by decide +kernel
theorem dX9_rebuild_13 : decode cX9_rebuild 13 = .ok (.iload 7, 2) := by decide +kernel
theorem dX9_rebuild_15 : decode cX9_rebuild 15 = .ok (.iload 4, 2) := by decide +kernel
theorem dX9_rebuild_17 : decode cX9_rebuild 17 = .ok (.iload 4, 2) := by decide +kernel
theorem dX9_rebuild_19 : decode cX9_rebuild 19 = .ok (.imul, 1) := by decide +kernel
theorem dX9_rebuild_20 : decode cX9_rebuild 20 = .ok (.if_icmp .ge 21, 3) := by decide +kernel
theorem dX9_rebuild_23 : decode cX9_rebuild 23 = .ok (.aload_n 0, 1) := by decide +kernel
theorem dX9_rebuild_24 : decode cX9_rebuild 24 = .ok (.getfield 65, 3) := by decide +kernel
theorem dX9_rebuild_27 : decode cX9_rebuild 27 = .ok (.iload 7, 2) := by decide +kernel
theorem dX9_rebuild_29 : decode cX9_rebuild 29 = .ok (.dup2, 1) := by decide +kernel
theorem dX9_rebuild_30 : decode cX9_rebuild 30 = .ok (.iaload, 1) := by decide +kernel
theorem dX9_rebuild_31 : decode cX9_rebuild 31 = .ok (.iload 6, 2) := by decide +kernel
theorem dX9_rebuild_33 : decode cX9_rebuild 33 = .ok (.imul, 1) := by decide +kernel
theorem dX9_rebuild_34 : decode cX9_rebuild 34 = .ok (.iastore, 1) := by decide +kernel
theorem dX9_rebuild_35 : decode cX9_rebuild 35 = .ok (.iinc 7 1, 3) := by decide +kernel
theorem dX9_rebuild_38 : decode cX9_rebuild 38 = .ok (.goto (-25), 3) := by decide +kernel
theorem dX9_rebuild_41 : decode cX9_rebuild 41 = .ok (.iconst 2, 1) := by decide +kernel
theorem dX9_rebuild_42 : decode cX9_rebuild 42 = .ok (.istore 7, 2) := by decide +kernel
theorem dX9_rebuild_44 : decode cX9_rebuild 44 = .ok (.iload 7, 2) := by decide +kernel
theorem dX9_rebuild_46 : decode cX9_rebuild 46 = .ok (.iload 4, 2) := by decide +kernel
theorem dX9_rebuild_48 : decode cX9_rebuild 48 = .ok (.if_icmp .gt 66, 3) := by decide +kernel
theorem dX9_rebuild_51 : decode cX9_rebuild 51 = .ok (.iconst 0, 1) := by decide +kernel
theorem dX9_rebuild_52 : decode cX9_rebuild 52 = .ok (.istore 8, 2) := by decide +kernel
theorem dX9_rebuild_54 : decode cX9_rebuild 54 = .ok (.iload 8, 2) := by decide +kernel
theorem dX9_rebuild_56 : decode cX9_rebuild 56 = .ok (.iload 7, 2) := by decide +kernel
theorem dX9_rebuild_58 : decode cX9_rebuild 58 = .ok (.if_icmp .ge 19, 3) := by decide +kernel
theorem dX9_rebuild_61 : decode cX9_rebuild 61 = .ok (.aload_n 0, 1) := by decide +kernel
theorem dX9_rebuild_62 : decode cX9_rebuild 62 = .ok (.iload 8, 2) := by decide +kernel
theorem dX9_rebuild_64 : decode cX9_rebuild 64 = .ok (.iload 4, 2) := by decide +kernel
theorem dX9_rebuild_66 : decode cX9_rebuild 66 = .ok (.iload 7, 2) := by decide +kernel
theorem dX9_rebuild_68 : decode cX9_rebuild 68 = .ok (.invokevirtual 118, 3) := by decide +kernel
theorem dX9_rebuild_71 : decode cX9_rebuild 71 = .ok (.iinc 8 1, 3) := by decide +kernel
theorem dX9_rebuild_74 : decode cX9_rebuild 74 = .ok (.goto (-20), 3) := by decide +kernel
theorem dX9_rebuild_77 : decode cX9_rebuild 77 = .ok (.iconst 0, 1) := by decide +kernel
theorem dX9_rebuild_78 : decode cX9_rebuild 78 = .ok (.istore 8, 2) := by decide +kernel
theorem dX9_rebuild_80 : decode cX9_rebuild 80 = .ok (.iload 8, 2) := by decide +kernel
theorem dX9_rebuild_82 : decode cX9_rebuild 82 = .ok (.iload 7, 2) := by decide +kernel
theorem dX9_rebuild_84 : decode cX9_rebuild 84 = .ok (.if_icmp .ge 21, 3) := by decide +kernel
theorem dX9_rebuild_87 : decode cX9_rebuild 87 = .ok (.aload_n 0, 1) := by decide +kernel
theorem dX9_rebuild_88 : decode cX9_rebuild 88 = .ok (.iload 4, 2) := by decide +kernel
theorem dX9_rebuild_90 : decode cX9_rebuild 90 = .ok (.iload 8, 2) := by decide +kernel
theorem dX9_rebuild_92 : decode cX9_rebuild 92 = .ok (.imul, 1) := by decide +kernel
theorem dX9_rebuild_93 : decode cX9_rebuild 93 = .ok (.iconst 1, 1) := by decide +kernel
theorem dX9_rebuild_94 : decode cX9_rebuild 94 = .ok (.iload 7, 2) := by decide +kernel
theorem dX9_rebuild_96 : decode cX9_rebuild 96 = .ok (.invokevirtual 118, 3) := by decide +kernel
theorem dX9_rebuild_99 : decode cX9_rebuild 99 = .ok (.iinc 8 1, 3) := by decide +kernel
theorem dX9_rebuild_102 : decode cX9_rebuild 102 = .ok (.goto (-22), 3) := by decide +kernel
theorem dX9_rebuild_105 : decode cX9_rebuild 105 = .ok (.iload 7, 2) := by decide +kernel
theorem dX9_rebuild_107 : decode cX9_rebuild 107 = .ok (.iconst 2, 1) := by decide +kernel
theorem dX9_rebuild_108 : decode cX9_rebuild 108 = .ok (.imul, 1) := by decide +kernel
theorem dX9_rebuild_109 : decode cX9_rebuild 109 = .ok (.istore 7, 2) := by decide +kernel
theorem dX9_rebuild_111 : decode cX9_rebuild 111 = .ok (.goto (-67), 3) := by decide +kernel
theorem dX9_rebuild_114 : decode cX9_rebuild 114 = .ok (.iconst 0, 1) := by decide +kernel
theorem dX9_rebuild_115 : decode cX9_rebuild 115 = .ok (.istore 7, 2) := by decide +kernel
theorem dX9_rebuild_117 : decode cX9_rebuild 117 = .ok (.iload 7, 2) := by decide +kernel
theorem dX9_rebuild_119 : decode cX9_rebuild 119 = .ok (.iload 4, 2) := by decide +kernel
theorem dX9_rebuild_121 : decode cX9_rebuild 121 = .ok (.if_icmp .ge 54, 3) := by decide +kernel
theorem dX9_rebuild_124 : decode cX9_rebuild 124 = .ok (.iconst 0, 1) := by decide +kernel
theorem dX9_rebuild_125 : decode cX9_rebuild 125 = .ok (.istore 8, 2) := by decide +kernel
theorem dX9_rebuild_127 : decode cX9_rebuild 127 = .ok (.iload 8, 2) := by decide +kernel
theorem dX9_rebuild_129 : decode cX9_rebuild 129 = .ok (.iload 4, 2) := by decide +kernel
theorem dX9_rebuild_131 : decode cX9_rebuild 131 = .ok (.if_icmp .ge 38, 3) := by decide +kernel
theorem dX9_rebuild_134 : decode cX9_rebuild 134 = .ok (.aload_n 0, 1) := by decide +kernel
theorem dX9_rebuild_135 : decode cX9_rebuild 135 = .ok (.getfield 65, 3) := by decide +kernel
theorem dX9_rebuild_138 : decode cX9_rebuild 138 = .ok (.iload 4, 2) := by decide +kernel
theorem dX9_rebuild_140 : decode cX9_rebuild 140 = .ok (.iload 7, 2) := by decide +kernel
theorem dX9_rebuild_142 : decode cX9_rebuild 142 = .ok (.imul, 1) := by decide +kernel
theorem dX9_rebuild_143 : decode cX9_rebuild 143 = .ok (.iload 8, 2) := by decide +kernel
theorem dX9_rebuild_145 : decode cX9_rebuild 145 = .ok (.iadd, 1) := by decide +kernel
theorem dX9_rebuild_146 : decode cX9_rebuild 146 = .ok (.dup2, 1) := by decide +kernel
theorem dX9_rebuild_147 : decode cX9_rebuild 147 = .ok (.iaload, 1) := by decide +kernel
theorem dX9_rebuild_148 : decode cX9_rebuild 148 = .ok (.aload_n 0, 1) := by decide +kernel
theorem dX9_rebuild_149 : decode cX9_rebuild 149 = .ok (.iload_n 1, 1) := by decide +kernel
theorem dX9_rebuild_150 : decode cX9_rebuild 150 = .ok (.iload_n 2, 1) := by decide +kernel
theorem dX9_rebuild_151 : decode cX9_rebuild 151 = .ok (.iload_n 3, 1) := by decide +kernel
theorem dX9_rebuild_152 : decode cX9_rebuild 152 = .ok (.iload 5, 2) := by decide +kernel
theorem dX9_rebuild_154 : decode cX9_rebuild 154 = .ok (.iload 8, 2) := by decide +kernel
theorem dX9_rebuild_156 : decode cX9_rebuild 156 = .ok (.iload 7, 2) := by decide +kernel
theorem dX9_rebuild_158 : decode cX9_rebuild 158 = .ok (.invokevirtual 122, 3) := by decide +kernel
theorem dX9_rebuild_161 : decode cX9_rebuild 161 = .ok (.iadd, 1) := by decide +kernel
theorem dX9_rebuild_162 : decode cX9_rebuild 162 = .ok (.iastore, 1) := by decide +kernel
theorem dX9_rebuild_163 : decode cX9_rebuild 163 = .ok (.iinc 8 1, 3) := by decide +kernel
theorem dX9_rebuild_166 : decode cX9_rebuild 166 = .ok (.goto (-39), 3) := by decide +kernel
theorem dX9_rebuild_169 : decode cX9_rebuild 169 = .ok (.iinc 7 1, 3) := by decide +kernel
theorem dX9_rebuild_172 : decode cX9_rebuild 172 = .ok (.goto (-55), 3) := by decide +kernel
theorem dX9_rebuild_175 : decode cX9_rebuild 175 = .ok (.iconst 0, 1) := by decide +kernel
theorem dX9_rebuild_176 : decode cX9_rebuild 176 = .ok (.istore 7, 2) := by decide +kernel
theorem dX9_rebuild_178 : decode cX9_rebuild 178 = .ok (.iload 7, 2) := by decide +kernel
theorem dX9_rebuild_180 : decode cX9_rebuild 180 = .ok (.iload 4, 2) := by decide +kernel
theorem dX9_rebuild_182 : decode cX9_rebuild 182 = .ok (.if_icmp .ge 55, 3) := by decide +kernel
theorem dX9_rebuild_185 : decode cX9_rebuild 185 = .ok (.iconst 0, 1) := by decide +kernel
theorem dX9_rebuild_186 : decode cX9_rebuild 186 = .ok (.istore 8, 2) := by decide +kernel
theorem dX9_rebuild_188 : decode cX9_rebuild 188 = .ok (.iload 8, 2) := by decide +kernel
theorem dX9_rebuild_190 : decode cX9_rebuild 190 = .ok (.iload 4, 2) := by decide +kernel
theorem dX9_rebuild_192 : decode cX9_rebuild 192 = .ok (.if_icmp .ge 39, 3) := by decide +kernel
theorem dX9_rebuild_195 : decode cX9_rebuild 195 = .ok (.aload_n 0, 1) := by decide +kernel
theorem dX9_rebuild_196 : decode cX9_rebuild 196 = .ok (.getfield 32, 3) := by decide +kernel
theorem dX9_rebuild_199 : decode cX9_rebuild 199 = .ok (.bipush 16, 2) := by decide +kernel
theorem dX9_rebuild_201 : decode cX9_rebuild 201 = .ok (.iload_n 3, 1) := by decide +kernel
theorem dX9_rebuild_202 : decode cX9_rebuild 202 = .ok (.iload 7, 2) := by decide +kernel
theorem dX9_rebuild_204 : decode cX9_rebuild 204 = .ok (.iadd, 1) := by decide +kernel
theorem dX9_rebuild_205 : decode cX9_rebuild 205 = .ok (.imul, 1) := by decide +kernel
theorem dX9_rebuild_206 : decode cX9_rebuild 206 = .ok (.iload_n 2, 1) := by decide +kernel
theorem dX9_rebuild_207 : decode cX9_rebuild 207 = .ok (.iadd, 1) := by decide +kernel
theorem dX9_rebuild_208 : decode cX9_rebuild 208 = .ok (.iload 8, 2) := by decide +kernel
theorem dX9_rebuild_210 : decode cX9_rebuild 210 = .ok (.iadd, 1) := by decide +kernel
theorem dX9_rebuild_211 : decode cX9_rebuild 211 = .ok (.aload_n 0, 1) := by decide +kernel
theorem dX9_rebuild_212 : decode cX9_rebuild 212 = .ok (.getfield 65, 3) := by decide +kernel
theorem dX9_rebuild_215 : decode cX9_rebuild 215 = .ok (.iload 4, 2) := by decide +kernel
theorem dX9_rebuild_217 : decode cX9_rebuild 217 = .ok (.iload 7, 2) := by decide +kernel
theorem dX9_rebuild_219 : decode cX9_rebuild 219 = .ok (.imul, 1) := by decide +kernel
theorem dX9_rebuild_220 : decode cX9_rebuild 220 = .ok (.iload 8, 2) := by decide +kernel
theorem dX9_rebuild_222 : decode cX9_rebuild 222 = .ok (.iadd, 1) := by decide +kernel
theorem dX9_rebuild_223 : decode cX9_rebuild 223 = .ok (.iaload, 1) := by decide +kernel
theorem dX9_rebuild_224 : decode cX9_rebuild 224 = .ok (.iastore, 1) := by decide +kernel
theorem dX9_rebuild_225 : decode cX9_rebuild 225 = .ok (.iinc 8 1, 3) := by decide +kernel
theorem dX9_rebuild_228 : decode cX9_rebuild 228 = .ok (.goto (-40), 3) := by decide +kernel
theorem dX9_rebuild_231 : decode cX9_rebuild 231 = .ok (.iinc 7 1, 3) := by decide +kernel
theorem dX9_rebuild_234 : decode cX9_rebuild 234 = .ok (.goto (-56), 3) := by decide +kernel
theorem dX9_rebuild_237 : decode cX9_rebuild 237 = .ok (.return_, 1) := by decide +kernel
theorem dX9_digits_0 : decode cX9_digits 0 = .ok (.iload_n 0, 1) := by decide +kernel
theorem dX9_digits_1 : decode cX9_digits 1 = .ok (.ifCond .ge 8, 3) := by decide +kernel
theorem dX9_digits_4 : decode cX9_digits 4 = .ok (.iload_n 0, 1) := by decide +kernel
theorem dX9_digits_5 : decode cX9_digits 5 = .ok (.ineg, 1) := by decide +kernel
theorem dX9_digits_6 : decode cX9_digits 6 = .ok (.goto 4, 3) := by decide +kernel
theorem dX9_digits_9 : decode cX9_digits 9 = .ok (.iload_n 0, 1) := by decide +kernel
theorem dX9_digits_10 : decode cX9_digits 10 = .ok (.istore_n 1, 1) := by decide +kernel
theorem dX9_digits_11 : decode cX9_digits 11 = .ok (.iconst 0, 1) := by decide +kernel
theorem dX9_digits_12 : decode cX9_digits 12 = .ok (.istore_n 2, 1) := by decide +kernel
theorem dX9_digits_13 : decode cX9_digits 13 = .ok (.iload_n 1, 1) := by decide +kernel
theorem dX9_digits_14 : decode cX9_digits 14 = .ok (.ifCond .le 13, 3) := by decide +kernel
theorem dX9_digits_17 : decode cX9_digits 17 = .ok (.iload_n 1, 1) := by decide +kernel
theorem dX9_digits_18 : decode cX9_digits 18 = .ok (.iconst 2, 1) := by decide +kernel
theorem dX9_digits_19 : decode cX9_digits 19 = .ok (.idiv, 1) := by decide +kernel
theorem dX9_digits_20 : decode cX9_digits 20 = .ok (.istore_n 1, 1) := by decide +kernel
theorem dX9_digits_21 : decode cX9_digits 21 = .ok (.iinc 2 1, 3) := by decide +kernel
theorem dX9_digits_24 : decode cX9_digits 24 = .ok (.goto (-11), 3) := by decide +kernel
theorem dX9_digits_27 : decode cX9_digits 27 = .ok (.iload_n 2, 1) := by decide +kernel
theorem dX9_digits_28 : decode cX9_digits 28 = .ok (.ireturn, 1) := by decide +kernel
theorem dX9_make_0 : decode cX9_make 0 = .ok (.iconst 0, 1) := by decide +kernel
theorem dX9_make_1 : decode cX9_make 1 = .ok (.istore 6, 2) := by decide +kernel
theorem dX9_make_3 : decode cX9_make 3 = .ok (.aload_n 0, 1) := by decide +kernel
theorem dX9_make_4 : decode cX9_make 4 = .ok (.iload_n 1, 1) := by decide +kernel
theorem dX9_make_5 : decode cX9_make 5 = .ok (.iload_n 2, 1) := by decide +kernel
theorem dX9_make_6 : decode cX9_make 6 = .ok (.iload_n 3, 1) := by decide +kernel
theorem dX9_make_7 : decode cX9_make 7 = .ok (.iload 4, 2) := by decide +kernel
theorem dX9_make_9 : decode cX9_make 9 = .ok (.invokevirtual 114, 3) := by decide +kernel
theorem dX9_make_12 : decode cX9_make 12 = .ok (.iconst 0, 1) := by decide +kernel
theorem dX9_make_13 : decode cX9_make 13 = .ok (.istore 7, 2) := by decide +kernel
theorem dX9_make_15 : decode cX9_make 15 = .ok (.iload 7, 2) := by decide +kernel
theorem dX9_make_17 : decode cX9_make 17 = .ok (.iconst 4, 1) := by decide +kernel
theorem dX9_make_18 : decode cX9_make 18 = .ok (.if_icmp .ge 116, 3) := by decide +kernel
theorem dX9_make_21 : decode cX9_make 21 = .ok (.iconst 0, 1) := by decide +kernel
theorem dX9_make_22 : decode cX9_make 22 = .ok (.istore 8, 2) := by decide +kernel
theorem dX9_make_24 : decode cX9_make 24 = .ok (.iconst 0, 1) := by decide +kernel
theorem dX9_make_25 : decode cX9_make 25 = .ok (.istore 9, 2) := by decide +kernel
theorem dX9_make_27 : decode cX9_make 27 = .ok (.iload 9, 2) := by decide +kernel
theorem dX9_make_29 : decode cX9_make 29 = .ok (.iload_n 3, 1) := by decide +kernel
theorem dX9_make_30 : decode cX9_make 30 = .ok (.if_icmp .ge 76, 3) := by decide +kernel
theorem dX9_make_33 : decode cX9_make 33 = .ok (.iconst 0, 1) := by decide +kernel
theorem dX9_make_34 : decode cX9_make 34 = .ok (.istore 10, 2) := by decide +kernel
theorem dX9_make_36 : decode cX9_make 36 = .ok (.iload 10, 2) := by decide +kernel
theorem dX9_make_38 : decode cX9_make 38 = .ok (.iload_n 3, 1) := by decide +kernel
theorem dX9_make_39 : decode cX9_make 39 = .ok (.if_icmp .ge 61, 3) := by decide +kernel
theorem dX9_make_42 : decode cX9_make 42 = .ok (.aload_n 0, 1) := by decide +kernel
theorem dX9_make_43 : decode cX9_make 43 = .ok (.getfield 29, 3) := by decide +kernel
theorem dX9_make_46 : decode cX9_make 46 = .ok (.bipush 16, 2) := by decide +kernel
theorem dX9_make_48 : decode cX9_make 48 = .ok (.iload_n 2, 1) := by decide +kernel
theorem dX9_make_49 : decode cX9_make 49 = .ok (.iload 9, 2) := by decide +kernel
theorem dX9_make_51 : decode cX9_make 51 = .ok (.iadd, 1) := by decide +kernel
theorem dX9_make_52 : decode cX9_make 52 = .ok (.imul, 1) := by decide +kernel
theorem dX9_make_53 : decode cX9_make 53 = .ok (.iload_n 1, 1) := by decide +kernel
theorem dX9_make_54 : decode cX9_make 54 = .ok (.iadd, 1) := by decide +kernel
theorem dX9_make_55 : decode cX9_make 55 = .ok (.iload 10, 2) := by decide +kernel
theorem dX9_make_57 : decode cX9_make 57 = .ok (.iadd, 1) := by decide +kernel
theorem dX9_make_58 : decode cX9_make 58 = .ok (.iaload, 1) := by decide +kernel
theorem dX9_make_59 : decode cX9_make 59 = .ok (.aload_n 0, 1) := by decide +kernel
theorem dX9_make_60 : decode cX9_make 60 = .ok (.iload 7, 2) := by decide +kernel
theorem dX9_make_62 : decode cX9_make 62 = .ok (.iload_n 1, 1) := by decide +kernel
theorem dX9_make_63 : decode cX9_make 63 = .ok (.iload_n 2, 1) := by decide +kernel
theorem dX9_make_64 : decode cX9_make 64 = .ok (.iload 4, 2) := by decide +kernel
theorem dX9_make_66 : decode cX9_make 66 = .ok (.iload 10, 2) := by decide +kernel
theorem dX9_make_68 : decode cX9_make 68 = .ok (.iload 9, 2) := by decide +kernel
theorem dX9_make_70 : decode cX9_make 70 = .ok (.invokevirtual 122, 3) := by decide +kernel
theorem dX9_make_73 : decode cX9_make 73 = .ok (.isub, 1) := by decide +kernel
theorem dX9_make_74 : decode cX9_make 74 = .ok (.istore 11, 2) := by decide +kernel
theorem dX9_make_76 : decode cX9_make 76 = .ok (.iload 8, 2) := by decide +kernel
theorem dX9_make_78 : decode cX9_make 78 = .ok (.iload 11, 2) := by decide +kernel
theorem dX9_make_80 : decode cX9_make 80 = .ok (.ifCond .ge 9, 3) := by decide +kernel
theorem dX9_make_83 : decode cX9_make 83 = .ok (.iload 11, 2) := by decide +kernel
theorem dX9_make_85 : decode cX9_make 85 = .ok (.ineg, 1) := by decide +kernel
theorem dX9_make_86 : decode cX9_make 86 = .ok (.goto 5, 3) := by decide +kernel
theorem dX9_make_89 : decode cX9_make 89 = .ok (.iload 11, 2) := by decide +kernel
theorem dX9_make_91 : decode cX9_make 91 = .ok (.iadd, 1) := by decide +kernel
theorem dX9_make_92 : decode cX9_make 92 = .ok (.istore 8, 2) := by decide +kernel
theorem dX9_make_94 : decode cX9_make 94 = .ok (.iinc 10 1, 3) := by decide +kernel
theorem dX9_make_97 : decode cX9_make 97 = .ok (.goto (-61), 3) := by decide +kernel
theorem dX9_make_100 : decode cX9_make 100 = .ok (.iinc 9 1, 3) := by decide +kernel
theorem dX9_make_103 : decode cX9_make 103 = .ok (.goto (-76), 3) := by decide +kernel
theorem dX9_make_106 : decode cX9_make 106 = .ok (.iload 7, 2) := by decide +kernel
theorem dX9_make_108 : decode cX9_make 108 = .ok (.ifCond .eq 10, 3) := by decide +kernel
theorem dX9_make_111 : decode cX9_make 111 = .ok (.iload 8, 2) := by decide +kernel
theorem dX9_make_113 : decode cX9_make 113 = .ok (.iload 6, 2) := by decide +kernel
theorem dX9_make_115 : decode cX9_make 115 = .ok (.if_icmp .ge 13, 3) := by decide +kernel
theorem dX9_make_118 : decode cX9_make 118 = .ok (.iload 8, 2) := by decide +kernel
theorem dX9_make_120 : decode cX9_make 120 = .ok (.istore 6, 2) := by decide +kernel
theorem dX9_make_122 : decode cX9_make 122 = .ok (.aload_n 0, 1) := by decide +kernel
theorem dX9_make_123 : decode cX9_make 123 = .ok (.iload 7, 2) := by decide +kernel
theorem dX9_make_125 : decode cX9_make 125 = .ok (.putfield 126, 3) := by decide +kernel
theorem dX9_make_128 : decode cX9_make 128 = .ok (.iinc 7 1, 3) := by decide +kernel
theorem dX9_make_131 : decode cX9_make 131 = .ok (.goto (-116), 3) := by decide +kernel
theorem dX9_make_134 : decode cX9_make 134 = .ok (.iconst 0, 1) := by decide +kernel
theorem dX9_make_135 : decode cX9_make 135 = .ok (.istore 7, 2) := by decide +kernel
theorem dX9_make_137 : decode cX9_make 137 = .ok (.iload 7, 2) := by decide +kernel
theorem dX9_make_139 : decode cX9_make 139 = .ok (.iload_n 3, 1) := by decide +kernel
theorem dX9_make_140 : decode cX9_make 140 = .ok (.if_icmp .ge 70, 3) := by decide +kernel
theorem dX9_make_143 : decode cX9_make 143 = .ok (.iconst 0, 1) := by decide +kernel
theorem dX9_make_144 : decode cX9_make 144 = .ok (.istore 8, 2) := by decide +kernel
theorem dX9_make_146 : decode cX9_make 146 = .ok (.iload 8, 2) := by decide +kernel
theorem dX9_make_148 : decode cX9_make 148 = .ok (.iload_n 3, 1) := by decide +kernel
theorem dX9_make_149 : decode cX9_make 149 = .ok (.if_icmp .ge 55, 3) := by decide +kernel
theorem dX9_make_152 : decode cX9_make 152 = .ok (.aload_n 0, 1) := by decide +kernel
theorem dX9_make_153 : decode cX9_make 153 = .ok (.getfield 65, 3) := by decide +kernel
theorem dX9_make_156 : decode cX9_make 156 = .ok (.iload_n 3, 1) := by decide +kernel
theorem dX9_make_157 : decode cX9_make 157 = .ok (.iload 7, 2) := by decide +kernel
theorem dX9_make_159 : decode cX9_make 159 = .ok (.imul, 1) := by decide +kernel
theorem dX9_make_160 : decode cX9_make 160 = .ok (.iload 8, 2) := by decide +kernel
theorem dX9_make_162 : decode cX9_make 162 = .ok (.iadd, 1) := by decide +kernel
theorem dX9_make_163 : decode cX9_make 163 = .ok (.aload_n 0, 1) := by decide +kernel
theorem dX9_make_164 : decode cX9_make 164 = .ok (.getfield 29, 3) := by decide +kernel
theorem dX9_make_167 : decode cX9_make 167 = .ok (.bipush 16, 2) := by decide +kernel
theorem dX9_make_169 : decode cX9_make 169 = .ok (.iload_n 2, 1) := by decide +kernel
theorem dX9_make_170 : decode cX9_make 170 = .ok (.iload 7, 2) := by decide +kernel
theorem dX9_make_172 : decode cX9_make 172 = .ok (.iadd, 1) := by decide +kernel
theorem dX9_make_173 : decode cX9_make 173 = .ok (.imul, 1) := by decide +kernel
theorem dX9_make_174 : decode cX9_make 174 = .ok (.iload_n 1, 1) := by decide +kernel
theorem dX9_make_175 : decode cX9_make 175 = .ok (.iadd, 1) := by decide +kernel
theorem dX9_make_176 : decode cX9_make 176 = .ok (.iload 8, 2) := by decide +kernel
theorem dX9_make_178 : decode cX9_make 178 = .ok (.iadd, 1) := by decide +kernel
theorem dX9_make_179 : decode cX9_make 179 = .ok (.iaload, 1) := by decide +kernel
theorem dX9_make_180 : decode cX9_make 180 = .ok (.aload_n 0, 1) := by decide +kernel
theorem dX9_make_181 : decode cX9_make 181 = .ok (.aload_n 0, 1) := by decide +kernel
theorem dX9_make_182 : decode cX9_make 182 = .ok (.getfield 126, 3) := by decide +kernel
theorem dX9_make_185 : decode cX9_make 185 = .ok (.iload_n 1, 1) := by decide +kernel
theorem dX9_make_186 : decode cX9_make 186 = .ok (.iload_n 2, 1) := by decide +kernel
theorem dX9_make_187 : decode cX9_make 187 = .ok (.iload 4, 2) := by decide +kernel
theorem dX9_make_189 : decode cX9_make 189 = .ok (.iload 8, 2) := by decide +kernel
theorem dX9_make_191 : decode cX9_make 191 = .ok (.iload 7, 2) := by decide +kernel
theorem dX9_make_193 : decode cX9_make 193 = .ok (.invokevirtual 122, 3) := by decide +kernel
theorem dX9_make_196 : decode cX9_make 196 = .ok (.isub, 1) := by decide +kernel
theorem dX9_make_197 : decode cX9_make 197 = .ok (.iastore, 1) := by decide +kernel
theorem dX9_make_198 : decode cX9_make 198 = .ok (.iinc 8 1, 3) := by decide +kernel
theorem dX9_make_201 : decode cX9_make 201 = .ok (.goto (-55), 3) := by decide +kernel
theorem dX9_make_204 : decode cX9_make 204 = .ok (.iinc 7 1, 3) := by decide +kernel
theorem dX9_make_207 : decode cX9_make 207 = .ok (.goto (-70), 3) := by decide +kernel
theorem dX9_make_210 : decode cX9_make 210 = .ok (.iload_n 3, 1) := by decide +kernel
theorem dX9_make_211 : decode cX9_make 211 = .ok (.istore 7, 2) := by decide +kernel
theorem dX9_make_213 : decode cX9_make 213 = .ok (.iload 7, 2) := by decide +kernel
theorem dX9_make_215 : decode cX9_make 215 = .ok (.iconst 2, 1) := by decide +kernel
theorem dX9_make_216 : decode cX9_make 216 = .ok (.if_icmp .lt 64, 3) := by decide +kernel
theorem dX9_make_219 : decode cX9_make 219 = .ok (.iconst 0, 1) := by decide +kernel
theorem dX9_make_220 : decode cX9_make 220 = .ok (.istore 8, 2) := by decide +kernel
theorem dX9_make_222 : decode cX9_make 222 = .ok (.iload 8, 2) := by decide +kernel
theorem dX9_make_224 : decode cX9_make 224 = .ok (.iload 7, 2) := by decide +kernel
theorem dX9_make_226 : decode cX9_make 226 = .ok (.if_icmp .ge 20, 3) := by decide +kernel
theorem dX9_make_229 : decode cX9_make 229 = .ok (.aload_n 0, 1) := by decide +kernel
theorem dX9_make_230 : decode cX9_make 230 = .ok (.iload_n 3, 1) := by decide +kernel
theorem dX9_make_231 : decode cX9_make 231 = .ok (.iload 8, 2) := by decide +kernel
theorem dX9_make_233 : decode cX9_make 233 = .ok (.imul, 1) := by decide +kernel
theorem dX9_make_234 : decode cX9_make 234 = .ok (.iconst 1, 1) := by decide +kernel
theorem dX9_make_235 : decode cX9_make 235 = .ok (.iload 7, 2) := by decide +kernel
theorem dX9_make_237 : decode cX9_make 237 = .ok (.invokevirtual 129, 3) := by decide +kernel
theorem dX9_make_240 : decode cX9_make 240 = .ok (.iinc 8 1, 3) := by decide +kernel
theorem dX9_make_243 : decode cX9_make 243 = .ok (.goto (-21), 3) := by decide +kernel
theorem dX9_make_246 : decode cX9_make 246 = .ok (.iconst 0, 1) := by decide +kernel
theorem dX9_make_247 : decode cX9_make 247 = .ok (.istore 8, 2) := by decide +kernel
theorem dX9_make_249 : decode cX9_make 249 = .ok (.iload 8, 2) := by decide +kernel
theorem dX9_make_251 : decode cX9_make 251 = .ok (.iload 7, 2) := by decide +kernel
theorem dX9_make_253 : decode cX9_make 253 = .ok (.if_icmp .ge 18, 3) := by decide +kernel
theorem dX9_make_256 : decode cX9_make 256 = .ok (.aload_n 0, 1) := by decide +kernel
theorem dX9_make_257 : decode cX9_make 257 = .ok (.iload 8, 2) := by decide +kernel
theorem dX9_make_259 : decode cX9_make 259 = .ok (.iload_n 3, 1) := by decide +kernel
theorem dX9_make_260 : decode cX9_make 260 = .ok (.iload 7, 2) := by decide +kernel
theorem dX9_make_262 : decode cX9_make 262 = .ok (.invokevirtual 129, 3) := by decide +kernel
theorem dX9_make_265 : decode cX9_make 265 = .ok (.iinc 8 1, 3) := by decide +kernel
theorem dX9_make_268 : decode cX9_make 268 = .ok (.goto (-19), 3) := by decide +kernel
theorem dX9_make_271 : decode cX9_make 271 = .ok (.iload 7, 2) := by decide +kernel
theorem dX9_make_273 : decode cX9_make 273 = .ok (.iconst 2, 1) := by decide +kernel
theorem dX9_make_274 : decode cX9_make 274 = .ok (.idiv, 1) := by decide +kernel
theorem dX9_make_275 : decode cX9_make 275 = .ok (.istore 7, 2) := by decide +kernel
theorem dX9_make_277 : decode cX9_make 277 = .ok (.goto (-64), 3) := by decide +kernel
theorem dX9_make_280 : decode cX9_make 280 = .ok (.iconst 4, 1) := by decide +kernel
theorem dX9_make_281 : decode cX9_make 281 = .ok (.istore 7, 2) := by decide +kernel
theorem dX9_make_283 : decode cX9_make 283 = .ok (.iconst 0, 1) := by decide +kernel
theorem dX9_make_284 : decode cX9_make 284 = .ok (.istore 8, 2) := by decide +kernel
theorem dX9_make_286 : decode cX9_make 286 = .ok (.iload 8, 2) := by decide +kernel
theorem dX9_make_288 : decode cX9_make 288 = .ok (.iload_n 3, 1) := by decide +kernel
theorem dX9_make_289 : decode cX9_make 289 = .ok (.iload_n 3, 1) := by decide +kernel
theorem dX9_make_290 : decode cX9_make 290 = .ok (.imul, 1) := by decide +kernel
theorem dX9_make_291 : decode cX9_make 291 = .ok (.if_icmp .ge 52, 3) := by decide +kernel
theorem dX9_make_294 : decode cX9_make 294 = .ok (.aload_n 0, 1) := by decide +kernel
theorem dX9_make_295 : decode cX9_make 295 = .ok (.getfield 65, 3) := by decide +kernel
theorem dX9_make_298 : decode cX9_make 298 = .ok (.iload 8, 2) := by decide +kernel
theorem dX9_make_300 : decode cX9_make 300 = .ok (.dup2, 1) := by decide +kernel
theorem dX9_make_301 : decode cX9_make 301 = .ok (.iaload, 1) := by decide +kernel
theorem dX9_make_302 : decode cX9_make 302 = .ok (.iload 5, 2) := by decide +kernel
theorem dX9_make_304 : decode cX9_make 304 = .ok (.idiv, 1) := by decide +kernel
theorem dX9_make_305 : decode cX9_make 305 = .ok (.iastore, 1) := by decide +kernel
theorem dX9_make_306 : decode cX9_make 306 = .ok (.aload_n 0, 1) := by decide +kernel
theorem dX9_make_307 : decode cX9_make 307 = .ok (.getfield 71, 3) := by decide +kernel
theorem dX9_make_310 : decode cX9_make 310 = .ok (.iload 8, 2) := by decide +kernel
theorem dX9_make_312 : decode cX9_make 312 = .ok (.aload_n 0, 1) := by decide +kernel
theorem dX9_make_313 : decode cX9_make 313 = .ok (.getfield 65, 3) := by decide +kernel
theorem dX9_make_316 : decode cX9_make 316 = .ok (.iload 8, 2) := by decide +kernel
theorem dX9_make_318 : decode cX9_make 318 = .ok (.iaload, 1) := by decide +kernel
theorem dX9_make_319 : decode cX9_make 319 = .ok (.iastore, 1) := by decide +kernel
theorem dX9_make_320 : decode cX9_make 320 = .ok (.iload 7, 2) := by decide +kernel
theorem dX9_make_322 : decode cX9_make 322 = .ok (.iconst 2, 1) := by decide +kernel
theorem dX9_make_323 : decode cX9_make 323 = .ok (.aload_n 0, 1) := by decide +kernel
theorem dX9_make_324 : decode cX9_make 324 = .ok (.getfield 71, 3) := by decide +kernel
theorem dX9_make_327 : decode cX9_make 327 = .ok (.iload 8, 2) := by decide +kernel
theorem dX9_make_329 : decode cX9_make 329 = .ok (.iaload, 1) := by decide +kernel
theorem dX9_make_330 : decode cX9_make 330 = .ok (.invokestatic 132, 3) := by decide +kernel
theorem dX9_make_333 : decode cX9_make 333 = .ok (.imul, 1) := by decide +kernel
theorem dX9_make_334 : decode cX9_make 334 = .ok (.iadd, 1) := by decide +kernel
theorem dX9_make_335 : decode cX9_make 335 = .ok (.istore 7, 2) := by decide +kernel
theorem dX9_make_337 : decode cX9_make 337 = .ok (.iinc 8 1, 3) := by decide +kernel
theorem dX9_make_340 : decode cX9_make 340 = .ok (.goto (-54), 3) := by decide +kernel
theorem dX9_make_343 : decode cX9_make 343 = .ok (.aload_n 0, 1) := by decide +kernel
theorem dX9_make_344 : decode cX9_make 344 = .ok (.aload_n 0, 1) := by decide +kernel
theorem dX9_make_345 : decode cX9_make 345 = .ok (.getfield 126, 3) := by decide +kernel
theorem dX9_make_348 : decode cX9_make 348 = .ok (.iload_n 1, 1) := by decide +kernel
theorem dX9_make_349 : decode cX9_make 349 = .ok (.iload_n 2, 1) := by decide +kernel
theorem dX9_make_350 : decode cX9_make 350 = .ok (.iload_n 3, 1) := by decide +kernel
theorem dX9_make_351 : decode cX9_make 351 = .ok (.iload 4, 2) := by decide +kernel
theorem dX9_make_353 : decode cX9_make 353 = .ok (.iload 5, 2) := by decide +kernel
theorem dX9_make_355 : decode cX9_make 355 = .ok (.invokevirtual 135, 3) := by decide +kernel
theorem dX9_make_358 : decode cX9_make 358 = .ok (.iload 7, 2) := by decide +kernel
theorem dX9_make_360 : decode cX9_make 360 = .ok (.ireturn, 1) := by decide +kernel
theorem dX9_keep_0 : decode cX9_keep 0 = .ok (.iconst 0, 1) := by decide +kernel
theorem dX9_keep_1 : decode cX9_keep 1 = .ok (.istore 7, 2) := by decide +kernel
theorem dX9_keep_3 : decode cX9_keep 3 = .ok (.iload 7, 2) := by decide +kernel
theorem dX9_keep_5 : decode cX9_keep 5 = .ok (.iload 4, 2) := by decide +kernel
theorem dX9_keep_7 : decode cX9_keep 7 = .ok (.if_icmp .ge 92, 3) := by decide +kernel
theorem dX9_keep_10 : decode cX9_keep 10 = .ok (.iconst 0, 1) := by decide +kernel
theorem dX9_keep_11 : decode cX9_keep 11 = .ok (.istore 8, 2) := by decide +kernel
theorem dX9_keep_13 : decode cX9_keep 13 = .ok (.iload 8, 2) := by decide +kernel
theorem dX9_keep_15 : decode cX9_keep 15 = .ok (.iload 4, 2) := by decide +kernel
theorem dX9_keep_17 : decode cX9_keep 17 = .ok (.if_icmp .ge 76, 3) := by decide +kernel
theorem dX9_keep_20 : decode cX9_keep 20 = .ok (.sipush 384, 3) := by decide +kernel
theorem dX9_keep_23 : decode cX9_keep 23 = .ok (.iload_n 1, 1) := by decide +kernel
theorem dX9_keep_24 : decode cX9_keep 24 = .ok (.imul, 1) := by decide +kernel
theorem dX9_keep_25 : decode cX9_keep 25 = .ok (.bipush 16, 2) := by decide +kernel
theorem dX9_keep_27 : decode cX9_keep 27 = .ok (.iload_n 3, 1) := by decide +kernel
theorem dX9_keep_28 : decode cX9_keep 28 = .ok (.iload 7, 2) := by decide +kernel
theorem dX9_keep_30 : decode cX9_keep 30 = .ok (.iadd, 1) := by decide +kernel
theorem dX9_keep_31 : decode cX9_keep 31 = .ok (.imul, 1) := by decide +kernel
theorem dX9_keep_32 : decode cX9_keep 32 = .ok (.iadd, 1) := by decide +kernel
theorem dX9_keep_33 : decode cX9_keep 33 = .ok (.iload_n 2, 1) := by decide +kernel
theorem dX9_keep_34 : decode cX9_keep 34 = .ok (.iadd, 1) := by decide +kernel
theorem dX9_keep_35 : decode cX9_keep 35 = .ok (.iload 8, 2) := by decide +kernel
theorem dX9_keep_37 : decode cX9_keep 37 = .ok (.iadd, 1) := by decide +kernel
theorem dX9_keep_38 : decode cX9_keep 38 = .ok (.istore 9, 2) := by decide +kernel
theorem dX9_keep_40 : decode cX9_keep 40 = .ok (.aload_n 0, 1) := by decide +kernel
theorem dX9_keep_41 : decode cX9_keep 41 = .ok (.getfield 47, 3) := by decide +kernel
theorem dX9_keep_44 : decode cX9_keep 44 = .ok (.iload 9, 2) := by decide +kernel
theorem dX9_keep_46 : decode cX9_keep 46 = .ok (.aload_n 0, 1) := by decide +kernel
theorem dX9_keep_47 : decode cX9_keep 47 = .ok (.getfield 71, 3) := by decide +kernel
theorem dX9_keep_50 : decode cX9_keep 50 = .ok (.iload 4, 2) := by decide +kernel
theorem dX9_keep_52 : decode cX9_keep 52 = .ok (.iload 7, 2) := by decide +kernel
theorem dX9_keep_54 : decode cX9_keep 54 = .ok (.imul, 1) := by decide +kernel
theorem dX9_keep_55 : decode cX9_keep 55 = .ok (.iload 8, 2) := by decide +kernel
theorem dX9_keep_57 : decode cX9_keep 57 = .ok (.iadd, 1) := by decide +kernel
theorem dX9_keep_58 : decode cX9_keep 58 = .ok (.iaload, 1) := by decide +kernel
theorem dX9_keep_59 : decode cX9_keep 59 = .ok (.iastore, 1) := by decide +kernel
theorem dX9_keep_60 : decode cX9_keep 60 = .ok (.aload_n 0, 1) := by decide +kernel
theorem dX9_keep_61 : decode cX9_keep 61 = .ok (.getfield 50, 3) := by decide +kernel
theorem dX9_keep_64 : decode cX9_keep 64 = .ok (.iload 9, 2) := by decide +kernel
theorem dX9_keep_66 : decode cX9_keep 66 = .ok (.iload 5, 2) := by decide +kernel
theorem dX9_keep_68 : decode cX9_keep 68 = .ok (.iastore, 1) := by decide +kernel
theorem dX9_keep_69 : decode cX9_keep 69 = .ok (.aload_n 0, 1) := by decide +kernel
theorem dX9_keep_70 : decode cX9_keep 70 = .ok (.getfield 53, 3) := by decide +kernel
theorem dX9_keep_73 : decode cX9_keep 73 = .ok (.iload 9, 2) := by decide +kernel
theorem dX9_keep_75 : decode cX9_keep 75 = .ok (.iload 6, 2) := by decide +kernel
theorem dX9_keep_77 : decode cX9_keep 77 = .ok (.iastore, 1) := by decide +kernel
theorem dX9_keep_78 : decode cX9_keep 78 = .ok (.aload_n 0, 1) := by decide +kernel
theorem dX9_keep_79 : decode cX9_keep 79 = .ok (.getfield 56, 3) := by decide +kernel
theorem dX9_keep_82 : decode cX9_keep 82 = .ok (.iload 9, 2) := by decide +kernel
theorem dX9_keep_84 : decode cX9_keep 84 = .ok (.iload 4, 2) := by decide +kernel
theorem dX9_keep_86 : decode cX9_keep 86 = .ok (.iastore, 1) := by decide +kernel
theorem dX9_keep_87 : decode cX9_keep 87 = .ok (.iinc 8 1, 3) := by decide +kernel
theorem dX9_keep_90 : decode cX9_keep 90 = .ok (.goto (-77), 3) := by decide +kernel
theorem dX9_keep_93 : decode cX9_keep 93 = .ok (.iinc 7 1, 3) := by decide +kernel
theorem dX9_keep_96 : decode cX9_keep 96 = .ok (.goto (-93), 3) := by decide +kernel
theorem dX9_keep_99 : decode cX9_keep 99 = .ok (.return_, 1) := by decide +kernel
theorem dX9_tile_0 : decode cX9_tile 0 = .ok (.iconst 0, 1) := by decide +kernel
theorem dX9_tile_1 : decode cX9_tile 1 = .ok (.istore 5, 2) := by decide +kernel
theorem dX9_tile_3 : decode cX9_tile 3 = .ok (.iconst 0, 1) := by decide +kernel
theorem dX9_tile_4 : decode cX9_tile 4 = .ok (.istore 6, 2) := by decide +kernel
theorem dX9_tile_6 : decode cX9_tile 6 = .ok (.iload 6, 2) := by decide +kernel
theorem dX9_tile_8 : decode cX9_tile 8 = .ok (.iconst 4, 1) := by decide +kernel
theorem dX9_tile_9 : decode cX9_tile 9 = .ok (.if_icmp .ge 70, 3) := by decide +kernel
theorem dX9_tile_12 : decode cX9_tile 12 = .ok (.aload_n 0, 1) := by decide +kernel
theorem dX9_tile_13 : decode cX9_tile 13 = .ok (.iload_n 2, 1) := by decide +kernel
theorem dX9_tile_14 : decode cX9_tile 14 = .ok (.iload 6, 2) := by decide +kernel
theorem dX9_tile_16 : decode cX9_tile 16 = .ok (.iconst 2, 1) := by decide +kernel
theorem dX9_tile_17 : decode cX9_tile 17 = .ok (.irem, 1) := by decide +kernel
theorem dX9_tile_18 : decode cX9_tile 18 = .ok (.iconst 4, 1) := by decide +kernel
theorem dX9_tile_19 : decode cX9_tile 19 = .ok (.imul, 1) := by decide +kernel
theorem dX9_tile_20 : decode cX9_tile 20 = .ok (.iadd, 1) := by decide +kernel
theorem dX9_tile_21 : decode cX9_tile 21 = .ok (.iload_n 3, 1) := by decide +kernel
theorem dX9_tile_22 : decode cX9_tile 22 = .ok (.iload 6, 2) := by decide +kernel
theorem dX9_tile_24 : decode cX9_tile 24 = .ok (.iconst 2, 1) := by decide +kernel
theorem dX9_tile_25 : decode cX9_tile 25 = .ok (.idiv, 1) := by decide +kernel
theorem dX9_tile_26 : decode cX9_tile 26 = .ok (.iconst 4, 1) := by decide +kernel
theorem dX9_tile_27 : decode cX9_tile 27 = .ok (.imul, 1) := by decide +kernel
theorem dX9_tile_28 : decode cX9_tile 28 = .ok (.iadd, 1) := by decide +kernel
theorem dX9_tile_29 : decode cX9_tile 29 = .ok (.iconst 4, 1) := by decide +kernel
theorem dX9_tile_30 : decode cX9_tile 30 = .ok (.iload_n 3, 1) := by decide +kernel
theorem dX9_tile_31 : decode cX9_tile 31 = .ok (.iload 4, 2) := by decide +kernel
theorem dX9_tile_33 : decode cX9_tile 33 = .ok (.invokevirtual 139, 3) := by decide +kernel
theorem dX9_tile_36 : decode cX9_tile 36 = .ok (.istore 7, 2) := by decide +kernel
theorem dX9_tile_38 : decode cX9_tile 38 = .ok (.aload_n 0, 1) := by decide +kernel
theorem dX9_tile_39 : decode cX9_tile 39 = .ok (.iload_n 1, 1) := by decide +kernel
theorem dX9_tile_40 : decode cX9_tile 40 = .ok (.iload_n 2, 1) := by decide +kernel
theorem dX9_tile_41 : decode cX9_tile 41 = .ok (.iload 6, 2) := by decide +kernel
theorem dX9_tile_43 : decode cX9_tile 43 = .ok (.iconst 2, 1) := by decide +kernel
theorem dX9_tile_44 : decode cX9_tile 44 = .ok (.irem, 1) := by decide +kernel
theorem dX9_tile_45 : decode cX9_tile 45 = .ok (.iconst 4, 1) := by decide +kernel
theorem dX9_tile_46 : decode cX9_tile 46 = .ok (.imul, 1) := by decide +kernel
theorem dX9_tile_47 : decode cX9_tile 47 = .ok (.iadd, 1) := by decide +kernel
theorem dX9_tile_48 : decode cX9_tile 48 = .ok (.iload_n 3, 1) := by decide +kernel
theorem dX9_tile_49 : decode cX9_tile 49 = .ok (.iload 6, 2) := by decide +kernel
theorem dX9_tile_51 : decode cX9_tile 51 = .ok (.iconst 2, 1) := by decide +kernel
theorem dX9_tile_52 : decode cX9_tile 52 = .ok (.idiv, 1) := by decide +kernel
theorem dX9_tile_53 : decode cX9_tile 53 = .ok (.iconst 4, 1) := by decide +kernel
theorem dX9_tile_54 : decode cX9_tile 54 = .ok (.imul, 1) := by decide +kernel
theorem dX9_tile_55 : decode cX9_tile 55 = .ok (.iadd, 1) := by decide +kernel
theorem dX9_tile_56 : decode cX9_tile 56 = .ok (.iconst 4, 1) := by decide +kernel
theorem dX9_tile_57 : decode cX9_tile 57 = .ok (.aload_n 0, 1) := by decide +kernel
theorem dX9_tile_58 : decode cX9_tile 58 = .ok (.getfield 126, 3) := by decide +kernel
theorem dX9_tile_61 : decode cX9_tile 61 = .ok (.iload 7, 2) := by decide +kernel
theorem dX9_tile_63 : decode cX9_tile 63 = .ok (.invokevirtual 143, 3) := by decide +kernel
theorem dX9_tile_66 : decode cX9_tile 66 = .ok (.iload 5, 2) := by decide +kernel
theorem dX9_tile_68 : decode cX9_tile 68 = .ok (.iload 7, 2) := by decide +kernel
theorem dX9_tile_70 : decode cX9_tile 70 = .ok (.iadd, 1) := by decide +kernel
theorem dX9_tile_71 : decode cX9_tile 71 = .ok (.istore 5, 2) := by decide +kernel
theorem dX9_tile_73 : decode cX9_tile 73 = .ok (.iinc 6 1, 3) := by decide +kernel
theorem dX9_tile_76 : decode cX9_tile 76 = .ok (.goto (-70), 3) := by decide +kernel
theorem dX9_tile_79 : decode cX9_tile 79 = .ok (.iconst 0, 1) := by decide +kernel
theorem dX9_tile_80 : decode cX9_tile 80 = .ok (.istore 6, 2) := by decide +kernel
theorem dX9_tile_82 : decode cX9_tile 82 = .ok (.iload 6, 2) := by decide +kernel
theorem dX9_tile_84 : decode cX9_tile 84 = .ok (.bipush 64, 2) := by decide +kernel
theorem dX9_tile_86 : decode cX9_tile 86 = .ok (.if_icmp .ge 39, 3) := by decide +kernel
theorem dX9_tile_89 : decode cX9_tile 89 = .ok (.aload_n 0, 1) := by decide +kernel
theorem dX9_tile_90 : decode cX9_tile 90 = .ok (.getfield 74, 3) := by decide +kernel
theorem dX9_tile_93 : decode cX9_tile 93 = .ok (.iload 6, 2) := by decide +kernel
theorem dX9_tile_95 : decode cX9_tile 95 = .ok (.aload_n 0, 1) := by decide +kernel
theorem dX9_tile_96 : decode cX9_tile 96 = .ok (.getfield 32, 3) := by decide +kernel
theorem dX9_tile_99 : decode cX9_tile 99 = .ok (.bipush 16, 2) := by decide +kernel
theorem dX9_tile_101 : decode cX9_tile 101 = .ok (.iload_n 3, 1) := by decide +kernel
theorem dX9_tile_102 : decode cX9_tile 102 = .ok (.iload 6, 2) := by decide +kernel
theorem dX9_tile_104 : decode cX9_tile 104 = .ok (.bipush 8, 2) := by decide +kernel
theorem dX9_tile_106 : decode cX9_tile 106 = .ok (.idiv, 1) := by decide +kernel
theorem dX9_tile_107 : decode cX9_tile 107 = .ok (.iadd, 1) := by decide +kernel
theorem dX9_tile_108 : decode cX9_tile 108 = .ok (.imul, 1) := by decide +kernel
theorem dX9_tile_109 : decode cX9_tile 109 = .ok (.iload_n 2, 1) := by decide +kernel
theorem dX9_tile_110 : decode cX9_tile 110 = .ok (.iadd, 1) := by decide +kernel
theorem dX9_tile_111 : decode cX9_tile 111 = .ok (.iload 6, 2) := by decide +kernel
theorem dX9_tile_113 : decode cX9_tile 113 = .ok (.bipush 8, 2) := by decide +kernel
theorem dX9_tile_115 : decode cX9_tile 115 = .ok (.irem, 1) := by decide +kernel
theorem dX9_tile_116 : decode cX9_tile 116 = .ok (.iadd, 1) := by decide +kernel
theorem dX9_tile_117 : decode cX9_tile 117 = .ok (.iaload, 1) := by decide +kernel
theorem dX9_tile_118 : decode cX9_tile 118 = .ok (.iastore, 1) := by decide +kernel
theorem dX9_tile_119 : decode cX9_tile 119 = .ok (.iinc 6 1, 3) := by decide +kernel
theorem dX9_tile_122 : decode cX9_tile 122 = .ok (.goto (-40), 3) := by decide +kernel
theorem dX9_tile_125 : decode cX9_tile 125 = .ok (.aload_n 0, 1) := by decide +kernel
theorem dX9_tile_126 : decode cX9_tile 126 = .ok (.iload_n 2, 1) := by decide +kernel
theorem dX9_tile_127 : decode cX9_tile 127 = .ok (.iload_n 3, 1) := by decide +kernel
theorem dX9_tile_128 : decode cX9_tile 128 = .ok (.bipush 8, 2) := by decide +kernel
theorem dX9_tile_130 : decode cX9_tile 130 = .ok (.iload_n 3, 1) := by decide +kernel
theorem dX9_tile_131 : decode cX9_tile 131 = .ok (.iload 4, 2) := by decide +kernel
theorem dX9_tile_133 : decode cX9_tile 133 = .ok (.invokevirtual 139, 3) := by decide +kernel
theorem dX9_tile_136 : decode cX9_tile 136 = .ok (.istore 6, 2) := by decide +kernel
theorem dX9_tile_138 : decode cX9_tile 138 = .ok (.iload 5, 2) := by decide +kernel
theorem dX9_tile_140 : decode cX9_tile 140 = .ok (.iload 6, 2) := by decide +kernel
theorem dX9_tile_142 : decode cX9_tile 142 = .ok (.if_icmp .ge 62, 3) := by decide +kernel
theorem dX9_tile_145 : decode cX9_tile 145 = .ok (.iconst 0, 1) := by decide +kernel
theorem dX9_tile_146 : decode cX9_tile 146 = .ok (.istore 7, 2) := by decide +kernel
theorem dX9_tile_148 : decode cX9_tile 148 = .ok (.iload 7, 2) := by decide +kernel
theorem dX9_tile_150 : decode cX9_tile 150 = .ok (.bipush 64, 2) := by decide +kernel
theorem dX9_tile_152 : decode cX9_tile 152 = .ok (.if_icmp .ge 39, 3) := by decide +kernel
theorem dX9_tile_155 : decode cX9_tile 155 = .ok (.aload_n 0, 1) := by decide +kernel
theorem dX9_tile_156 : decode cX9_tile 156 = .ok (.getfield 32, 3) := by decide +kernel
theorem dX9_tile_159 : decode cX9_tile 159 = .ok (.bipush 16, 2) := by decide +kernel
theorem dX9_tile_161 : decode cX9_tile 161 = .ok (.iload_n 3, 1) := by decide +kernel
theorem dX9_tile_162 : decode cX9_tile 162 = .ok (.iload 7, 2) := by decide +kernel
theorem dX9_tile_164 : decode cX9_tile 164 = .ok (.bipush 8, 2) := by decide +kernel
theorem dX9_tile_166 : decode cX9_tile 166 = .ok (.idiv, 1) := by decide +kernel
theorem dX9_tile_167 : decode cX9_tile 167 = .ok (.iadd, 1) := by decide +kernel
theorem dX9_tile_168 : decode cX9_tile 168 = .ok (.imul, 1) := by decide +kernel
theorem dX9_tile_169 : decode cX9_tile 169 = .ok (.iload_n 2, 1) := by decide +kernel
theorem dX9_tile_170 : decode cX9_tile 170 = .ok (.iadd, 1) := by decide +kernel
theorem dX9_tile_171 : decode cX9_tile 171 = .ok (.iload 7, 2) := by decide +kernel
theorem dX9_tile_173 : decode cX9_tile 173 = .ok (.bipush 8, 2) := by decide +kernel
theorem dX9_tile_175 : decode cX9_tile 175 = .ok (.irem, 1) := by decide +kernel
theorem dX9_tile_176 : decode cX9_tile 176 = .ok (.iadd, 1) := by decide +kernel
theorem dX9_tile_177 : decode cX9_tile 177 = .ok (.aload_n 0, 1) := by decide +kernel
theorem dX9_tile_178 : decode cX9_tile 178 = .ok (.getfield 74, 3) := by decide +kernel
theorem dX9_tile_181 : decode cX9_tile 181 = .ok (.iload 7, 2) := by decide +kernel
theorem dX9_tile_183 : decode cX9_tile 183 = .ok (.iaload, 1) := by decide +kernel
theorem dX9_tile_184 : decode cX9_tile 184 = .ok (.iastore, 1) := by decide +kernel
theorem dX9_tile_185 : decode cX9_tile 185 = .ok (.iinc 7 1, 3) := by decide +kernel
theorem dX9_tile_188 : decode cX9_tile 188 = .ok (.goto (-40), 3) := by decide +kernel
theorem dX9_tile_191 : decode cX9_tile 191 = .ok (.aload_n 0, 1) := by decide +kernel
theorem dX9_tile_192 : decode cX9_tile 192 = .ok (.getfield 59, 3) := by decide +kernel
theorem dX9_tile_195 : decode cX9_tile 195 = .ok (.iload_n 1, 1) := by decide +kernel
theorem dX9_tile_196 : decode cX9_tile 196 = .ok (.dup2, 1) := by decide +kernel
theorem dX9_tile_197 : decode cX9_tile 197 = .ok (.iaload, 1) := by decide +kernel
theorem dX9_tile_198 : decode cX9_tile 198 = .ok (.iconst 4, 1) := by decide +kernel
theorem dX9_tile_199 : decode cX9_tile 199 = .ok (.iadd, 1) := by decide +kernel
theorem dX9_tile_200 : decode cX9_tile 200 = .ok (.iastore, 1) := by decide +kernel
theorem dX9_tile_201 : decode cX9_tile 201 = .ok (.goto 28, 3) := by decide +kernel
theorem dX9_tile_204 : decode cX9_tile 204 = .ok (.aload_n 0, 1) := by decide +kernel
theorem dX9_tile_205 : decode cX9_tile 205 = .ok (.iload_n 1, 1) := by decide +kernel
theorem dX9_tile_206 : decode cX9_tile 206 = .ok (.iload_n 2, 1) := by decide +kernel
theorem dX9_tile_207 : decode cX9_tile 207 = .ok (.iload_n 3, 1) := by decide +kernel
theorem dX9_tile_208 : decode cX9_tile 208 = .ok (.bipush 8, 2) := by decide +kernel
theorem dX9_tile_210 : decode cX9_tile 210 = .ok (.aload_n 0, 1) := by decide +kernel
theorem dX9_tile_211 : decode cX9_tile 211 = .ok (.getfield 126, 3) := by decide +kernel
theorem dX9_tile_214 : decode cX9_tile 214 = .ok (.iload 6, 2) := by decide +kernel
theorem dX9_tile_216 : decode cX9_tile 216 = .ok (.invokevirtual 143, 3) := by decide +kernel
theorem dX9_tile_219 : decode cX9_tile 219 = .ok (.aload_n 0, 1) := by decide +kernel
theorem dX9_tile_220 : decode cX9_tile 220 = .ok (.getfield 59, 3) := by decide +kernel
theorem dX9_tile_223 : decode cX9_tile 223 = .ok (.iload_n 1, 1) := by decide +kernel
theorem dX9_tile_224 : decode cX9_tile 224 = .ok (.dup2, 1) := by decide +kernel
theorem dX9_tile_225 : decode cX9_tile 225 = .ok (.iaload, 1) := by decide +kernel
theorem dX9_tile_226 : decode cX9_tile 226 = .ok (.iconst 1, 1) := by decide +kernel
theorem dX9_tile_227 : decode cX9_tile 227 = .ok (.iadd, 1) := by decide +kernel
theorem dX9_tile_228 : decode cX9_tile 228 = .ok (.iastore, 1) := by decide +kernel
theorem dX9_tile_229 : decode cX9_tile 229 = .ok (.return_, 1) := by decide +kernel
theorem dX9_begin_0 : decode cX9_begin 0 = .ok (.aload_n 0, 1) := by decide +kernel
theorem dX9_begin_1 : decode cX9_begin 1 = .ok (.iconst 0, 1) := by decide +kernel
theorem dX9_begin_2 : decode cX9_begin 2 = .ok (.putfield 146, 3) := by decide +kernel
theorem dX9_begin_5 : decode cX9_begin 5 = .ok (.aload_n 0, 1) := by decide +kernel
theorem dX9_begin_6 : decode cX9_begin 6 = .ok (.ldc 149, 2) := by decide +kernel
theorem dX9_begin_8 : decode cX9_begin 8 = .ok (.putfield 150, 3) := by decide +kernel
theorem dX9_begin_11 : decode cX9_begin 11 = .ok (.aload_n 0, 1) := by decide +kernel
theorem dX9_begin_12 : decode cX9_begin 12 = .ok (.iconst 0, 1) := by decide +kernel
theorem dX9_begin_13 : decode cX9_begin 13 = .ok (.putfield 153, 3) := by decide +kernel
theorem dX9_begin_16 : decode cX9_begin 16 = .ok (.aload_n 0, 1) := by decide +kernel
theorem dX9_begin_17 : decode cX9_begin 17 = .ok (.iconst 0, 1) := by decide +kernel
theorem dX9_begin_18 : decode cX9_begin 18 = .ok (.putfield 156, 3) := by decide +kernel
theorem dX9_begin_21 : decode cX9_begin 21 = .ok (.iconst 0, 1) := by decide +kernel
theorem dX9_begin_22 : decode cX9_begin 22 = .ok (.istore_n 1, 1) := by decide +kernel
theorem dX9_begin_23 : decode cX9_begin 23 = .ok (.iload_n 1, 1) := by decide +kernel
theorem dX9_begin_24 : decode cX9_begin 24 = .ok (.bipush 40, 2) := by decide +kernel
theorem dX9_begin_26 : decode cX9_begin 26 = .ok (.if_icmp .ge 16, 3) := by decide +kernel
theorem dX9_begin_29 : decode cX9_begin 29 = .ok (.aload_n 0, 1) := by decide +kernel
theorem dX9_begin_30 : decode cX9_begin 30 = .ok (.getfield 77, 3) := by decide +kernel
theorem dX9_begin_33 : decode cX9_begin 33 = .ok (.iload_n 1, 1) := by decide +kernel
theorem dX9_begin_34 : decode cX9_begin 34 = .ok (.iconst 1, 1) := by decide +kernel
theorem dX9_begin_35 : decode cX9_begin 35 = .ok (.iastore, 1) := by decide +kernel
theorem dX9_begin_36 : decode cX9_begin 36 = .ok (.iinc 1 1, 3) := by decide +kernel
theorem dX9_begin_39 : decode cX9_begin 39 = .ok (.goto (-16), 3) := by decide +kernel
theorem dX9_begin_42 : decode cX9_begin 42 = .ok (.return_, 1) := by decide +kernel
theorem dX9_write_0 : decode cX9_write 0 = .ok (.aload_n 0, 1) := by decide +kernel
theorem dX9_write_1 : decode cX9_write 1 = .ok (.getfield 156, 3) := by decide +kernel
theorem dX9_write_4 : decode cX9_write 4 = .ok (.bipush 8, 2) := by decide +kernel
theorem dX9_write_6 : decode cX9_write 6 = .ok (.irem, 1) := by decide +kernel
theorem dX9_write_7 : decode cX9_write 7 = .ok (.ifCond .ne 21, 3) := by decide +kernel
theorem dX9_write_10 : decode cX9_write 10 = .ok (.aload_n 0, 1) := by decide +kernel
theorem dX9_write_11 : decode cX9_write 11 = .ok (.getfield 26, 3) := by decide +kernel
theorem dX9_write_14 : decode cX9_write 14 = .ok (.aload_n 0, 1) := by decide +kernel
theorem dX9_write_15 : decode cX9_write 15 = .ok (.getfield 159, 3) := by decide +kernel
theorem dX9_write_18 : decode cX9_write 18 = .ok (.aload_n 0, 1) := by decide +kernel
theorem dX9_write_19 : decode cX9_write 19 = .ok (.getfield 156, 3) := by decide +kernel
theorem dX9_write_22 : decode cX9_write 22 = .ok (.bipush 8, 2) := by decide +kernel
theorem dX9_write_24 : decode cX9_write 24 = .ok (.idiv, 1) := by decide +kernel
theorem dX9_write_25 : decode cX9_write 25 = .ok (.iadd, 1) := by decide +kernel
theorem dX9_write_26 : decode cX9_write 26 = .ok (.iconst 0, 1) := by decide +kernel
theorem dX9_write_27 : decode cX9_write 27 = .ok (.iastore, 1) := by decide +kernel
theorem dX9_write_28 : decode cX9_write 28 = .ok (.aload_n 0, 1) := by decide +kernel
theorem dX9_write_29 : decode cX9_write 29 = .ok (.getfield 26, 3) := by decide +kernel
theorem dX9_write_32 : decode cX9_write 32 = .ok (.aload_n 0, 1) := by decide +kernel
theorem dX9_write_33 : decode cX9_write 33 = .ok (.getfield 159, 3) := by decide +kernel
theorem dX9_write_36 : decode cX9_write 36 = .ok (.aload_n 0, 1) := by decide +kernel
theorem dX9_write_37 : decode cX9_write 37 = .ok (.getfield 156, 3) := by decide +kernel
theorem dX9_write_40 : decode cX9_write 40 = .ok (.bipush 8, 2) := by decide +kernel
theorem dX9_write_42 : decode cX9_write 42 = .ok (.idiv, 1) := by decide +kernel
theorem dX9_write_43 : decode cX9_write 43 = .ok (.iadd, 1) := by decide +kernel
theorem dX9_write_44 : decode cX9_write 44 = .ok (.dup2, 1) := by decide +kernel
theorem dX9_write_45 : decode cX9_write 45 = .ok (.iaload, 1) := by decide +kernel
theorem dX9_write_46 : decode cX9_write 46 = .ok (.iload_n 1, 1) := by decide +kernel
theorem dX9_write_47 : decode cX9_write 47 = .ok (.bipush 7, 2) := by decide +kernel
theorem dX9_write_49 : decode cX9_write 49 = .ok (.aload_n 0, 1) := by decide +kernel
theorem dX9_write_50 : decode cX9_write 50 = .ok (.getfield 156, 3) := by decide +kernel
theorem dX9_write_53 : decode cX9_write 53 = .ok (.bipush 8, 2) := by decide +kernel
theorem dX9_write_55 : decode cX9_write 55 = .ok (.irem, 1) := by decide +kernel
theorem dX9_write_56 : decode cX9_write 56 = .ok (.isub, 1) := by decide +kernel
theorem dX9_write_57 : decode cX9_write 57 = .ok (.ishl, 1) := by decide +kernel
theorem dX9_write_58 : decode cX9_write 58 = .ok (.ior, 1) := by decide +kernel
theorem dX9_write_59 : decode cX9_write 59 = .ok (.iastore, 1) := by decide +kernel
theorem dX9_write_60 : decode cX9_write 60 = .ok (.aload_n 0, 1) := by decide +kernel
theorem dX9_write_61 : decode cX9_write 61 = .ok (.dup, 1) := by decide +kernel
theorem dX9_write_62 : decode cX9_write 62 = .ok (.getfield 156, 3) := by decide +kernel
theorem dX9_write_65 : decode cX9_write 65 = .ok (.iconst 1, 1) := by decide +kernel
theorem dX9_write_66 : decode cX9_write 66 = .ok (.iadd, 1) := by decide +kernel
theorem dX9_write_67 : decode cX9_write 67 = .ok (.putfield 156, 3) := by decide +kernel
theorem dX9_write_70 : decode cX9_write 70 = .ok (.return_, 1) := by decide +kernel
theorem dX9_writes_0 : decode cX9_writes 0 = .ok (.aload_n 0, 1) := by decide +kernel
theorem dX9_writes_1 : decode cX9_writes 1 = .ok (.iload_n 1, 1) := by decide +kernel
theorem dX9_writes_2 : decode cX9_writes 2 = .ok (.invokevirtual 162, 3) := by decide +kernel
theorem dX9_writes_5 : decode cX9_writes 5 = .ok (.aload_n 0, 1) := by decide +kernel
theorem dX9_writes_6 : decode cX9_writes 6 = .ok (.getfield 153, 3) := by decide +kernel
theorem dX9_writes_9 : decode cX9_writes 9 = .ok (.ifCond .le 23, 3) := by decide +kernel
theorem dX9_writes_12 : decode cX9_writes 12 = .ok (.aload_n 0, 1) := by decide +kernel
theorem dX9_writes_13 : decode cX9_writes 13 = .ok (.iconst 1, 1) := by decide +kernel
theorem dX9_writes_14 : decode cX9_writes 14 = .ok (.iload_n 1, 1) := by decide +kernel
theorem dX9_writes_15 : decode cX9_writes 15 = .ok (.isub, 1) := by decide +kernel
theorem dX9_writes_16 : decode cX9_writes 16 = .ok (.invokevirtual 162, 3) := by decide +kernel
theorem dX9_writes_19 : decode cX9_writes 19 = .ok (.aload_n 0, 1) := by decide +kernel
theorem dX9_writes_20 : decode cX9_writes 20 = .ok (.dup, 1) := by decide +kernel
theorem dX9_writes_21 : decode cX9_writes 21 = .ok (.getfield 153, 3) := by decide +kernel
theorem dX9_writes_24 : decode cX9_writes 24 = .ok (.iconst 1, 1) := by decide +kernel
theorem dX9_writes_25 : decode cX9_writes 25 = .ok (.isub, 1) := by decide +kernel
theorem dX9_writes_26 : decode cX9_writes 26 = .ok (.putfield 153, 3) := by decide +kernel
theorem dX9_writes_29 : decode cX9_writes 29 = .ok (.goto (-24), 3) := by decide +kernel
theorem dX9_writes_32 : decode cX9_writes 32 = .ok (.return_, 1) := by decide +kernel
theorem dX9_splitPlace_0 : decode cX9_splitPlace 0 = .ok (.iload_n 1, 1) := by decide +kernel
theorem dX9_splitPlace_1 : decode cX9_splitPlace 1 = .ok (.ifCond .ge 7, 3) := by decide +kernel
theorem dX9_splitPlace_4 : decode cX9_splitPlace 4 = .ok (.iconst 1, 1) := by decide +kernel
theorem dX9_splitPlace_5 : decode cX9_splitPlace 5 = .ok (.goto 11, 3) := by decide +kernel
theorem dX9_splitPlace_8 : decode cX9_splitPlace 8 = .ok (.aload_n 0, 1) := by decide +kernel
theorem dX9_splitPlace_9 : decode cX9_splitPlace 9 = .ok (.getfield 77, 3) := by decide +kernel
theorem dX9_splitPlace_12 : decode cX9_splitPlace 12 = .ok (.iconst 2, 1) := by decide +kernel
theorem dX9_splitPlace_13 : decode cX9_splitPlace 13 = .ok (.iload_n 1, 1) := by decide +kernel
theorem dX9_splitPlace_14 : decode cX9_splitPlace 14 = .ok (.imul, 1) := by decide +kernel
theorem dX9_splitPlace_15 : decode cX9_splitPlace 15 = .ok (.iaload, 1) := by decide +kernel
theorem dX9_splitPlace_16 : decode cX9_splitPlace 16 = .ok (.istore_n 2, 1) := by decide +kernel
theorem dX9_splitPlace_17 : decode cX9_splitPlace 17 = .ok (.iload_n 1, 1) := by decide +kernel
theorem dX9_splitPlace_18 : decode cX9_splitPlace 18 = .ok (.ifCond .ge 7, 3) := by decide +kernel
theorem dX9_splitPlace_21 : decode cX9_splitPlace 21 = .ok (.iconst 1, 1) := by decide +kernel
theorem dX9_splitPlace_22 : decode cX9_splitPlace 22 = .ok (.goto 13, 3) := by decide +kernel
theorem dX9_splitPlace_25 : decode cX9_splitPlace 25 = .ok (.aload_n 0, 1) := by decide +kernel
theorem dX9_splitPlace_26 : decode cX9_splitPlace 26 = .ok (.getfield 77, 3) := by decide +kernel
theorem dX9_splitPlace_29 : decode cX9_splitPlace 29 = .ok (.iconst 2, 1) := by decide +kernel
theorem dX9_splitPlace_30 : decode cX9_splitPlace 30 = .ok (.iload_n 1, 1) := by decide +kernel
theorem dX9_splitPlace_31 : decode cX9_splitPlace 31 = .ok (.imul, 1) := by decide +kernel
theorem dX9_splitPlace_32 : decode cX9_splitPlace 32 = .ok (.iconst 1, 1) := by decide +kernel
theorem dX9_splitPlace_33 : decode cX9_splitPlace 33 = .ok (.iadd, 1) := by decide +kernel
theorem dX9_splitPlace_34 : decode cX9_splitPlace 34 = .ok (.iaload, 1) := by decide +kernel
theorem dX9_splitPlace_35 : decode cX9_splitPlace 35 = .ok (.istore_n 3, 1) := by decide +kernel
theorem dX9_splitPlace_36 : decode cX9_splitPlace 36 = .ok (.aload_n 0, 1) := by decide +kernel
theorem dX9_splitPlace_37 : decode cX9_splitPlace 37 = .ok (.getfield 146, 3) := by decide +kernel
theorem dX9_splitPlace_40 : decode cX9_splitPlace 40 = .ok (.iconst 1, 1) := by decide +kernel
theorem dX9_splitPlace_41 : decode cX9_splitPlace 41 = .ok (.isub, 1) := by decide +kernel
theorem dX9_splitPlace_42 : decode cX9_splitPlace 42 = .ok (.aload_n 0, 1) := by decide +kernel
theorem dX9_splitPlace_43 : decode cX9_splitPlace 43 = .ok (.getfield 150, 3) := by decide +kernel
theorem dX9_splitPlace_46 : decode cX9_splitPlace 46 = .ok (.aload_n 0, 1) := by decide +kernel
theorem dX9_splitPlace_47 : decode cX9_splitPlace 47 = .ok (.getfield 146, 3) := by decide +kernel
theorem dX9_splitPlace_50 : decode cX9_splitPlace 50 = .ok (.isub, 1) := by decide +kernel
theorem dX9_splitPlace_51 : decode cX9_splitPlace 51 = .ok (.iconst 1, 1) := by decide +kernel
theorem dX9_splitPlace_52 : decode cX9_splitPlace 52 = .ok (.iadd, 1) := by decide +kernel
theorem dX9_splitPlace_53 : decode cX9_splitPlace 53 = .ok (.iload_n 2, 1) := by decide +kernel
theorem dX9_splitPlace_54 : decode cX9_splitPlace 54 = .ok (.imul, 1) := by decide +kernel
theorem dX9_splitPlace_55 : decode cX9_splitPlace 55 = .ok (.iload_n 2, 1) := by decide +kernel
theorem dX9_splitPlace_56 : decode cX9_splitPlace 56 = .ok (.iload_n 3, 1) := by decide +kernel
theorem dX9_splitPlace_57 : decode cX9_splitPlace 57 = .ok (.iadd, 1) := by decide +kernel
theorem dX9_splitPlace_58 : decode cX9_splitPlace 58 = .ok (.idiv, 1) := by decide +kernel
theorem dX9_splitPlace_59 : decode cX9_splitPlace 59 = .ok (.iadd, 1) := by decide +kernel
theorem dX9_splitPlace_60 : decode cX9_splitPlace 60 = .ok (.ireturn, 1) := by decide +kernel
theorem dX9_learns_0 : decode cX9_learns 0 = .ok (.iload_n 1, 1) := by decide +kernel
theorem dX9_learns_1 : decode cX9_learns 1 = .ok (.ifCond .ge 4, 3) := by decide +kernel
theorem dX9_learns_4 : decode cX9_learns 4 = .ok (.return_, 1) := by decide +kernel
theorem dX9_learns_5 : decode cX9_learns 5 = .ok (.aload_n 0, 1) := by decide +kernel
theorem dX9_learns_6 : decode cX9_learns 6 = .ok (.getfield 77, 3) := by decide +kernel
theorem dX9_learns_9 : decode cX9_learns 9 = .ok (.iconst 2, 1) := by decide +kernel
theorem dX9_learns_10 : decode cX9_learns 10 = .ok (.iload_n 1, 1) := by decide +kernel
theorem dX9_learns_11 : decode cX9_learns 11 = .ok (.imul, 1) := by decide +kernel
theorem dX9_learns_12 : decode cX9_learns 12 = .ok (.iload_n 2, 1) := by decide +kernel
theorem dX9_learns_13 : decode cX9_learns 13 = .ok (.iadd, 1) := by decide +kernel
theorem dX9_learns_14 : decode cX9_learns 14 = .ok (.dup2, 1) := by decide +kernel
theorem dX9_learns_15 : decode cX9_learns 15 = .ok (.iaload, 1) := by decide +kernel
theorem dX9_learns_16 : decode cX9_learns 16 = .ok (.iconst 1, 1) := by decide +kernel
theorem dX9_learns_17 : decode cX9_learns 17 = .ok (.iadd, 1) := by decide +kernel
theorem dX9_learns_18 : decode cX9_learns 18 = .ok (.iastore, 1) := by decide +kernel
theorem dX9_learns_19 : decode cX9_learns 19 = .ok (.aload_n 0, 1) := by decide +kernel
theorem dX9_learns_20 : decode cX9_learns 20 = .ok (.getfield 77, 3) := by decide +kernel
theorem dX9_learns_23 : decode cX9_learns 23 = .ok (.iconst 2, 1) := by decide +kernel
theorem dX9_learns_24 : decode cX9_learns 24 = .ok (.iload_n 1, 1) := by decide +kernel
theorem dX9_learns_25 : decode cX9_learns 25 = .ok (.imul, 1) := by decide +kernel
theorem dX9_learns_26 : decode cX9_learns 26 = .ok (.iaload, 1) := by decide +kernel
theorem dX9_learns_27 : decode cX9_learns 27 = .ok (.aload_n 0, 1) := by decide +kernel
theorem dX9_learns_28 : decode cX9_learns 28 = .ok (.getfield 77, 3) := by decide +kernel
theorem dX9_learns_31 : decode cX9_learns 31 = .ok (.iconst 2, 1) := by decide +kernel
theorem dX9_learns_32 : decode cX9_learns 32 = .ok (.iload_n 1, 1) := by decide +kernel
theorem dX9_learns_33 : decode cX9_learns 33 = .ok (.imul, 1) := by decide +kernel
theorem dX9_learns_34 : decode cX9_learns 34 = .ok (.iconst 1, 1) := by decide +kernel
theorem dX9_learns_35 : decode cX9_learns 35 = .ok (.iadd, 1) := by decide +kernel
theorem dX9_learns_36 : decode cX9_learns 36 = .ok (.iaload, 1) := by decide +kernel
theorem dX9_learns_37 : decode cX9_learns 37 = .ok (.iadd, 1) := by decide +kernel
theorem dX9_learns_38 : decode cX9_learns 38 = .ok (.bipush 64, 2) := by decide +kernel
theorem dX9_learns_40 : decode cX9_learns 40 = .ok (.if_icmp .gt 4, 3) := by decide +kernel
theorem dX9_learns_43 : decode cX9_learns 43 = .ok (.return_, 1) := by decide +kernel
theorem dX9_learns_44 : decode cX9_learns 44 = .ok (.aload_n 0, 1) := by decide +kernel
theorem dX9_learns_45 : decode cX9_learns 45 = .ok (.getfield 77, 3) := by decide +kernel
theorem dX9_learns_48 : decode cX9_learns 48 = .ok (.iconst 2, 1) := by decide +kernel
theorem dX9_learns_49 : decode cX9_learns 49 = .ok (.iload_n 1, 1) := by decide +kernel
theorem dX9_learns_50 : decode cX9_learns 50 = .ok (.imul, 1) := by decide +kernel
theorem dX9_learns_51 : decode cX9_learns 51 = .ok (.aload_n 0, 1) := by decide +kernel
theorem dX9_learns_52 : decode cX9_learns 52 = .ok (.getfield 77, 3) := by decide +kernel
theorem dX9_learns_55 : decode cX9_learns 55 = .ok (.iconst 2, 1) := by decide +kernel
theorem dX9_learns_56 : decode cX9_learns 56 = .ok (.iload_n 1, 1) := by decide +kernel
theorem dX9_learns_57 : decode cX9_learns 57 = .ok (.imul, 1) := by decide +kernel
theorem dX9_learns_58 : decode cX9_learns 58 = .ok (.iaload, 1) := by decide +kernel
theorem dX9_learns_59 : decode cX9_learns 59 = .ok (.iconst 1, 1) := by decide +kernel
theorem dX9_learns_60 : decode cX9_learns 60 = .ok (.iadd, 1) := by decide +kernel
theorem dX9_learns_61 : decode cX9_learns 61 = .ok (.iconst 2, 1) := by decide +kernel
theorem dX9_learns_62 : decode cX9_learns 62 = .ok (.idiv, 1) := by decide +kernel
theorem dX9_learns_63 : decode cX9_learns 63 = .ok (.iastore, 1) := by decide +kernel
theorem dX9_learns_64 : decode cX9_learns 64 = .ok (.aload_n 0, 1) := by decide +kernel
theorem dX9_learns_65 : decode cX9_learns 65 = .ok (.getfield 77, 3) := by decide +kernel
theorem dX9_learns_68 : decode cX9_learns 68 = .ok (.iconst 2, 1) := by decide +kernel
theorem dX9_learns_69 : decode cX9_learns 69 = .ok (.iload_n 1, 1) := by decide +kernel
theorem dX9_learns_70 : decode cX9_learns 70 = .ok (.imul, 1) := by decide +kernel
theorem dX9_learns_71 : decode cX9_learns 71 = .ok (.iconst 1, 1) := by decide +kernel
theorem dX9_learns_72 : decode cX9_learns 72 = .ok (.iadd, 1) := by decide +kernel
theorem dX9_learns_73 : decode cX9_learns 73 = .ok (.aload_n 0, 1) := by decide +kernel
theorem dX9_learns_74 : decode cX9_learns 74 = .ok (.getfield 77, 3) := by decide +kernel
theorem dX9_learns_77 : decode cX9_learns 77 = .ok (.iconst 2, 1) := by decide +kernel
theorem dX9_learns_78 : decode cX9_learns 78 = .ok (.iload_n 1, 1) := by decide +kernel
theorem dX9_learns_79 : decode cX9_learns 79 = .ok (.imul, 1) := by decide +kernel
theorem dX9_learns_80 : decode cX9_learns 80 = .ok (.iconst 1, 1) := by decide +kernel
theorem dX9_learns_81 : decode cX9_learns 81 = .ok (.iadd, 1) := by decide +kernel
theorem dX9_learns_82 : decode cX9_learns 82 = .ok (.iaload, 1) := by decide +kernel
theorem dX9_learns_83 : decode cX9_learns 83 = .ok (.iconst 1, 1) := by decide +kernel
theorem dX9_learns_84 : decode cX9_learns 84 = .ok (.iadd, 1) := by decide +kernel
theorem dX9_learns_85 : decode cX9_learns 85 = .ok (.iconst 2, 1) := by decide +kernel
theorem dX9_learns_86 : decode cX9_learns 86 = .ok (.idiv, 1) := by decide +kernel
theorem dX9_learns_87 : decode cX9_learns 87 = .ok (.iastore, 1) := by decide +kernel
theorem dX9_learns_88 : decode cX9_learns 88 = .ok (.return_, 1) := by decide +kernel
theorem dX9_narrows_0 : decode cX9_narrows 0 = .ok (.iload_n 2, 1) := by decide +kernel
theorem dX9_narrows_1 : decode cX9_narrows 1 = .ok (.ifCond .ne 11, 3) := by decide +kernel
theorem dX9_narrows_4 : decode cX9_narrows 4 = .ok (.aload_n 0, 1) := by decide +kernel
theorem dX9_narrows_5 : decode cX9_narrows 5 = .ok (.iload_n 1, 1) := by decide +kernel
theorem dX9_narrows_6 : decode cX9_narrows 6 = .ok (.putfield 150, 3) := by decide +kernel
theorem dX9_narrows_9 : decode cX9_narrows 9 = .ok (.goto 10, 3) := by decide +kernel
theorem dX9_narrows_12 : decode cX9_narrows 12 = .ok (.aload_n 0, 1) := by decide +kernel
theorem dX9_narrows_13 : decode cX9_narrows 13 = .ok (.iload_n 1, 1) := by decide +kernel
theorem dX9_narrows_14 : decode cX9_narrows 14 = .ok (.iconst 1, 1) := by decide +kernel
theorem dX9_narrows_15 : decode cX9_narrows 15 = .ok (.iadd, 1) := by decide +kernel
theorem dX9_narrows_16 : decode cX9_narrows 16 = .ok (.putfield 146, 3) := by decide +kernel
theorem dX9_narrows_19 : decode cX9_narrows 19 = .ok (.return_, 1) := by decide +kernel
theorem dX9_offset_0 : decode cX9_offset 0 = .ok (.aload_n 0, 1) := by decide +kernel
theorem dX9_offset_1 : decode cX9_offset 1 = .ok (.getfield 150, 3) := by decide +kernel
theorem dX9_offset_4 : decode cX9_offset 4 = .ok (.ldc 166, 2) := by decide +kernel
theorem dX9_offset_6 : decode cX9_offset 6 = .ok (.if_icmp .ge 7, 3) := by decide +kernel
theorem dX9_offset_9 : decode cX9_offset 9 = .ok (.iconst 0, 1) := by decide +kernel
theorem dX9_offset_10 : decode cX9_offset 10 = .ok (.goto 43, 3) := by decide +kernel
theorem dX9_offset_13 : decode cX9_offset 13 = .ok (.aload_n 0, 1) := by decide +kernel
theorem dX9_offset_14 : decode cX9_offset 14 = .ok (.getfield 146, 3) := by decide +kernel
theorem dX9_offset_17 : decode cX9_offset 17 = .ok (.ldc 166, 2) := by decide +kernel
theorem dX9_offset_19 : decode cX9_offset 19 = .ok (.if_icmp .lt 8, 3) := by decide +kernel
theorem dX9_offset_22 : decode cX9_offset 22 = .ok (.ldc 166, 2) := by decide +kernel
theorem dX9_offset_24 : decode cX9_offset 24 = .ok (.goto 29, 3) := by decide +kernel
theorem dX9_offset_27 : decode cX9_offset 27 = .ok (.aload_n 0, 1) := by decide +kernel
theorem dX9_offset_28 : decode cX9_offset 28 = .ok (.getfield 146, 3) := by decide +kernel
theorem dX9_offset_31 : decode cX9_offset 31 = .ok (.sipush 16384, 3) := by decide +kernel
theorem dX9_offset_34 : decode cX9_offset 34 = .ok (.if_icmp .lt 18, 3) := by decide +kernel
theorem dX9_offset_37 : decode cX9_offset 37 = .ok (.aload_n 0, 1) := by decide +kernel
theorem dX9_offset_38 : decode cX9_offset 38 = .ok (.getfield 150, 3) := by decide +kernel
theorem dX9_offset_41 : decode cX9_offset 41 = .ok (.ldc 167, 2) := by decide +kernel
theorem dX9_offset_43 : decode cX9_offset 43 = .ok (.if_icmp .ge 9, 3) := by decide +kernel
theorem dX9_offset_46 : decode cX9_offset 46 = .ok (.sipush 16384, 3) := by decide +kernel
theorem dX9_offset_49 : decode cX9_offset 49 = .ok (.goto 4, 3) := by decide +kernel
theorem dX9_offset_52 : decode cX9_offset 52 = .ok (.iconst (-1), 1) := by decide +kernel
theorem dX9_offset_53 : decode cX9_offset 53 = .ok (.ireturn, 1) := by decide +kernel
theorem dX9_put_0 : decode cX9_put 0 = .ok (.aload_n 0, 1) := by decide +kernel
theorem dX9_put_1 : decode cX9_put 1 = .ok (.aload_n 0, 1) := by decide +kernel
theorem dX9_put_2 : decode cX9_put 2 = .ok (.iload_n 1, 1) := by decide +kernel
theorem dX9_put_3 : decode cX9_put 3 = .ok (.invokevirtual 168, 3) := by decide +kernel
theorem dX9_put_6 : decode cX9_put 6 = .ok (.iload_n 2, 1) := by decide +kernel
theorem dX9_put_7 : decode cX9_put 7 = .ok (.invokevirtual 171, 3) := by decide +kernel
theorem dX9_put_10 : decode cX9_put 10 = .ok (.aload_n 0, 1) := by decide +kernel
theorem dX9_put_11 : decode cX9_put 11 = .ok (.iload_n 1, 1) := by decide +kernel
theorem dX9_put_12 : decode cX9_put 12 = .ok (.iload_n 2, 1) := by decide +kernel
theorem dX9_put_13 : decode cX9_put 13 = .ok (.invokevirtual 175, 3) := by decide +kernel
theorem dX9_put_16 : decode cX9_put 16 = .ok (.aload_n 0, 1) := by decide +kernel
theorem dX9_put_17 : decode cX9_put 17 = .ok (.invokevirtual 178, 3) := by decide +kernel
theorem dX9_put_20 : decode cX9_put 20 = .ok (.istore_n 3, 1) := by decide +kernel
theorem dX9_put_21 : decode cX9_put 21 = .ok (.iload_n 3, 1) := by decide +kernel
theorem dX9_put_22 : decode cX9_put 22 = .ok (.ifCond .lt 70, 3) := by decide +kernel
theorem dX9_put_25 : decode cX9_put 25 = .ok (.iload_n 3, 1) := by decide +kernel
theorem dX9_put_26 : decode cX9_put 26 = .ok (.sipush 16384, 3) := by decide +kernel
theorem dX9_put_29 : decode cX9_put 29 = .ok (.if_icmp .ne 16, 3) := by decide +kernel
theorem dX9_put_32 : decode cX9_put 32 = .ok (.aload_n 0, 1) := by decide +kernel
theorem dX9_put_33 : decode cX9_put 33 = .ok (.dup, 1) := by decide +kernel
theorem dX9_put_34 : decode cX9_put 34 = .ok (.getfield 153, 3) := by decide +kernel
theorem dX9_put_37 : decode cX9_put 37 = .ok (.iconst 1, 1) := by decide +kernel
theorem dX9_put_38 : decode cX9_put 38 = .ok (.iadd, 1) := by decide +kernel
theorem dX9_put_39 : decode cX9_put 39 = .ok (.putfield 153, 3) := by decide +kernel
theorem dX9_put_42 : decode cX9_put 42 = .ok (.goto 16, 3) := by decide +kernel
theorem dX9_put_45 : decode cX9_put 45 = .ok (.aload_n 0, 1) := by decide +kernel
theorem dX9_put_46 : decode cX9_put 46 = .ok (.iload_n 3, 1) := by decide +kernel
theorem dX9_put_47 : decode cX9_put 47 = .ok (.ifCond .ne 7, 3) := by decide +kernel
theorem dX9_put_50 : decode cX9_put 50 = .ok (.iconst 0, 1) := by decide +kernel
theorem dX9_put_51 : decode cX9_put 51 = .ok (.goto 4, 3) := by decide +kernel
theorem dX9_put_54 : decode cX9_put 54 = .ok (.iconst 1, 1) := by decide +kernel
theorem dX9_put_55 : decode cX9_put 55 = .ok (.invokevirtual 182, 3) := by decide +kernel
theorem dX9_put_58 : decode cX9_put 58 = .ok (.aload_n 0, 1) := by decide +kernel
theorem dX9_put_59 : decode cX9_put 59 = .ok (.iconst 2, 1) := by decide +kernel
theorem dX9_put_60 : decode cX9_put 60 = .ok (.aload_n 0, 1) := by decide +kernel
theorem dX9_put_61 : decode cX9_put 61 = .ok (.getfield 146, 3) := by decide +kernel
theorem dX9_put_64 : decode cX9_put 64 = .ok (.iload_n 3, 1) := by decide +kernel
theorem dX9_put_65 : decode cX9_put 65 = .ok (.isub, 1) := by decide +kernel
theorem dX9_put_66 : decode cX9_put 66 = .ok (.imul, 1) := by decide +kernel
theorem dX9_put_67 : decode cX9_put 67 = .ok (.putfield 146, 3) := by decide +kernel
theorem dX9_put_70 : decode cX9_put 70 = .ok (.aload_n 0, 1) := by decide +kernel
theorem dX9_put_71 : decode cX9_put 71 = .ok (.iconst 2, 1) := by decide +kernel
theorem dX9_put_72 : decode cX9_put 72 = .ok (.aload_n 0, 1) := by decide +kernel
theorem dX9_put_73 : decode cX9_put 73 = .ok (.getfield 150, 3) := by decide +kernel
theorem dX9_put_76 : decode cX9_put 76 = .ok (.iload_n 3, 1) := by decide +kernel
theorem dX9_put_77 : decode cX9_put 77 = .ok (.isub, 1) := by decide +kernel
theorem dX9_put_78 : decode cX9_put 78 = .ok (.imul, 1) := by decide +kernel
theorem dX9_put_79 : decode cX9_put 79 = .ok (.iconst 1, 1) := by decide +kernel
theorem dX9_put_80 : decode cX9_put 80 = .ok (.iadd, 1) := by decide +kernel
theorem dX9_put_81 : decode cX9_put 81 = .ok (.putfield 150, 3) := by decide +kernel
theorem dX9_put_84 : decode cX9_put 84 = .ok (.aload_n 0, 1) := by decide +kernel
theorem dX9_put_85 : decode cX9_put 85 = .ok (.invokevirtual 178, 3) := by decide +kernel
theorem dX9_put_88 : decode cX9_put 88 = .ok (.istore_n 3, 1) := by decide +kernel
theorem dX9_put_89 : decode cX9_put 89 = .ok (.goto (-68), 3) := by decide +kernel
theorem dX9_put_92 : decode cX9_put 92 = .ok (.return_, 1) := by decide +kernel
theorem dX9_bitAt_0 : decode cX9_bitAt 0 = .ok (.aload_n 0, 1) := by decide +kernel
theorem dX9_bitAt_1 : decode cX9_bitAt 1 = .ok (.getfield 159, 3) := by decide +kernel
theorem dX9_bitAt_4 : decode cX9_bitAt 4 = .ok (.iload_n 1, 1) := by decide +kernel
theorem dX9_bitAt_5 : decode cX9_bitAt 5 = .ok (.bipush 8, 2) := by decide +kernel
theorem dX9_bitAt_7 : decode cX9_bitAt 7 = .ok (.idiv, 1) := by decide +kernel
theorem dX9_bitAt_8 : decode cX9_bitAt 8 = .ok (.iadd, 1) := by decide +kernel
theorem dX9_bitAt_9 : decode cX9_bitAt 9 = .ok (.aload_n 0, 1) := by decide +kernel
theorem dX9_bitAt_10 : decode cX9_bitAt 10 = .ok (.getfield 185, 3) := by decide +kernel
theorem dX9_bitAt_13 : decode cX9_bitAt 13 = .ok (.if_icmp .ge 30, 3) := by decide +kernel
theorem dX9_bitAt_16 : decode cX9_bitAt 16 = .ok (.aload_n 0, 1) := by decide +kernel
theorem dX9_bitAt_17 : decode cX9_bitAt 17 = .ok (.getfield 26, 3) := by decide +kernel
theorem dX9_bitAt_20 : decode cX9_bitAt 20 = .ok (.aload_n 0, 1) := by decide +kernel
theorem dX9_bitAt_21 : decode cX9_bitAt 21 = .ok (.getfield 159, 3) := by decide +kernel
theorem dX9_bitAt_24 : decode cX9_bitAt 24 = .ok (.iload_n 1, 1) := by decide +kernel
theorem dX9_bitAt_25 : decode cX9_bitAt 25 = .ok (.bipush 8, 2) := by decide +kernel
theorem dX9_bitAt_27 : decode cX9_bitAt 27 = .ok (.idiv, 1) := by decide +kernel
theorem dX9_bitAt_28 : decode cX9_bitAt 28 = .ok (.iadd, 1) := by decide +kernel
theorem dX9_bitAt_29 : decode cX9_bitAt 29 = .ok (.iaload, 1) := by decide +kernel
theorem dX9_bitAt_30 : decode cX9_bitAt 30 = .ok (.bipush 7, 2) := by decide +kernel
theorem dX9_bitAt_32 : decode cX9_bitAt 32 = .ok (.iload_n 1, 1) := by decide +kernel
theorem dX9_bitAt_33 : decode cX9_bitAt 33 = .ok (.bipush 8, 2) := by decide +kernel
theorem dX9_bitAt_35 : decode cX9_bitAt 35 = .ok (.irem, 1) := by decide +kernel
theorem dX9_bitAt_36 : decode cX9_bitAt 36 = .ok (.isub, 1) := by decide +kernel
theorem dX9_bitAt_37 : decode cX9_bitAt 37 = .ok (.ishr, 1) := by decide +kernel
theorem dX9_bitAt_38 : decode cX9_bitAt 38 = .ok (.iconst 1, 1) := by decide +kernel
theorem dX9_bitAt_39 : decode cX9_bitAt 39 = .ok (.iand, 1) := by decide +kernel
theorem dX9_bitAt_40 : decode cX9_bitAt 40 = .ok (.goto 4, 3) := by decide +kernel
theorem dX9_bitAt_43 : decode cX9_bitAt 43 = .ok (.iconst 0, 1) := by decide +kernel
theorem dX9_bitAt_44 : decode cX9_bitAt 44 = .ok (.ireturn, 1) := by decide +kernel
theorem dX9_take_0 : decode cX9_take 0 = .ok (.aload_n 0, 1) := by decide +kernel
theorem dX9_take_1 : decode cX9_take 1 = .ok (.iload_n 1, 1) := by decide +kernel
theorem dX9_take_2 : decode cX9_take 2 = .ok (.invokevirtual 168, 3) := by decide +kernel
theorem dX9_take_5 : decode cX9_take 5 = .ok (.istore_n 2, 1) := by decide +kernel
theorem dX9_take_6 : decode cX9_take 6 = .ok (.aload_n 0, 1) := by decide +kernel
theorem dX9_take_7 : decode cX9_take 7 = .ok (.getfield 188, 3) := by decide +kernel
theorem dX9_take_10 : decode cX9_take 10 = .ok (.iload_n 2, 1) := by decide +kernel
theorem dX9_take_11 : decode cX9_take 11 = .ok (.if_icmp .gt 7, 3) := by decide +kernel
theorem dX9_take_14 : decode cX9_take 14 = .ok (.iconst 0, 1) := by decide +kernel
theorem dX9_take_15 : decode cX9_take 15 = .ok (.goto 4, 3) := by decide +kernel
theorem dX9_take_18 : decode cX9_take 18 = .ok (.iconst 1, 1) := by decide +kernel
theorem dX9_take_19 : decode cX9_take 19 = .ok (.istore_n 3, 1) := by decide +kernel
theorem dX9_take_20 : decode cX9_take 20 = .ok (.aload_n 0, 1) := by decide +kernel
theorem dX9_take_21 : decode cX9_take 21 = .ok (.iload_n 2, 1) := by decide +kernel
theorem dX9_take_22 : decode cX9_take 22 = .ok (.iload_n 3, 1) := by decide +kernel
theorem dX9_take_23 : decode cX9_take 23 = .ok (.invokevirtual 171, 3) := by decide +kernel
theorem dX9_take_26 : decode cX9_take 26 = .ok (.aload_n 0, 1) := by decide +kernel
theorem dX9_take_27 : decode cX9_take 27 = .ok (.iload_n 1, 1) := by decide +kernel
theorem dX9_take_28 : decode cX9_take 28 = .ok (.iload_n 3, 1) := by decide +kernel
theorem dX9_take_29 : decode cX9_take 29 = .ok (.invokevirtual 175, 3) := by decide +kernel
theorem dX9_take_32 : decode cX9_take 32 = .ok (.aload_n 0, 1) := by decide +kernel
theorem dX9_take_33 : decode cX9_take 33 = .ok (.invokevirtual 178, 3) := by decide +kernel
theorem dX9_take_36 : decode cX9_take 36 = .ok (.istore 4, 2) := by decide +kernel
theorem dX9_take_38 : decode cX9_take 38 = .ok (.iload 4, 2) := by decide +kernel
theorem dX9_take_40 : decode cX9_take 40 = .ok (.ifCond .lt 72, 3) := by decide +kernel
theorem dX9_take_43 : decode cX9_take 43 = .ok (.aload_n 0, 1) := by decide +kernel
theorem dX9_take_44 : decode cX9_take 44 = .ok (.iconst 2, 1) := by decide +kernel
theorem dX9_take_45 : decode cX9_take 45 = .ok (.aload_n 0, 1) := by decide +kernel
theorem dX9_take_46 : decode cX9_take 46 = .ok (.getfield 146, 3) := by decide +kernel
theorem dX9_take_49 : decode cX9_take 49 = .ok (.iload 4, 2) := by decide +kernel
theorem dX9_take_51 : decode cX9_take 51 = .ok (.isub, 1) := by decide +kernel
theorem dX9_take_52 : decode cX9_take 52 = .ok (.imul, 1) := by decide +kernel
theorem dX9_take_53 : decode cX9_take 53 = .ok (.putfield 146, 3) := by decide +kernel
theorem dX9_take_56 : decode cX9_take 56 = .ok (.aload_n 0, 1) := by decide +kernel
theorem dX9_take_57 : decode cX9_take 57 = .ok (.iconst 2, 1) := by decide +kernel
theorem dX9_take_58 : decode cX9_take 58 = .ok (.aload_n 0, 1) := by decide +kernel
theorem dX9_take_59 : decode cX9_take 59 = .ok (.getfield 150, 3) := by decide +kernel
theorem dX9_take_62 : decode cX9_take 62 = .ok (.iload 4, 2) := by decide +kernel
theorem dX9_take_64 : decode cX9_take 64 = .ok (.isub, 1) := by decide +kernel
theorem dX9_take_65 : decode cX9_take 65 = .ok (.imul, 1) := by decide +kernel
theorem dX9_take_66 : decode cX9_take 66 = .ok (.iconst 1, 1) := by decide +kernel
theorem dX9_take_67 : decode cX9_take 67 = .ok (.iadd, 1) := by decide +kernel
theorem dX9_take_68 : decode cX9_take 68 = .ok (.putfield 150, 3) := by decide +kernel
theorem dX9_take_71 : decode cX9_take 71 = .ok (.aload_n 0, 1) := by decide +kernel
theorem dX9_take_72 : decode cX9_take 72 = .ok (.iconst 2, 1) := by decide +kernel
theorem dX9_take_73 : decode cX9_take 73 = .ok (.aload_n 0, 1) := by decide +kernel
theorem dX9_take_74 : decode cX9_take 74 = .ok (.getfield 188, 3) := by decide +kernel
theorem dX9_take_77 : decode cX9_take 77 = .ok (.iload 4, 2) := by decide +kernel
theorem dX9_take_79 : decode cX9_take 79 = .ok (.isub, 1) := by decide +kernel
theorem dX9_take_80 : decode cX9_take 80 = .ok (.imul, 1) := by decide +kernel
theorem dX9_take_81 : decode cX9_take 81 = .ok (.aload_n 0, 1) := by decide +kernel
theorem dX9_take_82 : decode cX9_take 82 = .ok (.aload_n 0, 1) := by decide +kernel
theorem dX9_take_83 : decode cX9_take 83 = .ok (.getfield 156, 3) := by decide +kernel
theorem dX9_take_86 : decode cX9_take 86 = .ok (.invokevirtual 191, 3) := by decide +kernel
theorem dX9_take_89 : decode cX9_take 89 = .ok (.iadd, 1) := by decide +kernel
theorem dX9_take_90 : decode cX9_take 90 = .ok (.putfield 188, 3) := by decide +kernel
theorem dX9_take_93 : decode cX9_take 93 = .ok (.aload_n 0, 1) := by decide +kernel
theorem dX9_take_94 : decode cX9_take 94 = .ok (.dup, 1) := by decide +kernel
theorem dX9_take_95 : decode cX9_take 95 = .ok (.getfield 156, 3) := by decide +kernel
theorem dX9_take_98 : decode cX9_take 98 = .ok (.iconst 1, 1) := by decide +kernel
theorem dX9_take_99 : decode cX9_take 99 = .ok (.iadd, 1) := by decide +kernel
theorem dX9_take_100 : decode cX9_take 100 = .ok (.putfield 156, 3) := by decide +kernel
theorem dX9_take_103 : decode cX9_take 103 = .ok (.aload_n 0, 1) := by decide +kernel
theorem dX9_take_104 : decode cX9_take 104 = .ok (.invokevirtual 178, 3) := by decide +kernel
theorem dX9_take_107 : decode cX9_take 107 = .ok (.istore 4, 2) := by decide +kernel
theorem dX9_take_109 : decode cX9_take 109 = .ok (.goto (-71), 3) := by decide +kernel
theorem dX9_take_112 : decode cX9_take 112 = .ok (.iload_n 3, 1) := by decide +kernel
theorem dX9_take_113 : decode cX9_take 113 = .ok (.ireturn, 1) := by decide +kernel
theorem dX9_contextOf_0 : decode cX9_contextOf 0 = .ok (.iload_n 2, 1) := by decide +kernel
theorem dX9_contextOf_1 : decode cX9_contextOf 1 = .ok (.ifCond .ne 5, 3) := by decide +kernel
theorem dX9_contextOf_4 : decode cX9_contextOf 4 = .ok (.iconst 4, 1) := by decide +kernel
theorem dX9_contextOf_5 : decode cX9_contextOf 5 = .ok (.ireturn, 1) := by decide +kernel
theorem dX9_contextOf_6 : decode cX9_contextOf 6 = .ok (.iload_n 2, 1) := by decide +kernel
theorem dX9_contextOf_7 : decode cX9_contextOf 7 = .ok (.iload_n 1, 1) := by decide +kernel
theorem dX9_contextOf_8 : decode cX9_contextOf 8 = .ok (.irem, 1) := by decide +kernel
theorem dX9_contextOf_9 : decode cX9_contextOf 9 = .ok (.ifCond .le 18, 3) := by decide +kernel
theorem dX9_contextOf_12 : decode cX9_contextOf 12 = .ok (.aload_n 0, 1) := by decide +kernel
theorem dX9_contextOf_13 : decode cX9_contextOf 13 = .ok (.getfield 71, 3) := by decide +kernel
theorem dX9_contextOf_16 : decode cX9_contextOf 16 = .ok (.iload_n 2, 1) := by decide +kernel
theorem dX9_contextOf_17 : decode cX9_contextOf 17 = .ok (.iconst 1, 1) := by decide +kernel
theorem dX9_contextOf_18 : decode cX9_contextOf 18 = .ok (.isub, 1) := by decide +kernel
theorem dX9_contextOf_19 : decode cX9_contextOf 19 = .ok (.iaload, 1) := by decide +kernel
theorem dX9_contextOf_20 : decode cX9_contextOf 20 = .ok (.ifCond .eq 7, 3) := by decide +kernel
theorem dX9_contextOf_23 : decode cX9_contextOf 23 = .ok (.iconst 1, 1) := by decide +kernel
theorem dX9_contextOf_24 : decode cX9_contextOf 24 = .ok (.goto 4, 3) := by decide +kernel
theorem dX9_contextOf_27 : decode cX9_contextOf 27 = .ok (.iconst 0, 1) := by decide +kernel
theorem dX9_contextOf_28 : decode cX9_contextOf 28 = .ok (.istore_n 3, 1) := by decide +kernel
theorem dX9_contextOf_29 : decode cX9_contextOf 29 = .ok (.iconst 5, 1) := by decide +kernel
theorem dX9_contextOf_30 : decode cX9_contextOf 30 = .ok (.iload_n 3, 1) := by decide +kernel
theorem dX9_contextOf_31 : decode cX9_contextOf 31 = .ok (.iadd, 1) := by decide +kernel
theorem dX9_contextOf_32 : decode cX9_contextOf 32 = .ok (.iload_n 2, 1) := by decide +kernel
theorem dX9_contextOf_33 : decode cX9_contextOf 33 = .ok (.iload_n 1, 1) := by decide +kernel
theorem dX9_contextOf_34 : decode cX9_contextOf 34 = .ok (.if_icmp .lt 18, 3) := by decide +kernel
theorem dX9_contextOf_37 : decode cX9_contextOf 37 = .ok (.aload_n 0, 1) := by decide +kernel
theorem dX9_contextOf_38 : decode cX9_contextOf 38 = .ok (.getfield 71, 3) := by decide +kernel
theorem dX9_contextOf_41 : decode cX9_contextOf 41 = .ok (.iload_n 2, 1) := by decide +kernel
theorem dX9_contextOf_42 : decode cX9_contextOf 42 = .ok (.iload_n 1, 1) := by decide +kernel
theorem dX9_contextOf_43 : decode cX9_contextOf 43 = .ok (.isub, 1) := by decide +kernel
theorem dX9_contextOf_44 : decode cX9_contextOf 44 = .ok (.iaload, 1) := by decide +kernel
theorem dX9_contextOf_45 : decode cX9_contextOf 45 = .ok (.ifCond .eq 7, 3) := by decide +kernel
theorem dX9_contextOf_48 : decode cX9_contextOf 48 = .ok (.iconst 1, 1) := by decide +kernel
theorem dX9_contextOf_49 : decode cX9_contextOf 49 = .ok (.goto 4, 3) := by decide +kernel
theorem dX9_contextOf_52 : decode cX9_contextOf 52 = .ok (.iconst 0, 1) := by decide +kernel
theorem dX9_contextOf_53 : decode cX9_contextOf 53 = .ok (.iadd, 1) := by decide +kernel
theorem dX9_contextOf_54 : decode cX9_contextOf 54 = .ok (.ireturn, 1) := by decide +kernel
theorem dX9_putBlock_0 : decode cX9_putBlock 0 = .ok (.aload_n 0, 1) := by decide +kernel
theorem dX9_putBlock_1 : decode cX9_putBlock 1 = .ok (.getfield 50, 3) := by decide +kernel
theorem dX9_putBlock_4 : decode cX9_putBlock 4 = .ok (.sipush 384, 3) := by decide +kernel
theorem dX9_putBlock_7 : decode cX9_putBlock 7 = .ok (.iload_n 1, 1) := by decide +kernel
theorem dX9_putBlock_8 : decode cX9_putBlock 8 = .ok (.imul, 1) := by decide +kernel
theorem dX9_putBlock_9 : decode cX9_putBlock 9 = .ok (.bipush 16, 2) := by decide +kernel
theorem dX9_putBlock_11 : decode cX9_putBlock 11 = .ok (.iload_n 3, 1) := by decide +kernel
theorem dX9_putBlock_12 : decode cX9_putBlock 12 = .ok (.imul, 1) := by decide +kernel
theorem dX9_putBlock_13 : decode cX9_putBlock 13 = .ok (.iadd, 1) := by decide +kernel
theorem dX9_putBlock_14 : decode cX9_putBlock 14 = .ok (.iload_n 2, 1) := by decide +kernel
theorem dX9_putBlock_15 : decode cX9_putBlock 15 = .ok (.iadd, 1) := by decide +kernel
theorem dX9_putBlock_16 : decode cX9_putBlock 16 = .ok (.iaload, 1) := by decide +kernel
theorem dX9_putBlock_17 : decode cX9_putBlock 17 = .ok (.istore 5, 2) := by decide +kernel
theorem dX9_putBlock_19 : decode cX9_putBlock 19 = .ok (.aload_n 0, 1) := by decide +kernel
theorem dX9_putBlock_20 : decode cX9_putBlock 20 = .ok (.iconst 1, 1) := by decide +kernel
theorem dX9_putBlock_21 : decode cX9_putBlock 21 = .ok (.iload 5, 2) := by decide +kernel
theorem dX9_putBlock_23 : decode cX9_putBlock 23 = .ok (.iconst 2, 1) := by decide +kernel
theorem dX9_putBlock_24 : decode cX9_putBlock 24 = .ok (.idiv, 1) := by decide +kernel
theorem dX9_putBlock_25 : decode cX9_putBlock 25 = .ok (.invokevirtual 194, 3) := by decide +kernel
theorem dX9_putBlock_28 : decode cX9_putBlock 28 = .ok (.aload_n 0, 1) := by decide +kernel
theorem dX9_putBlock_29 : decode cX9_putBlock 29 = .ok (.iconst 2, 1) := by decide +kernel
theorem dX9_putBlock_30 : decode cX9_putBlock 30 = .ok (.iload 5, 2) := by decide +kernel
theorem dX9_putBlock_32 : decode cX9_putBlock 32 = .ok (.iconst 2, 1) := by decide +kernel
theorem dX9_putBlock_33 : decode cX9_putBlock 33 = .ok (.idiv, 1) := by decide +kernel
theorem dX9_putBlock_34 : decode cX9_putBlock 34 = .ok (.iadd, 1) := by decide +kernel
theorem dX9_putBlock_35 : decode cX9_putBlock 35 = .ok (.iload 5, 2) := by decide +kernel
theorem dX9_putBlock_37 : decode cX9_putBlock 37 = .ok (.iconst 2, 1) := by decide +kernel
theorem dX9_putBlock_38 : decode cX9_putBlock 38 = .ok (.irem, 1) := by decide +kernel
theorem dX9_putBlock_39 : decode cX9_putBlock 39 = .ok (.invokevirtual 194, 3) := by decide +kernel
theorem dX9_putBlock_42 : decode cX9_putBlock 42 = .ok (.iconst 0, 1) := by decide +kernel
theorem dX9_putBlock_43 : decode cX9_putBlock 43 = .ok (.istore 6, 2) := by decide +kernel
theorem dX9_putBlock_45 : decode cX9_putBlock 45 = .ok (.iload 6, 2) := by decide +kernel
theorem dX9_putBlock_47 : decode cX9_putBlock 47 = .ok (.iload 4, 2) := by decide +kernel
theorem dX9_putBlock_49 : decode cX9_putBlock 49 = .ok (.iload 4, 2) := by decide +kernel
theorem dX9_putBlock_51 : decode cX9_putBlock 51 = .ok (.imul, 1) := by decide +kernel
theorem dX9_putBlock_52 : decode cX9_putBlock 52 = .ok (.if_icmp .ge 190, 3) := by decide +kernel
theorem dX9_putBlock_55 : decode cX9_putBlock 55 = .ok (.aload_n 0, 1) := by decide +kernel
theorem dX9_putBlock_56 : decode cX9_putBlock 56 = .ok (.getfield 47, 3) := by decide +kernel
theorem dX9_putBlock_59 : decode cX9_putBlock 59 = .ok (.sipush 384, 3) := by decide +kernel
theorem dX9_putBlock_62 : decode cX9_putBlock 62 = .ok (.iload_n 1, 1) := by decide +kernel
theorem dX9_putBlock_63 : decode cX9_putBlock 63 = .ok (.imul, 1) := by decide +kernel
theorem dX9_putBlock_64 : decode cX9_putBlock 64 = .ok (.bipush 16, 2) := by decide +kernel
theorem dX9_putBlock_66 : decode cX9_putBlock 66 = .ok (.iload_n 3, 1) := by decide +kernel
theorem dX9_putBlock_67 : decode cX9_putBlock 67 = .ok (.iload 6, 2) := by decide +kernel
theorem dX9_putBlock_69 : decode cX9_putBlock 69 = .ok (.iload 4, 2) := by decide +kernel
theorem dX9_putBlock_71 : decode cX9_putBlock 71 = .ok (.idiv, 1) := by decide +kernel
theorem dX9_putBlock_72 : decode cX9_putBlock 72 = .ok (.iadd, 1) := by decide +kernel
theorem dX9_putBlock_73 : decode cX9_putBlock 73 = .ok (.imul, 1) := by decide +kernel
theorem dX9_putBlock_74 : decode cX9_putBlock 74 = .ok (.iadd, 1) := by decide +kernel
theorem dX9_putBlock_75 : decode cX9_putBlock 75 = .ok (.iload_n 2, 1) := by decide +kernel
theorem dX9_putBlock_76 : decode cX9_putBlock 76 = .ok (.iadd, 1) := by decide +kernel
theorem dX9_putBlock_77 : decode cX9_putBlock 77 = .ok (.iload 6, 2) := by decide +kernel
theorem dX9_putBlock_79 : decode cX9_putBlock 79 = .ok (.iload 4, 2) := by decide +kernel
theorem dX9_putBlock_81 : decode cX9_putBlock 81 = .ok (.irem, 1) := by decide +kernel
theorem dX9_putBlock_82 : decode cX9_putBlock 82 = .ok (.iadd, 1) := by decide +kernel
theorem dX9_putBlock_83 : decode cX9_putBlock 83 = .ok (.iaload, 1) := by decide +kernel
theorem dX9_putBlock_84 : decode cX9_putBlock 84 = .ok (.istore 7, 2) := by decide +kernel
theorem dX9_putBlock_86 : decode cX9_putBlock 86 = .ok (.iload 7, 2) := by decide +kernel
theorem dX9_putBlock_88 : decode cX9_putBlock 88 = .ok (.invokestatic 132, 3) := by decide +kernel
theorem dX9_putBlock_91 : decode cX9_putBlock 91 = .ok (.istore 8, 2) := by decide +kernel
theorem dX9_putBlock_93 : decode cX9_putBlock 93 = .ok (.iload 7, 2) := by decide +kernel
theorem dX9_putBlock_95 : decode cX9_putBlock 95 = .ok (.ifCond .ge 9, 3) := by decide +kernel
theorem dX9_putBlock_98 : decode cX9_putBlock 98 = .ok (.iload 7, 2) := by decide +kernel
theorem dX9_putBlock_100 : decode cX9_putBlock 100 = .ok (.ineg, 1) := by decide +kernel
theorem dX9_putBlock_101 : decode cX9_putBlock 101 = .ok (.goto 5, 3) := by decide +kernel
theorem dX9_putBlock_104 : decode cX9_putBlock 104 = .ok (.iload 7, 2) := by decide +kernel
theorem dX9_putBlock_106 : decode cX9_putBlock 106 = .ok (.istore 9, 2) := by decide +kernel
theorem dX9_putBlock_108 : decode cX9_putBlock 108 = .ok (.aload_n 0, 1) := by decide +kernel
theorem dX9_putBlock_109 : decode cX9_putBlock 109 = .ok (.aload_n 0, 1) := by decide +kernel
theorem dX9_putBlock_110 : decode cX9_putBlock 110 = .ok (.iload 4, 2) := by decide +kernel
theorem dX9_putBlock_112 : decode cX9_putBlock 112 = .ok (.iload 6, 2) := by decide +kernel
theorem dX9_putBlock_114 : decode cX9_putBlock 114 = .ok (.invokevirtual 197, 3) := by decide +kernel
theorem dX9_putBlock_117 : decode cX9_putBlock 117 = .ok (.iload 7, 2) := by decide +kernel
theorem dX9_putBlock_119 : decode cX9_putBlock 119 = .ok (.ifCond .ne 7, 3) := by decide +kernel
theorem dX9_putBlock_122 : decode cX9_putBlock 122 = .ok (.iconst 0, 1) := by decide +kernel
theorem dX9_putBlock_123 : decode cX9_putBlock 123 = .ok (.goto 4, 3) := by decide +kernel
theorem dX9_putBlock_126 : decode cX9_putBlock 126 = .ok (.iconst 1, 1) := by decide +kernel
theorem dX9_putBlock_127 : decode cX9_putBlock 127 = .ok (.invokevirtual 194, 3) := by decide +kernel
theorem dX9_putBlock_130 : decode cX9_putBlock 130 = .ok (.aload_n 0, 1) := by decide +kernel
theorem dX9_putBlock_131 : decode cX9_putBlock 131 = .ok (.getfield 71, 3) := by decide +kernel
theorem dX9_putBlock_134 : decode cX9_putBlock 134 = .ok (.iload 6, 2) := by decide +kernel
theorem dX9_putBlock_136 : decode cX9_putBlock 136 = .ok (.iload 7, 2) := by decide +kernel
theorem dX9_putBlock_138 : decode cX9_putBlock 138 = .ok (.iastore, 1) := by decide +kernel
theorem dX9_putBlock_139 : decode cX9_putBlock 139 = .ok (.iload 7, 2) := by decide +kernel
theorem dX9_putBlock_141 : decode cX9_putBlock 141 = .ok (.ifCond .ne 6, 3) := by decide +kernel
theorem dX9_putBlock_144 : decode cX9_putBlock 144 = .ok (.goto 92, 3) := by decide +kernel
theorem dX9_putBlock_147 : decode cX9_putBlock 147 = .ok (.aload_n 0, 1) := by decide +kernel
theorem dX9_putBlock_148 : decode cX9_putBlock 148 = .ok (.bipush 8, 2) := by decide +kernel
theorem dX9_putBlock_150 : decode cX9_putBlock 150 = .ok (.iload 7, 2) := by decide +kernel
theorem dX9_putBlock_152 : decode cX9_putBlock 152 = .ok (.ifCond .ge 7, 3) := by decide +kernel
theorem dX9_putBlock_155 : decode cX9_putBlock 155 = .ok (.iconst 1, 1) := by decide +kernel
theorem dX9_putBlock_156 : decode cX9_putBlock 156 = .ok (.goto 4, 3) := by decide +kernel
theorem dX9_putBlock_159 : decode cX9_putBlock 159 = .ok (.iconst 0, 1) := by decide +kernel
theorem dX9_putBlock_160 : decode cX9_putBlock 160 = .ok (.invokevirtual 194, 3) := by decide +kernel
theorem dX9_putBlock_163 : decode cX9_putBlock 163 = .ok (.iconst 1, 1) := by decide +kernel
theorem dX9_putBlock_164 : decode cX9_putBlock 164 = .ok (.istore 10, 2) := by decide +kernel
theorem dX9_putBlock_166 : decode cX9_putBlock 166 = .ok (.iload 10, 2) := by decide +kernel
theorem dX9_putBlock_168 : decode cX9_putBlock 168 = .ok (.iload 8, 2) := by decide +kernel
theorem dX9_putBlock_170 : decode cX9_putBlock 170 = .ok (.if_icmp .gt 37, 3) := by decide +kernel
theorem dX9_putBlock_173 : decode cX9_putBlock 173 = .ok (.iload 10, 2) := by decide +kernel
theorem dX9_putBlock_175 : decode cX9_putBlock 175 = .ok (.bipush 11, 2) := by decide +kernel
theorem dX9_putBlock_177 : decode cX9_putBlock 177 = .ok (.if_icmp .gt 30, 3) := by decide +kernel
theorem dX9_putBlock_180 : decode cX9_putBlock 180 = .ok (.aload_n 0, 1) := by decide +kernel
theorem dX9_putBlock_181 : decode cX9_putBlock 181 = .ok (.bipush 8, 2) := by decide +kernel
theorem dX9_putBlock_183 : decode cX9_putBlock 183 = .ok (.iload 10, 2) := by decide +kernel
theorem dX9_putBlock_185 : decode cX9_putBlock 185 = .ok (.iadd, 1) := by decide +kernel
theorem dX9_putBlock_186 : decode cX9_putBlock 186 = .ok (.iload 8, 2) := by decide +kernel
theorem dX9_putBlock_188 : decode cX9_putBlock 188 = .ok (.iload 10, 2) := by decide +kernel
theorem dX9_putBlock_190 : decode cX9_putBlock 190 = .ok (.if_icmp .le 7, 3) := by decide +kernel
theorem dX9_putBlock_193 : decode cX9_putBlock 193 = .ok (.iconst 1, 1) := by decide +kernel
theorem dX9_putBlock_194 : decode cX9_putBlock 194 = .ok (.goto 4, 3) := by decide +kernel
theorem dX9_putBlock_197 : decode cX9_putBlock 197 = .ok (.iconst 0, 1) := by decide +kernel
theorem dX9_putBlock_198 : decode cX9_putBlock 198 = .ok (.invokevirtual 194, 3) := by decide +kernel
theorem dX9_putBlock_201 : decode cX9_putBlock 201 = .ok (.iinc 10 1, 3) := by decide +kernel
theorem dX9_putBlock_204 : decode cX9_putBlock 204 = .ok (.goto (-38), 3) := by decide +kernel
theorem dX9_putBlock_207 : decode cX9_putBlock 207 = .ok (.iload 8, 2) := by decide +kernel
theorem dX9_putBlock_209 : decode cX9_putBlock 209 = .ok (.iconst 2, 1) := by decide +kernel
theorem dX9_putBlock_210 : decode cX9_putBlock 210 = .ok (.isub, 1) := by decide +kernel
theorem dX9_putBlock_211 : decode cX9_putBlock 211 = .ok (.istore 10, 2) := by decide +kernel
theorem dX9_putBlock_213 : decode cX9_putBlock 213 = .ok (.iload 10, 2) := by decide +kernel
theorem dX9_putBlock_215 : decode cX9_putBlock 215 = .ok (.ifCond .lt 21, 3) := by decide +kernel
theorem dX9_putBlock_218 : decode cX9_putBlock 218 = .ok (.aload_n 0, 1) := by decide +kernel
theorem dX9_putBlock_219 : decode cX9_putBlock 219 = .ok (.iconst (-1), 1) := by decide +kernel
theorem dX9_putBlock_220 : decode cX9_putBlock 220 = .ok (.iload 9, 2) := by decide +kernel
theorem dX9_putBlock_222 : decode cX9_putBlock 222 = .ok (.iload 10, 2) := by decide +kernel
theorem dX9_putBlock_224 : decode cX9_putBlock 224 = .ok (.ishr, 1) := by decide +kernel
theorem dX9_putBlock_225 : decode cX9_putBlock 225 = .ok (.iconst 1, 1) := by decide +kernel
theorem dX9_putBlock_226 : decode cX9_putBlock 226 = .ok (.iand, 1) := by decide +kernel
theorem dX9_putBlock_227 : decode cX9_putBlock 227 = .ok (.invokevirtual 194, 3) := by decide +kernel
theorem dX9_putBlock_230 : decode cX9_putBlock 230 = .ok (.iinc 10 (-1), 3) := by decide +kernel
theorem dX9_putBlock_233 : decode cX9_putBlock 233 = .ok (.goto (-20), 3) := by decide +kernel
theorem dX9_putBlock_236 : decode cX9_putBlock 236 = .ok (.iinc 6 1, 3) := by decide +kernel
theorem dX9_putBlock_239 : decode cX9_putBlock 239 = .ok (.goto (-194), 3) := by decide +kernel
theorem dX9_putBlock_242 : decode cX9_putBlock 242 = .ok (.return_, 1) := by decide +kernel
theorem dX9_takeBlock_0 : decode cX9_takeBlock 0 = .ok (.iconst 2, 1) := by decide +kernel
theorem dX9_takeBlock_1 : decode cX9_takeBlock 1 = .ok (.aload_n 0, 1) := by decide +kernel
theorem dX9_takeBlock_2 : decode cX9_takeBlock 2 = .ok (.iconst 1, 1) := by decide +kernel
theorem dX9_takeBlock_3 : decode cX9_takeBlock 3 = .ok (.invokevirtual 200, 3) := by decide +kernel
theorem dX9_takeBlock_6 : decode cX9_takeBlock 6 = .ok (.imul, 1) := by decide +kernel
theorem dX9_takeBlock_7 : decode cX9_takeBlock 7 = .ok (.istore 6, 2) := by decide +kernel
theorem dX9_takeBlock_9 : decode cX9_takeBlock 9 = .ok (.iload 6, 2) := by decide +kernel
theorem dX9_takeBlock_11 : decode cX9_takeBlock 11 = .ok (.aload_n 0, 1) := by decide +kernel
theorem dX9_takeBlock_12 : decode cX9_takeBlock 12 = .ok (.iconst 2, 1) := by decide +kernel
theorem dX9_takeBlock_13 : decode cX9_takeBlock 13 = .ok (.iload 6, 2) := by decide +kernel
theorem dX9_takeBlock_15 : decode cX9_takeBlock 15 = .ok (.iconst 2, 1) := by decide +kernel
theorem dX9_takeBlock_16 : decode cX9_takeBlock 16 = .ok (.idiv, 1) := by decide +kernel
theorem dX9_takeBlock_17 : decode cX9_takeBlock 17 = .ok (.iadd, 1) := by decide +kernel
theorem dX9_takeBlock_18 : decode cX9_takeBlock 18 = .ok (.invokevirtual 200, 3) := by decide +kernel
theorem dX9_takeBlock_21 : decode cX9_takeBlock 21 = .ok (.iadd, 1) := by decide +kernel
theorem dX9_takeBlock_22 : decode cX9_takeBlock 22 = .ok (.istore 6, 2) := by decide +kernel
theorem dX9_takeBlock_24 : decode cX9_takeBlock 24 = .ok (.iconst 0, 1) := by decide +kernel
theorem dX9_takeBlock_25 : decode cX9_takeBlock 25 = .ok (.istore 7, 2) := by decide +kernel
theorem dX9_takeBlock_27 : decode cX9_takeBlock 27 = .ok (.iload 7, 2) := by decide +kernel
theorem dX9_takeBlock_29 : decode cX9_takeBlock 29 = .ok (.iload_n 3, 1) := by decide +kernel
theorem dX9_takeBlock_30 : decode cX9_takeBlock 30 = .ok (.iload_n 3, 1) := by decide +kernel
theorem dX9_takeBlock_31 : decode cX9_takeBlock 31 = .ok (.imul, 1) := by decide +kernel
theorem dX9_takeBlock_32 : decode cX9_takeBlock 32 = .ok (.if_icmp .ge 123, 3) := by decide +kernel
theorem dX9_takeBlock_35 : decode cX9_takeBlock 35 = .ok (.aload_n 0, 1) := by decide +kernel
theorem dX9_takeBlock_36 : decode cX9_takeBlock 36 = .ok (.getfield 71, 3) := by decide +kernel
theorem dX9_takeBlock_39 : decode cX9_takeBlock 39 = .ok (.iload 7, 2) := by decide +kernel
theorem dX9_takeBlock_41 : decode cX9_takeBlock 41 = .ok (.iconst 0, 1) := by decide +kernel
theorem dX9_takeBlock_42 : decode cX9_takeBlock 42 = .ok (.iastore, 1) := by decide +kernel
theorem dX9_takeBlock_43 : decode cX9_takeBlock 43 = .ok (.aload_n 0, 1) := by decide +kernel
theorem dX9_takeBlock_44 : decode cX9_takeBlock 44 = .ok (.aload_n 0, 1) := by decide +kernel
theorem dX9_takeBlock_45 : decode cX9_takeBlock 45 = .ok (.iload_n 3, 1) := by decide +kernel
theorem dX9_takeBlock_46 : decode cX9_takeBlock 46 = .ok (.iload 7, 2) := by decide +kernel
theorem dX9_takeBlock_48 : decode cX9_takeBlock 48 = .ok (.invokevirtual 197, 3) := by decide +kernel
theorem dX9_takeBlock_51 : decode cX9_takeBlock 51 = .ok (.invokevirtual 200, 3) := by decide +kernel
theorem dX9_takeBlock_54 : decode cX9_takeBlock 54 = .ok (.ifCond .ne 6, 3) := by decide +kernel
theorem dX9_takeBlock_57 : decode cX9_takeBlock 57 = .ok (.goto 92, 3) := by decide +kernel
theorem dX9_takeBlock_60 : decode cX9_takeBlock 60 = .ok (.aload_n 0, 1) := by decide +kernel
theorem dX9_takeBlock_61 : decode cX9_takeBlock 61 = .ok (.bipush 8, 2) := by decide +kernel
theorem dX9_takeBlock_63 : decode cX9_takeBlock 63 = .ok (.invokevirtual 200, 3) := by decide +kernel
theorem dX9_takeBlock_66 : decode cX9_takeBlock 66 = .ok (.istore 8, 2) := by decide +kernel
theorem dX9_takeBlock_68 : decode cX9_takeBlock 68 = .ok (.iconst 1, 1) := by decide +kernel
theorem dX9_takeBlock_69 : decode cX9_takeBlock 69 = .ok (.istore 9, 2) := by decide +kernel
theorem dX9_takeBlock_71 : decode cX9_takeBlock 71 = .ok (.iload 9, 2) := by decide +kernel
theorem dX9_takeBlock_73 : decode cX9_takeBlock 73 = .ok (.bipush 12, 2) := by decide +kernel
theorem dX9_takeBlock_75 : decode cX9_takeBlock 75 = .ok (.if_icmp .ge 22, 3) := by decide +kernel
theorem dX9_takeBlock_78 : decode cX9_takeBlock 78 = .ok (.aload_n 0, 1) := by decide +kernel
theorem dX9_takeBlock_79 : decode cX9_takeBlock 79 = .ok (.bipush 8, 2) := by decide +kernel
theorem dX9_takeBlock_81 : decode cX9_takeBlock 81 = .ok (.iload 9, 2) := by decide +kernel
theorem dX9_takeBlock_83 : decode cX9_takeBlock 83 = .ok (.iadd, 1) := by decide +kernel
theorem dX9_takeBlock_84 : decode cX9_takeBlock 84 = .ok (.invokevirtual 200, 3) := by decide +kernel
theorem dX9_takeBlock_87 : decode cX9_takeBlock 87 = .ok (.iconst 1, 1) := by decide +kernel
theorem dX9_takeBlock_88 : decode cX9_takeBlock 88 = .ok (.if_icmp .ne 9, 3) := by decide +kernel
theorem dX9_takeBlock_91 : decode cX9_takeBlock 91 = .ok (.iinc 9 1, 3) := by decide +kernel
theorem dX9_takeBlock_94 : decode cX9_takeBlock 94 = .ok (.goto (-23), 3) := by decide +kernel
theorem dX9_takeBlock_97 : decode cX9_takeBlock 97 = .ok (.iconst 1, 1) := by decide +kernel
theorem dX9_takeBlock_98 : decode cX9_takeBlock 98 = .ok (.istore 10, 2) := by decide +kernel
theorem dX9_takeBlock_100 : decode cX9_takeBlock 100 = .ok (.iconst 1, 1) := by decide +kernel
theorem dX9_takeBlock_101 : decode cX9_takeBlock 101 = .ok (.istore 11, 2) := by decide +kernel
theorem dX9_takeBlock_103 : decode cX9_takeBlock 103 = .ok (.iload 11, 2) := by decide +kernel
theorem dX9_takeBlock_105 : decode cX9_takeBlock 105 = .ok (.iload 9, 2) := by decide +kernel
theorem dX9_takeBlock_107 : decode cX9_takeBlock 107 = .ok (.if_icmp .ge 21, 3) := by decide +kernel
theorem dX9_takeBlock_110 : decode cX9_takeBlock 110 = .ok (.iconst 2, 1) := by decide +kernel
theorem dX9_takeBlock_111 : decode cX9_takeBlock 111 = .ok (.iload 10, 2) := by decide +kernel
theorem dX9_takeBlock_113 : decode cX9_takeBlock 113 = .ok (.imul, 1) := by decide +kernel
theorem dX9_takeBlock_114 : decode cX9_takeBlock 114 = .ok (.aload_n 0, 1) := by decide +kernel
theorem dX9_takeBlock_115 : decode cX9_takeBlock 115 = .ok (.iconst (-1), 1) := by decide +kernel
theorem dX9_takeBlock_116 : decode cX9_takeBlock 116 = .ok (.invokevirtual 200, 3) := by decide +kernel
theorem dX9_takeBlock_119 : decode cX9_takeBlock 119 = .ok (.iadd, 1) := by decide +kernel
theorem dX9_takeBlock_120 : decode cX9_takeBlock 120 = .ok (.istore 10, 2) := by decide +kernel
theorem dX9_takeBlock_122 : decode cX9_takeBlock 122 = .ok (.iinc 11 1, 3) := by decide +kernel
theorem dX9_takeBlock_125 : decode cX9_takeBlock 125 = .ok (.goto (-22), 3) := by decide +kernel
theorem dX9_takeBlock_128 : decode cX9_takeBlock 128 = .ok (.aload_n 0, 1) := by decide +kernel
theorem dX9_takeBlock_129 : decode cX9_takeBlock 129 = .ok (.getfield 71, 3) := by decide +kernel
theorem dX9_takeBlock_132 : decode cX9_takeBlock 132 = .ok (.iload 7, 2) := by decide +kernel
theorem dX9_takeBlock_134 : decode cX9_takeBlock 134 = .ok (.iload 8, 2) := by decide +kernel
theorem dX9_takeBlock_136 : decode cX9_takeBlock 136 = .ok (.iconst 1, 1) := by decide +kernel
theorem dX9_takeBlock_137 : decode cX9_takeBlock 137 = .ok (.if_icmp .ne 9, 3) := by decide +kernel
theorem dX9_takeBlock_140 : decode cX9_takeBlock 140 = .ok (.iload 10, 2) := by decide +kernel
theorem dX9_takeBlock_142 : decode cX9_takeBlock 142 = .ok (.ineg, 1) := by decide +kernel
theorem dX9_takeBlock_143 : decode cX9_takeBlock 143 = .ok (.goto 5, 3) := by decide +kernel
theorem dX9_takeBlock_146 : decode cX9_takeBlock 146 = .ok (.iload 10, 2) := by decide +kernel
theorem dX9_takeBlock_148 : decode cX9_takeBlock 148 = .ok (.iastore, 1) := by decide +kernel
theorem dX9_takeBlock_149 : decode cX9_takeBlock 149 = .ok (.iinc 7 1, 3) := by decide +kernel
theorem dX9_takeBlock_152 : decode cX9_takeBlock 152 = .ok (.goto (-125), 3) := by decide +kernel
theorem dX9_takeBlock_155 : decode cX9_takeBlock 155 = .ok (.iconst 0, 1) := by decide +kernel
theorem dX9_takeBlock_156 : decode cX9_takeBlock 156 = .ok (.istore 7, 2) := by decide +kernel
theorem dX9_takeBlock_158 : decode cX9_takeBlock 158 = .ok (.iload 7, 2) := by decide +kernel
theorem dX9_takeBlock_160 : decode cX9_takeBlock 160 = .ok (.iload_n 3, 1) := by decide +kernel
theorem dX9_takeBlock_161 : decode cX9_takeBlock 161 = .ok (.iload_n 3, 1) := by decide +kernel
theorem dX9_takeBlock_162 : decode cX9_takeBlock 162 = .ok (.imul, 1) := by decide +kernel
theorem dX9_takeBlock_163 : decode cX9_takeBlock 163 = .ok (.if_icmp .ge 23, 3) := by decide +kernel
theorem dX9_takeBlock_166 : decode cX9_takeBlock 166 = .ok (.aload_n 0, 1) := by decide +kernel
theorem dX9_takeBlock_167 : decode cX9_takeBlock 167 = .ok (.getfield 65, 3) := by decide +kernel
theorem dX9_takeBlock_170 : decode cX9_takeBlock 170 = .ok (.iload 7, 2) := by decide +kernel
theorem dX9_takeBlock_172 : decode cX9_takeBlock 172 = .ok (.aload_n 0, 1) := by decide +kernel
theorem dX9_takeBlock_173 : decode cX9_takeBlock 173 = .ok (.getfield 71, 3) := by decide +kernel
theorem dX9_takeBlock_176 : decode cX9_takeBlock 176 = .ok (.iload 7, 2) := by decide +kernel
theorem dX9_takeBlock_178 : decode cX9_takeBlock 178 = .ok (.iaload, 1) := by decide +kernel
theorem dX9_takeBlock_179 : decode cX9_takeBlock 179 = .ok (.iastore, 1) := by decide +kernel
theorem dX9_takeBlock_180 : decode cX9_takeBlock 180 = .ok (.iinc 7 1, 3) := by decide +kernel
theorem dX9_takeBlock_183 : decode cX9_takeBlock 183 = .ok (.goto (-25), 3) := by decide +kernel
theorem dX9_takeBlock_186 : decode cX9_takeBlock 186 = .ok (.aload_n 0, 1) := by decide +kernel
theorem dX9_takeBlock_187 : decode cX9_takeBlock 187 = .ok (.iload 6, 2) := by decide +kernel
theorem dX9_takeBlock_189 : decode cX9_takeBlock 189 = .ok (.iload_n 1, 1) := by decide +kernel
theorem dX9_takeBlock_190 : decode cX9_takeBlock 190 = .ok (.iload_n 2, 1) := by decide +kernel
theorem dX9_takeBlock_191 : decode cX9_takeBlock 191 = .ok (.iload_n 3, 1) := by decide +kernel
theorem dX9_takeBlock_192 : decode cX9_takeBlock 192 = .ok (.iload 4, 2) := by decide +kernel
theorem dX9_takeBlock_194 : decode cX9_takeBlock 194 = .ok (.iload 5, 2) := by decide +kernel
theorem dX9_takeBlock_196 : decode cX9_takeBlock 196 = .ok (.invokevirtual 135, 3) := by decide +kernel
theorem dX9_takeBlock_199 : decode cX9_takeBlock 199 = .ok (.return_, 1) := by decide +kernel
theorem dX9_takePart_0 : decode cX9_takePart 0 = .ok (.aload_n 0, 1) := by decide +kernel
theorem dX9_takePart_1 : decode cX9_takePart 1 = .ok (.invokevirtual 203, 3) := by decide +kernel
theorem dX9_takePart_4 : decode cX9_takePart 4 = .ok (.aload_n 0, 1) := by decide +kernel
theorem dX9_takePart_5 : decode cX9_takePart 5 = .ok (.iconst 0, 1) := by decide +kernel
theorem dX9_takePart_6 : decode cX9_takePart 6 = .ok (.putfield 188, 3) := by decide +kernel
theorem dX9_takePart_9 : decode cX9_takePart 9 = .ok (.iconst 0, 1) := by decide +kernel
theorem dX9_takePart_10 : decode cX9_takePart 10 = .ok (.istore 4, 2) := by decide +kernel
theorem dX9_takePart_12 : decode cX9_takePart 12 = .ok (.iload 4, 2) := by decide +kernel
theorem dX9_takePart_14 : decode cX9_takePart 14 = .ok (.bipush 16, 2) := by decide +kernel
theorem dX9_takePart_16 : decode cX9_takePart 16 = .ok (.if_icmp .ge 26, 3) := by decide +kernel
theorem dX9_takePart_19 : decode cX9_takePart 19 = .ok (.aload_n 0, 1) := by decide +kernel
theorem dX9_takePart_20 : decode cX9_takePart 20 = .ok (.iconst 2, 1) := by decide +kernel
theorem dX9_takePart_21 : decode cX9_takePart 21 = .ok (.aload_n 0, 1) := by decide +kernel
theorem dX9_takePart_22 : decode cX9_takePart 22 = .ok (.getfield 188, 3) := by decide +kernel
theorem dX9_takePart_25 : decode cX9_takePart 25 = .ok (.imul, 1) := by decide +kernel
theorem dX9_takePart_26 : decode cX9_takePart 26 = .ok (.aload_n 0, 1) := by decide +kernel
theorem dX9_takePart_27 : decode cX9_takePart 27 = .ok (.iload 4, 2) := by decide +kernel
theorem dX9_takePart_29 : decode cX9_takePart 29 = .ok (.invokevirtual 191, 3) := by decide +kernel
theorem dX9_takePart_32 : decode cX9_takePart 32 = .ok (.iadd, 1) := by decide +kernel
theorem dX9_takePart_33 : decode cX9_takePart 33 = .ok (.putfield 188, 3) := by decide +kernel
theorem dX9_takePart_36 : decode cX9_takePart 36 = .ok (.iinc 4 1, 3) := by decide +kernel
theorem dX9_takePart_39 : decode cX9_takePart 39 = .ok (.goto (-27), 3) := by decide +kernel
theorem dX9_takePart_42 : decode cX9_takePart 42 = .ok (.aload_n 0, 1) := by decide +kernel
theorem dX9_takePart_43 : decode cX9_takePart 43 = .ok (.bipush 16, 2) := by decide +kernel
theorem dX9_takePart_45 : decode cX9_takePart 45 = .ok (.putfield 156, 3) := by decide +kernel
theorem dX9_takePart_48 : decode cX9_takePart 48 = .ok (.iconst 0, 1) := by decide +kernel
theorem dX9_takePart_49 : decode cX9_takePart 49 = .ok (.istore 4, 2) := by decide +kernel
theorem dX9_takePart_51 : decode cX9_takePart 51 = .ok (.iload 4, 2) := by decide +kernel
theorem dX9_takePart_53 : decode cX9_takePart 53 = .ok (.iload_n 2, 1) := by decide +kernel
theorem dX9_takePart_54 : decode cX9_takePart 54 = .ok (.if_icmp .ge 70, 3) := by decide +kernel
theorem dX9_takePart_57 : decode cX9_takePart 57 = .ok (.aload_n 0, 1) := by decide +kernel
theorem dX9_takePart_58 : decode cX9_takePart 58 = .ok (.iconst 0, 1) := by decide +kernel
theorem dX9_takePart_59 : decode cX9_takePart 59 = .ok (.invokevirtual 200, 3) := by decide +kernel
theorem dX9_takePart_62 : decode cX9_takePart 62 = .ok (.ifCond .ne 17, 3) := by decide +kernel
theorem dX9_takePart_65 : decode cX9_takePart 65 = .ok (.aload_n 0, 1) := by decide +kernel
theorem dX9_takePart_66 : decode cX9_takePart 66 = .ok (.iload 4, 2) := by decide +kernel
theorem dX9_takePart_68 : decode cX9_takePart 68 = .ok (.iload_n 1, 1) := by decide +kernel
theorem dX9_takePart_69 : decode cX9_takePart 69 = .ok (.bipush 8, 2) := by decide +kernel
theorem dX9_takePart_71 : decode cX9_takePart 71 = .ok (.iload_n 1, 1) := by decide +kernel
theorem dX9_takePart_72 : decode cX9_takePart 72 = .ok (.iload_n 3, 1) := by decide +kernel
theorem dX9_takePart_73 : decode cX9_takePart 73 = .ok (.invokevirtual 206, 3) := by decide +kernel
theorem dX9_takePart_76 : decode cX9_takePart 76 = .ok (.goto 42, 3) := by decide +kernel
theorem dX9_takePart_79 : decode cX9_takePart 79 = .ok (.iconst 0, 1) := by decide +kernel
theorem dX9_takePart_80 : decode cX9_takePart 80 = .ok (.istore 5, 2) := by decide +kernel
theorem dX9_takePart_82 : decode cX9_takePart 82 = .ok (.iload 5, 2) := by decide +kernel
theorem dX9_takePart_84 : decode cX9_takePart 84 = .ok (.iconst 4, 1) := by decide +kernel
theorem dX9_takePart_85 : decode cX9_takePart 85 = .ok (.if_icmp .ge 33, 3) := by decide +kernel
theorem dX9_takePart_88 : decode cX9_takePart 88 = .ok (.aload_n 0, 1) := by decide +kernel
theorem dX9_takePart_89 : decode cX9_takePart 89 = .ok (.iload 4, 2) := by decide +kernel
theorem dX9_takePart_91 : decode cX9_takePart 91 = .ok (.iload 5, 2) := by decide +kernel
theorem dX9_takePart_93 : decode cX9_takePart 93 = .ok (.iconst 2, 1) := by decide +kernel
theorem dX9_takePart_94 : decode cX9_takePart 94 = .ok (.irem, 1) := by decide +kernel
theorem dX9_takePart_95 : decode cX9_takePart 95 = .ok (.iconst 4, 1) := by decide +kernel
theorem dX9_takePart_96 : decode cX9_takePart 96 = .ok (.imul, 1) := by decide +kernel
theorem dX9_takePart_97 : decode cX9_takePart 97 = .ok (.iadd, 1) := by decide +kernel
theorem dX9_takePart_98 : decode cX9_takePart 98 = .ok (.iload_n 1, 1) := by decide +kernel
theorem dX9_takePart_99 : decode cX9_takePart 99 = .ok (.iload 5, 2) := by decide +kernel
theorem dX9_takePart_101 : decode cX9_takePart 101 = .ok (.iconst 2, 1) := by decide +kernel
theorem dX9_takePart_102 : decode cX9_takePart 102 = .ok (.idiv, 1) := by decide +kernel
theorem dX9_takePart_103 : decode cX9_takePart 103 = .ok (.iconst 4, 1) := by decide +kernel
theorem dX9_takePart_104 : decode cX9_takePart 104 = .ok (.imul, 1) := by decide +kernel
theorem dX9_takePart_105 : decode cX9_takePart 105 = .ok (.iadd, 1) := by decide +kernel
theorem dX9_takePart_106 : decode cX9_takePart 106 = .ok (.iconst 4, 1) := by decide +kernel
theorem dX9_takePart_107 : decode cX9_takePart 107 = .ok (.iload_n 1, 1) := by decide +kernel
theorem dX9_takePart_108 : decode cX9_takePart 108 = .ok (.iload_n 3, 1) := by decide +kernel
theorem dX9_takePart_109 : decode cX9_takePart 109 = .ok (.invokevirtual 206, 3) := by decide +kernel
theorem dX9_takePart_112 : decode cX9_takePart 112 = .ok (.iinc 5 1, 3) := by decide +kernel
theorem dX9_takePart_115 : decode cX9_takePart 115 = .ok (.goto (-33), 3) := by decide +kernel
theorem dX9_takePart_118 : decode cX9_takePart 118 = .ok (.iinc 4 8, 3) := by decide +kernel
theorem dX9_takePart_121 : decode cX9_takePart 121 = .ok (.goto (-70), 3) := by decide +kernel
theorem dX9_takePart_124 : decode cX9_takePart 124 = .ok (.return_, 1) := by decide +kernel
theorem dX9_putPart_0 : decode cX9_putPart 0 = .ok (.bipush 8, 2) := by decide +kernel
theorem dX9_putPart_2 : decode cX9_putPart 2 = .ok (.iload_n 2, 1) := by decide +kernel
theorem dX9_putPart_3 : decode cX9_putPart 3 = .ok (.imul, 1) := by decide +kernel
theorem dX9_putPart_4 : decode cX9_putPart 4 = .ok (.istore_n 3, 1) := by decide +kernel
theorem dX9_putPart_5 : decode cX9_putPart 5 = .ok (.aload_n 0, 1) := by decide +kernel
theorem dX9_putPart_6 : decode cX9_putPart 6 = .ok (.aload_n 0, 1) := by decide +kernel
theorem dX9_putPart_7 : decode cX9_putPart 7 = .ok (.getfield 210, 3) := by decide +kernel
theorem dX9_putPart_10 : decode cX9_putPart 10 = .ok (.iconst 3, 1) := by decide +kernel
theorem dX9_putPart_11 : decode cX9_putPart 11 = .ok (.iadd, 1) := by decide +kernel
theorem dX9_putPart_12 : decode cX9_putPart 12 = .ok (.putfield 159, 3) := by decide +kernel
theorem dX9_putPart_15 : decode cX9_putPart 15 = .ok (.aload_n 0, 1) := by decide +kernel
theorem dX9_putPart_16 : decode cX9_putPart 16 = .ok (.invokevirtual 203, 3) := by decide +kernel
theorem dX9_putPart_19 : decode cX9_putPart 19 = .ok (.iconst 0, 1) := by decide +kernel
theorem dX9_putPart_20 : decode cX9_putPart 20 = .ok (.istore 4, 2) := by decide +kernel
theorem dX9_putPart_22 : decode cX9_putPart 22 = .ok (.iload 4, 2) := by decide +kernel
theorem dX9_putPart_24 : decode cX9_putPart 24 = .ok (.aload_n 0, 1) := by decide +kernel
theorem dX9_putPart_25 : decode cX9_putPart 25 = .ok (.getfield 7, 3) := by decide +kernel
theorem dX9_putPart_28 : decode cX9_putPart 28 = .ok (.if_icmp .ge 103, 3) := by decide +kernel
theorem dX9_putPart_31 : decode cX9_putPart 31 = .ok (.aload_n 0, 1) := by decide +kernel
theorem dX9_putPart_32 : decode cX9_putPart 32 = .ok (.getfield 56, 3) := by decide +kernel
theorem dX9_putPart_35 : decode cX9_putPart 35 = .ok (.sipush 384, 3) := by decide +kernel
theorem dX9_putPart_38 : decode cX9_putPart 38 = .ok (.iload_n 1, 1) := by decide +kernel
theorem dX9_putPart_39 : decode cX9_putPart 39 = .ok (.imul, 1) := by decide +kernel
theorem dX9_putPart_40 : decode cX9_putPart 40 = .ok (.bipush 16, 2) := by decide +kernel
theorem dX9_putPart_42 : decode cX9_putPart 42 = .ok (.iload_n 3, 1) := by decide +kernel
theorem dX9_putPart_43 : decode cX9_putPart 43 = .ok (.imul, 1) := by decide +kernel
theorem dX9_putPart_44 : decode cX9_putPart 44 = .ok (.iadd, 1) := by decide +kernel
theorem dX9_putPart_45 : decode cX9_putPart 45 = .ok (.iload 4, 2) := by decide +kernel
theorem dX9_putPart_47 : decode cX9_putPart 47 = .ok (.iadd, 1) := by decide +kernel
theorem dX9_putPart_48 : decode cX9_putPart 48 = .ok (.iaload, 1) := by decide +kernel
theorem dX9_putPart_49 : decode cX9_putPart 49 = .ok (.istore 5, 2) := by decide +kernel
theorem dX9_putPart_51 : decode cX9_putPart 51 = .ok (.aload_n 0, 1) := by decide +kernel
theorem dX9_putPart_52 : decode cX9_putPart 52 = .ok (.iconst 0, 1) := by decide +kernel
theorem dX9_putPart_53 : decode cX9_putPart 53 = .ok (.iload 5, 2) := by decide +kernel
theorem dX9_putPart_55 : decode cX9_putPart 55 = .ok (.iconst 4, 1) := by decide +kernel
theorem dX9_putPart_56 : decode cX9_putPart 56 = .ok (.if_icmp .ne 7, 3) := by decide +kernel
theorem dX9_putPart_59 : decode cX9_putPart 59 = .ok (.iconst 1, 1) := by decide +kernel
theorem dX9_putPart_60 : decode cX9_putPart 60 = .ok (.goto 4, 3) := by decide +kernel
theorem dX9_putPart_63 : decode cX9_putPart 63 = .ok (.iconst 0, 1) := by decide +kernel
theorem dX9_putPart_64 : decode cX9_putPart 64 = .ok (.invokevirtual 194, 3) := by decide +kernel
theorem dX9_putPart_67 : decode cX9_putPart 67 = .ok (.iload 5, 2) := by decide +kernel
theorem dX9_putPart_69 : decode cX9_putPart 69 = .ok (.bipush 8, 2) := by decide +kernel
theorem dX9_putPart_71 : decode cX9_putPart 71 = .ok (.if_icmp .ne 16, 3) := by decide +kernel
theorem dX9_putPart_74 : decode cX9_putPart 74 = .ok (.aload_n 0, 1) := by decide +kernel
theorem dX9_putPart_75 : decode cX9_putPart 75 = .ok (.iload_n 1, 1) := by decide +kernel
theorem dX9_putPart_76 : decode cX9_putPart 76 = .ok (.iload 4, 2) := by decide +kernel
theorem dX9_putPart_78 : decode cX9_putPart 78 = .ok (.iload_n 3, 1) := by decide +kernel
theorem dX9_putPart_79 : decode cX9_putPart 79 = .ok (.bipush 8, 2) := by decide +kernel
theorem dX9_putPart_81 : decode cX9_putPart 81 = .ok (.invokevirtual 213, 3) := by decide +kernel
theorem dX9_putPart_84 : decode cX9_putPart 84 = .ok (.goto 41, 3) := by decide +kernel
theorem dX9_putPart_87 : decode cX9_putPart 87 = .ok (.iconst 0, 1) := by decide +kernel
theorem dX9_putPart_88 : decode cX9_putPart 88 = .ok (.istore 6, 2) := by decide +kernel
theorem dX9_putPart_90 : decode cX9_putPart 90 = .ok (.iload 6, 2) := by decide +kernel
theorem dX9_putPart_92 : decode cX9_putPart 92 = .ok (.iconst 4, 1) := by decide +kernel
theorem dX9_putPart_93 : decode cX9_putPart 93 = .ok (.if_icmp .ge 32, 3) := by decide +kernel
theorem dX9_putPart_96 : decode cX9_putPart 96 = .ok (.aload_n 0, 1) := by decide +kernel
theorem dX9_putPart_97 : decode cX9_putPart 97 = .ok (.iload_n 1, 1) := by decide +kernel
theorem dX9_putPart_98 : decode cX9_putPart 98 = .ok (.iload 4, 2) := by decide +kernel
theorem dX9_putPart_100 : decode cX9_putPart 100 = .ok (.iload 6, 2) := by decide +kernel
theorem dX9_putPart_102 : decode cX9_putPart 102 = .ok (.iconst 2, 1) := by decide +kernel
theorem dX9_putPart_103 : decode cX9_putPart 103 = .ok (.irem, 1) := by decide +kernel
theorem dX9_putPart_104 : decode cX9_putPart 104 = .ok (.iconst 4, 1) := by decide +kernel
theorem dX9_putPart_105 : decode cX9_putPart 105 = .ok (.imul, 1) := by decide +kernel
theorem dX9_putPart_106 : decode cX9_putPart 106 = .ok (.iadd, 1) := by decide +kernel
theorem dX9_putPart_107 : decode cX9_putPart 107 = .ok (.iload_n 3, 1) := by decide +kernel
theorem dX9_putPart_108 : decode cX9_putPart 108 = .ok (.iload 6, 2) := by decide +kernel
theorem dX9_putPart_110 : decode cX9_putPart 110 = .ok (.iconst 2, 1) := by decide +kernel
theorem dX9_putPart_111 : decode cX9_putPart 111 = .ok (.idiv, 1) := by decide +kernel
theorem dX9_putPart_112 : decode cX9_putPart 112 = .ok (.iconst 4, 1) := by decide +kernel
theorem dX9_putPart_113 : decode cX9_putPart 113 = .ok (.imul, 1) := by decide +kernel
theorem dX9_putPart_114 : decode cX9_putPart 114 = .ok (.iadd, 1) := by decide +kernel
theorem dX9_putPart_115 : decode cX9_putPart 115 = .ok (.iconst 4, 1) := by decide +kernel
theorem dX9_putPart_116 : decode cX9_putPart 116 = .ok (.invokevirtual 213, 3) := by decide +kernel
theorem dX9_putPart_119 : decode cX9_putPart 119 = .ok (.iinc 6 1, 3) := by decide +kernel
theorem dX9_putPart_122 : decode cX9_putPart 122 = .ok (.goto (-32), 3) := by decide +kernel
theorem dX9_putPart_125 : decode cX9_putPart 125 = .ok (.iinc 4 8, 3) := by decide +kernel
theorem dX9_putPart_128 : decode cX9_putPart 128 = .ok (.goto (-106), 3) := by decide +kernel
theorem dX9_putPart_131 : decode cX9_putPart 131 = .ok (.aload_n 0, 1) := by decide +kernel
theorem dX9_putPart_132 : decode cX9_putPart 132 = .ok (.dup, 1) := by decide +kernel
theorem dX9_putPart_133 : decode cX9_putPart 133 = .ok (.getfield 153, 3) := by decide +kernel
theorem dX9_putPart_136 : decode cX9_putPart 136 = .ok (.iconst 1, 1) := by decide +kernel
theorem dX9_putPart_137 : decode cX9_putPart 137 = .ok (.iadd, 1) := by decide +kernel
theorem dX9_putPart_138 : decode cX9_putPart 138 = .ok (.putfield 153, 3) := by decide +kernel
theorem dX9_putPart_141 : decode cX9_putPart 141 = .ok (.aload_n 0, 1) := by decide +kernel
theorem dX9_putPart_142 : decode cX9_putPart 142 = .ok (.aload_n 0, 1) := by decide +kernel
theorem dX9_putPart_143 : decode cX9_putPart 143 = .ok (.getfield 146, 3) := by decide +kernel
theorem dX9_putPart_146 : decode cX9_putPart 146 = .ok (.sipush 16384, 3) := by decide +kernel
theorem dX9_putPart_149 : decode cX9_putPart 149 = .ok (.if_icmp .ge 7, 3) := by decide +kernel
theorem dX9_putPart_152 : decode cX9_putPart 152 = .ok (.iconst 0, 1) := by decide +kernel
theorem dX9_putPart_153 : decode cX9_putPart 153 = .ok (.goto 4, 3) := by decide +kernel
theorem dX9_putPart_156 : decode cX9_putPart 156 = .ok (.iconst 1, 1) := by decide +kernel
theorem dX9_putPart_157 : decode cX9_putPart 157 = .ok (.invokevirtual 182, 3) := by decide +kernel
theorem dX9_putPart_160 : decode cX9_putPart 160 = .ok (.aload_n 0, 1) := by decide +kernel
theorem dX9_putPart_161 : decode cX9_putPart 161 = .ok (.getfield 156, 3) := by decide +kernel
theorem dX9_putPart_164 : decode cX9_putPart 164 = .ok (.bipush 7, 2) := by decide +kernel
theorem dX9_putPart_166 : decode cX9_putPart 166 = .ok (.iadd, 1) := by decide +kernel
theorem dX9_putPart_167 : decode cX9_putPart 167 = .ok (.bipush 8, 2) := by decide +kernel
theorem dX9_putPart_169 : decode cX9_putPart 169 = .ok (.idiv, 1) := by decide +kernel
theorem dX9_putPart_170 : decode cX9_putPart 170 = .ok (.istore 4, 2) := by decide +kernel
theorem dX9_putPart_172 : decode cX9_putPart 172 = .ok (.aload_n 0, 1) := by decide +kernel
theorem dX9_putPart_173 : decode cX9_putPart 173 = .ok (.getfield 26, 3) := by decide +kernel
theorem dX9_putPart_176 : decode cX9_putPart 176 = .ok (.aload_n 0, 1) := by decide +kernel
theorem dX9_putPart_177 : decode cX9_putPart 177 = .ok (.getfield 210, 3) := by decide +kernel
theorem dX9_putPart_180 : decode cX9_putPart 180 = .ok (.iload 4, 2) := by decide +kernel
theorem dX9_putPart_182 : decode cX9_putPart 182 = .ok (.sipush 256, 3) := by decide +kernel
theorem dX9_putPart_185 : decode cX9_putPart 185 = .ok (.idiv, 1) := by decide +kernel
theorem dX9_putPart_186 : decode cX9_putPart 186 = .ok (.iastore, 1) := by decide +kernel
theorem dX9_putPart_187 : decode cX9_putPart 187 = .ok (.aload_n 0, 1) := by decide +kernel
theorem dX9_putPart_188 : decode cX9_putPart 188 = .ok (.getfield 26, 3) := by decide +kernel
theorem dX9_putPart_191 : decode cX9_putPart 191 = .ok (.aload_n 0, 1) := by decide +kernel
theorem dX9_putPart_192 : decode cX9_putPart 192 = .ok (.getfield 210, 3) := by decide +kernel
theorem dX9_putPart_195 : decode cX9_putPart 195 = .ok (.iconst 1, 1) := by decide +kernel
theorem dX9_putPart_196 : decode cX9_putPart 196 = .ok (.iadd, 1) := by decide +kernel
theorem dX9_putPart_197 : decode cX9_putPart 197 = .ok (.iload 4, 2) := by decide +kernel
theorem dX9_putPart_199 : decode cX9_putPart 199 = .ok (.sipush 256, 3) := by decide +kernel
theorem dX9_putPart_202 : decode cX9_putPart 202 = .ok (.irem, 1) := by decide +kernel
theorem dX9_putPart_203 : decode cX9_putPart 203 = .ok (.iastore, 1) := by decide +kernel
theorem dX9_putPart_204 : decode cX9_putPart 204 = .ok (.aload_n 0, 1) := by decide +kernel
theorem dX9_putPart_205 : decode cX9_putPart 205 = .ok (.getfield 26, 3) := by decide +kernel
theorem dX9_putPart_208 : decode cX9_putPart 208 = .ok (.aload_n 0, 1) := by decide +kernel
theorem dX9_putPart_209 : decode cX9_putPart 209 = .ok (.getfield 210, 3) := by decide +kernel
theorem dX9_putPart_212 : decode cX9_putPart 212 = .ok (.iconst 2, 1) := by decide +kernel
theorem dX9_putPart_213 : decode cX9_putPart 213 = .ok (.iadd, 1) := by decide +kernel
theorem dX9_putPart_214 : decode cX9_putPart 214 = .ok (.aload_n 0, 1) := by decide +kernel
theorem dX9_putPart_215 : decode cX9_putPart 215 = .ok (.aload_n 0, 1) := by decide +kernel
theorem dX9_putPart_216 : decode cX9_putPart 216 = .ok (.getfield 159, 3) := by decide +kernel
theorem dX9_putPart_219 : decode cX9_putPart 219 = .ok (.iload 4, 2) := by decide +kernel
theorem dX9_putPart_221 : decode cX9_putPart 221 = .ok (.invokevirtual 216, 3) := by decide +kernel
theorem dX9_putPart_224 : decode cX9_putPart 224 = .ok (.iastore, 1) := by decide +kernel
theorem dX9_putPart_225 : decode cX9_putPart 225 = .ok (.aload_n 0, 1) := by decide +kernel
theorem dX9_putPart_226 : decode cX9_putPart 226 = .ok (.getfield 62, 3) := by decide +kernel
theorem dX9_putPart_229 : decode cX9_putPart 229 = .ok (.iconst 3, 1) := by decide +kernel
theorem dX9_putPart_230 : decode cX9_putPart 230 = .ok (.iload_n 1, 1) := by decide +kernel
theorem dX9_putPart_231 : decode cX9_putPart 231 = .ok (.imul, 1) := by decide +kernel
theorem dX9_putPart_232 : decode cX9_putPart 232 = .ok (.iload_n 2, 1) := by decide +kernel
theorem dX9_putPart_233 : decode cX9_putPart 233 = .ok (.iadd, 1) := by decide +kernel
theorem dX9_putPart_234 : decode cX9_putPart 234 = .ok (.iload 4, 2) := by decide +kernel
theorem dX9_putPart_236 : decode cX9_putPart 236 = .ok (.iastore, 1) := by decide +kernel
theorem dX9_putPart_237 : decode cX9_putPart 237 = .ok (.aload_n 0, 1) := by decide +kernel
theorem dX9_putPart_238 : decode cX9_putPart 238 = .ok (.dup, 1) := by decide +kernel
theorem dX9_putPart_239 : decode cX9_putPart 239 = .ok (.getfield 210, 3) := by decide +kernel
theorem dX9_putPart_242 : decode cX9_putPart 242 = .ok (.iconst 3, 1) := by decide +kernel
theorem dX9_putPart_243 : decode cX9_putPart 243 = .ok (.iload 4, 2) := by decide +kernel
theorem dX9_putPart_245 : decode cX9_putPart 245 = .ok (.iadd, 1) := by decide +kernel
theorem dX9_putPart_246 : decode cX9_putPart 246 = .ok (.iadd, 1) := by decide +kernel
theorem dX9_putPart_247 : decode cX9_putPart 247 = .ok (.putfield 210, 3) := by decide +kernel
theorem dX9_putPart_250 : decode cX9_putPart 250 = .ok (.return_, 1) := by decide +kernel
theorem dX9_checksum_0 : decode cX9_checksum 0 = .ok (.iconst 0, 1) := by decide +kernel
theorem dX9_checksum_1 : decode cX9_checksum 1 = .ok (.istore_n 3, 1) := by decide +kernel
theorem dX9_checksum_2 : decode cX9_checksum 2 = .ok (.iconst 0, 1) := by decide +kernel
theorem dX9_checksum_3 : decode cX9_checksum 3 = .ok (.istore 4, 2) := by decide +kernel
theorem dX9_checksum_5 : decode cX9_checksum 5 = .ok (.iload 4, 2) := by decide +kernel
theorem dX9_checksum_7 : decode cX9_checksum 7 = .ok (.iload_n 2, 1) := by decide +kernel
theorem dX9_checksum_8 : decode cX9_checksum 8 = .ok (.if_icmp .ge 34, 3) := by decide +kernel
theorem dX9_checksum_11 : decode cX9_checksum 11 = .ok (.iload_n 3, 1) := by decide +kernel
theorem dX9_checksum_12 : decode cX9_checksum 12 = .ok (.iload 4, 2) := by decide +kernel
theorem dX9_checksum_14 : decode cX9_checksum 14 = .ok (.iconst 1, 1) := by decide +kernel
theorem dX9_checksum_15 : decode cX9_checksum 15 = .ok (.iadd, 1) := by decide +kernel
theorem dX9_checksum_16 : decode cX9_checksum 16 = .ok (.sipush 251, 3) := by decide +kernel
theorem dX9_checksum_19 : decode cX9_checksum 19 = .ok (.irem, 1) := by decide +kernel
theorem dX9_checksum_20 : decode cX9_checksum 20 = .ok (.aload_n 0, 1) := by decide +kernel
theorem dX9_checksum_21 : decode cX9_checksum 21 = .ok (.getfield 26, 3) := by decide +kernel
theorem dX9_checksum_24 : decode cX9_checksum 24 = .ok (.iload_n 1, 1) := by decide +kernel
theorem dX9_checksum_25 : decode cX9_checksum 25 = .ok (.iload 4, 2) := by decide +kernel
theorem dX9_checksum_27 : decode cX9_checksum 27 = .ok (.iadd, 1) := by decide +kernel
theorem dX9_checksum_28 : decode cX9_checksum 28 = .ok (.iaload, 1) := by decide +kernel
theorem dX9_checksum_29 : decode cX9_checksum 29 = .ok (.imul, 1) := by decide +kernel
theorem dX9_checksum_30 : decode cX9_checksum 30 = .ok (.iadd, 1) := by decide +kernel
theorem dX9_checksum_31 : decode cX9_checksum 31 = .ok (.sipush 251, 3) := by decide +kernel
theorem dX9_checksum_34 : decode cX9_checksum 34 = .ok (.irem, 1) := by decide +kernel
theorem dX9_checksum_35 : decode cX9_checksum 35 = .ok (.istore_n 3, 1) := by decide +kernel
theorem dX9_checksum_36 : decode cX9_checksum 36 = .ok (.iinc 4 1, 3) := by decide +kernel
theorem dX9_checksum_39 : decode cX9_checksum 39 = .ok (.goto (-34), 3) := by decide +kernel
theorem dX9_checksum_42 : decode cX9_checksum 42 = .ok (.iload_n 3, 1) := by decide +kernel
theorem dX9_checksum_43 : decode cX9_checksum 43 = .ok (.ireturn, 1) := by decide +kernel
theorem dX9_header_0 : decode cX9_header 0 = .ok (.aload_n 0, 1) := by decide +kernel
theorem dX9_header_1 : decode cX9_header 1 = .ok (.getfield 26, 3) := by decide +kernel
theorem dX9_header_4 : decode cX9_header 4 = .ok (.iconst 0, 1) := by decide +kernel
theorem dX9_header_5 : decode cX9_header 5 = .ok (.iload_n 1, 1) := by decide +kernel
theorem dX9_header_6 : decode cX9_header 6 = .ok (.iastore, 1) := by decide +kernel
theorem dX9_header_7 : decode cX9_header 7 = .ok (.aload_n 0, 1) := by decide +kernel
theorem dX9_header_8 : decode cX9_header 8 = .ok (.getfield 26, 3) := by decide +kernel
theorem dX9_header_11 : decode cX9_header 11 = .ok (.iconst 1, 1) := by decide +kernel
theorem dX9_header_12 : decode cX9_header 12 = .ok (.aload_n 0, 1) := by decide +kernel
theorem dX9_header_13 : decode cX9_header 13 = .ok (.getfield 7, 3) := by decide +kernel
theorem dX9_header_16 : decode cX9_header 16 = .ok (.iastore, 1) := by decide +kernel
theorem dX9_header_17 : decode cX9_header 17 = .ok (.aload_n 0, 1) := by decide +kernel
theorem dX9_header_18 : decode cX9_header 18 = .ok (.getfield 26, 3) := by decide +kernel
theorem dX9_header_21 : decode cX9_header 21 = .ok (.iconst 2, 1) := by decide +kernel
theorem dX9_header_22 : decode cX9_header 22 = .ok (.aload_n 0, 1) := by decide +kernel
theorem dX9_header_23 : decode cX9_header 23 = .ok (.getfield 13, 3) := by decide +kernel
theorem dX9_header_26 : decode cX9_header 26 = .ok (.iastore, 1) := by decide +kernel
theorem dX9_header_27 : decode cX9_header 27 = .ok (.aload_n 0, 1) := by decide +kernel
theorem dX9_header_28 : decode cX9_header 28 = .ok (.iconst 3, 1) := by decide +kernel
theorem dX9_header_29 : decode cX9_header 29 = .ok (.putfield 210, 3) := by decide +kernel
theorem dX9_header_32 : decode cX9_header 32 = .ok (.aload_n 0, 1) := by decide +kernel
theorem dX9_header_33 : decode cX9_header 33 = .ok (.aload_n 0, 1) := by decide +kernel
theorem dX9_header_34 : decode cX9_header 34 = .ok (.getfield 7, 3) := by decide +kernel
theorem dX9_header_37 : decode cX9_header 37 = .ok (.putfield 219, 3) := by decide +kernel
theorem dX9_header_40 : decode cX9_header 40 = .ok (.aload_n 0, 1) := by decide +kernel
theorem dX9_header_41 : decode cX9_header 41 = .ok (.aload_n 0, 1) := by decide +kernel
theorem dX9_header_42 : decode cX9_header 42 = .ok (.getfield 13, 3) := by decide +kernel
theorem dX9_header_45 : decode cX9_header 45 = .ok (.putfield 222, 3) := by decide +kernel
theorem dX9_header_48 : decode cX9_header 48 = .ok (.return_, 1) := by decide +kernel
theorem dX9_encode_0 : decode cX9_encode 0 = .ok (.aload_n 0, 1) := by decide +kernel
theorem dX9_encode_1 : decode cX9_encode 1 = .ok (.bipush 80, 2) := by decide +kernel
theorem dX9_encode_3 : decode cX9_encode 3 = .ok (.invokevirtual 225, 3) := by decide +kernel
theorem dX9_encode_6 : decode cX9_encode 6 = .ok (.aload_n 0, 1) := by decide +kernel
theorem dX9_encode_7 : decode cX9_encode 7 = .ok (.getfield 26, 3) := by decide +kernel
theorem dX9_encode_10 : decode cX9_encode 10 = .ok (.aload_n 0, 1) := by decide +kernel
theorem dX9_encode_11 : decode cX9_encode 11 = .ok (.dup, 1) := by decide +kernel
theorem dX9_encode_12 : decode cX9_encode 12 = .ok (.getfield 210, 3) := by decide +kernel
theorem dX9_encode_15 : decode cX9_encode 15 = .ok (.dup_x1, 1) := by decide +kernel
theorem dX9_encode_16 : decode cX9_encode 16 = .ok (.iconst 1, 1) := by decide +kernel
theorem dX9_encode_17 : decode cX9_encode 17 = .ok (.iadd, 1) := by decide +kernel
theorem dX9_encode_18 : decode cX9_encode 18 = .ok (.putfield 210, 3) := by decide +kernel
theorem dX9_encode_21 : decode cX9_encode 21 = .ok (.aload_n 0, 1) := by decide +kernel
theorem dX9_encode_22 : decode cX9_encode 22 = .ok (.getfield 16, 3) := by decide +kernel
theorem dX9_encode_25 : decode cX9_encode 25 = .ok (.iastore, 1) := by decide +kernel
theorem dX9_encode_26 : decode cX9_encode 26 = .ok (.iconst 0, 1) := by decide +kernel
theorem dX9_encode_27 : decode cX9_encode 27 = .ok (.istore_n 1, 1) := by decide +kernel
theorem dX9_encode_28 : decode cX9_encode 28 = .ok (.iload_n 1, 1) := by decide +kernel
theorem dX9_encode_29 : decode cX9_encode 29 = .ok (.aload_n 0, 1) := by decide +kernel
theorem dX9_encode_30 : decode cX9_encode 30 = .ok (.getfield 16, 3) := by decide +kernel
theorem dX9_encode_33 : decode cX9_encode 33 = .ok (.if_icmp .ge 31, 3) := by decide +kernel
theorem dX9_encode_36 : decode cX9_encode 36 = .ok (.aload_n 0, 1) := by decide +kernel
theorem dX9_encode_37 : decode cX9_encode 37 = .ok (.getfield 26, 3) := by decide +kernel
theorem dX9_encode_40 : decode cX9_encode 40 = .ok (.aload_n 0, 1) := by decide +kernel
theorem dX9_encode_41 : decode cX9_encode 41 = .ok (.dup, 1) := by decide +kernel
theorem dX9_encode_42 : decode cX9_encode 42 = .ok (.getfield 210, 3) := by decide +kernel
theorem dX9_encode_45 : decode cX9_encode 45 = .ok (.dup_x1, 1) := by decide +kernel
theorem dX9_encode_46 : decode cX9_encode 46 = .ok (.iconst 1, 1) := by decide +kernel
theorem dX9_encode_47 : decode cX9_encode 47 = .ok (.iadd, 1) := by decide +kernel
theorem dX9_encode_48 : decode cX9_encode 48 = .ok (.putfield 210, 3) := by decide +kernel
theorem dX9_encode_51 : decode cX9_encode 51 = .ok (.aload_n 0, 1) := by decide +kernel
theorem dX9_encode_52 : decode cX9_encode 52 = .ok (.getfield 23, 3) := by decide +kernel
theorem dX9_encode_55 : decode cX9_encode 55 = .ok (.iload_n 1, 1) := by decide +kernel
theorem dX9_encode_56 : decode cX9_encode 56 = .ok (.iaload, 1) := by decide +kernel
theorem dX9_encode_57 : decode cX9_encode 57 = .ok (.iastore, 1) := by decide +kernel
theorem dX9_encode_58 : decode cX9_encode 58 = .ok (.iinc 1 1, 3) := by decide +kernel
theorem dX9_encode_61 : decode cX9_encode 61 = .ok (.goto (-33), 3) := by decide +kernel
theorem dX9_encode_64 : decode cX9_encode 64 = .ok (.aload_n 0, 1) := by decide +kernel
theorem dX9_encode_65 : decode cX9_encode 65 = .ok (.iconst 1, 1) := by decide +kernel
theorem dX9_encode_66 : decode cX9_encode 66 = .ok (.putfield 228, 3) := by decide +kernel
theorem dX9_encode_69 : decode cX9_encode 69 = .ok (.aload_n 0, 1) := by decide +kernel
theorem dX9_encode_70 : decode cX9_encode 70 = .ok (.aload_n 0, 1) := by decide +kernel
theorem dX9_encode_71 : decode cX9_encode 71 = .ok (.getfield 16, 3) := by decide +kernel
theorem dX9_encode_74 : decode cX9_encode 74 = .ok (.putfield 231, 3) := by decide +kernel
theorem dX9_encode_77 : decode cX9_encode 77 = .ok (.aload_n 0, 1) := by decide +kernel
theorem dX9_encode_78 : decode cX9_encode 78 = .ok (.getfield 13, 3) := by decide +kernel
theorem dX9_encode_81 : decode cX9_encode 81 = .ok (.bipush 7, 2) := by decide +kernel
theorem dX9_encode_83 : decode cX9_encode 83 = .ok (.iadd, 1) := by decide +kernel
theorem dX9_encode_84 : decode cX9_encode 84 = .ok (.bipush 8, 2) := by decide +kernel
theorem dX9_encode_86 : decode cX9_encode 86 = .ok (.idiv, 1) := by decide +kernel
theorem dX9_encode_87 : decode cX9_encode 87 = .ok (.istore_n 1, 1) := by decide +kernel
theorem dX9_encode_88 : decode cX9_encode 88 = .ok (.iconst 0, 1) := by decide +kernel
theorem dX9_encode_89 : decode cX9_encode 89 = .ok (.istore_n 2, 1) := by decide +kernel
theorem dX9_encode_90 : decode cX9_encode 90 = .ok (.iload_n 2, 1) := by decide +kernel
theorem dX9_encode_91 : decode cX9_encode 91 = .ok (.bipush 8, 2) := by decide +kernel
theorem dX9_encode_93 : decode cX9_encode 93 = .ok (.iload_n 1, 1) := by decide +kernel
theorem dX9_encode_94 : decode cX9_encode 94 = .ok (.imul, 1) := by decide +kernel
theorem dX9_encode_95 : decode cX9_encode 95 = .ok (.if_icmp .ge 79, 3) := by decide +kernel
theorem dX9_encode_98 : decode cX9_encode 98 = .ok (.iconst 0, 1) := by decide +kernel
theorem dX9_encode_99 : decode cX9_encode 99 = .ok (.istore_n 3, 1) := by decide +kernel
theorem dX9_encode_100 : decode cX9_encode 100 = .ok (.iload_n 3, 1) := by decide +kernel
theorem dX9_encode_101 : decode cX9_encode 101 = .ok (.bipush 16, 2) := by decide +kernel
theorem dX9_encode_103 : decode cX9_encode 103 = .ok (.if_icmp .ge 65, 3) := by decide +kernel
theorem dX9_encode_106 : decode cX9_encode 106 = .ok (.aload_n 0, 1) := by decide +kernel
theorem dX9_encode_107 : decode cX9_encode 107 = .ok (.getfield 29, 3) := by decide +kernel
theorem dX9_encode_110 : decode cX9_encode 110 = .ok (.bipush 16, 2) := by decide +kernel
theorem dX9_encode_112 : decode cX9_encode 112 = .ok (.iload_n 2, 1) := by decide +kernel
theorem dX9_encode_113 : decode cX9_encode 113 = .ok (.imul, 1) := by decide +kernel
theorem dX9_encode_114 : decode cX9_encode 114 = .ok (.iload_n 3, 1) := by decide +kernel
theorem dX9_encode_115 : decode cX9_encode 115 = .ok (.iadd, 1) := by decide +kernel
theorem dX9_encode_116 : decode cX9_encode 116 = .ok (.aload_n 0, 1) := by decide +kernel
theorem dX9_encode_117 : decode cX9_encode 117 = .ok (.getfield 19, 3) := by decide +kernel
theorem dX9_encode_120 : decode cX9_encode 120 = .ok (.bipush 16, 2) := by decide +kernel
theorem dX9_encode_122 : decode cX9_encode 122 = .ok (.iload_n 2, 1) := by decide +kernel
theorem dX9_encode_123 : decode cX9_encode 123 = .ok (.aload_n 0, 1) := by decide +kernel
theorem dX9_encode_124 : decode cX9_encode 124 = .ok (.getfield 13, 3) := by decide +kernel
theorem dX9_encode_127 : decode cX9_encode 127 = .ok (.if_icmp .ge 7, 3) := by decide +kernel
theorem dX9_encode_130 : decode cX9_encode 130 = .ok (.iload_n 2, 1) := by decide +kernel
theorem dX9_encode_131 : decode cX9_encode 131 = .ok (.goto 9, 3) := by decide +kernel
theorem dX9_encode_134 : decode cX9_encode 134 = .ok (.aload_n 0, 1) := by decide +kernel
theorem dX9_encode_135 : decode cX9_encode 135 = .ok (.getfield 13, 3) := by decide +kernel
theorem dX9_encode_138 : decode cX9_encode 138 = .ok (.iconst 1, 1) := by decide +kernel
theorem dX9_encode_139 : decode cX9_encode 139 = .ok (.isub, 1) := by decide +kernel
theorem dX9_encode_140 : decode cX9_encode 140 = .ok (.imul, 1) := by decide +kernel
theorem dX9_encode_141 : decode cX9_encode 141 = .ok (.iload_n 3, 1) := by decide +kernel
theorem dX9_encode_142 : decode cX9_encode 142 = .ok (.aload_n 0, 1) := by decide +kernel
theorem dX9_encode_143 : decode cX9_encode 143 = .ok (.getfield 7, 3) := by decide +kernel
theorem dX9_encode_146 : decode cX9_encode 146 = .ok (.if_icmp .ge 7, 3) := by decide +kernel
theorem dX9_encode_149 : decode cX9_encode 149 = .ok (.iload_n 3, 1) := by decide +kernel
theorem dX9_encode_150 : decode cX9_encode 150 = .ok (.goto 9, 3) := by decide +kernel
theorem dX9_encode_153 : decode cX9_encode 153 = .ok (.aload_n 0, 1) := by decide +kernel
theorem dX9_encode_154 : decode cX9_encode 154 = .ok (.getfield 7, 3) := by decide +kernel
theorem dX9_encode_157 : decode cX9_encode 157 = .ok (.iconst 1, 1) := by decide +kernel
theorem dX9_encode_158 : decode cX9_encode 158 = .ok (.isub, 1) := by decide +kernel
theorem dX9_encode_159 : decode cX9_encode 159 = .ok (.iadd, 1) := by decide +kernel
theorem dX9_encode_160 : decode cX9_encode 160 = .ok (.iaload, 1) := by decide +kernel
theorem dX9_encode_161 : decode cX9_encode 161 = .ok (.iastore, 1) := by decide +kernel
theorem dX9_encode_162 : decode cX9_encode 162 = .ok (.iinc 3 1, 3) := by decide +kernel
theorem dX9_encode_165 : decode cX9_encode 165 = .ok (.goto (-65), 3) := by decide +kernel
theorem dX9_encode_168 : decode cX9_encode 168 = .ok (.iinc 2 1, 3) := by decide +kernel
theorem dX9_encode_171 : decode cX9_encode 171 = .ok (.goto (-81), 3) := by decide +kernel
theorem dX9_encode_174 : decode cX9_encode 174 = .ok (.iconst 0, 1) := by decide +kernel
theorem dX9_encode_175 : decode cX9_encode 175 = .ok (.istore_n 2, 1) := by decide +kernel
theorem dX9_encode_176 : decode cX9_encode 176 = .ok (.iload_n 2, 1) := by decide +kernel
theorem dX9_encode_177 : decode cX9_encode 177 = .ok (.aload_n 0, 1) := by decide +kernel
theorem dX9_encode_178 : decode cX9_encode 178 = .ok (.getfield 16, 3) := by decide +kernel
theorem dX9_encode_181 : decode cX9_encode 181 = .ok (.if_icmp .ge 100, 3) := by decide +kernel
theorem dX9_encode_184 : decode cX9_encode 184 = .ok (.aload_n 0, 1) := by decide +kernel
theorem dX9_encode_185 : decode cX9_encode 185 = .ok (.getfield 59, 3) := by decide +kernel
theorem dX9_encode_188 : decode cX9_encode 188 = .ok (.iload_n 2, 1) := by decide +kernel
theorem dX9_encode_189 : decode cX9_encode 189 = .ok (.iconst 0, 1) := by decide +kernel
theorem dX9_encode_190 : decode cX9_encode 190 = .ok (.iastore, 1) := by decide +kernel
theorem dX9_encode_191 : decode cX9_encode 191 = .ok (.iconst 0, 1) := by decide +kernel
theorem dX9_encode_192 : decode cX9_encode 192 = .ok (.istore_n 3, 1) := by decide +kernel
theorem dX9_encode_193 : decode cX9_encode 193 = .ok (.iload_n 3, 1) := by decide +kernel
theorem dX9_encode_194 : decode cX9_encode 194 = .ok (.iload_n 1, 1) := by decide +kernel
theorem dX9_encode_195 : decode cX9_encode 195 = .ok (.if_icmp .ge 50, 3) := by decide +kernel
theorem dX9_encode_198 : decode cX9_encode 198 = .ok (.iconst 0, 1) := by decide +kernel
theorem dX9_encode_199 : decode cX9_encode 199 = .ok (.istore 4, 2) := by decide +kernel
theorem dX9_encode_201 : decode cX9_encode 201 = .ok (.iload 4, 2) := by decide +kernel
theorem dX9_encode_203 : decode cX9_encode 203 = .ok (.aload_n 0, 1) := by decide +kernel
theorem dX9_encode_204 : decode cX9_encode 204 = .ok (.getfield 7, 3) := by decide +kernel
theorem dX9_encode_207 : decode cX9_encode 207 = .ok (.if_icmp .ge 26, 3) := by decide +kernel
theorem dX9_encode_210 : decode cX9_encode 210 = .ok (.aload_n 0, 1) := by decide +kernel
theorem dX9_encode_211 : decode cX9_encode 211 = .ok (.iload_n 2, 1) := by decide +kernel
theorem dX9_encode_212 : decode cX9_encode 212 = .ok (.iload 4, 2) := by decide +kernel
theorem dX9_encode_214 : decode cX9_encode 214 = .ok (.bipush 8, 2) := by decide +kernel
theorem dX9_encode_216 : decode cX9_encode 216 = .ok (.iload_n 3, 1) := by decide +kernel
theorem dX9_encode_217 : decode cX9_encode 217 = .ok (.imul, 1) := by decide +kernel
theorem dX9_encode_218 : decode cX9_encode 218 = .ok (.aload_n 0, 1) := by decide +kernel
theorem dX9_encode_219 : decode cX9_encode 219 = .ok (.getfield 23, 3) := by decide +kernel
theorem dX9_encode_222 : decode cX9_encode 222 = .ok (.iload_n 2, 1) := by decide +kernel
theorem dX9_encode_223 : decode cX9_encode 223 = .ok (.iaload, 1) := by decide +kernel
theorem dX9_encode_224 : decode cX9_encode 224 = .ok (.invokevirtual 234, 3) := by decide +kernel
theorem dX9_encode_227 : decode cX9_encode 227 = .ok (.iinc 4 8, 3) := by decide +kernel
theorem dX9_encode_230 : decode cX9_encode 230 = .ok (.goto (-29), 3) := by decide +kernel
theorem dX9_encode_233 : decode cX9_encode 233 = .ok (.aload_n 0, 1) := by decide +kernel
theorem dX9_encode_234 : decode cX9_encode 234 = .ok (.iload_n 2, 1) := by decide +kernel
theorem dX9_encode_235 : decode cX9_encode 235 = .ok (.iload_n 3, 1) := by decide +kernel
theorem dX9_encode_236 : decode cX9_encode 236 = .ok (.invokevirtual 237, 3) := by decide +kernel
theorem dX9_encode_239 : decode cX9_encode 239 = .ok (.iinc 3 1, 3) := by decide +kernel
theorem dX9_encode_242 : decode cX9_encode 242 = .ok (.goto (-49), 3) := by decide +kernel
theorem dX9_encode_245 : decode cX9_encode 245 = .ok (.iconst 0, 1) := by decide +kernel
theorem dX9_encode_246 : decode cX9_encode 246 = .ok (.istore_n 3, 1) := by decide +kernel
theorem dX9_encode_247 : decode cX9_encode 247 = .ok (.iload_n 3, 1) := by decide +kernel
theorem dX9_encode_248 : decode cX9_encode 248 = .ok (.sipush 384, 3) := by decide +kernel
theorem dX9_encode_251 : decode cX9_encode 251 = .ok (.if_icmp .ge 24, 3) := by decide +kernel
theorem dX9_encode_254 : decode cX9_encode 254 = .ok (.aload_n 0, 1) := by decide +kernel
theorem dX9_encode_255 : decode cX9_encode 255 = .ok (.getfield 29, 3) := by decide +kernel
theorem dX9_encode_258 : decode cX9_encode 258 = .ok (.iload_n 3, 1) := by decide +kernel
theorem dX9_encode_259 : decode cX9_encode 259 = .ok (.dup2, 1) := by decide +kernel
theorem dX9_encode_260 : decode cX9_encode 260 = .ok (.iaload, 1) := by decide +kernel
theorem dX9_encode_261 : decode cX9_encode 261 = .ok (.aload_n 0, 1) := by decide +kernel
theorem dX9_encode_262 : decode cX9_encode 262 = .ok (.getfield 32, 3) := by decide +kernel
theorem dX9_encode_265 : decode cX9_encode 265 = .ok (.iload_n 3, 1) := by decide +kernel
theorem dX9_encode_266 : decode cX9_encode 266 = .ok (.iaload, 1) := by decide +kernel
theorem dX9_encode_267 : decode cX9_encode 267 = .ok (.isub, 1) := by decide +kernel
theorem dX9_encode_268 : decode cX9_encode 268 = .ok (.iastore, 1) := by decide +kernel
theorem dX9_encode_269 : decode cX9_encode 269 = .ok (.iinc 3 1, 3) := by decide +kernel
theorem dX9_encode_272 : decode cX9_encode 272 = .ok (.goto (-25), 3) := by decide +kernel
theorem dX9_encode_275 : decode cX9_encode 275 = .ok (.iinc 2 1, 3) := by decide +kernel
theorem dX9_encode_278 : decode cX9_encode 278 = .ok (.goto (-102), 3) := by decide +kernel
theorem dX9_encode_281 : decode cX9_encode 281 = .ok (.aload_n 0, 1) := by decide +kernel
theorem dX9_encode_282 : decode cX9_encode 282 = .ok (.aload_n 0, 1) := by decide +kernel
theorem dX9_encode_283 : decode cX9_encode 283 = .ok (.getfield 210, 3) := by decide +kernel
theorem dX9_encode_286 : decode cX9_encode 286 = .ok (.putfield 240, 3) := by decide +kernel
theorem dX9_encode_289 : decode cX9_encode 289 = .ok (.aload_n 0, 1) := by decide +kernel
theorem dX9_encode_290 : decode cX9_encode 290 = .ok (.getfield 210, 3) := by decide +kernel
theorem dX9_encode_293 : decode cX9_encode 293 = .ok (.ireturn, 1) := by decide +kernel
theorem dX9_encodePlain_0 : decode cX9_encodePlain 0 = .ok (.aload_n 0, 1) := by decide +kernel
theorem dX9_encodePlain_1 : decode cX9_encodePlain 1 = .ok (.bipush 82, 2) := by decide +kernel
theorem dX9_encodePlain_3 : decode cX9_encodePlain 3 = .ok (.invokevirtual 225, 3) := by decide +kernel
theorem dX9_encodePlain_6 : decode cX9_encodePlain 6 = .ok (.iconst 0, 1) := by decide +kernel
theorem dX9_encodePlain_7 : decode cX9_encodePlain 7 = .ok (.istore_n 1, 1) := by decide +kernel
theorem dX9_encodePlain_8 : decode cX9_encodePlain 8 = .ok (.iload_n 1, 1) := by decide +kernel
theorem dX9_encodePlain_9 : decode cX9_encodePlain 9 = .ok (.aload_n 0, 1) := by decide +kernel
theorem dX9_encodePlain_10 : decode cX9_encodePlain 10 = .ok (.getfield 13, 3) := by decide +kernel
theorem dX9_encodePlain_13 : decode cX9_encodePlain 13 = .ok (.if_icmp .ge 52, 3) := by decide +kernel
theorem dX9_encodePlain_16 : decode cX9_encodePlain 16 = .ok (.iconst 0, 1) := by decide +kernel
theorem dX9_encodePlain_17 : decode cX9_encodePlain 17 = .ok (.istore_n 2, 1) := by decide +kernel
theorem dX9_encodePlain_18 : decode cX9_encodePlain 18 = .ok (.iload_n 2, 1) := by decide +kernel
theorem dX9_encodePlain_19 : decode cX9_encodePlain 19 = .ok (.aload_n 0, 1) := by decide +kernel
theorem dX9_encodePlain_20 : decode cX9_encodePlain 20 = .ok (.getfield 7, 3) := by decide +kernel
theorem dX9_encodePlain_23 : decode cX9_encodePlain 23 = .ok (.if_icmp .ge 36, 3) := by decide +kernel
theorem dX9_encodePlain_26 : decode cX9_encodePlain 26 = .ok (.aload_n 0, 1) := by decide +kernel
theorem dX9_encodePlain_27 : decode cX9_encodePlain 27 = .ok (.getfield 26, 3) := by decide +kernel
theorem dX9_encodePlain_30 : decode cX9_encodePlain 30 = .ok (.aload_n 0, 1) := by decide +kernel
theorem dX9_encodePlain_31 : decode cX9_encodePlain 31 = .ok (.dup, 1) := by decide +kernel
theorem dX9_encodePlain_32 : decode cX9_encodePlain 32 = .ok (.getfield 210, 3) := by decide +kernel
theorem dX9_encodePlain_35 : decode cX9_encodePlain 35 = .ok (.dup_x1, 1) := by decide +kernel
theorem dX9_encodePlain_36 : decode cX9_encodePlain 36 = .ok (.iconst 1, 1) := by decide +kernel
theorem dX9_encodePlain_37 : decode cX9_encodePlain 37 = .ok (.iadd, 1) := by decide +kernel
theorem dX9_encodePlain_38 : decode cX9_encodePlain 38 = .ok (.putfield 210, 3) := by decide +kernel
theorem dX9_encodePlain_41 : decode cX9_encodePlain 41 = .ok (.aload_n 0, 1) := by decide +kernel
theorem dX9_encodePlain_42 : decode cX9_encodePlain 42 = .ok (.getfield 19, 3) := by decide +kernel
theorem dX9_encodePlain_45 : decode cX9_encodePlain 45 = .ok (.bipush 16, 2) := by decide +kernel
theorem dX9_encodePlain_47 : decode cX9_encodePlain 47 = .ok (.iload_n 1, 1) := by decide +kernel
theorem dX9_encodePlain_48 : decode cX9_encodePlain 48 = .ok (.imul, 1) := by decide +kernel
theorem dX9_encodePlain_49 : decode cX9_encodePlain 49 = .ok (.iload_n 2, 1) := by decide +kernel
theorem dX9_encodePlain_50 : decode cX9_encodePlain 50 = .ok (.iadd, 1) := by decide +kernel
theorem dX9_encodePlain_51 : decode cX9_encodePlain 51 = .ok (.iaload, 1) := by decide +kernel
theorem dX9_encodePlain_52 : decode cX9_encodePlain 52 = .ok (.iastore, 1) := by decide +kernel
theorem dX9_encodePlain_53 : decode cX9_encodePlain 53 = .ok (.iinc 2 1, 3) := by decide +kernel
theorem dX9_encodePlain_56 : decode cX9_encodePlain 56 = .ok (.goto (-38), 3) := by decide +kernel
theorem dX9_encodePlain_59 : decode cX9_encodePlain 59 = .ok (.iinc 1 1, 3) := by decide +kernel
theorem dX9_encodePlain_62 : decode cX9_encodePlain 62 = .ok (.goto (-54), 3) := by decide +kernel
theorem dX9_encodePlain_65 : decode cX9_encodePlain 65 = .ok (.aload_n 0, 1) := by decide +kernel
theorem dX9_encodePlain_66 : decode cX9_encodePlain 66 = .ok (.iconst 2, 1) := by decide +kernel
theorem dX9_encodePlain_67 : decode cX9_encodePlain 67 = .ok (.putfield 228, 3) := by decide +kernel
theorem dX9_encodePlain_70 : decode cX9_encodePlain 70 = .ok (.aload_n 0, 1) := by decide +kernel
theorem dX9_encodePlain_71 : decode cX9_encodePlain 71 = .ok (.aload_n 0, 1) := by decide +kernel
theorem dX9_encodePlain_72 : decode cX9_encodePlain 72 = .ok (.getfield 210, 3) := by decide +kernel
theorem dX9_encodePlain_75 : decode cX9_encodePlain 75 = .ok (.putfield 240, 3) := by decide +kernel
theorem dX9_encodePlain_78 : decode cX9_encodePlain 78 = .ok (.aload_n 0, 1) := by decide +kernel
theorem dX9_encodePlain_79 : decode cX9_encodePlain 79 = .ok (.getfield 210, 3) := by decide +kernel
theorem dX9_encodePlain_82 : decode cX9_encodePlain 82 = .ok (.ireturn, 1) := by decide +kernel
theorem dX9_size_0 : decode cX9_size 0 = .ok (.aload_n 0, 1) := by decide +kernel
theorem dX9_size_1 : decode cX9_size 1 = .ok (.getfield 210, 3) := by decide +kernel
theorem dX9_size_4 : decode cX9_size 4 = .ok (.ireturn, 1) := by decide +kernel
theorem dX9_byteAt_0 : decode cX9_byteAt 0 = .ok (.iload_n 1, 1) := by decide +kernel
theorem dX9_byteAt_1 : decode cX9_byteAt 1 = .ok (.iconst 0, 1) := by decide +kernel
theorem dX9_byteAt_2 : decode cX9_byteAt 2 = .ok (.aload_n 0, 1) := by decide +kernel
theorem dX9_byteAt_3 : decode cX9_byteAt 3 = .ok (.getfield 210, 3) := by decide +kernel
theorem dX9_byteAt_6 : decode cX9_byteAt 6 = .ok (.iconst 1, 1) := by decide +kernel
theorem dX9_byteAt_7 : decode cX9_byteAt 7 = .ok (.isub, 1) := by decide +kernel
theorem dX9_byteAt_8 : decode cX9_byteAt 8 = .ok (.invokestatic 83, 3) := by decide +kernel
theorem dX9_byteAt_11 : decode cX9_byteAt 11 = .ok (.ifCond .ne 9, 3) := by decide +kernel
theorem dX9_byteAt_14 : decode cX9_byteAt 14 = .ok (.aload_n 0, 1) := by decide +kernel
theorem dX9_byteAt_15 : decode cX9_byteAt 15 = .ok (.iconst 1, 1) := by decide +kernel
theorem dX9_byteAt_16 : decode cX9_byteAt 16 = .ok (.invokevirtual 87, 3) := by decide +kernel
theorem dX9_byteAt_19 : decode cX9_byteAt 19 = .ok (.ireturn, 1) := by decide +kernel
theorem dX9_byteAt_20 : decode cX9_byteAt 20 = .ok (.aload_n 0, 1) := by decide +kernel
theorem dX9_byteAt_21 : decode cX9_byteAt 21 = .ok (.iconst 0, 1) := by decide +kernel
theorem dX9_byteAt_22 : decode cX9_byteAt 22 = .ok (.putfield 80, 3) := by decide +kernel
theorem dX9_byteAt_25 : decode cX9_byteAt 25 = .ok (.aload_n 0, 1) := by decide +kernel
theorem dX9_byteAt_26 : decode cX9_byteAt 26 = .ok (.getfield 26, 3) := by decide +kernel
theorem dX9_byteAt_29 : decode cX9_byteAt 29 = .ok (.iload_n 1, 1) := by decide +kernel
theorem dX9_byteAt_30 : decode cX9_byteAt 30 = .ok (.iaload, 1) := by decide +kernel
theorem dX9_byteAt_31 : decode cX9_byteAt 31 = .ok (.ireturn, 1) := by decide +kernel
theorem dX9_setByte_0 : decode cX9_setByte 0 = .ok (.iload_n 1, 1) := by decide +kernel
theorem dX9_setByte_1 : decode cX9_setByte 1 = .ok (.iconst 0, 1) := by decide +kernel
theorem dX9_setByte_2 : decode cX9_setByte 2 = .ok (.aload_n 0, 1) := by decide +kernel
theorem dX9_setByte_3 : decode cX9_setByte 3 = .ok (.getfield 210, 3) := by decide +kernel
theorem dX9_setByte_6 : decode cX9_setByte 6 = .ok (.iconst 1, 1) := by decide +kernel
theorem dX9_setByte_7 : decode cX9_setByte 7 = .ok (.isub, 1) := by decide +kernel
theorem dX9_setByte_8 : decode cX9_setByte 8 = .ok (.invokestatic 83, 3) := by decide +kernel
theorem dX9_setByte_11 : decode cX9_setByte 11 = .ok (.ifCond .ne 9, 3) := by decide +kernel
theorem dX9_setByte_14 : decode cX9_setByte 14 = .ok (.aload_n 0, 1) := by decide +kernel
theorem dX9_setByte_15 : decode cX9_setByte 15 = .ok (.iconst 1, 1) := by decide +kernel
theorem dX9_setByte_16 : decode cX9_setByte 16 = .ok (.invokevirtual 87, 3) := by decide +kernel
theorem dX9_setByte_19 : decode cX9_setByte 19 = .ok (.ireturn, 1) := by decide +kernel
theorem dX9_setByte_20 : decode cX9_setByte 20 = .ok (.iload_n 2, 1) := by decide +kernel
theorem dX9_setByte_21 : decode cX9_setByte 21 = .ok (.iconst 0, 1) := by decide +kernel
theorem dX9_setByte_22 : decode cX9_setByte 22 = .ok (.sipush 255, 3) := by decide +kernel
theorem dX9_setByte_25 : decode cX9_setByte 25 = .ok (.invokestatic 83, 3) := by decide +kernel
theorem dX9_setByte_28 : decode cX9_setByte 28 = .ok (.ifCond .ne 9, 3) := by decide +kernel
theorem dX9_setByte_31 : decode cX9_setByte 31 = .ok (.aload_n 0, 1) := by decide +kernel
theorem dX9_setByte_32 : decode cX9_setByte 32 = .ok (.iconst 2, 1) := by decide +kernel
theorem dX9_setByte_33 : decode cX9_setByte 33 = .ok (.invokevirtual 87, 3) := by decide +kernel
theorem dX9_setByte_36 : decode cX9_setByte 36 = .ok (.ireturn, 1) := by decide +kernel
theorem dX9_setByte_37 : decode cX9_setByte 37 = .ok (.aload_n 0, 1) := by decide +kernel
theorem dX9_setByte_38 : decode cX9_setByte 38 = .ok (.iconst 0, 1) := by decide +kernel
theorem dX9_setByte_39 : decode cX9_setByte 39 = .ok (.putfield 80, 3) := by decide +kernel
theorem dX9_setByte_42 : decode cX9_setByte 42 = .ok (.aload_n 0, 1) := by decide +kernel
theorem dX9_setByte_43 : decode cX9_setByte 43 = .ok (.getfield 26, 3) := by decide +kernel
theorem dX9_setByte_46 : decode cX9_setByte 46 = .ok (.iload_n 1, 1) := by decide +kernel
theorem dX9_setByte_47 : decode cX9_setByte 47 = .ok (.iaload, 1) := by decide +kernel
theorem dX9_setByte_48 : decode cX9_setByte 48 = .ok (.istore_n 3, 1) := by decide +kernel
theorem dX9_setByte_49 : decode cX9_setByte 49 = .ok (.aload_n 0, 1) := by decide +kernel
theorem dX9_setByte_50 : decode cX9_setByte 50 = .ok (.getfield 26, 3) := by decide +kernel
theorem dX9_setByte_53 : decode cX9_setByte 53 = .ok (.iload_n 1, 1) := by decide +kernel
theorem dX9_setByte_54 : decode cX9_setByte 54 = .ok (.iload_n 2, 1) := by decide +kernel
theorem dX9_setByte_55 : decode cX9_setByte 55 = .ok (.iastore, 1) := by decide +kernel
theorem dX9_setByte_56 : decode cX9_setByte 56 = .ok (.iload_n 3, 1) := by decide +kernel
theorem dX9_setByte_57 : decode cX9_setByte 57 = .ok (.ireturn, 1) := by decide +kernel
theorem dX9_cut_0 : decode cX9_cut 0 = .ok (.iload_n 1, 1) := by decide +kernel
theorem dX9_cut_1 : decode cX9_cut 1 = .ok (.iconst 0, 1) := by decide +kernel
theorem dX9_cut_2 : decode cX9_cut 2 = .ok (.aload_n 0, 1) := by decide +kernel
theorem dX9_cut_3 : decode cX9_cut 3 = .ok (.getfield 210, 3) := by decide +kernel
theorem dX9_cut_6 : decode cX9_cut 6 = .ok (.invokestatic 83, 3) := by decide +kernel
theorem dX9_cut_9 : decode cX9_cut 9 = .ok (.ifCond .ne 9, 3) := by decide +kernel
theorem dX9_cut_12 : decode cX9_cut 12 = .ok (.aload_n 0, 1) := by decide +kernel
theorem dX9_cut_13 : decode cX9_cut 13 = .ok (.iconst 1, 1) := by decide +kernel
theorem dX9_cut_14 : decode cX9_cut 14 = .ok (.invokevirtual 87, 3) := by decide +kernel
theorem dX9_cut_17 : decode cX9_cut 17 = .ok (.ireturn, 1) := by decide +kernel
theorem dX9_cut_18 : decode cX9_cut 18 = .ok (.aload_n 0, 1) := by decide +kernel
theorem dX9_cut_19 : decode cX9_cut 19 = .ok (.iconst 0, 1) := by decide +kernel
theorem dX9_cut_20 : decode cX9_cut 20 = .ok (.putfield 80, 3) := by decide +kernel
theorem dX9_cut_23 : decode cX9_cut 23 = .ok (.aload_n 0, 1) := by decide +kernel
theorem dX9_cut_24 : decode cX9_cut 24 = .ok (.getfield 210, 3) := by decide +kernel
theorem dX9_cut_27 : decode cX9_cut 27 = .ok (.istore_n 2, 1) := by decide +kernel
theorem dX9_cut_28 : decode cX9_cut 28 = .ok (.aload_n 0, 1) := by decide +kernel
theorem dX9_cut_29 : decode cX9_cut 29 = .ok (.iload_n 1, 1) := by decide +kernel
theorem dX9_cut_30 : decode cX9_cut 30 = .ok (.putfield 210, 3) := by decide +kernel
theorem dX9_cut_33 : decode cX9_cut 33 = .ok (.iload_n 2, 1) := by decide +kernel
theorem dX9_cut_34 : decode cX9_cut 34 = .ok (.iload_n 1, 1) := by decide +kernel
theorem dX9_cut_35 : decode cX9_cut 35 = .ok (.isub, 1) := by decide +kernel
theorem dX9_cut_36 : decode cX9_cut 36 = .ok (.ireturn, 1) := by decide +kernel
theorem dX9_isHeader_0 : decode cX9_isHeader 0 = .ok (.aload_n 0, 1) := by decide +kernel
theorem dX9_isHeader_1 : decode cX9_isHeader 1 = .ok (.getfield 210, 3) := by decide +kernel
theorem dX9_isHeader_4 : decode cX9_isHeader 4 = .ok (.iconst 3, 1) := by decide +kernel
theorem dX9_isHeader_5 : decode cX9_isHeader 5 = .ok (.if_icmp .lt 55, 3) := by decide +kernel
theorem dX9_isHeader_8 : decode cX9_isHeader 8 = .ok (.aload_n 0, 1) := by decide +kernel
theorem dX9_isHeader_9 : decode cX9_isHeader 9 = .ok (.getfield 26, 3) := by decide +kernel
theorem dX9_isHeader_12 : decode cX9_isHeader 12 = .ok (.iconst 0, 1) := by decide +kernel
theorem dX9_isHeader_13 : decode cX9_isHeader 13 = .ok (.iaload, 1) := by decide +kernel
theorem dX9_isHeader_14 : decode cX9_isHeader 14 = .ok (.bipush 80, 2) := by decide +kernel
theorem dX9_isHeader_16 : decode cX9_isHeader 16 = .ok (.if_icmp .eq 14, 3) := by decide +kernel
theorem dX9_isHeader_19 : decode cX9_isHeader 19 = .ok (.aload_n 0, 1) := by decide +kernel
theorem dX9_isHeader_20 : decode cX9_isHeader 20 = .ok (.getfield 26, 3) := by decide +kernel
theorem dX9_isHeader_23 : decode cX9_isHeader 23 = .ok (.iconst 0, 1) := by decide +kernel
theorem dX9_isHeader_24 : decode cX9_isHeader 24 = .ok (.iaload, 1) := by decide +kernel
theorem dX9_isHeader_25 : decode cX9_isHeader 25 = .ok (.bipush 82, 2) := by decide +kernel
theorem dX9_isHeader_27 : decode cX9_isHeader 27 = .ok (.if_icmp .ne 33, 3) := by decide +kernel
theorem dX9_isHeader_30 : decode cX9_isHeader 30 = .ok (.aload_n 0, 1) := by decide +kernel
theorem dX9_isHeader_31 : decode cX9_isHeader 31 = .ok (.getfield 26, 3) := by decide +kernel
theorem dX9_isHeader_34 : decode cX9_isHeader 34 = .ok (.iconst 1, 1) := by decide +kernel
theorem dX9_isHeader_35 : decode cX9_isHeader 35 = .ok (.iaload, 1) := by decide +kernel
theorem dX9_isHeader_36 : decode cX9_isHeader 36 = .ok (.iconst 1, 1) := by decide +kernel
theorem dX9_isHeader_37 : decode cX9_isHeader 37 = .ok (.bipush 16, 2) := by decide +kernel
theorem dX9_isHeader_39 : decode cX9_isHeader 39 = .ok (.invokestatic 83, 3) := by decide +kernel
theorem dX9_isHeader_42 : decode cX9_isHeader 42 = .ok (.ifCond .eq 18, 3) := by decide +kernel
theorem dX9_isHeader_45 : decode cX9_isHeader 45 = .ok (.aload_n 0, 1) := by decide +kernel
theorem dX9_isHeader_46 : decode cX9_isHeader 46 = .ok (.getfield 26, 3) := by decide +kernel
theorem dX9_isHeader_49 : decode cX9_isHeader 49 = .ok (.iconst 2, 1) := by decide +kernel
theorem dX9_isHeader_50 : decode cX9_isHeader 50 = .ok (.iaload, 1) := by decide +kernel
theorem dX9_isHeader_51 : decode cX9_isHeader 51 = .ok (.iconst 1, 1) := by decide +kernel
theorem dX9_isHeader_52 : decode cX9_isHeader 52 = .ok (.bipush 24, 2) := by decide +kernel
theorem dX9_isHeader_54 : decode cX9_isHeader 54 = .ok (.invokestatic 83, 3) := by decide +kernel
theorem dX9_isHeader_57 : decode cX9_isHeader 57 = .ok (.ifCond .ne 5, 3) := by decide +kernel
theorem dX9_isHeader_60 : decode cX9_isHeader 60 = .ok (.iconst 0, 1) := by decide +kernel
theorem dX9_isHeader_61 : decode cX9_isHeader 61 = .ok (.ireturn, 1) := by decide +kernel
theorem dX9_isHeader_62 : decode cX9_isHeader 62 = .ok (.aload_n 0, 1) := by decide +kernel
theorem dX9_isHeader_63 : decode cX9_isHeader 63 = .ok (.getfield 26, 3) := by decide +kernel
theorem dX9_isHeader_66 : decode cX9_isHeader 66 = .ok (.iconst 0, 1) := by decide +kernel
theorem dX9_isHeader_67 : decode cX9_isHeader 67 = .ok (.iaload, 1) := by decide +kernel
theorem dX9_isHeader_68 : decode cX9_isHeader 68 = .ok (.bipush 82, 2) := by decide +kernel
theorem dX9_isHeader_70 : decode cX9_isHeader 70 = .ok (.if_icmp .ne 5, 3) := by decide +kernel
theorem dX9_isHeader_73 : decode cX9_isHeader 73 = .ok (.iconst 1, 1) := by decide +kernel
theorem dX9_isHeader_74 : decode cX9_isHeader 74 = .ok (.ireturn, 1) := by decide +kernel
theorem dX9_isHeader_75 : decode cX9_isHeader 75 = .ok (.aload_n 0, 1) := by decide +kernel
theorem dX9_isHeader_76 : decode cX9_isHeader 76 = .ok (.getfield 210, 3) := by decide +kernel
theorem dX9_isHeader_79 : decode cX9_isHeader 79 = .ok (.iconst 4, 1) := by decide +kernel
theorem dX9_isHeader_80 : decode cX9_isHeader 80 = .ok (.if_icmp .lt 32, 3) := by decide +kernel
theorem dX9_isHeader_83 : decode cX9_isHeader 83 = .ok (.aload_n 0, 1) := by decide +kernel
theorem dX9_isHeader_84 : decode cX9_isHeader 84 = .ok (.getfield 26, 3) := by decide +kernel
theorem dX9_isHeader_87 : decode cX9_isHeader 87 = .ok (.iconst 3, 1) := by decide +kernel
theorem dX9_isHeader_88 : decode cX9_isHeader 88 = .ok (.iaload, 1) := by decide +kernel
theorem dX9_isHeader_89 : decode cX9_isHeader 89 = .ok (.iconst 1, 1) := by decide +kernel
theorem dX9_isHeader_90 : decode cX9_isHeader 90 = .ok (.iconst 3, 1) := by decide +kernel
theorem dX9_isHeader_91 : decode cX9_isHeader 91 = .ok (.invokestatic 83, 3) := by decide +kernel
theorem dX9_isHeader_94 : decode cX9_isHeader 94 = .ok (.ifCond .eq 18, 3) := by decide +kernel
theorem dX9_isHeader_97 : decode cX9_isHeader 97 = .ok (.aload_n 0, 1) := by decide +kernel
theorem dX9_isHeader_98 : decode cX9_isHeader 98 = .ok (.getfield 210, 3) := by decide +kernel
theorem dX9_isHeader_101 : decode cX9_isHeader 101 = .ok (.iconst 4, 1) := by decide +kernel
theorem dX9_isHeader_102 : decode cX9_isHeader 102 = .ok (.aload_n 0, 1) := by decide +kernel
theorem dX9_isHeader_103 : decode cX9_isHeader 103 = .ok (.getfield 26, 3) := by decide +kernel
theorem dX9_isHeader_106 : decode cX9_isHeader 106 = .ok (.iconst 3, 1) := by decide +kernel
theorem dX9_isHeader_107 : decode cX9_isHeader 107 = .ok (.iaload, 1) := by decide +kernel
theorem dX9_isHeader_108 : decode cX9_isHeader 108 = .ok (.iadd, 1) := by decide +kernel
theorem dX9_isHeader_109 : decode cX9_isHeader 109 = .ok (.if_icmp .ge 5, 3) := by decide +kernel
theorem dX9_isHeader_112 : decode cX9_isHeader 112 = .ok (.iconst 0, 1) := by decide +kernel
theorem dX9_isHeader_113 : decode cX9_isHeader 113 = .ok (.ireturn, 1) := by decide +kernel
theorem dX9_isHeader_114 : decode cX9_isHeader 114 = .ok (.iconst 0, 1) := by decide +kernel
theorem dX9_isHeader_115 : decode cX9_isHeader 115 = .ok (.istore_n 1, 1) := by decide +kernel
theorem dX9_isHeader_116 : decode cX9_isHeader 116 = .ok (.iload_n 1, 1) := by decide +kernel
theorem dX9_isHeader_117 : decode cX9_isHeader 117 = .ok (.aload_n 0, 1) := by decide +kernel
theorem dX9_isHeader_118 : decode cX9_isHeader 118 = .ok (.getfield 26, 3) := by decide +kernel
theorem dX9_isHeader_121 : decode cX9_isHeader 121 = .ok (.iconst 3, 1) := by decide +kernel
theorem dX9_isHeader_122 : decode cX9_isHeader 122 = .ok (.iaload, 1) := by decide +kernel
theorem dX9_isHeader_123 : decode cX9_isHeader 123 = .ok (.if_icmp .ge 45, 3) := by decide +kernel
theorem dX9_isHeader_126 : decode cX9_isHeader 126 = .ok (.aload_n 0, 1) := by decide +kernel
theorem dX9_isHeader_127 : decode cX9_isHeader 127 = .ok (.getfield 26, 3) := by decide +kernel
theorem dX9_isHeader_130 : decode cX9_isHeader 130 = .ok (.iconst 4, 1) := by decide +kernel
theorem dX9_isHeader_131 : decode cX9_isHeader 131 = .ok (.iload_n 1, 1) := by decide +kernel
theorem dX9_isHeader_132 : decode cX9_isHeader 132 = .ok (.iadd, 1) := by decide +kernel
theorem dX9_isHeader_133 : decode cX9_isHeader 133 = .ok (.iaload, 1) := by decide +kernel
theorem dX9_isHeader_134 : decode cX9_isHeader 134 = .ok (.iconst 1, 1) := by decide +kernel
theorem dX9_isHeader_135 : decode cX9_isHeader 135 = .ok (.iload_n 1, 1) := by decide +kernel
theorem dX9_isHeader_136 : decode cX9_isHeader 136 = .ok (.ifCond .ne 8, 3) := by decide +kernel
theorem dX9_isHeader_139 : decode cX9_isHeader 139 = .ok (.bipush 32, 2) := by decide +kernel
theorem dX9_isHeader_141 : decode cX9_isHeader 141 = .ok (.goto 13, 3) := by decide +kernel
theorem dX9_isHeader_144 : decode cX9_isHeader 144 = .ok (.aload_n 0, 1) := by decide +kernel
theorem dX9_isHeader_145 : decode cX9_isHeader 145 = .ok (.getfield 26, 3) := by decide +kernel
theorem dX9_isHeader_148 : decode cX9_isHeader 148 = .ok (.iconst 3, 1) := by decide +kernel
theorem dX9_isHeader_149 : decode cX9_isHeader 149 = .ok (.iload_n 1, 1) := by decide +kernel
theorem dX9_isHeader_150 : decode cX9_isHeader 150 = .ok (.iadd, 1) := by decide +kernel
theorem dX9_isHeader_151 : decode cX9_isHeader 151 = .ok (.iaload, 1) := by decide +kernel
theorem dX9_isHeader_152 : decode cX9_isHeader 152 = .ok (.iconst 1, 1) := by decide +kernel
theorem dX9_isHeader_153 : decode cX9_isHeader 153 = .ok (.isub, 1) := by decide +kernel
theorem dX9_isHeader_154 : decode cX9_isHeader 154 = .ok (.invokestatic 83, 3) := by decide +kernel
theorem dX9_isHeader_157 : decode cX9_isHeader 157 = .ok (.ifCond .ne 5, 3) := by decide +kernel
theorem dX9_isHeader_160 : decode cX9_isHeader 160 = .ok (.iconst 0, 1) := by decide +kernel
theorem dX9_isHeader_161 : decode cX9_isHeader 161 = .ok (.ireturn, 1) := by decide +kernel
theorem dX9_isHeader_162 : decode cX9_isHeader 162 = .ok (.iinc 1 1, 3) := by decide +kernel
theorem dX9_isHeader_165 : decode cX9_isHeader 165 = .ok (.goto (-49), 3) := by decide +kernel
theorem dX9_isHeader_168 : decode cX9_isHeader 168 = .ok (.iconst 1, 1) := by decide +kernel
theorem dX9_isHeader_169 : decode cX9_isHeader 169 = .ok (.ireturn, 1) := by decide +kernel
theorem dX9_decode_0 : decode cX9_decode 0 = .ok (.iload_n 1, 1) := by decide +kernel
theorem dX9_decode_1 : decode cX9_decode 1 = .ok (.iconst 1, 1) := by decide +kernel
theorem dX9_decode_2 : decode cX9_decode 2 = .ok (.iconst 3, 1) := by decide +kernel
theorem dX9_decode_3 : decode cX9_decode 3 = .ok (.invokestatic 83, 3) := by decide +kernel
theorem dX9_decode_6 : decode cX9_decode 6 = .ok (.ifCond .ne 9, 3) := by decide +kernel
theorem dX9_decode_9 : decode cX9_decode 9 = .ok (.aload_n 0, 1) := by decide +kernel
theorem dX9_decode_10 : decode cX9_decode 10 = .ok (.iconst 1, 1) := by decide +kernel
theorem dX9_decode_11 : decode cX9_decode 11 = .ok (.invokevirtual 87, 3) := by decide +kernel
theorem dX9_decode_14 : decode cX9_decode 14 = .ok (.ireturn, 1) := by decide +kernel
theorem dX9_decode_15 : decode cX9_decode 15 = .ok (.aload_n 0, 1) := by decide +kernel
theorem dX9_decode_16 : decode cX9_decode 16 = .ok (.invokevirtual 243, 3) := by decide +kernel
theorem dX9_decode_19 : decode cX9_decode 19 = .ok (.ifCond .ne 9, 3) := by decide +kernel
theorem dX9_decode_22 : decode cX9_decode 22 = .ok (.aload_n 0, 1) := by decide +kernel
theorem dX9_decode_23 : decode cX9_decode 23 = .ok (.iconst 2, 1) := by decide +kernel
theorem dX9_decode_24 : decode cX9_decode 24 = .ok (.invokevirtual 87, 3) := by decide +kernel
theorem dX9_decode_27 : decode cX9_decode 27 = .ok (.ireturn, 1) := by decide +kernel
theorem dX9_decode_28 : decode cX9_decode 28 = .ok (.aload_n 0, 1) := by decide +kernel
theorem dX9_decode_29 : decode cX9_decode 29 = .ok (.iconst 0, 1) := by decide +kernel
theorem dX9_decode_30 : decode cX9_decode 30 = .ok (.putfield 80, 3) := by decide +kernel
theorem dX9_decode_33 : decode cX9_decode 33 = .ok (.aload_n 0, 1) := by decide +kernel
theorem dX9_decode_34 : decode cX9_decode 34 = .ok (.iconst 1, 1) := by decide +kernel
theorem dX9_decode_35 : decode cX9_decode 35 = .ok (.putfield 247, 3) := by decide +kernel
theorem dX9_decode_38 : decode cX9_decode 38 = .ok (.aload_n 0, 1) := by decide +kernel
theorem dX9_decode_39 : decode cX9_decode 39 = .ok (.aload_n 0, 1) := by decide +kernel
theorem dX9_decode_40 : decode cX9_decode 40 = .ok (.getfield 26, 3) := by decide +kernel
theorem dX9_decode_43 : decode cX9_decode 43 = .ok (.iconst 1, 1) := by decide +kernel
theorem dX9_decode_44 : decode cX9_decode 44 = .ok (.iaload, 1) := by decide +kernel
theorem dX9_decode_45 : decode cX9_decode 45 = .ok (.putfield 250, 3) := by decide +kernel
theorem dX9_decode_48 : decode cX9_decode 48 = .ok (.aload_n 0, 1) := by decide +kernel
theorem dX9_decode_49 : decode cX9_decode 49 = .ok (.aload_n 0, 1) := by decide +kernel
theorem dX9_decode_50 : decode cX9_decode 50 = .ok (.getfield 26, 3) := by decide +kernel
theorem dX9_decode_53 : decode cX9_decode 53 = .ok (.iconst 2, 1) := by decide +kernel
theorem dX9_decode_54 : decode cX9_decode 54 = .ok (.iaload, 1) := by decide +kernel
theorem dX9_decode_55 : decode cX9_decode 55 = .ok (.putfield 253, 3) := by decide +kernel
theorem dX9_decode_58 : decode cX9_decode 58 = .ok (.aload_n 0, 1) := by decide +kernel
theorem dX9_decode_59 : decode cX9_decode 59 = .ok (.getfield 253, 3) := by decide +kernel
theorem dX9_decode_62 : decode cX9_decode 62 = .ok (.bipush 7, 2) := by decide +kernel
theorem dX9_decode_64 : decode cX9_decode 64 = .ok (.iadd, 1) := by decide +kernel
theorem dX9_decode_65 : decode cX9_decode 65 = .ok (.bipush 8, 2) := by decide +kernel
theorem dX9_decode_67 : decode cX9_decode 67 = .ok (.idiv, 1) := by decide +kernel
theorem dX9_decode_68 : decode cX9_decode 68 = .ok (.istore_n 2, 1) := by decide +kernel
theorem dX9_decode_69 : decode cX9_decode 69 = .ok (.iconst 0, 1) := by decide +kernel
theorem dX9_decode_70 : decode cX9_decode 70 = .ok (.istore_n 3, 1) := by decide +kernel
theorem dX9_decode_71 : decode cX9_decode 71 = .ok (.iconst 0, 1) := by decide +kernel
theorem dX9_decode_72 : decode cX9_decode 72 = .ok (.istore 4, 2) := by decide +kernel
theorem dX9_decode_74 : decode cX9_decode 74 = .ok (.iload 4, 2) := by decide +kernel
theorem dX9_decode_76 : decode cX9_decode 76 = .ok (.iconst 3, 1) := by decide +kernel
theorem dX9_decode_77 : decode cX9_decode 77 = .ok (.if_icmp .ge 26, 3) := by decide +kernel
theorem dX9_decode_80 : decode cX9_decode 80 = .ok (.aload_n 0, 1) := by decide +kernel
theorem dX9_decode_81 : decode cX9_decode 81 = .ok (.getfield 41, 3) := by decide +kernel
theorem dX9_decode_84 : decode cX9_decode 84 = .ok (.iload 4, 2) := by decide +kernel
theorem dX9_decode_86 : decode cX9_decode 86 = .ok (.bipush 110, 2) := by decide +kernel
theorem dX9_decode_88 : decode cX9_decode 88 = .ok (.iastore, 1) := by decide +kernel
theorem dX9_decode_89 : decode cX9_decode 89 = .ok (.aload_n 0, 1) := by decide +kernel
theorem dX9_decode_90 : decode cX9_decode 90 = .ok (.getfield 44, 3) := by decide +kernel
theorem dX9_decode_93 : decode cX9_decode 93 = .ok (.iload 4, 2) := by decide +kernel
theorem dX9_decode_95 : decode cX9_decode 95 = .ok (.iconst 0, 1) := by decide +kernel
theorem dX9_decode_96 : decode cX9_decode 96 = .ok (.iastore, 1) := by decide +kernel
theorem dX9_decode_97 : decode cX9_decode 97 = .ok (.iinc 4 1, 3) := by decide +kernel
theorem dX9_decode_100 : decode cX9_decode 100 = .ok (.goto (-26), 3) := by decide +kernel
theorem dX9_decode_103 : decode cX9_decode 103 = .ok (.iconst 0, 1) := by decide +kernel
theorem dX9_decode_104 : decode cX9_decode 104 = .ok (.istore 4, 2) := by decide +kernel
theorem dX9_decode_106 : decode cX9_decode 106 = .ok (.iload 4, 2) := by decide +kernel
theorem dX9_decode_108 : decode cX9_decode 108 = .ok (.sipush 384, 3) := by decide +kernel
theorem dX9_decode_111 : decode cX9_decode 111 = .ok (.if_icmp .ge 17, 3) := by decide +kernel
theorem dX9_decode_114 : decode cX9_decode 114 = .ok (.aload_n 0, 1) := by decide +kernel
theorem dX9_decode_115 : decode cX9_decode 115 = .ok (.getfield 35, 3) := by decide +kernel
theorem dX9_decode_118 : decode cX9_decode 118 = .ok (.iload 4, 2) := by decide +kernel
theorem dX9_decode_120 : decode cX9_decode 120 = .ok (.iconst 0, 1) := by decide +kernel
theorem dX9_decode_121 : decode cX9_decode 121 = .ok (.iastore, 1) := by decide +kernel
theorem dX9_decode_122 : decode cX9_decode 122 = .ok (.iinc 4 1, 3) := by decide +kernel
theorem dX9_decode_125 : decode cX9_decode 125 = .ok (.goto (-19), 3) := by decide +kernel
theorem dX9_decode_128 : decode cX9_decode 128 = .ok (.aload_n 0, 1) := by decide +kernel
theorem dX9_decode_129 : decode cX9_decode 129 = .ok (.getfield 26, 3) := by decide +kernel
theorem dX9_decode_132 : decode cX9_decode 132 = .ok (.iconst 0, 1) := by decide +kernel
theorem dX9_decode_133 : decode cX9_decode 133 = .ok (.iaload, 1) := by decide +kernel
theorem dX9_decode_134 : decode cX9_decode 134 = .ok (.bipush 82, 2) := by decide +kernel
theorem dX9_decode_136 : decode cX9_decode 136 = .ok (.if_icmp .ne 11, 3) := by decide +kernel
theorem dX9_decode_139 : decode cX9_decode 139 = .ok (.aload_n 0, 1) := by decide +kernel
theorem dX9_decode_140 : decode cX9_decode 140 = .ok (.iload_n 2, 1) := by decide +kernel
theorem dX9_decode_141 : decode cX9_decode 141 = .ok (.invokevirtual 256, 3) := by decide +kernel
theorem dX9_decode_144 : decode cX9_decode 144 = .ok (.goto 28, 3) := by decide +kernel
theorem dX9_decode_147 : decode cX9_decode 147 = .ok (.aload_n 0, 1) := by decide +kernel
theorem dX9_decode_148 : decode cX9_decode 148 = .ok (.iload_n 1, 1) := by decide +kernel
theorem dX9_decode_149 : decode cX9_decode 149 = .ok (.aload_n 0, 1) := by decide +kernel
theorem dX9_decode_150 : decode cX9_decode 150 = .ok (.getfield 26, 3) := by decide +kernel
theorem dX9_decode_153 : decode cX9_decode 153 = .ok (.iconst 3, 1) := by decide +kernel
theorem dX9_decode_154 : decode cX9_decode 154 = .ok (.iaload, 1) := by decide +kernel
theorem dX9_decode_155 : decode cX9_decode 155 = .ok (.if_icmp .ge 7, 3) := by decide +kernel
theorem dX9_decode_158 : decode cX9_decode 158 = .ok (.iload_n 1, 1) := by decide +kernel
theorem dX9_decode_159 : decode cX9_decode 159 = .ok (.goto 9, 3) := by decide +kernel
theorem dX9_decode_162 : decode cX9_decode 162 = .ok (.aload_n 0, 1) := by decide +kernel
theorem dX9_decode_163 : decode cX9_decode 163 = .ok (.getfield 26, 3) := by decide +kernel
theorem dX9_decode_166 : decode cX9_decode 166 = .ok (.iconst 3, 1) := by decide +kernel
theorem dX9_decode_167 : decode cX9_decode 167 = .ok (.iaload, 1) := by decide +kernel
theorem dX9_decode_168 : decode cX9_decode 168 = .ok (.iload_n 2, 1) := by decide +kernel
theorem dX9_decode_169 : decode cX9_decode 169 = .ok (.invokevirtual 259, 3) := by decide +kernel
theorem dX9_decode_172 : decode cX9_decode 172 = .ok (.iconst 0, 1) := by decide +kernel
theorem dX9_decode_173 : decode cX9_decode 173 = .ok (.istore 4, 2) := by decide +kernel
theorem dX9_decode_175 : decode cX9_decode 175 = .ok (.iload 4, 2) := by decide +kernel
theorem dX9_decode_177 : decode cX9_decode 177 = .ok (.sipush 384, 3) := by decide +kernel
theorem dX9_decode_180 : decode cX9_decode 180 = .ok (.if_icmp .ge 56, 3) := by decide +kernel
theorem dX9_decode_183 : decode cX9_decode 183 = .ok (.aload_n 0, 1) := by decide +kernel
theorem dX9_decode_184 : decode cX9_decode 184 = .ok (.getfield 38, 3) := by decide +kernel
theorem dX9_decode_187 : decode cX9_decode 187 = .ok (.iload 4, 2) := by decide +kernel
theorem dX9_decode_189 : decode cX9_decode 189 = .ok (.aload_n 0, 1) := by decide +kernel
theorem dX9_decode_190 : decode cX9_decode 190 = .ok (.getfield 35, 3) := by decide +kernel
theorem dX9_decode_193 : decode cX9_decode 193 = .ok (.iload 4, 2) := by decide +kernel
theorem dX9_decode_195 : decode cX9_decode 195 = .ok (.iaload, 1) := by decide +kernel
theorem dX9_decode_196 : decode cX9_decode 196 = .ok (.ifCond .ge 7, 3) := by decide +kernel
theorem dX9_decode_199 : decode cX9_decode 199 = .ok (.iconst 0, 1) := by decide +kernel
theorem dX9_decode_200 : decode cX9_decode 200 = .ok (.goto 29, 3) := by decide +kernel
theorem dX9_decode_203 : decode cX9_decode 203 = .ok (.aload_n 0, 1) := by decide +kernel
theorem dX9_decode_204 : decode cX9_decode 204 = .ok (.getfield 35, 3) := by decide +kernel
theorem dX9_decode_207 : decode cX9_decode 207 = .ok (.iload 4, 2) := by decide +kernel
theorem dX9_decode_209 : decode cX9_decode 209 = .ok (.iaload, 1) := by decide +kernel
theorem dX9_decode_210 : decode cX9_decode 210 = .ok (.sipush 255, 3) := by decide +kernel
theorem dX9_decode_213 : decode cX9_decode 213 = .ok (.if_icmp .le 9, 3) := by decide +kernel
theorem dX9_decode_216 : decode cX9_decode 216 = .ok (.sipush 255, 3) := by decide +kernel
theorem dX9_decode_219 : decode cX9_decode 219 = .ok (.goto 10, 3) := by decide +kernel
theorem dX9_decode_222 : decode cX9_decode 222 = .ok (.aload_n 0, 1) := by decide +kernel
theorem dX9_decode_223 : decode cX9_decode 223 = .ok (.getfield 35, 3) := by decide +kernel
theorem dX9_decode_226 : decode cX9_decode 226 = .ok (.iload 4, 2) := by decide +kernel
theorem dX9_decode_228 : decode cX9_decode 228 = .ok (.iaload, 1) := by decide +kernel
theorem dX9_decode_229 : decode cX9_decode 229 = .ok (.iastore, 1) := by decide +kernel
theorem dX9_decode_230 : decode cX9_decode 230 = .ok (.iinc 4 1, 3) := by decide +kernel
theorem dX9_decode_233 : decode cX9_decode 233 = .ok (.goto (-58), 3) := by decide +kernel
theorem dX9_decode_236 : decode cX9_decode 236 = .ok (.iconst 0, 1) := by decide +kernel
theorem dX9_decode_237 : decode cX9_decode 237 = .ok (.istore 4, 2) := by decide +kernel
theorem dX9_decode_239 : decode cX9_decode 239 = .ok (.iload 4, 2) := by decide +kernel
theorem dX9_decode_241 : decode cX9_decode 241 = .ok (.iload_n 2, 1) := by decide +kernel
theorem dX9_decode_242 : decode cX9_decode 242 = .ok (.if_icmp .ge 29, 3) := by decide +kernel
theorem dX9_decode_245 : decode cX9_decode 245 = .ok (.iload_n 3, 1) := by decide +kernel
theorem dX9_decode_246 : decode cX9_decode 246 = .ok (.aload_n 0, 1) := by decide +kernel
theorem dX9_decode_247 : decode cX9_decode 247 = .ok (.getfield 41, 3) := by decide +kernel
theorem dX9_decode_250 : decode cX9_decode 250 = .ok (.iload 4, 2) := by decide +kernel
theorem dX9_decode_252 : decode cX9_decode 252 = .ok (.iaload, 1) := by decide +kernel
theorem dX9_decode_253 : decode cX9_decode 253 = .ok (.bipush 110, 2) := by decide +kernel
theorem dX9_decode_255 : decode cX9_decode 255 = .ok (.if_icmp .ne 7, 3) := by decide +kernel
theorem dX9_decode_258 : decode cX9_decode 258 = .ok (.iconst 0, 1) := by decide +kernel
theorem dX9_decode_259 : decode cX9_decode 259 = .ok (.goto 4, 3) := by decide +kernel
theorem dX9_decode_262 : decode cX9_decode 262 = .ok (.iconst 1, 1) := by decide +kernel
theorem dX9_decode_263 : decode cX9_decode 263 = .ok (.iadd, 1) := by decide +kernel
theorem dX9_decode_264 : decode cX9_decode 264 = .ok (.istore_n 3, 1) := by decide +kernel
theorem dX9_decode_265 : decode cX9_decode 265 = .ok (.iinc 4 1, 3) := by decide +kernel
theorem dX9_decode_268 : decode cX9_decode 268 = .ok (.goto (-29), 3) := by decide +kernel
theorem dX9_decode_271 : decode cX9_decode 271 = .ok (.iload_n 3, 1) := by decide +kernel
theorem dX9_decode_272 : decode cX9_decode 272 = .ok (.ireturn, 1) := by decide +kernel
theorem dX9_takePlain_0 : decode cX9_takePlain 0 = .ok (.iconst 0, 1) := by decide +kernel
theorem dX9_takePlain_1 : decode cX9_takePlain 1 = .ok (.istore_n 2, 1) := by decide +kernel
theorem dX9_takePlain_2 : decode cX9_takePlain 2 = .ok (.iload_n 2, 1) := by decide +kernel
theorem dX9_takePlain_3 : decode cX9_takePlain 3 = .ok (.iload_n 1, 1) := by decide +kernel
theorem dX9_takePlain_4 : decode cX9_takePlain 4 = .ok (.if_icmp .ge 137, 3) := by decide +kernel
theorem dX9_takePlain_7 : decode cX9_takePlain 7 = .ok (.bipush 8, 2) := by decide +kernel
theorem dX9_takePlain_9 : decode cX9_takePlain 9 = .ok (.iload_n 2, 1) := by decide +kernel
theorem dX9_takePlain_10 : decode cX9_takePlain 10 = .ok (.imul, 1) := by decide +kernel
theorem dX9_takePlain_11 : decode cX9_takePlain 11 = .ok (.bipush 8, 2) := by decide +kernel
theorem dX9_takePlain_13 : decode cX9_takePlain 13 = .ok (.iadd, 1) := by decide +kernel
theorem dX9_takePlain_14 : decode cX9_takePlain 14 = .ok (.aload_n 0, 1) := by decide +kernel
theorem dX9_takePlain_15 : decode cX9_takePlain 15 = .ok (.getfield 253, 3) := by decide +kernel
theorem dX9_takePlain_18 : decode cX9_takePlain 18 = .ok (.if_icmp .ge 13, 3) := by decide +kernel
theorem dX9_takePlain_21 : decode cX9_takePlain 21 = .ok (.bipush 8, 2) := by decide +kernel
theorem dX9_takePlain_23 : decode cX9_takePlain 23 = .ok (.iload_n 2, 1) := by decide +kernel
theorem dX9_takePlain_24 : decode cX9_takePlain 24 = .ok (.imul, 1) := by decide +kernel
theorem dX9_takePlain_25 : decode cX9_takePlain 25 = .ok (.bipush 8, 2) := by decide +kernel
theorem dX9_takePlain_27 : decode cX9_takePlain 27 = .ok (.iadd, 1) := by decide +kernel
theorem dX9_takePlain_28 : decode cX9_takePlain 28 = .ok (.goto 7, 3) := by decide +kernel
theorem dX9_takePlain_31 : decode cX9_takePlain 31 = .ok (.aload_n 0, 1) := by decide +kernel
theorem dX9_takePlain_32 : decode cX9_takePlain 32 = .ok (.getfield 253, 3) := by decide +kernel
theorem dX9_takePlain_35 : decode cX9_takePlain 35 = .ok (.istore_n 3, 1) := by decide +kernel
theorem dX9_takePlain_36 : decode cX9_takePlain 36 = .ok (.iconst 3, 1) := by decide +kernel
theorem dX9_takePlain_37 : decode cX9_takePlain 37 = .ok (.iload_n 3, 1) := by decide +kernel
theorem dX9_takePlain_38 : decode cX9_takePlain 38 = .ok (.aload_n 0, 1) := by decide +kernel
theorem dX9_takePlain_39 : decode cX9_takePlain 39 = .ok (.getfield 250, 3) := by decide +kernel
theorem dX9_takePlain_42 : decode cX9_takePlain 42 = .ok (.imul, 1) := by decide +kernel
theorem dX9_takePlain_43 : decode cX9_takePlain 43 = .ok (.iadd, 1) := by decide +kernel
theorem dX9_takePlain_44 : decode cX9_takePlain 44 = .ok (.aload_n 0, 1) := by decide +kernel
theorem dX9_takePlain_45 : decode cX9_takePlain 45 = .ok (.getfield 210, 3) := by decide +kernel
theorem dX9_takePlain_48 : decode cX9_takePlain 48 = .ok (.if_icmp .le 14, 3) := by decide +kernel
theorem dX9_takePlain_51 : decode cX9_takePlain 51 = .ok (.aload_n 0, 1) := by decide +kernel
theorem dX9_takePlain_52 : decode cX9_takePlain 52 = .ok (.getfield 41, 3) := by decide +kernel
theorem dX9_takePlain_55 : decode cX9_takePlain 55 = .ok (.iload_n 2, 1) := by decide +kernel
theorem dX9_takePlain_56 : decode cX9_takePlain 56 = .ok (.bipush 101, 2) := by decide +kernel
theorem dX9_takePlain_58 : decode cX9_takePlain 58 = .ok (.iastore, 1) := by decide +kernel
theorem dX9_takePlain_59 : decode cX9_takePlain 59 = .ok (.goto 76, 3) := by decide +kernel
theorem dX9_takePlain_62 : decode cX9_takePlain 62 = .ok (.aload_n 0, 1) := by decide +kernel
theorem dX9_takePlain_63 : decode cX9_takePlain 63 = .ok (.getfield 44, 3) := by decide +kernel
theorem dX9_takePlain_66 : decode cX9_takePlain 66 = .ok (.iload_n 2, 1) := by decide +kernel
theorem dX9_takePlain_67 : decode cX9_takePlain 67 = .ok (.iconst 1, 1) := by decide +kernel
theorem dX9_takePlain_68 : decode cX9_takePlain 68 = .ok (.iastore, 1) := by decide +kernel
theorem dX9_takePlain_69 : decode cX9_takePlain 69 = .ok (.bipush 8, 2) := by decide +kernel
theorem dX9_takePlain_71 : decode cX9_takePlain 71 = .ok (.iload_n 2, 1) := by decide +kernel
theorem dX9_takePlain_72 : decode cX9_takePlain 72 = .ok (.imul, 1) := by decide +kernel
theorem dX9_takePlain_73 : decode cX9_takePlain 73 = .ok (.istore 4, 2) := by decide +kernel
theorem dX9_takePlain_75 : decode cX9_takePlain 75 = .ok (.iload 4, 2) := by decide +kernel
theorem dX9_takePlain_77 : decode cX9_takePlain 77 = .ok (.iload_n 3, 1) := by decide +kernel
theorem dX9_takePlain_78 : decode cX9_takePlain 78 = .ok (.if_icmp .ge 57, 3) := by decide +kernel
theorem dX9_takePlain_81 : decode cX9_takePlain 81 = .ok (.iconst 0, 1) := by decide +kernel
theorem dX9_takePlain_82 : decode cX9_takePlain 82 = .ok (.istore 5, 2) := by decide +kernel
theorem dX9_takePlain_84 : decode cX9_takePlain 84 = .ok (.iload 5, 2) := by decide +kernel
theorem dX9_takePlain_86 : decode cX9_takePlain 86 = .ok (.aload_n 0, 1) := by decide +kernel
theorem dX9_takePlain_87 : decode cX9_takePlain 87 = .ok (.getfield 250, 3) := by decide +kernel
theorem dX9_takePlain_90 : decode cX9_takePlain 90 = .ok (.if_icmp .ge 39, 3) := by decide +kernel
theorem dX9_takePlain_93 : decode cX9_takePlain 93 = .ok (.aload_n 0, 1) := by decide +kernel
theorem dX9_takePlain_94 : decode cX9_takePlain 94 = .ok (.getfield 35, 3) := by decide +kernel
theorem dX9_takePlain_97 : decode cX9_takePlain 97 = .ok (.bipush 16, 2) := by decide +kernel
theorem dX9_takePlain_99 : decode cX9_takePlain 99 = .ok (.iload 4, 2) := by decide +kernel
theorem dX9_takePlain_101 : decode cX9_takePlain 101 = .ok (.imul, 1) := by decide +kernel
theorem dX9_takePlain_102 : decode cX9_takePlain 102 = .ok (.iload 5, 2) := by decide +kernel
theorem dX9_takePlain_104 : decode cX9_takePlain 104 = .ok (.iadd, 1) := by decide +kernel
theorem dX9_takePlain_105 : decode cX9_takePlain 105 = .ok (.aload_n 0, 1) := by decide +kernel
theorem dX9_takePlain_106 : decode cX9_takePlain 106 = .ok (.getfield 26, 3) := by decide +kernel
theorem dX9_takePlain_109 : decode cX9_takePlain 109 = .ok (.iconst 3, 1) := by decide +kernel
theorem dX9_takePlain_110 : decode cX9_takePlain 110 = .ok (.iload 4, 2) := by decide +kernel
theorem dX9_takePlain_112 : decode cX9_takePlain 112 = .ok (.aload_n 0, 1) := by decide +kernel
theorem dX9_takePlain_113 : decode cX9_takePlain 113 = .ok (.getfield 250, 3) := by decide +kernel
theorem dX9_takePlain_116 : decode cX9_takePlain 116 = .ok (.imul, 1) := by decide +kernel
theorem dX9_takePlain_117 : decode cX9_takePlain 117 = .ok (.iadd, 1) := by decide +kernel
theorem dX9_takePlain_118 : decode cX9_takePlain 118 = .ok (.iload 5, 2) := by decide +kernel
theorem dX9_takePlain_120 : decode cX9_takePlain 120 = .ok (.iadd, 1) := by decide +kernel
theorem dX9_takePlain_121 : decode cX9_takePlain 121 = .ok (.iaload, 1) := by decide +kernel
theorem dX9_takePlain_122 : decode cX9_takePlain 122 = .ok (.iastore, 1) := by decide +kernel
theorem dX9_takePlain_123 : decode cX9_takePlain 123 = .ok (.iinc 5 1, 3) := by decide +kernel
theorem dX9_takePlain_126 : decode cX9_takePlain 126 = .ok (.goto (-42), 3) := by decide +kernel
theorem dX9_takePlain_129 : decode cX9_takePlain 129 = .ok (.iinc 4 1, 3) := by decide +kernel
theorem dX9_takePlain_132 : decode cX9_takePlain 132 = .ok (.goto (-57), 3) := by decide +kernel
theorem dX9_takePlain_135 : decode cX9_takePlain 135 = .ok (.iinc 2 1, 3) := by decide +kernel
theorem dX9_takePlain_138 : decode cX9_takePlain 138 = .ok (.goto (-136), 3) := by decide +kernel
theorem dX9_takePlain_141 : decode cX9_takePlain 141 = .ok (.return_, 1) := by decide +kernel
theorem dX9_takeLayers_0 : decode cX9_takeLayers 0 = .ok (.iconst 4, 1) := by decide +kernel
theorem dX9_takeLayers_1 : decode cX9_takeLayers 1 = .ok (.aload_n 0, 1) := by decide +kernel
theorem dX9_takeLayers_2 : decode cX9_takeLayers 2 = .ok (.getfield 26, 3) := by decide +kernel
theorem dX9_takeLayers_5 : decode cX9_takeLayers 5 = .ok (.iconst 3, 1) := by decide +kernel
theorem dX9_takeLayers_6 : decode cX9_takeLayers 6 = .ok (.iaload, 1) := by decide +kernel
theorem dX9_takeLayers_7 : decode cX9_takeLayers 7 = .ok (.iadd, 1) := by decide +kernel
theorem dX9_takeLayers_8 : decode cX9_takeLayers 8 = .ok (.istore_n 3, 1) := by decide +kernel
theorem dX9_takeLayers_9 : decode cX9_takeLayers 9 = .ok (.iconst 0, 1) := by decide +kernel
theorem dX9_takeLayers_10 : decode cX9_takeLayers 10 = .ok (.istore 4, 2) := by decide +kernel
theorem dX9_takeLayers_12 : decode cX9_takeLayers 12 = .ok (.iconst 0, 1) := by decide +kernel
theorem dX9_takeLayers_13 : decode cX9_takeLayers 13 = .ok (.istore 5, 2) := by decide +kernel
theorem dX9_takeLayers_15 : decode cX9_takeLayers 15 = .ok (.iload 5, 2) := by decide +kernel
theorem dX9_takeLayers_17 : decode cX9_takeLayers 17 = .ok (.iload_n 1, 1) := by decide +kernel
theorem dX9_takeLayers_18 : decode cX9_takeLayers 18 = .ok (.if_icmp .ge 272, 3) := by decide +kernel
theorem dX9_takeLayers_21 : decode cX9_takeLayers 21 = .ok (.iconst 0, 1) := by decide +kernel
theorem dX9_takeLayers_22 : decode cX9_takeLayers 22 = .ok (.istore 6, 2) := by decide +kernel
theorem dX9_takeLayers_24 : decode cX9_takeLayers 24 = .ok (.iload 6, 2) := by decide +kernel
theorem dX9_takeLayers_26 : decode cX9_takeLayers 26 = .ok (.iload_n 2, 1) := by decide +kernel
theorem dX9_takeLayers_27 : decode cX9_takeLayers 27 = .ok (.if_icmp .ge 257, 3) := by decide +kernel
theorem dX9_takeLayers_30 : decode cX9_takeLayers 30 = .ok (.iload_n 3, 1) := by decide +kernel
theorem dX9_takeLayers_31 : decode cX9_takeLayers 31 = .ok (.iconst 3, 1) := by decide +kernel
theorem dX9_takeLayers_32 : decode cX9_takeLayers 32 = .ok (.iadd, 1) := by decide +kernel
theorem dX9_takeLayers_33 : decode cX9_takeLayers 33 = .ok (.aload_n 0, 1) := by decide +kernel
theorem dX9_takeLayers_34 : decode cX9_takeLayers 34 = .ok (.getfield 210, 3) := by decide +kernel
theorem dX9_takeLayers_37 : decode cX9_takeLayers 37 = .ok (.if_icmp .gt 25, 3) := by decide +kernel
theorem dX9_takeLayers_40 : decode cX9_takeLayers 40 = .ok (.sipush 256, 3) := by decide +kernel
theorem dX9_takeLayers_43 : decode cX9_takeLayers 43 = .ok (.aload_n 0, 1) := by decide +kernel
theorem dX9_takeLayers_44 : decode cX9_takeLayers 44 = .ok (.getfield 26, 3) := by decide +kernel
theorem dX9_takeLayers_47 : decode cX9_takeLayers 47 = .ok (.iload_n 3, 1) := by decide +kernel
theorem dX9_takeLayers_48 : decode cX9_takeLayers 48 = .ok (.iaload, 1) := by decide +kernel
theorem dX9_takeLayers_49 : decode cX9_takeLayers 49 = .ok (.imul, 1) := by decide +kernel
theorem dX9_takeLayers_50 : decode cX9_takeLayers 50 = .ok (.aload_n 0, 1) := by decide +kernel
theorem dX9_takeLayers_51 : decode cX9_takeLayers 51 = .ok (.getfield 26, 3) := by decide +kernel
theorem dX9_takeLayers_54 : decode cX9_takeLayers 54 = .ok (.iload_n 3, 1) := by decide +kernel
theorem dX9_takeLayers_55 : decode cX9_takeLayers 55 = .ok (.iconst 1, 1) := by decide +kernel
theorem dX9_takeLayers_56 : decode cX9_takeLayers 56 = .ok (.iadd, 1) := by decide +kernel
theorem dX9_takeLayers_57 : decode cX9_takeLayers 57 = .ok (.iaload, 1) := by decide +kernel
theorem dX9_takeLayers_58 : decode cX9_takeLayers 58 = .ok (.iadd, 1) := by decide +kernel
theorem dX9_takeLayers_59 : decode cX9_takeLayers 59 = .ok (.goto 4, 3) := by decide +kernel
theorem dX9_takeLayers_62 : decode cX9_takeLayers 62 = .ok (.iconst 0, 1) := by decide +kernel
theorem dX9_takeLayers_63 : decode cX9_takeLayers 63 = .ok (.istore 7, 2) := by decide +kernel
theorem dX9_takeLayers_65 : decode cX9_takeLayers 65 = .ok (.iload 4, 2) := by decide +kernel
theorem dX9_takeLayers_67 : decode cX9_takeLayers 67 = .ok (.ifCond .ne 26, 3) := by decide +kernel
theorem dX9_takeLayers_70 : decode cX9_takeLayers 70 = .ok (.iload_n 3, 1) := by decide +kernel
theorem dX9_takeLayers_71 : decode cX9_takeLayers 71 = .ok (.iconst 3, 1) := by decide +kernel
theorem dX9_takeLayers_72 : decode cX9_takeLayers 72 = .ok (.iadd, 1) := by decide +kernel
theorem dX9_takeLayers_73 : decode cX9_takeLayers 73 = .ok (.aload_n 0, 1) := by decide +kernel
theorem dX9_takeLayers_74 : decode cX9_takeLayers 74 = .ok (.getfield 210, 3) := by decide +kernel
theorem dX9_takeLayers_77 : decode cX9_takeLayers 77 = .ok (.if_icmp .gt 16, 3) := by decide +kernel
theorem dX9_takeLayers_80 : decode cX9_takeLayers 80 = .ok (.iload_n 3, 1) := by decide +kernel
theorem dX9_takeLayers_81 : decode cX9_takeLayers 81 = .ok (.iconst 3, 1) := by decide +kernel
theorem dX9_takeLayers_82 : decode cX9_takeLayers 82 = .ok (.iadd, 1) := by decide +kernel
theorem dX9_takeLayers_83 : decode cX9_takeLayers 83 = .ok (.iload 7, 2) := by decide +kernel
theorem dX9_takeLayers_85 : decode cX9_takeLayers 85 = .ok (.iadd, 1) := by decide +kernel
theorem dX9_takeLayers_86 : decode cX9_takeLayers 86 = .ok (.aload_n 0, 1) := by decide +kernel
theorem dX9_takeLayers_87 : decode cX9_takeLayers 87 = .ok (.getfield 210, 3) := by decide +kernel
theorem dX9_takeLayers_90 : decode cX9_takeLayers 90 = .ok (.if_icmp .le 7, 3) := by decide +kernel
theorem dX9_takeLayers_93 : decode cX9_takeLayers 93 = .ok (.iconst 1, 1) := by decide +kernel
theorem dX9_takeLayers_94 : decode cX9_takeLayers 94 = .ok (.goto 4, 3) := by decide +kernel
theorem dX9_takeLayers_97 : decode cX9_takeLayers 97 = .ok (.iconst 0, 1) := by decide +kernel
theorem dX9_takeLayers_98 : decode cX9_takeLayers 98 = .ok (.istore 4, 2) := by decide +kernel
theorem dX9_takeLayers_100 : decode cX9_takeLayers 100 = .ok (.iload 4, 2) := by decide +kernel
theorem dX9_takeLayers_102 : decode cX9_takeLayers 102 = .ok (.ifCond .eq 8, 3) := by decide +kernel
theorem dX9_takeLayers_105 : decode cX9_takeLayers 105 = .ok (.bipush 101, 2) := by decide +kernel
theorem dX9_takeLayers_107 : decode cX9_takeLayers 107 = .ok (.goto 30, 3) := by decide +kernel
theorem dX9_takeLayers_110 : decode cX9_takeLayers 110 = .ok (.aload_n 0, 1) := by decide +kernel
theorem dX9_takeLayers_111 : decode cX9_takeLayers 111 = .ok (.iload_n 3, 1) := by decide +kernel
theorem dX9_takeLayers_112 : decode cX9_takeLayers 112 = .ok (.iconst 3, 1) := by decide +kernel
theorem dX9_takeLayers_113 : decode cX9_takeLayers 113 = .ok (.iadd, 1) := by decide +kernel
theorem dX9_takeLayers_114 : decode cX9_takeLayers 114 = .ok (.iload 7, 2) := by decide +kernel
theorem dX9_takeLayers_116 : decode cX9_takeLayers 116 = .ok (.invokevirtual 216, 3) := by decide +kernel
theorem dX9_takeLayers_119 : decode cX9_takeLayers 119 = .ok (.aload_n 0, 1) := by decide +kernel
theorem dX9_takeLayers_120 : decode cX9_takeLayers 120 = .ok (.getfield 26, 3) := by decide +kernel
theorem dX9_takeLayers_123 : decode cX9_takeLayers 123 = .ok (.iload_n 3, 1) := by decide +kernel
theorem dX9_takeLayers_124 : decode cX9_takeLayers 124 = .ok (.iconst 2, 1) := by decide +kernel
theorem dX9_takeLayers_125 : decode cX9_takeLayers 125 = .ok (.iadd, 1) := by decide +kernel
theorem dX9_takeLayers_126 : decode cX9_takeLayers 126 = .ok (.iaload, 1) := by decide +kernel
theorem dX9_takeLayers_127 : decode cX9_takeLayers 127 = .ok (.if_icmp .eq 8, 3) := by decide +kernel
theorem dX9_takeLayers_130 : decode cX9_takeLayers 130 = .ok (.bipush 115, 2) := by decide +kernel
theorem dX9_takeLayers_132 : decode cX9_takeLayers 132 = .ok (.goto 5, 3) := by decide +kernel
theorem dX9_takeLayers_135 : decode cX9_takeLayers 135 = .ok (.bipush 110, 2) := by decide +kernel
theorem dX9_takeLayers_137 : decode cX9_takeLayers 137 = .ok (.istore 8, 2) := by decide +kernel
theorem dX9_takeLayers_139 : decode cX9_takeLayers 139 = .ok (.aload_n 0, 1) := by decide +kernel
theorem dX9_takeLayers_140 : decode cX9_takeLayers 140 = .ok (.getfield 41, 3) := by decide +kernel
theorem dX9_takeLayers_143 : decode cX9_takeLayers 143 = .ok (.iload 6, 2) := by decide +kernel
theorem dX9_takeLayers_145 : decode cX9_takeLayers 145 = .ok (.iaload, 1) := by decide +kernel
theorem dX9_takeLayers_146 : decode cX9_takeLayers 146 = .ok (.bipush 110, 2) := by decide +kernel
theorem dX9_takeLayers_148 : decode cX9_takeLayers 148 = .ok (.if_icmp .ne 114, 3) := by decide +kernel
theorem dX9_takeLayers_151 : decode cX9_takeLayers 151 = .ok (.aload_n 0, 1) := by decide +kernel
theorem dX9_takeLayers_152 : decode cX9_takeLayers 152 = .ok (.getfield 41, 3) := by decide +kernel
theorem dX9_takeLayers_155 : decode cX9_takeLayers 155 = .ok (.iload 6, 2) := by decide +kernel
theorem dX9_takeLayers_157 : decode cX9_takeLayers 157 = .ok (.iload 8, 2) := by decide +kernel
theorem dX9_takeLayers_159 : decode cX9_takeLayers 159 = .ok (.iastore, 1) := by decide +kernel
theorem dX9_takeLayers_160 : decode cX9_takeLayers 160 = .ok (.iload 8, 2) := by decide +kernel
theorem dX9_takeLayers_162 : decode cX9_takeLayers 162 = .ok (.bipush 110, 2) := by decide +kernel
theorem dX9_takeLayers_164 : decode cX9_takeLayers 164 = .ok (.if_icmp .ne 98, 3) := by decide +kernel
theorem dX9_takeLayers_167 : decode cX9_takeLayers 167 = .ok (.aload_n 0, 1) := by decide +kernel
theorem dX9_takeLayers_168 : decode cX9_takeLayers 168 = .ok (.iload_n 3, 1) := by decide +kernel
theorem dX9_takeLayers_169 : decode cX9_takeLayers 169 = .ok (.iconst 3, 1) := by decide +kernel
theorem dX9_takeLayers_170 : decode cX9_takeLayers 170 = .ok (.iadd, 1) := by decide +kernel
theorem dX9_takeLayers_171 : decode cX9_takeLayers 171 = .ok (.putfield 159, 3) := by decide +kernel
theorem dX9_takeLayers_174 : decode cX9_takeLayers 174 = .ok (.aload_n 0, 1) := by decide +kernel
theorem dX9_takeLayers_175 : decode cX9_takeLayers 175 = .ok (.aload_n 0, 1) := by decide +kernel
theorem dX9_takeLayers_176 : decode cX9_takeLayers 176 = .ok (.getfield 159, 3) := by decide +kernel
theorem dX9_takeLayers_179 : decode cX9_takeLayers 179 = .ok (.iload 7, 2) := by decide +kernel
theorem dX9_takeLayers_181 : decode cX9_takeLayers 181 = .ok (.iadd, 1) := by decide +kernel
theorem dX9_takeLayers_182 : decode cX9_takeLayers 182 = .ok (.putfield 185, 3) := by decide +kernel
theorem dX9_takeLayers_185 : decode cX9_takeLayers 185 = .ok (.aload_n 0, 1) := by decide +kernel
theorem dX9_takeLayers_186 : decode cX9_takeLayers 186 = .ok (.bipush 8, 2) := by decide +kernel
theorem dX9_takeLayers_188 : decode cX9_takeLayers 188 = .ok (.iload 6, 2) := by decide +kernel
theorem dX9_takeLayers_190 : decode cX9_takeLayers 190 = .ok (.imul, 1) := by decide +kernel
theorem dX9_takeLayers_191 : decode cX9_takeLayers 191 = .ok (.aload_n 0, 1) := by decide +kernel
theorem dX9_takeLayers_192 : decode cX9_takeLayers 192 = .ok (.getfield 250, 3) := by decide +kernel
theorem dX9_takeLayers_195 : decode cX9_takeLayers 195 = .ok (.aload_n 0, 1) := by decide +kernel
theorem dX9_takeLayers_196 : decode cX9_takeLayers 196 = .ok (.getfield 26, 3) := by decide +kernel
theorem dX9_takeLayers_199 : decode cX9_takeLayers 199 = .ok (.iconst 4, 1) := by decide +kernel
theorem dX9_takeLayers_200 : decode cX9_takeLayers 200 = .ok (.iload 5, 2) := by decide +kernel
theorem dX9_takeLayers_202 : decode cX9_takeLayers 202 = .ok (.iadd, 1) := by decide +kernel
theorem dX9_takeLayers_203 : decode cX9_takeLayers 203 = .ok (.iaload, 1) := by decide +kernel
theorem dX9_takeLayers_204 : decode cX9_takeLayers 204 = .ok (.invokevirtual 262, 3) := by decide +kernel
theorem dX9_takeLayers_207 : decode cX9_takeLayers 207 = .ok (.sipush 128, 3) := by decide +kernel
theorem dX9_takeLayers_210 : decode cX9_takeLayers 210 = .ok (.iload 6, 2) := by decide +kernel
theorem dX9_takeLayers_212 : decode cX9_takeLayers 212 = .ok (.imul, 1) := by decide +kernel
theorem dX9_takeLayers_213 : decode cX9_takeLayers 213 = .ok (.istore 9, 2) := by decide +kernel
theorem dX9_takeLayers_215 : decode cX9_takeLayers 215 = .ok (.iload 9, 2) := by decide +kernel
theorem dX9_takeLayers_217 : decode cX9_takeLayers 217 = .ok (.sipush 128, 3) := by decide +kernel
theorem dX9_takeLayers_220 : decode cX9_takeLayers 220 = .ok (.iload 6, 2) := by decide +kernel
theorem dX9_takeLayers_222 : decode cX9_takeLayers 222 = .ok (.iconst 1, 1) := by decide +kernel
theorem dX9_takeLayers_223 : decode cX9_takeLayers 223 = .ok (.iadd, 1) := by decide +kernel
theorem dX9_takeLayers_224 : decode cX9_takeLayers 224 = .ok (.imul, 1) := by decide +kernel
theorem dX9_takeLayers_225 : decode cX9_takeLayers 225 = .ok (.if_icmp .ge 26, 3) := by decide +kernel
theorem dX9_takeLayers_228 : decode cX9_takeLayers 228 = .ok (.aload_n 0, 1) := by decide +kernel
theorem dX9_takeLayers_229 : decode cX9_takeLayers 229 = .ok (.getfield 35, 3) := by decide +kernel
theorem dX9_takeLayers_232 : decode cX9_takeLayers 232 = .ok (.iload 9, 2) := by decide +kernel
theorem dX9_takeLayers_234 : decode cX9_takeLayers 234 = .ok (.dup2, 1) := by decide +kernel
theorem dX9_takeLayers_235 : decode cX9_takeLayers 235 = .ok (.iaload, 1) := by decide +kernel
theorem dX9_takeLayers_236 : decode cX9_takeLayers 236 = .ok (.aload_n 0, 1) := by decide +kernel
theorem dX9_takeLayers_237 : decode cX9_takeLayers 237 = .ok (.getfield 32, 3) := by decide +kernel
theorem dX9_takeLayers_240 : decode cX9_takeLayers 240 = .ok (.iload 9, 2) := by decide +kernel
theorem dX9_takeLayers_242 : decode cX9_takeLayers 242 = .ok (.iaload, 1) := by decide +kernel
theorem dX9_takeLayers_243 : decode cX9_takeLayers 243 = .ok (.iadd, 1) := by decide +kernel
theorem dX9_takeLayers_244 : decode cX9_takeLayers 244 = .ok (.iastore, 1) := by decide +kernel
theorem dX9_takeLayers_245 : decode cX9_takeLayers 245 = .ok (.iinc 9 1, 3) := by decide +kernel
theorem dX9_takeLayers_248 : decode cX9_takeLayers 248 = .ok (.goto (-33), 3) := by decide +kernel
theorem dX9_takeLayers_251 : decode cX9_takeLayers 251 = .ok (.aload_n 0, 1) := by decide +kernel
theorem dX9_takeLayers_252 : decode cX9_takeLayers 252 = .ok (.getfield 44, 3) := by decide +kernel
theorem dX9_takeLayers_255 : decode cX9_takeLayers 255 = .ok (.iload 6, 2) := by decide +kernel
theorem dX9_takeLayers_257 : decode cX9_takeLayers 257 = .ok (.dup2, 1) := by decide +kernel
theorem dX9_takeLayers_258 : decode cX9_takeLayers 258 = .ok (.iaload, 1) := by decide +kernel
theorem dX9_takeLayers_259 : decode cX9_takeLayers 259 = .ok (.iconst 1, 1) := by decide +kernel
theorem dX9_takeLayers_260 : decode cX9_takeLayers 260 = .ok (.iadd, 1) := by decide +kernel
theorem dX9_takeLayers_261 : decode cX9_takeLayers 261 = .ok (.iastore, 1) := by decide +kernel
theorem dX9_takeLayers_262 : decode cX9_takeLayers 262 = .ok (.iload_n 3, 1) := by decide +kernel
theorem dX9_takeLayers_263 : decode cX9_takeLayers 263 = .ok (.iload 4, 2) := by decide +kernel
theorem dX9_takeLayers_265 : decode cX9_takeLayers 265 = .ok (.ifCond .eq 7, 3) := by decide +kernel
theorem dX9_takeLayers_268 : decode cX9_takeLayers 268 = .ok (.iconst 0, 1) := by decide +kernel
theorem dX9_takeLayers_269 : decode cX9_takeLayers 269 = .ok (.goto 7, 3) := by decide +kernel
theorem dX9_takeLayers_272 : decode cX9_takeLayers 272 = .ok (.iconst 3, 1) := by decide +kernel
theorem dX9_takeLayers_273 : decode cX9_takeLayers 273 = .ok (.iload 7, 2) := by decide +kernel
theorem dX9_takeLayers_275 : decode cX9_takeLayers 275 = .ok (.iadd, 1) := by decide +kernel
theorem dX9_takeLayers_276 : decode cX9_takeLayers 276 = .ok (.iadd, 1) := by decide +kernel
theorem dX9_takeLayers_277 : decode cX9_takeLayers 277 = .ok (.istore_n 3, 1) := by decide +kernel
theorem dX9_takeLayers_278 : decode cX9_takeLayers 278 = .ok (.iinc 6 1, 3) := by decide +kernel
theorem dX9_takeLayers_281 : decode cX9_takeLayers 281 = .ok (.goto (-257), 3) := by decide +kernel
theorem dX9_takeLayers_284 : decode cX9_takeLayers 284 = .ok (.iinc 5 1, 3) := by decide +kernel
theorem dX9_takeLayers_287 : decode cX9_takeLayers 287 = .ok (.goto (-272), 3) := by decide +kernel
theorem dX9_takeLayers_290 : decode cX9_takeLayers 290 = .ok (.return_, 1) := by decide +kernel
theorem dX9_isNone_0 : decode cX9_isNone 0 = .ok (.aload_n 0, 1) := by decide +kernel
theorem dX9_isNone_1 : decode cX9_isNone 1 = .ok (.aload_n 0, 1) := by decide +kernel
theorem dX9_isNone_2 : decode cX9_isNone 2 = .ok (.getfield 247, 3) := by decide +kernel
theorem dX9_isNone_5 : decode cX9_isNone 5 = .ok (.ifCond .ne 7, 3) := by decide +kernel
theorem dX9_isNone_8 : decode cX9_isNone 8 = .ok (.iconst 1, 1) := by decide +kernel
theorem dX9_isNone_9 : decode cX9_isNone 9 = .ok (.goto 4, 3) := by decide +kernel
theorem dX9_isNone_12 : decode cX9_isNone 12 = .ok (.iconst 0, 1) := by decide +kernel
theorem dX9_isNone_13 : decode cX9_isNone 13 = .ok (.putfield 80, 3) := by decide +kernel
theorem dX9_isNone_16 : decode cX9_isNone 16 = .ok (.aload_n 0, 1) := by decide +kernel
theorem dX9_isNone_17 : decode cX9_isNone 17 = .ok (.getfield 80, 3) := by decide +kernel
theorem dX9_isNone_20 : decode cX9_isNone 20 = .ok (.ifCond .eq 7, 3) := by decide +kernel
theorem dX9_isNone_23 : decode cX9_isNone 23 = .ok (.iconst 1, 1) := by decide +kernel
theorem dX9_isNone_24 : decode cX9_isNone 24 = .ok (.goto 4, 3) := by decide +kernel
theorem dX9_isNone_27 : decode cX9_isNone 27 = .ok (.iconst 0, 1) := by decide +kernel
theorem dX9_isNone_28 : decode cX9_isNone 28 = .ok (.ireturn, 1) := by decide +kernel
theorem dX9_decodedWidth_0 : decode cX9_decodedWidth 0 = .ok (.aload_n 0, 1) := by decide +kernel
theorem dX9_decodedWidth_1 : decode cX9_decodedWidth 1 = .ok (.invokevirtual 265, 3) := by decide +kernel
theorem dX9_decodedWidth_4 : decode cX9_decodedWidth 4 = .ok (.ifCond .eq 7, 3) := by decide +kernel
theorem dX9_decodedWidth_7 : decode cX9_decodedWidth 7 = .ok (.iconst 0, 1) := by decide +kernel
theorem dX9_decodedWidth_8 : decode cX9_decodedWidth 8 = .ok (.goto 7, 3) := by decide +kernel
theorem dX9_decodedWidth_11 : decode cX9_decodedWidth 11 = .ok (.aload_n 0, 1) := by decide +kernel
theorem dX9_decodedWidth_12 : decode cX9_decodedWidth 12 = .ok (.getfield 250, 3) := by decide +kernel
theorem dX9_decodedWidth_15 : decode cX9_decodedWidth 15 = .ok (.ireturn, 1) := by decide +kernel
theorem dX9_decodedHeight_0 : decode cX9_decodedHeight 0 = .ok (.aload_n 0, 1) := by decide +kernel
theorem dX9_decodedHeight_1 : decode cX9_decodedHeight 1 = .ok (.invokevirtual 265, 3) := by decide +kernel
theorem dX9_decodedHeight_4 : decode cX9_decodedHeight 4 = .ok (.ifCond .eq 7, 3) := by decide +kernel
theorem dX9_decodedHeight_7 : decode cX9_decodedHeight 7 = .ok (.iconst 0, 1) := by decide +kernel
theorem dX9_decodedHeight_8 : decode cX9_decodedHeight 8 = .ok (.goto 7, 3) := by decide +kernel
theorem dX9_decodedHeight_11 : decode cX9_decodedHeight 11 = .ok (.aload_n 0, 1) := by decide +kernel
theorem dX9_decodedHeight_12 : decode cX9_decodedHeight 12 = .ok (.getfield 253, 3) := by decide +kernel
theorem dX9_decodedHeight_15 : decode cX9_decodedHeight 15 = .ok (.ireturn, 1) := by decide +kernel
theorem dX9_decodedPixel_0 : decode cX9_decodedPixel 0 = .ok (.aload_n 0, 1) := by decide +kernel
theorem dX9_decodedPixel_1 : decode cX9_decodedPixel 1 = .ok (.invokevirtual 265, 3) := by decide +kernel
theorem dX9_decodedPixel_4 : decode cX9_decodedPixel 4 = .ok (.ifCond .eq 5, 3) := by decide +kernel
theorem dX9_decodedPixel_7 : decode cX9_decodedPixel 7 = .ok (.iconst 0, 1) := by decide +kernel
theorem dX9_decodedPixel_8 : decode cX9_decodedPixel 8 = .ok (.ireturn, 1) := by decide +kernel
theorem dX9_decodedPixel_9 : decode cX9_decodedPixel 9 = .ok (.iload_n 1, 1) := by decide +kernel
theorem dX9_decodedPixel_10 : decode cX9_decodedPixel 10 = .ok (.iconst 0, 1) := by decide +kernel
theorem dX9_decodedPixel_11 : decode cX9_decodedPixel 11 = .ok (.aload_n 0, 1) := by decide +kernel
theorem dX9_decodedPixel_12 : decode cX9_decodedPixel 12 = .ok (.getfield 250, 3) := by decide +kernel
theorem dX9_decodedPixel_15 : decode cX9_decodedPixel 15 = .ok (.iconst 1, 1) := by decide +kernel
theorem dX9_decodedPixel_16 : decode cX9_decodedPixel 16 = .ok (.isub, 1) := by decide +kernel
theorem dX9_decodedPixel_17 : decode cX9_decodedPixel 17 = .ok (.invokestatic 83, 3) := by decide +kernel
theorem dX9_decodedPixel_20 : decode cX9_decodedPixel 20 = .ok (.ifCond .eq 17, 3) := by decide +kernel
theorem dX9_decodedPixel_23 : decode cX9_decodedPixel 23 = .ok (.iload_n 2, 1) := by decide +kernel
theorem dX9_decodedPixel_24 : decode cX9_decodedPixel 24 = .ok (.iconst 0, 1) := by decide +kernel
theorem dX9_decodedPixel_25 : decode cX9_decodedPixel 25 = .ok (.aload_n 0, 1) := by decide +kernel
theorem dX9_decodedPixel_26 : decode cX9_decodedPixel 26 = .ok (.getfield 253, 3) := by decide +kernel
theorem dX9_decodedPixel_29 : decode cX9_decodedPixel 29 = .ok (.iconst 1, 1) := by decide +kernel
theorem dX9_decodedPixel_30 : decode cX9_decodedPixel 30 = .ok (.isub, 1) := by decide +kernel
theorem dX9_decodedPixel_31 : decode cX9_decodedPixel 31 = .ok (.invokestatic 83, 3) := by decide +kernel
theorem dX9_decodedPixel_34 : decode cX9_decodedPixel 34 = .ok (.ifCond .ne 9, 3) := by decide +kernel
theorem dX9_decodedPixel_37 : decode cX9_decodedPixel 37 = .ok (.aload_n 0, 1) := by decide +kernel
theorem dX9_decodedPixel_38 : decode cX9_decodedPixel 38 = .ok (.iconst 2, 1) := by decide +kernel
theorem dX9_decodedPixel_39 : decode cX9_decodedPixel 39 = .ok (.invokevirtual 87, 3) := by decide +kernel
theorem dX9_decodedPixel_42 : decode cX9_decodedPixel 42 = .ok (.ireturn, 1) := by decide +kernel
theorem dX9_decodedPixel_43 : decode cX9_decodedPixel 43 = .ok (.aload_n 0, 1) := by decide +kernel
theorem dX9_decodedPixel_44 : decode cX9_decodedPixel 44 = .ok (.getfield 38, 3) := by decide +kernel
theorem dX9_decodedPixel_47 : decode cX9_decodedPixel 47 = .ok (.bipush 16, 2) := by decide +kernel
theorem dX9_decodedPixel_49 : decode cX9_decodedPixel 49 = .ok (.iload_n 2, 1) := by decide +kernel
theorem dX9_decodedPixel_50 : decode cX9_decodedPixel 50 = .ok (.imul, 1) := by decide +kernel
theorem dX9_decodedPixel_51 : decode cX9_decodedPixel 51 = .ok (.iload_n 1, 1) := by decide +kernel
theorem dX9_decodedPixel_52 : decode cX9_decodedPixel 52 = .ok (.iadd, 1) := by decide +kernel
theorem dX9_decodedPixel_53 : decode cX9_decodedPixel 53 = .ok (.iaload, 1) := by decide +kernel
theorem dX9_decodedPixel_54 : decode cX9_decodedPixel 54 = .ok (.ireturn, 1) := by decide +kernel
theorem dX9_isSlice_0 : decode cX9_isSlice 0 = .ok (.aload_n 0, 1) := by decide +kernel
theorem dX9_isSlice_1 : decode cX9_isSlice 1 = .ok (.invokevirtual 265, 3) := by decide +kernel
theorem dX9_isSlice_4 : decode cX9_isSlice 4 = .ok (.ifCond .eq 5, 3) := by decide +kernel
theorem dX9_isSlice_7 : decode cX9_isSlice 7 = .ok (.iconst 0, 1) := by decide +kernel
theorem dX9_isSlice_8 : decode cX9_isSlice 8 = .ok (.ireturn, 1) := by decide +kernel
theorem dX9_isSlice_9 : decode cX9_isSlice 9 = .ok (.aload_n 0, 1) := by decide +kernel
theorem dX9_isSlice_10 : decode cX9_isSlice 10 = .ok (.iload_n 1, 1) := by decide +kernel
theorem dX9_isSlice_11 : decode cX9_isSlice 11 = .ok (.iconst 0, 1) := by decide +kernel
theorem dX9_isSlice_12 : decode cX9_isSlice 12 = .ok (.aload_n 0, 1) := by decide +kernel
theorem dX9_isSlice_13 : decode cX9_isSlice 13 = .ok (.getfield 253, 3) := by decide +kernel
theorem dX9_isSlice_16 : decode cX9_isSlice 16 = .ok (.bipush 7, 2) := by decide +kernel
theorem dX9_isSlice_18 : decode cX9_isSlice 18 = .ok (.iadd, 1) := by decide +kernel
theorem dX9_isSlice_19 : decode cX9_isSlice 19 = .ok (.bipush 8, 2) := by decide +kernel
theorem dX9_isSlice_21 : decode cX9_isSlice 21 = .ok (.idiv, 1) := by decide +kernel
theorem dX9_isSlice_22 : decode cX9_isSlice 22 = .ok (.iconst 1, 1) := by decide +kernel
theorem dX9_isSlice_23 : decode cX9_isSlice 23 = .ok (.isub, 1) := by decide +kernel
theorem dX9_isSlice_24 : decode cX9_isSlice 24 = .ok (.invokestatic 83, 3) := by decide +kernel
theorem dX9_isSlice_27 : decode cX9_isSlice 27 = .ok (.ifCond .eq 7, 3) := by decide +kernel
theorem dX9_isSlice_30 : decode cX9_isSlice 30 = .ok (.iconst 0, 1) := by decide +kernel
theorem dX9_isSlice_31 : decode cX9_isSlice 31 = .ok (.goto 4, 3) := by decide +kernel
theorem dX9_isSlice_34 : decode cX9_isSlice 34 = .ok (.iconst 2, 1) := by decide +kernel
theorem dX9_isSlice_35 : decode cX9_isSlice 35 = .ok (.putfield 80, 3) := by decide +kernel
theorem dX9_isSlice_38 : decode cX9_isSlice 38 = .ok (.aload_n 0, 1) := by decide +kernel
theorem dX9_isSlice_39 : decode cX9_isSlice 39 = .ok (.getfield 80, 3) := by decide +kernel
theorem dX9_isSlice_42 : decode cX9_isSlice 42 = .ok (.ifCond .ne 7, 3) := by decide +kernel
theorem dX9_isSlice_45 : decode cX9_isSlice 45 = .ok (.iconst 1, 1) := by decide +kernel
theorem dX9_isSlice_46 : decode cX9_isSlice 46 = .ok (.goto 4, 3) := by decide +kernel
theorem dX9_isSlice_49 : decode cX9_isSlice 49 = .ok (.iconst 0, 1) := by decide +kernel
theorem dX9_isSlice_50 : decode cX9_isSlice 50 = .ok (.ireturn, 1) := by decide +kernel
theorem dX9_fault_0 : decode cX9_fault 0 = .ok (.aload_n 0, 1) := by decide +kernel
theorem dX9_fault_1 : decode cX9_fault 1 = .ok (.iload_n 1, 1) := by decide +kernel
theorem dX9_fault_2 : decode cX9_fault 2 = .ok (.invokevirtual 268, 3) := by decide +kernel
theorem dX9_fault_5 : decode cX9_fault 5 = .ok (.ifCond .eq 13, 3) := by decide +kernel
theorem dX9_fault_8 : decode cX9_fault 8 = .ok (.aload_n 0, 1) := by decide +kernel
theorem dX9_fault_9 : decode cX9_fault 9 = .ok (.getfield 41, 3) := by decide +kernel
theorem dX9_fault_12 : decode cX9_fault 12 = .ok (.iload_n 1, 1) := by decide +kernel
theorem dX9_fault_13 : decode cX9_fault 13 = .ok (.iaload, 1) := by decide +kernel
theorem dX9_fault_14 : decode cX9_fault 14 = .ok (.i2c, 1) := by decide +kernel
theorem dX9_fault_15 : decode cX9_fault 15 = .ok (.goto 5, 3) := by decide +kernel
theorem dX9_fault_18 : decode cX9_fault 18 = .ok (.bipush 110, 2) := by decide +kernel
theorem dX9_fault_20 : decode cX9_fault 20 = .ok (.ireturn, 1) := by decide +kernel
theorem dX9_layersUsed_0 : decode cX9_layersUsed 0 = .ok (.aload_n 0, 1) := by decide +kernel
theorem dX9_layersUsed_1 : decode cX9_layersUsed 1 = .ok (.iload_n 1, 1) := by decide +kernel
theorem dX9_layersUsed_2 : decode cX9_layersUsed 2 = .ok (.invokevirtual 268, 3) := by decide +kernel
theorem dX9_layersUsed_5 : decode cX9_layersUsed 5 = .ok (.ifCond .eq 12, 3) := by decide +kernel
theorem dX9_layersUsed_8 : decode cX9_layersUsed 8 = .ok (.aload_n 0, 1) := by decide +kernel
theorem dX9_layersUsed_9 : decode cX9_layersUsed 9 = .ok (.getfield 44, 3) := by decide +kernel
theorem dX9_layersUsed_12 : decode cX9_layersUsed 12 = .ok (.iload_n 1, 1) := by decide +kernel
theorem dX9_layersUsed_13 : decode cX9_layersUsed 13 = .ok (.iaload, 1) := by decide +kernel
theorem dX9_layersUsed_14 : decode cX9_layersUsed 14 = .ok (.goto 4, 3) := by decide +kernel
theorem dX9_layersUsed_17 : decode cX9_layersUsed 17 = .ok (.iconst 0, 1) := by decide +kernel
theorem dX9_layersUsed_18 : decode cX9_layersUsed 18 = .ok (.ireturn, 1) := by decide +kernel
theorem dX9_error_0 : decode cX9_error 0 = .ok (.iconst 0, 1) := by decide +kernel
theorem dX9_error_1 : decode cX9_error 1 = .ok (.istore_n 2, 1) := by decide +kernel
theorem dX9_error_2 : decode cX9_error 2 = .ok (.iconst 0, 1) := by decide +kernel
theorem dX9_error_3 : decode cX9_error 3 = .ok (.istore_n 3, 1) := by decide +kernel
theorem dX9_error_4 : decode cX9_error 4 = .ok (.iload_n 3, 1) := by decide +kernel
theorem dX9_error_5 : decode cX9_error 5 = .ok (.aload_n 0, 1) := by decide +kernel
theorem dX9_error_6 : decode cX9_error 6 = .ok (.getfield 13, 3) := by decide +kernel
theorem dX9_error_9 : decode cX9_error 9 = .ok (.if_icmp .ge 96, 3) := by decide +kernel
theorem dX9_error_12 : decode cX9_error 12 = .ok (.iconst 0, 1) := by decide +kernel
theorem dX9_error_13 : decode cX9_error 13 = .ok (.istore 4, 2) := by decide +kernel
theorem dX9_error_15 : decode cX9_error 15 = .ok (.iload 4, 2) := by decide +kernel
theorem dX9_error_17 : decode cX9_error 17 = .ok (.aload_n 0, 1) := by decide +kernel
theorem dX9_error_18 : decode cX9_error 18 = .ok (.getfield 7, 3) := by decide +kernel
theorem dX9_error_21 : decode cX9_error 21 = .ok (.if_icmp .ge 78, 3) := by decide +kernel
theorem dX9_error_24 : decode cX9_error 24 = .ok (.aload_n 0, 1) := by decide +kernel
theorem dX9_error_25 : decode cX9_error 25 = .ok (.getfield 19, 3) := by decide +kernel
theorem dX9_error_28 : decode cX9_error 28 = .ok (.bipush 16, 2) := by decide +kernel
theorem dX9_error_30 : decode cX9_error 30 = .ok (.iload_n 3, 1) := by decide +kernel
theorem dX9_error_31 : decode cX9_error 31 = .ok (.imul, 1) := by decide +kernel
theorem dX9_error_32 : decode cX9_error 32 = .ok (.iload 4, 2) := by decide +kernel
theorem dX9_error_34 : decode cX9_error 34 = .ok (.iadd, 1) := by decide +kernel
theorem dX9_error_35 : decode cX9_error 35 = .ok (.iaload, 1) := by decide +kernel
theorem dX9_error_36 : decode cX9_error 36 = .ok (.aload_n 0, 1) := by decide +kernel
theorem dX9_error_37 : decode cX9_error 37 = .ok (.getfield 38, 3) := by decide +kernel
theorem dX9_error_40 : decode cX9_error 40 = .ok (.bipush 16, 2) := by decide +kernel
theorem dX9_error_42 : decode cX9_error 42 = .ok (.iload_n 3, 1) := by decide +kernel
theorem dX9_error_43 : decode cX9_error 43 = .ok (.imul, 1) := by decide +kernel
theorem dX9_error_44 : decode cX9_error 44 = .ok (.iload 4, 2) := by decide +kernel
theorem dX9_error_46 : decode cX9_error 46 = .ok (.iadd, 1) := by decide +kernel
theorem dX9_error_47 : decode cX9_error 47 = .ok (.iaload, 1) := by decide +kernel
theorem dX9_error_48 : decode cX9_error 48 = .ok (.isub, 1) := by decide +kernel
theorem dX9_error_49 : decode cX9_error 49 = .ok (.istore 5, 2) := by decide +kernel
theorem dX9_error_51 : decode cX9_error 51 = .ok (.iload 5, 2) := by decide +kernel
theorem dX9_error_53 : decode cX9_error 53 = .ok (.ifCond .ge 9, 3) := by decide +kernel
theorem dX9_error_56 : decode cX9_error 56 = .ok (.iload 5, 2) := by decide +kernel
theorem dX9_error_58 : decode cX9_error 58 = .ok (.ineg, 1) := by decide +kernel
theorem dX9_error_59 : decode cX9_error 59 = .ok (.goto 5, 3) := by decide +kernel
theorem dX9_error_62 : decode cX9_error 62 = .ok (.iload 5, 2) := by decide +kernel
theorem dX9_error_64 : decode cX9_error 64 = .ok (.istore 6, 2) := by decide +kernel
theorem dX9_error_66 : decode cX9_error 66 = .ok (.iload_n 1, 1) := by decide +kernel
theorem dX9_error_67 : decode cX9_error 67 = .ok (.ifCond .eq 13, 3) := by decide +kernel
theorem dX9_error_70 : decode cX9_error 70 = .ok (.iload_n 2, 1) := by decide +kernel
theorem dX9_error_71 : decode cX9_error 71 = .ok (.iload 5, 2) := by decide +kernel
theorem dX9_error_73 : decode cX9_error 73 = .ok (.iload 5, 2) := by decide +kernel
theorem dX9_error_75 : decode cX9_error 75 = .ok (.imul, 1) := by decide +kernel
theorem dX9_error_76 : decode cX9_error 76 = .ok (.iadd, 1) := by decide +kernel
theorem dX9_error_77 : decode cX9_error 77 = .ok (.goto 15, 3) := by decide +kernel
theorem dX9_error_80 : decode cX9_error 80 = .ok (.iload 6, 2) := by decide +kernel
theorem dX9_error_82 : decode cX9_error 82 = .ok (.iload_n 2, 1) := by decide +kernel
theorem dX9_error_83 : decode cX9_error 83 = .ok (.if_icmp .le 8, 3) := by decide +kernel
theorem dX9_error_86 : decode cX9_error 86 = .ok (.iload 6, 2) := by decide +kernel
theorem dX9_error_88 : decode cX9_error 88 = .ok (.goto 4, 3) := by decide +kernel
theorem dX9_error_91 : decode cX9_error 91 = .ok (.iload_n 2, 1) := by decide +kernel
theorem dX9_error_92 : decode cX9_error 92 = .ok (.istore_n 2, 1) := by decide +kernel
theorem dX9_error_93 : decode cX9_error 93 = .ok (.iinc 4 1, 3) := by decide +kernel
theorem dX9_error_96 : decode cX9_error 96 = .ok (.goto (-81), 3) := by decide +kernel
theorem dX9_error_99 : decode cX9_error 99 = .ok (.iinc 3 1, 3) := by decide +kernel
theorem dX9_error_102 : decode cX9_error 102 = .ok (.goto (-98), 3) := by decide +kernel
theorem dX9_error_105 : decode cX9_error 105 = .ok (.iload_n 2, 1) := by decide +kernel
theorem dX9_error_106 : decode cX9_error 106 = .ok (.ireturn, 1) := by decide +kernel
theorem dX9_isSame_0 : decode cX9_isSame 0 = .ok (.aload_n 0, 1) := by decide +kernel
theorem dX9_isSame_1 : decode cX9_isSame 1 = .ok (.invokevirtual 265, 3) := by decide +kernel
theorem dX9_isSame_4 : decode cX9_isSame 4 = .ok (.ifCond .ne 37, 3) := by decide +kernel
theorem dX9_isSame_7 : decode cX9_isSame 7 = .ok (.aload_n 0, 1) := by decide +kernel
theorem dX9_isSame_8 : decode cX9_isSame 8 = .ok (.getfield 250, 3) := by decide +kernel
theorem dX9_isSame_11 : decode cX9_isSame 11 = .ok (.aload_n 0, 1) := by decide +kernel
theorem dX9_isSame_12 : decode cX9_isSame 12 = .ok (.getfield 7, 3) := by decide +kernel
theorem dX9_isSame_15 : decode cX9_isSame 15 = .ok (.if_icmp .ne 26, 3) := by decide +kernel
theorem dX9_isSame_18 : decode cX9_isSame 18 = .ok (.aload_n 0, 1) := by decide +kernel
theorem dX9_isSame_19 : decode cX9_isSame 19 = .ok (.getfield 253, 3) := by decide +kernel
theorem dX9_isSame_22 : decode cX9_isSame 22 = .ok (.aload_n 0, 1) := by decide +kernel
theorem dX9_isSame_23 : decode cX9_isSame 23 = .ok (.getfield 13, 3) := by decide +kernel
theorem dX9_isSame_26 : decode cX9_isSame 26 = .ok (.if_icmp .ne 15, 3) := by decide +kernel
theorem dX9_isSame_29 : decode cX9_isSame 29 = .ok (.aload_n 0, 1) := by decide +kernel
theorem dX9_isSame_30 : decode cX9_isSame 30 = .ok (.iconst 0, 1) := by decide +kernel
theorem dX9_isSame_31 : decode cX9_isSame 31 = .ok (.invokevirtual 272, 3) := by decide +kernel
theorem dX9_isSame_34 : decode cX9_isSame 34 = .ok (.ifCond .ne 7, 3) := by decide +kernel
theorem dX9_isSame_37 : decode cX9_isSame 37 = .ok (.iconst 1, 1) := by decide +kernel
theorem dX9_isSame_38 : decode cX9_isSame 38 = .ok (.goto 4, 3) := by decide +kernel
theorem dX9_isSame_41 : decode cX9_isSame 41 = .ok (.iconst 0, 1) := by decide +kernel
theorem dX9_isSame_42 : decode cX9_isSame 42 = .ok (.ireturn, 1) := by decide +kernel
theorem dX9_areOther_0 : decode cX9_areOther 0 = .ok (.aload_n 0, 1) := by decide +kernel
theorem dX9_areOther_1 : decode cX9_areOther 1 = .ok (.invokevirtual 265, 3) := by decide +kernel
theorem dX9_areOther_4 : decode cX9_areOther 4 = .ok (.ifCond .ne 34, 3) := by decide +kernel
theorem dX9_areOther_7 : decode cX9_areOther 7 = .ok (.aload_n 0, 1) := by decide +kernel
theorem dX9_areOther_8 : decode cX9_areOther 8 = .ok (.aload_n 0, 1) := by decide +kernel
theorem dX9_areOther_9 : decode cX9_areOther 9 = .ok (.getfield 250, 3) := by decide +kernel
theorem dX9_areOther_12 : decode cX9_areOther 12 = .ok (.aload_n 0, 1) := by decide +kernel
theorem dX9_areOther_13 : decode cX9_areOther 13 = .ok (.getfield 7, 3) := by decide +kernel
theorem dX9_areOther_16 : decode cX9_areOther 16 = .ok (.if_icmp .ne 18, 3) := by decide +kernel
theorem dX9_areOther_19 : decode cX9_areOther 19 = .ok (.aload_n 0, 1) := by decide +kernel
theorem dX9_areOther_20 : decode cX9_areOther 20 = .ok (.getfield 253, 3) := by decide +kernel
theorem dX9_areOther_23 : decode cX9_areOther 23 = .ok (.aload_n 0, 1) := by decide +kernel
theorem dX9_areOther_24 : decode cX9_areOther 24 = .ok (.getfield 13, 3) := by decide +kernel
theorem dX9_areOther_27 : decode cX9_areOther 27 = .ok (.if_icmp .ne 7, 3) := by decide +kernel
theorem dX9_areOther_30 : decode cX9_areOther 30 = .ok (.iconst 0, 1) := by decide +kernel
theorem dX9_areOther_31 : decode cX9_areOther 31 = .ok (.goto 4, 3) := by decide +kernel
theorem dX9_areOther_34 : decode cX9_areOther 34 = .ok (.iconst 2, 1) := by decide +kernel
theorem dX9_areOther_35 : decode cX9_areOther 35 = .ok (.putfield 80, 3) := by decide +kernel
theorem dX9_areOther_38 : decode cX9_areOther 38 = .ok (.aload_n 0, 1) := by decide +kernel
theorem dX9_areOther_39 : decode cX9_areOther 39 = .ok (.getfield 80, 3) := by decide +kernel
theorem dX9_areOther_42 : decode cX9_areOther 42 = .ok (.ifCond .eq 7, 3) := by decide +kernel
theorem dX9_areOther_45 : decode cX9_areOther 45 = .ok (.iconst 1, 1) := by decide +kernel
theorem dX9_areOther_46 : decode cX9_areOther 46 = .ok (.goto 4, 3) := by decide +kernel
theorem dX9_areOther_49 : decode cX9_areOther 49 = .ok (.iconst 0, 1) := by decide +kernel
theorem dX9_areOther_50 : decode cX9_areOther 50 = .ok (.ireturn, 1) := by decide +kernel
theorem dX9_squaredError_0 : decode cX9_squaredError 0 = .ok (.aload_n 0, 1) := by decide +kernel
theorem dX9_squaredError_1 : decode cX9_squaredError 1 = .ok (.invokevirtual 276, 3) := by decide +kernel
theorem dX9_squaredError_4 : decode cX9_squaredError 4 = .ok (.ifCond .eq 7, 3) := by decide +kernel
theorem dX9_squaredError_7 : decode cX9_squaredError 7 = .ok (.iconst 0, 1) := by decide +kernel
theorem dX9_squaredError_8 : decode cX9_squaredError 8 = .ok (.goto 8, 3) := by decide +kernel
theorem dX9_squaredError_11 : decode cX9_squaredError 11 = .ok (.aload_n 0, 1) := by decide +kernel
theorem dX9_squaredError_12 : decode cX9_squaredError 12 = .ok (.iconst 1, 1) := by decide +kernel
theorem dX9_squaredError_13 : decode cX9_squaredError 13 = .ok (.invokevirtual 272, 3) := by decide +kernel
theorem dX9_squaredError_16 : decode cX9_squaredError 16 = .ok (.ireturn, 1) := by decide +kernel
theorem dX9_greatestError_0 : decode cX9_greatestError 0 = .ok (.aload_n 0, 1) := by decide +kernel
theorem dX9_greatestError_1 : decode cX9_greatestError 1 = .ok (.invokevirtual 276, 3) := by decide +kernel
theorem dX9_greatestError_4 : decode cX9_greatestError 4 = .ok (.ifCond .eq 7, 3) := by decide +kernel
theorem dX9_greatestError_7 : decode cX9_greatestError 7 = .ok (.iconst 0, 1) := by decide +kernel
theorem dX9_greatestError_8 : decode cX9_greatestError 8 = .ok (.goto 8, 3) := by decide +kernel
theorem dX9_greatestError_11 : decode cX9_greatestError 11 = .ok (.aload_n 0, 1) := by decide +kernel
theorem dX9_greatestError_12 : decode cX9_greatestError 12 = .ok (.iconst 0, 1) := by decide +kernel
theorem dX9_greatestError_13 : decode cX9_greatestError 13 = .ok (.invokevirtual 272, 3) := by decide +kernel
theorem dX9_greatestError_16 : decode cX9_greatestError 16 = .ok (.ireturn, 1) := by decide +kernel
theorem dX9_isLayer_0 : decode cX9_isLayer 0 = .ok (.aload_n 0, 1) := by decide +kernel
theorem dX9_isLayer_1 : decode cX9_isLayer 1 = .ok (.aload_n 0, 1) := by decide +kernel
theorem dX9_isLayer_2 : decode cX9_isLayer 2 = .ok (.getfield 228, 3) := by decide +kernel
theorem dX9_isLayer_5 : decode cX9_isLayer 5 = .ok (.iconst 1, 1) := by decide +kernel
theorem dX9_isLayer_6 : decode cX9_isLayer 6 = .ok (.if_icmp .eq 7, 3) := by decide +kernel
theorem dX9_isLayer_9 : decode cX9_isLayer 9 = .ok (.iconst 1, 1) := by decide +kernel
theorem dX9_isLayer_10 : decode cX9_isLayer 10 = .ok (.goto 22, 3) := by decide +kernel
theorem dX9_isLayer_13 : decode cX9_isLayer 13 = .ok (.iload_n 1, 1) := by decide +kernel
theorem dX9_isLayer_14 : decode cX9_isLayer 14 = .ok (.iconst 0, 1) := by decide +kernel
theorem dX9_isLayer_15 : decode cX9_isLayer 15 = .ok (.aload_n 0, 1) := by decide +kernel
theorem dX9_isLayer_16 : decode cX9_isLayer 16 = .ok (.getfield 231, 3) := by decide +kernel
theorem dX9_isLayer_19 : decode cX9_isLayer 19 = .ok (.iconst 1, 1) := by decide +kernel
theorem dX9_isLayer_20 : decode cX9_isLayer 20 = .ok (.isub, 1) := by decide +kernel
theorem dX9_isLayer_21 : decode cX9_isLayer 21 = .ok (.invokestatic 83, 3) := by decide +kernel
theorem dX9_isLayer_24 : decode cX9_isLayer 24 = .ok (.ifCond .ne 7, 3) := by decide +kernel
theorem dX9_isLayer_27 : decode cX9_isLayer 27 = .ok (.iconst 2, 1) := by decide +kernel
theorem dX9_isLayer_28 : decode cX9_isLayer 28 = .ok (.goto 4, 3) := by decide +kernel
theorem dX9_isLayer_31 : decode cX9_isLayer 31 = .ok (.iconst 0, 1) := by decide +kernel
theorem dX9_isLayer_32 : decode cX9_isLayer 32 = .ok (.putfield 80, 3) := by decide +kernel
theorem dX9_isLayer_35 : decode cX9_isLayer 35 = .ok (.aload_n 0, 1) := by decide +kernel
theorem dX9_isLayer_36 : decode cX9_isLayer 36 = .ok (.getfield 80, 3) := by decide +kernel
theorem dX9_isLayer_39 : decode cX9_isLayer 39 = .ok (.ifCond .ne 7, 3) := by decide +kernel
theorem dX9_isLayer_42 : decode cX9_isLayer 42 = .ok (.iconst 1, 1) := by decide +kernel
theorem dX9_isLayer_43 : decode cX9_isLayer 43 = .ok (.goto 4, 3) := by decide +kernel
theorem dX9_isLayer_46 : decode cX9_isLayer 46 = .ok (.iconst 0, 1) := by decide +kernel
theorem dX9_isLayer_47 : decode cX9_isLayer 47 = .ok (.ireturn, 1) := by decide +kernel
theorem dX9_blocks_0 : decode cX9_blocks 0 = .ok (.aload_n 0, 1) := by decide +kernel
theorem dX9_blocks_1 : decode cX9_blocks 1 = .ok (.iload_n 1, 1) := by decide +kernel
theorem dX9_blocks_2 : decode cX9_blocks 2 = .ok (.invokevirtual 279, 3) := by decide +kernel
theorem dX9_blocks_5 : decode cX9_blocks 5 = .ok (.ifCond .eq 12, 3) := by decide +kernel
theorem dX9_blocks_8 : decode cX9_blocks 8 = .ok (.aload_n 0, 1) := by decide +kernel
theorem dX9_blocks_9 : decode cX9_blocks 9 = .ok (.getfield 59, 3) := by decide +kernel
theorem dX9_blocks_12 : decode cX9_blocks 12 = .ok (.iload_n 1, 1) := by decide +kernel
theorem dX9_blocks_13 : decode cX9_blocks 13 = .ok (.iaload, 1) := by decide +kernel
theorem dX9_blocks_14 : decode cX9_blocks 14 = .ok (.goto 4, 3) := by decide +kernel
theorem dX9_blocks_17 : decode cX9_blocks 17 = .ok (.iconst 0, 1) := by decide +kernel
theorem dX9_blocks_18 : decode cX9_blocks 18 = .ok (.ireturn, 1) := by decide +kernel
theorem dX9_isPlace_0 : decode cX9_isPlace 0 = .ok (.aload_n 0, 1) := by decide +kernel
theorem dX9_isPlace_1 : decode cX9_isPlace 1 = .ok (.iload_n 1, 1) := by decide +kernel
theorem dX9_isPlace_2 : decode cX9_isPlace 2 = .ok (.invokevirtual 279, 3) := by decide +kernel
theorem dX9_isPlace_5 : decode cX9_isPlace 5 = .ok (.ifCond .eq 40, 3) := by decide +kernel
theorem dX9_isPlace_8 : decode cX9_isPlace 8 = .ok (.aload_n 0, 1) := by decide +kernel
theorem dX9_isPlace_9 : decode cX9_isPlace 9 = .ok (.iload_n 2, 1) := by decide +kernel
theorem dX9_isPlace_10 : decode cX9_isPlace 10 = .ok (.iconst 0, 1) := by decide +kernel
theorem dX9_isPlace_11 : decode cX9_isPlace 11 = .ok (.aload_n 0, 1) := by decide +kernel
theorem dX9_isPlace_12 : decode cX9_isPlace 12 = .ok (.getfield 219, 3) := by decide +kernel
theorem dX9_isPlace_15 : decode cX9_isPlace 15 = .ok (.iconst 1, 1) := by decide +kernel
theorem dX9_isPlace_16 : decode cX9_isPlace 16 = .ok (.isub, 1) := by decide +kernel
theorem dX9_isPlace_17 : decode cX9_isPlace 17 = .ok (.invokestatic 83, 3) := by decide +kernel
theorem dX9_isPlace_20 : decode cX9_isPlace 20 = .ok (.ifCond .eq 21, 3) := by decide +kernel
theorem dX9_isPlace_23 : decode cX9_isPlace 23 = .ok (.iload_n 3, 1) := by decide +kernel
theorem dX9_isPlace_24 : decode cX9_isPlace 24 = .ok (.iconst 0, 1) := by decide +kernel
theorem dX9_isPlace_25 : decode cX9_isPlace 25 = .ok (.aload_n 0, 1) := by decide +kernel
theorem dX9_isPlace_26 : decode cX9_isPlace 26 = .ok (.getfield 222, 3) := by decide +kernel
theorem dX9_isPlace_29 : decode cX9_isPlace 29 = .ok (.iconst 1, 1) := by decide +kernel
theorem dX9_isPlace_30 : decode cX9_isPlace 30 = .ok (.isub, 1) := by decide +kernel
theorem dX9_isPlace_31 : decode cX9_isPlace 31 = .ok (.invokestatic 83, 3) := by decide +kernel
theorem dX9_isPlace_34 : decode cX9_isPlace 34 = .ok (.ifCond .eq 7, 3) := by decide +kernel
theorem dX9_isPlace_37 : decode cX9_isPlace 37 = .ok (.iconst 0, 1) := by decide +kernel
theorem dX9_isPlace_38 : decode cX9_isPlace 38 = .ok (.goto 4, 3) := by decide +kernel
theorem dX9_isPlace_41 : decode cX9_isPlace 41 = .ok (.iconst 2, 1) := by decide +kernel
theorem dX9_isPlace_42 : decode cX9_isPlace 42 = .ok (.putfield 80, 3) := by decide +kernel
theorem dX9_isPlace_45 : decode cX9_isPlace 45 = .ok (.aload_n 0, 1) := by decide +kernel
theorem dX9_isPlace_46 : decode cX9_isPlace 46 = .ok (.getfield 80, 3) := by decide +kernel
theorem dX9_isPlace_49 : decode cX9_isPlace 49 = .ok (.ifCond .ne 7, 3) := by decide +kernel
theorem dX9_isPlace_52 : decode cX9_isPlace 52 = .ok (.iconst 1, 1) := by decide +kernel
theorem dX9_isPlace_53 : decode cX9_isPlace 53 = .ok (.goto 4, 3) := by decide +kernel
theorem dX9_isPlace_56 : decode cX9_isPlace 56 = .ok (.iconst 0, 1) := by decide +kernel
theorem dX9_isPlace_57 : decode cX9_isPlace 57 = .ok (.ireturn, 1) := by decide +kernel
theorem dX9_blockSize_0 : decode cX9_blockSize 0 = .ok (.aload_n 0, 1) := by decide +kernel
theorem dX9_blockSize_1 : decode cX9_blockSize 1 = .ok (.iload_n 1, 1) := by decide +kernel
theorem dX9_blockSize_2 : decode cX9_blockSize 2 = .ok (.iload_n 2, 1) := by decide +kernel
theorem dX9_blockSize_3 : decode cX9_blockSize 3 = .ok (.iload_n 3, 1) := by decide +kernel
theorem dX9_blockSize_4 : decode cX9_blockSize 4 = .ok (.invokevirtual 282, 3) := by decide +kernel
theorem dX9_blockSize_7 : decode cX9_blockSize 7 = .ok (.ifCond .eq 23, 3) := by decide +kernel
theorem dX9_blockSize_10 : decode cX9_blockSize 10 = .ok (.aload_n 0, 1) := by decide +kernel
theorem dX9_blockSize_11 : decode cX9_blockSize 11 = .ok (.getfield 56, 3) := by decide +kernel
theorem dX9_blockSize_14 : decode cX9_blockSize 14 = .ok (.sipush 384, 3) := by decide +kernel
theorem dX9_blockSize_17 : decode cX9_blockSize 17 = .ok (.iload_n 1, 1) := by decide +kernel
theorem dX9_blockSize_18 : decode cX9_blockSize 18 = .ok (.imul, 1) := by decide +kernel
theorem dX9_blockSize_19 : decode cX9_blockSize 19 = .ok (.bipush 16, 2) := by decide +kernel
theorem dX9_blockSize_21 : decode cX9_blockSize 21 = .ok (.iload_n 3, 1) := by decide +kernel
theorem dX9_blockSize_22 : decode cX9_blockSize 22 = .ok (.imul, 1) := by decide +kernel
theorem dX9_blockSize_23 : decode cX9_blockSize 23 = .ok (.iadd, 1) := by decide +kernel
theorem dX9_blockSize_24 : decode cX9_blockSize 24 = .ok (.iload_n 2, 1) := by decide +kernel
theorem dX9_blockSize_25 : decode cX9_blockSize 25 = .ok (.iadd, 1) := by decide +kernel
theorem dX9_blockSize_26 : decode cX9_blockSize 26 = .ok (.iaload, 1) := by decide +kernel
theorem dX9_blockSize_27 : decode cX9_blockSize 27 = .ok (.goto 4, 3) := by decide +kernel
theorem dX9_blockSize_30 : decode cX9_blockSize 30 = .ok (.iconst 0, 1) := by decide +kernel
theorem dX9_blockSize_31 : decode cX9_blockSize 31 = .ok (.ireturn, 1) := by decide +kernel
theorem dX9_mode_0 : decode cX9_mode 0 = .ok (.aload_n 0, 1) := by decide +kernel
theorem dX9_mode_1 : decode cX9_mode 1 = .ok (.iload_n 1, 1) := by decide +kernel
theorem dX9_mode_2 : decode cX9_mode 2 = .ok (.iload_n 2, 1) := by decide +kernel
theorem dX9_mode_3 : decode cX9_mode 3 = .ok (.iload_n 3, 1) := by decide +kernel
theorem dX9_mode_4 : decode cX9_mode 4 = .ok (.invokevirtual 282, 3) := by decide +kernel
theorem dX9_mode_7 : decode cX9_mode 7 = .ok (.ifCond .eq 23, 3) := by decide +kernel
theorem dX9_mode_10 : decode cX9_mode 10 = .ok (.aload_n 0, 1) := by decide +kernel
theorem dX9_mode_11 : decode cX9_mode 11 = .ok (.getfield 50, 3) := by decide +kernel
theorem dX9_mode_14 : decode cX9_mode 14 = .ok (.sipush 384, 3) := by decide +kernel
theorem dX9_mode_17 : decode cX9_mode 17 = .ok (.iload_n 1, 1) := by decide +kernel
theorem dX9_mode_18 : decode cX9_mode 18 = .ok (.imul, 1) := by decide +kernel
theorem dX9_mode_19 : decode cX9_mode 19 = .ok (.bipush 16, 2) := by decide +kernel
theorem dX9_mode_21 : decode cX9_mode 21 = .ok (.iload_n 3, 1) := by decide +kernel
theorem dX9_mode_22 : decode cX9_mode 22 = .ok (.imul, 1) := by decide +kernel
theorem dX9_mode_23 : decode cX9_mode 23 = .ok (.iadd, 1) := by decide +kernel
theorem dX9_mode_24 : decode cX9_mode 24 = .ok (.iload_n 2, 1) := by decide +kernel
theorem dX9_mode_25 : decode cX9_mode 25 = .ok (.iadd, 1) := by decide +kernel
theorem dX9_mode_26 : decode cX9_mode 26 = .ok (.iaload, 1) := by decide +kernel
theorem dX9_mode_27 : decode cX9_mode 27 = .ok (.goto 4, 3) := by decide +kernel
theorem dX9_mode_30 : decode cX9_mode 30 = .ok (.iconst 0, 1) := by decide +kernel
theorem dX9_mode_31 : decode cX9_mode 31 = .ok (.istore 4, 2) := by decide +kernel
theorem dX9_mode_33 : decode cX9_mode 33 = .ok (.iload 4, 2) := by decide +kernel
theorem dX9_mode_35 : decode cX9_mode 35 = .ok (.ifCond .ne 8, 3) := by decide +kernel
theorem dX9_mode_38 : decode cX9_mode 38 = .ok (.bipush 100, 2) := by decide +kernel
theorem dX9_mode_40 : decode cX9_mode 40 = .ok (.goto 27, 3) := by decide +kernel
theorem dX9_mode_43 : decode cX9_mode 43 = .ok (.iload 4, 2) := by decide +kernel
theorem dX9_mode_45 : decode cX9_mode 45 = .ok (.iconst 1, 1) := by decide +kernel
theorem dX9_mode_46 : decode cX9_mode 46 = .ok (.if_icmp .ne 8, 3) := by decide +kernel
theorem dX9_mode_49 : decode cX9_mode 49 = .ok (.bipush 104, 2) := by decide +kernel
theorem dX9_mode_51 : decode cX9_mode 51 = .ok (.goto 16, 3) := by decide +kernel
theorem dX9_mode_54 : decode cX9_mode 54 = .ok (.iload 4, 2) := by decide +kernel
theorem dX9_mode_56 : decode cX9_mode 56 = .ok (.iconst 2, 1) := by decide +kernel
theorem dX9_mode_57 : decode cX9_mode 57 = .ok (.if_icmp .ne 8, 3) := by decide +kernel
theorem dX9_mode_60 : decode cX9_mode 60 = .ok (.bipush 118, 2) := by decide +kernel
theorem dX9_mode_62 : decode cX9_mode 62 = .ok (.goto 5, 3) := by decide +kernel
theorem dX9_mode_65 : decode cX9_mode 65 = .ok (.bipush 97, 2) := by decide +kernel
theorem dX9_mode_67 : decode cX9_mode 67 = .ok (.ireturn, 1) := by decide +kernel
theorem dX9_level_0 : decode cX9_level 0 = .ok (.aload_n 0, 1) := by decide +kernel
theorem dX9_level_1 : decode cX9_level 1 = .ok (.iload_n 1, 1) := by decide +kernel
theorem dX9_level_2 : decode cX9_level 2 = .ok (.iload_n 2, 1) := by decide +kernel
theorem dX9_level_3 : decode cX9_level 3 = .ok (.iload_n 3, 1) := by decide +kernel
theorem dX9_level_4 : decode cX9_level 4 = .ok (.invokevirtual 282, 3) := by decide +kernel
theorem dX9_level_7 : decode cX9_level 7 = .ok (.ifCond .eq 23, 3) := by decide +kernel
theorem dX9_level_10 : decode cX9_level 10 = .ok (.aload_n 0, 1) := by decide +kernel
theorem dX9_level_11 : decode cX9_level 11 = .ok (.getfield 47, 3) := by decide +kernel
theorem dX9_level_14 : decode cX9_level 14 = .ok (.sipush 384, 3) := by decide +kernel
theorem dX9_level_17 : decode cX9_level 17 = .ok (.iload_n 1, 1) := by decide +kernel
theorem dX9_level_18 : decode cX9_level 18 = .ok (.imul, 1) := by decide +kernel
theorem dX9_level_19 : decode cX9_level 19 = .ok (.bipush 16, 2) := by decide +kernel
theorem dX9_level_21 : decode cX9_level 21 = .ok (.iload_n 3, 1) := by decide +kernel
theorem dX9_level_22 : decode cX9_level 22 = .ok (.imul, 1) := by decide +kernel
theorem dX9_level_23 : decode cX9_level 23 = .ok (.iadd, 1) := by decide +kernel
theorem dX9_level_24 : decode cX9_level 24 = .ok (.iload_n 2, 1) := by decide +kernel
theorem dX9_level_25 : decode cX9_level 25 = .ok (.iadd, 1) := by decide +kernel
theorem dX9_level_26 : decode cX9_level 26 = .ok (.iaload, 1) := by decide +kernel
theorem dX9_level_27 : decode cX9_level 27 = .ok (.goto 4, 3) := by decide +kernel
theorem dX9_level_30 : decode cX9_level 30 = .ok (.iconst 0, 1) := by decide +kernel
theorem dX9_level_31 : decode cX9_level 31 = .ok (.ireturn, 1) := by decide +kernel
theorem dX9_cost_0 : decode cX9_cost 0 = .ok (.aload_n 0, 1) := by decide +kernel
theorem dX9_cost_1 : decode cX9_cost 1 = .ok (.iload_n 1, 1) := by decide +kernel
theorem dX9_cost_2 : decode cX9_cost 2 = .ok (.iload_n 2, 1) := by decide +kernel
theorem dX9_cost_3 : decode cX9_cost 3 = .ok (.iload_n 3, 1) := by decide +kernel
theorem dX9_cost_4 : decode cX9_cost 4 = .ok (.invokevirtual 282, 3) := by decide +kernel
theorem dX9_cost_7 : decode cX9_cost 7 = .ok (.ifCond .eq 23, 3) := by decide +kernel
theorem dX9_cost_10 : decode cX9_cost 10 = .ok (.aload_n 0, 1) := by decide +kernel
theorem dX9_cost_11 : decode cX9_cost 11 = .ok (.getfield 53, 3) := by decide +kernel
theorem dX9_cost_14 : decode cX9_cost 14 = .ok (.sipush 384, 3) := by decide +kernel
theorem dX9_cost_17 : decode cX9_cost 17 = .ok (.iload_n 1, 1) := by decide +kernel
theorem dX9_cost_18 : decode cX9_cost 18 = .ok (.imul, 1) := by decide +kernel
theorem dX9_cost_19 : decode cX9_cost 19 = .ok (.bipush 16, 2) := by decide +kernel
theorem dX9_cost_21 : decode cX9_cost 21 = .ok (.iload_n 3, 1) := by decide +kernel
theorem dX9_cost_22 : decode cX9_cost 22 = .ok (.imul, 1) := by decide +kernel
theorem dX9_cost_23 : decode cX9_cost 23 = .ok (.iadd, 1) := by decide +kernel
theorem dX9_cost_24 : decode cX9_cost 24 = .ok (.iload_n 2, 1) := by decide +kernel
theorem dX9_cost_25 : decode cX9_cost 25 = .ok (.iadd, 1) := by decide +kernel
theorem dX9_cost_26 : decode cX9_cost 26 = .ok (.iaload, 1) := by decide +kernel
theorem dX9_cost_27 : decode cX9_cost 27 = .ok (.goto 4, 3) := by decide +kernel
theorem dX9_cost_30 : decode cX9_cost 30 = .ok (.iconst 0, 1) := by decide +kernel
theorem dX9_cost_31 : decode cX9_cost 31 = .ok (.ireturn, 1) := by decide +kernel
theorem dX9_partSize_0 : decode cX9_partSize 0 = .ok (.aload_n 0, 1) := by decide +kernel
theorem dX9_partSize_1 : decode cX9_partSize 1 = .ok (.iload_n 1, 1) := by decide +kernel
theorem dX9_partSize_2 : decode cX9_partSize 2 = .ok (.invokevirtual 279, 3) := by decide +kernel
theorem dX9_partSize_5 : decode cX9_partSize 5 = .ok (.ifCond .eq 32, 3) := by decide +kernel
theorem dX9_partSize_8 : decode cX9_partSize 8 = .ok (.aload_n 0, 1) := by decide +kernel
theorem dX9_partSize_9 : decode cX9_partSize 9 = .ok (.iload_n 2, 1) := by decide +kernel
theorem dX9_partSize_10 : decode cX9_partSize 10 = .ok (.iconst 0, 1) := by decide +kernel
theorem dX9_partSize_11 : decode cX9_partSize 11 = .ok (.aload_n 0, 1) := by decide +kernel
theorem dX9_partSize_12 : decode cX9_partSize 12 = .ok (.getfield 222, 3) := by decide +kernel
theorem dX9_partSize_15 : decode cX9_partSize 15 = .ok (.bipush 7, 2) := by decide +kernel
theorem dX9_partSize_17 : decode cX9_partSize 17 = .ok (.iadd, 1) := by decide +kernel
theorem dX9_partSize_18 : decode cX9_partSize 18 = .ok (.bipush 8, 2) := by decide +kernel
theorem dX9_partSize_20 : decode cX9_partSize 20 = .ok (.idiv, 1) := by decide +kernel
theorem dX9_partSize_21 : decode cX9_partSize 21 = .ok (.iconst 1, 1) := by decide +kernel
theorem dX9_partSize_22 : decode cX9_partSize 22 = .ok (.isub, 1) := by decide +kernel
theorem dX9_partSize_23 : decode cX9_partSize 23 = .ok (.invokestatic 83, 3) := by decide +kernel
theorem dX9_partSize_26 : decode cX9_partSize 26 = .ok (.ifCond .eq 7, 3) := by decide +kernel
theorem dX9_partSize_29 : decode cX9_partSize 29 = .ok (.iconst 0, 1) := by decide +kernel
theorem dX9_partSize_30 : decode cX9_partSize 30 = .ok (.goto 4, 3) := by decide +kernel
theorem dX9_partSize_33 : decode cX9_partSize 33 = .ok (.iconst 2, 1) := by decide +kernel
theorem dX9_partSize_34 : decode cX9_partSize 34 = .ok (.putfield 80, 3) := by decide +kernel
theorem dX9_partSize_37 : decode cX9_partSize 37 = .ok (.aload_n 0, 1) := by decide +kernel
theorem dX9_partSize_38 : decode cX9_partSize 38 = .ok (.getfield 80, 3) := by decide +kernel
theorem dX9_partSize_41 : decode cX9_partSize 41 = .ok (.ifCond .ne 16, 3) := by decide +kernel
theorem dX9_partSize_44 : decode cX9_partSize 44 = .ok (.aload_n 0, 1) := by decide +kernel
theorem dX9_partSize_45 : decode cX9_partSize 45 = .ok (.getfield 62, 3) := by decide +kernel
theorem dX9_partSize_48 : decode cX9_partSize 48 = .ok (.iconst 3, 1) := by decide +kernel
theorem dX9_partSize_49 : decode cX9_partSize 49 = .ok (.iload_n 1, 1) := by decide +kernel
theorem dX9_partSize_50 : decode cX9_partSize 50 = .ok (.imul, 1) := by decide +kernel
theorem dX9_partSize_51 : decode cX9_partSize 51 = .ok (.iload_n 2, 1) := by decide +kernel
theorem dX9_partSize_52 : decode cX9_partSize 52 = .ok (.iadd, 1) := by decide +kernel
theorem dX9_partSize_53 : decode cX9_partSize 53 = .ok (.iaload, 1) := by decide +kernel
theorem dX9_partSize_54 : decode cX9_partSize 54 = .ok (.goto 4, 3) := by decide +kernel
theorem dX9_partSize_57 : decode cX9_partSize 57 = .ok (.iconst 0, 1) := by decide +kernel
theorem dX9_partSize_58 : decode cX9_partSize 58 = .ok (.ireturn, 1) := by decide +kernel
theorem dX9_ratio_0 : decode cX9_ratio 0 = .ok (.aload_n 0, 1) := by decide +kernel
theorem dX9_ratio_1 : decode cX9_ratio 1 = .ok (.aload_n 0, 1) := by decide +kernel
theorem dX9_ratio_2 : decode cX9_ratio 2 = .ok (.getfield 228, 3) := by decide +kernel
theorem dX9_ratio_5 : decode cX9_ratio 5 = .ok (.ifCond .ne 7, 3) := by decide +kernel
theorem dX9_ratio_8 : decode cX9_ratio 8 = .ok (.iconst 1, 1) := by decide +kernel
theorem dX9_ratio_9 : decode cX9_ratio 9 = .ok (.goto 4, 3) := by decide +kernel
theorem dX9_ratio_12 : decode cX9_ratio 12 = .ok (.iconst 0, 1) := by decide +kernel
theorem dX9_ratio_13 : decode cX9_ratio 13 = .ok (.putfield 80, 3) := by decide +kernel
theorem dX9_ratio_16 : decode cX9_ratio 16 = .ok (.aload_n 0, 1) := by decide +kernel
theorem dX9_ratio_17 : decode cX9_ratio 17 = .ok (.getfield 228, 3) := by decide +kernel
theorem dX9_ratio_20 : decode cX9_ratio 20 = .ok (.ifCond .ne 7, 3) := by decide +kernel
theorem dX9_ratio_23 : decode cX9_ratio 23 = .ok (.fconst 0, 1) := by decide +kernel
theorem dX9_ratio_24 : decode cX9_ratio 24 = .ok (.goto 21, 3) := by decide +kernel
theorem dX9_ratio_27 : decode cX9_ratio 27 = .ok (.aload_n 0, 1) := by decide +kernel
theorem dX9_ratio_28 : decode cX9_ratio 28 = .ok (.getfield 240, 3) := by decide +kernel
theorem dX9_ratio_31 : decode cX9_ratio 31 = .ok (.i2f, 1) := by decide +kernel
theorem dX9_ratio_32 : decode cX9_ratio 32 = .ok (.iconst 3, 1) := by decide +kernel
theorem dX9_ratio_33 : decode cX9_ratio 33 = .ok (.aload_n 0, 1) := by decide +kernel
theorem dX9_ratio_34 : decode cX9_ratio 34 = .ok (.getfield 219, 3) := by decide +kernel
theorem dX9_ratio_37 : decode cX9_ratio 37 = .ok (.aload_n 0, 1) := by decide +kernel
theorem dX9_ratio_38 : decode cX9_ratio 38 = .ok (.getfield 222, 3) := by decide +kernel
theorem dX9_ratio_41 : decode cX9_ratio 41 = .ok (.imul, 1) := by decide +kernel
theorem dX9_ratio_42 : decode cX9_ratio 42 = .ok (.iadd, 1) := by decide +kernel
theorem dX9_ratio_43 : decode cX9_ratio 43 = .ok (.i2f, 1) := by decide +kernel
theorem dX9_ratio_44 : decode cX9_ratio 44 = .ok (.fdiv, 1) := by decide +kernel
theorem dX9_ratio_45 : decode cX9_ratio 45 = .ok (.freturn, 1) := by decide +kernel
theorem dJ9_floorDiv_7cf53_0 : decode cJ9_floorDiv_7cf53 0 = .ok (.iload_n 0, 1) := by decide +kernel
theorem dJ9_floorDiv_7cf53_1 : decode cJ9_floorDiv_7cf53 1 = .ok (.iload_n 1, 1) := by decide +kernel
theorem dJ9_floorDiv_7cf53_2 : decode cJ9_floorDiv_7cf53 2 = .ok (.idiv, 1) := by decide +kernel
theorem dJ9_floorDiv_7cf53_3 : decode cJ9_floorDiv_7cf53 3 = .ok (.istore_n 2, 1) := by decide +kernel
theorem dJ9_floorDiv_7cf53_4 : decode cJ9_floorDiv_7cf53 4 = .ok (.iload_n 0, 1) := by decide +kernel
theorem dJ9_floorDiv_7cf53_5 : decode cJ9_floorDiv_7cf53 5 = .ok (.iload_n 1, 1) := by decide +kernel
theorem dJ9_floorDiv_7cf53_6 : decode cJ9_floorDiv_7cf53 6 = .ok (.ixor, 1) := by decide +kernel
theorem dJ9_floorDiv_7cf53_7 : decode cJ9_floorDiv_7cf53 7 = .ok (.ifCond .ge 14, 3) := by decide +kernel
theorem dJ9_floorDiv_7cf53_10 : decode cJ9_floorDiv_7cf53 10 = .ok (.iload_n 2, 1) := by decide +kernel
theorem dJ9_floorDiv_7cf53_11 : decode cJ9_floorDiv_7cf53 11 = .ok (.iload_n 1, 1) := by decide +kernel
theorem dJ9_floorDiv_7cf53_12 : decode cJ9_floorDiv_7cf53 12 = .ok (.imul, 1) := by decide +kernel
theorem dJ9_floorDiv_7cf53_13 : decode cJ9_floorDiv_7cf53 13 = .ok (.iload_n 0, 1) := by decide +kernel
theorem dJ9_floorDiv_7cf53_14 : decode cJ9_floorDiv_7cf53 14 = .ok (.if_icmp .eq 7, 3) := by decide +kernel
theorem dJ9_floorDiv_7cf53_17 : decode cJ9_floorDiv_7cf53 17 = .ok (.iload_n 2, 1) := by decide +kernel
theorem dJ9_floorDiv_7cf53_18 : decode cJ9_floorDiv_7cf53 18 = .ok (.iconst 1, 1) := by decide +kernel
theorem dJ9_floorDiv_7cf53_19 : decode cJ9_floorDiv_7cf53 19 = .ok (.isub, 1) := by decide +kernel
theorem dJ9_floorDiv_7cf53_20 : decode cJ9_floorDiv_7cf53 20 = .ok (.ireturn, 1) := by decide +kernel
theorem dJ9_floorDiv_7cf53_21 : decode cJ9_floorDiv_7cf53 21 = .ok (.iload_n 2, 1) := by decide +kernel
theorem dJ9_floorDiv_7cf53_22 : decode cJ9_floorDiv_7cf53 22 = .ok (.ireturn, 1) := by decide +kernel
theorem dJ9_abs_0f7a4_0 : decode cJ9_abs_0f7a4 0 = .ok (.iload_n 0, 1) := by decide +kernel
theorem dJ9_abs_0f7a4_1 : decode cJ9_abs_0f7a4 1 = .ok (.ifCond .ge 8, 3) := by decide +kernel
theorem dJ9_abs_0f7a4_4 : decode cJ9_abs_0f7a4 4 = .ok (.iload_n 0, 1) := by decide +kernel
theorem dJ9_abs_0f7a4_5 : decode cJ9_abs_0f7a4 5 = .ok (.ineg, 1) := by decide +kernel
theorem dJ9_abs_0f7a4_6 : decode cJ9_abs_0f7a4 6 = .ok (.goto 4, 3) := by decide +kernel
theorem dJ9_abs_0f7a4_9 : decode cJ9_abs_0f7a4 9 = .ok (.iload_n 0, 1) := by decide +kernel
theorem dJ9_abs_0f7a4_10 : decode cJ9_abs_0f7a4 10 = .ok (.ireturn, 1) := by decide +kernel
theorem dJ9_max_7cf53_0 : decode cJ9_max_7cf53 0 = .ok (.iload_n 0, 1) := by decide +kernel
theorem dJ9_max_7cf53_1 : decode cJ9_max_7cf53 1 = .ok (.iload_n 1, 1) := by decide +kernel
theorem dJ9_max_7cf53_2 : decode cJ9_max_7cf53 2 = .ok (.if_icmp .lt 7, 3) := by decide +kernel
theorem dJ9_max_7cf53_5 : decode cJ9_max_7cf53 5 = .ok (.iload_n 0, 1) := by decide +kernel
theorem dJ9_max_7cf53_6 : decode cJ9_max_7cf53 6 = .ok (.goto 4, 3) := by decide +kernel
theorem dJ9_max_7cf53_9 : decode cJ9_max_7cf53 9 = .ok (.iload_n 1, 1) := by decide +kernel
theorem dJ9_max_7cf53_10 : decode cJ9_max_7cf53 10 = .ok (.ireturn, 1) := by decide +kernel
theorem dJ9_min_7cf53_0 : decode cJ9_min_7cf53 0 = .ok (.iload_n 0, 1) := by decide +kernel
theorem dJ9_min_7cf53_1 : decode cJ9_min_7cf53 1 = .ok (.iload_n 1, 1) := by decide +kernel
theorem dJ9_min_7cf53_2 : decode cJ9_min_7cf53 2 = .ok (.if_icmp .gt 7, 3) := by decide +kernel
theorem dJ9_min_7cf53_5 : decode cJ9_min_7cf53 5 = .ok (.iload_n 0, 1) := by decide +kernel
theorem dJ9_min_7cf53_6 : decode cJ9_min_7cf53 6 = .ok (.goto 4, 3) := by decide +kernel
theorem dJ9_min_7cf53_9 : decode cJ9_min_7cf53 9 = .ok (.iload_n 1, 1) := by decide +kernel
theorem dJ9_min_7cf53_10 : decode cJ9_min_7cf53 10 = .ok (.ireturn, 1) := by decide +kernel
theorem dJ7_fill_53178_0 : decode cJ7_fill_53178 0 = .ok (.iconst 0, 1) := by decide +kernel
theorem dJ7_fill_53178_1 : decode cJ7_fill_53178 1 = .ok (.istore_n 2, 1) := by decide +kernel
theorem dJ7_fill_53178_2 : decode cJ7_fill_53178 2 = .ok (.aload_n 0, 1) := by decide +kernel
theorem dJ7_fill_53178_3 : decode cJ7_fill_53178 3 = .ok (.arraylength, 1) := by decide +kernel
theorem dJ7_fill_53178_4 : decode cJ7_fill_53178 4 = .ok (.istore_n 3, 1) := by decide +kernel
theorem dJ7_fill_53178_5 : decode cJ7_fill_53178 5 = .ok (.iload_n 2, 1) := by decide +kernel
theorem dJ7_fill_53178_6 : decode cJ7_fill_53178 6 = .ok (.iload_n 3, 1) := by decide +kernel
theorem dJ7_fill_53178_7 : decode cJ7_fill_53178 7 = .ok (.if_icmp .ge 13, 3) := by decide +kernel
theorem dJ7_fill_53178_10 : decode cJ7_fill_53178 10 = .ok (.aload_n 0, 1) := by decide +kernel
theorem dJ7_fill_53178_11 : decode cJ7_fill_53178 11 = .ok (.iload_n 2, 1) := by decide +kernel
theorem dJ7_fill_53178_12 : decode cJ7_fill_53178 12 = .ok (.iload_n 1, 1) := by decide +kernel
theorem dJ7_fill_53178_13 : decode cJ7_fill_53178 13 = .ok (.iastore, 1) := by decide +kernel
theorem dJ7_fill_53178_14 : decode cJ7_fill_53178 14 = .ok (.iinc 2 1, 3) := by decide +kernel
theorem dJ7_fill_53178_17 : decode cJ7_fill_53178 17 = .ok (.goto (-12), 3) := by decide +kernel
theorem dJ7_fill_53178_20 : decode cJ7_fill_53178 20 = .ok (.return_, 1) := by decide +kernel
theorem dJ7_copyOf_59c91_0 : decode cJ7_copyOf_59c91 0 = .ok (.iload_n 1, 1) := by decide +kernel
theorem dJ7_copyOf_59c91_1 : decode cJ7_copyOf_59c91 1 = .ok (.aload_n 0, 1) := by decide +kernel
theorem dJ7_copyOf_59c91_2 : decode cJ7_copyOf_59c91 2 = .ok (.arraylength, 1) := by decide +kernel
theorem dJ7_copyOf_59c91_3 : decode cJ7_copyOf_59c91 3 = .ok (.if_icmp .ne 11, 3) := by decide +kernel
theorem dJ7_copyOf_59c91_6 : decode cJ7_copyOf_59c91 6 = .ok (.aload_n 0, 1) := by decide +kernel
theorem dJ7_copyOf_59c91_7 : decode cJ7_copyOf_59c91 7 = .ok (.invokevirtual 316, 3) := by decide +kernel
theorem dJ7_copyOf_59c91_10 : decode cJ7_copyOf_59c91 10 = .ok (.checkcast 317, 3) := by decide +kernel
theorem dJ7_copyOf_59c91_13 : decode cJ7_copyOf_59c91 13 = .ok (.areturn, 1) := by decide +kernel
theorem dJ7_copyOf_59c91_14 : decode cJ7_copyOf_59c91 14 = .ok (.iload_n 1, 1) := by decide +kernel
theorem dJ7_copyOf_59c91_15 : decode cJ7_copyOf_59c91 15 = .ok (.newarray .int, 2) := by decide +kernel
theorem dJ7_copyOf_59c91_17 : decode cJ7_copyOf_59c91 17 = .ok (.astore_n 2, 1) := by decide +kernel
theorem dJ7_copyOf_59c91_18 : decode cJ7_copyOf_59c91 18 = .ok (.aload_n 0, 1) := by decide +kernel
theorem dJ7_copyOf_59c91_19 : decode cJ7_copyOf_59c91 19 = .ok (.iconst 0, 1) := by decide +kernel
theorem dJ7_copyOf_59c91_20 : decode cJ7_copyOf_59c91 20 = .ok (.aload_n 2, 1) := by decide +kernel
theorem dJ7_copyOf_59c91_21 : decode cJ7_copyOf_59c91 21 = .ok (.iconst 0, 1) := by decide +kernel
theorem dJ7_copyOf_59c91_22 : decode cJ7_copyOf_59c91 22 = .ok (.aload_n 0, 1) := by decide +kernel
theorem dJ7_copyOf_59c91_23 : decode cJ7_copyOf_59c91 23 = .ok (.arraylength, 1) := by decide +kernel
theorem dJ7_copyOf_59c91_24 : decode cJ7_copyOf_59c91 24 = .ok (.iload_n 1, 1) := by decide +kernel
theorem dJ7_copyOf_59c91_25 : decode cJ7_copyOf_59c91 25 = .ok (.invokestatic 304, 3) := by decide +kernel
theorem dJ7_copyOf_59c91_28 : decode cJ7_copyOf_59c91 28 = .ok (.invokestatic 150, 3) := by decide +kernel
theorem dJ7_copyOf_59c91_31 : decode cJ7_copyOf_59c91 31 = .ok (.aload_n 2, 1) := by decide +kernel
theorem dJ7_copyOf_59c91_32 : decode cJ7_copyOf_59c91 32 = .ok (.areturn, 1) := by decide +kernel
theorem dL_resize_0 : decode cL_resize 0 = .ok (.aload_n 3, 1) := by decide +kernel
theorem dL_resize_1 : decode cL_resize 1 = .ok (.iconst 0, 1) := by decide +kernel
theorem dL_resize_2 : decode cL_resize 2 = .ok (.aload_n 0, 1) := by decide +kernel
theorem dL_resize_3 : decode cL_resize 3 = .ok (.iload_n 1, 1) := by decide +kernel
theorem dL_resize_4 : decode cL_resize 4 = .ok (.iload_n 2, 1) := by decide +kernel
theorem dL_resize_5 : decode cL_resize 5 = .ok (.invokevirtual 7, 3) := by decide +kernel
theorem dL_resize_8 : decode cL_resize 8 = .ok (.i2l, 1) := by decide +kernel
theorem dL_resize_9 : decode cL_resize 9 = .ok (.lastore, 1) := by decide +kernel
theorem dL_resize_10 : decode cL_resize 10 = .ok (.goto 7, 3) := by decide +kernel
theorem dL_resize_13 : decode cL_resize 13 = .ok (.astore 4, 2) := by decide +kernel
theorem dL_resize_15 : decode cL_resize 15 = .ok (.iconst 1, 1) := by decide +kernel
theorem dL_resize_16 : decode cL_resize 16 = .ok (.ireturn, 1) := by decide +kernel
theorem dL_resize_17 : decode cL_resize 17 = .ok (.iconst 0, 1) := by decide +kernel
theorem dL_resize_18 : decode cL_resize 18 = .ok (.ireturn, 1) := by decide +kernel
theorem dL_set_0 : decode cL_set 0 = .ok (.aload 4, 2) := by decide +kernel
theorem dL_set_2 : decode cL_set 2 = .ok (.iconst 0, 1) := by decide +kernel
theorem dL_set_3 : decode cL_set 3 = .ok (.aload_n 0, 1) := by decide +kernel
theorem dL_set_4 : decode cL_set 4 = .ok (.iload_n 1, 1) := by decide +kernel
theorem dL_set_5 : decode cL_set 5 = .ok (.iload_n 2, 1) := by decide +kernel
theorem dL_set_6 : decode cL_set 6 = .ok (.iload_n 3, 1) := by decide +kernel
theorem dL_set_7 : decode cL_set 7 = .ok (.invokevirtual 15, 3) := by decide +kernel
theorem dL_set_10 : decode cL_set 10 = .ok (.i2l, 1) := by decide +kernel
theorem dL_set_11 : decode cL_set 11 = .ok (.lastore, 1) := by decide +kernel
theorem dL_set_12 : decode cL_set 12 = .ok (.goto 11, 3) := by decide +kernel
theorem dL_set_15 : decode cL_set 15 = .ok (.astore 5, 2) := by decide +kernel
theorem dL_set_17 : decode cL_set 17 = .ok (.iconst 1, 1) := by decide +kernel
theorem dL_set_18 : decode cL_set 18 = .ok (.ireturn, 1) := by decide +kernel
theorem dL_set_19 : decode cL_set 19 = .ok (.astore 5, 2) := by decide +kernel
theorem dL_set_21 : decode cL_set 21 = .ok (.iconst 2, 1) := by decide +kernel
theorem dL_set_22 : decode cL_set 22 = .ok (.ireturn, 1) := by decide +kernel
theorem dL_set_23 : decode cL_set 23 = .ok (.iconst 0, 1) := by decide +kernel
theorem dL_set_24 : decode cL_set 24 = .ok (.ireturn, 1) := by decide +kernel
theorem dL_fill_0 : decode cL_fill 0 = .ok (.aload 6, 2) := by decide +kernel
theorem dL_fill_2 : decode cL_fill 2 = .ok (.iconst 0, 1) := by decide +kernel
theorem dL_fill_3 : decode cL_fill 3 = .ok (.aload_n 0, 1) := by decide +kernel
theorem dL_fill_4 : decode cL_fill 4 = .ok (.iload_n 1, 1) := by decide +kernel
theorem dL_fill_5 : decode cL_fill 5 = .ok (.iload_n 2, 1) := by decide +kernel
theorem dL_fill_6 : decode cL_fill 6 = .ok (.iload_n 3, 1) := by decide +kernel
theorem dL_fill_7 : decode cL_fill 7 = .ok (.iload 4, 2) := by decide +kernel
theorem dL_fill_9 : decode cL_fill 9 = .ok (.iload 5, 2) := by decide +kernel
theorem dL_fill_11 : decode cL_fill 11 = .ok (.invokevirtual 21, 3) := by decide +kernel
theorem dL_fill_14 : decode cL_fill 14 = .ok (.i2l, 1) := by decide +kernel
theorem dL_fill_15 : decode cL_fill 15 = .ok (.lastore, 1) := by decide +kernel
theorem dL_fill_16 : decode cL_fill 16 = .ok (.goto 11, 3) := by decide +kernel
theorem dL_fill_19 : decode cL_fill 19 = .ok (.astore 7, 2) := by decide +kernel
theorem dL_fill_21 : decode cL_fill 21 = .ok (.iconst 1, 1) := by decide +kernel
theorem dL_fill_22 : decode cL_fill 22 = .ok (.ireturn, 1) := by decide +kernel
theorem dL_fill_23 : decode cL_fill 23 = .ok (.astore 7, 2) := by decide +kernel
theorem dL_fill_25 : decode cL_fill 25 = .ok (.iconst 2, 1) := by decide +kernel
theorem dL_fill_26 : decode cL_fill 26 = .ok (.ireturn, 1) := by decide +kernel
theorem dL_fill_27 : decode cL_fill 27 = .ok (.iconst 0, 1) := by decide +kernel
theorem dL_fill_28 : decode cL_fill 28 = .ok (.ireturn, 1) := by decide +kernel
theorem dL_ramp_0 : decode cL_ramp 0 = .ok (.aload 4, 2) := by decide +kernel
theorem dL_ramp_2 : decode cL_ramp 2 = .ok (.iconst 0, 1) := by decide +kernel
theorem dL_ramp_3 : decode cL_ramp 3 = .ok (.aload_n 0, 1) := by decide +kernel
theorem dL_ramp_4 : decode cL_ramp 4 = .ok (.iload_n 1, 1) := by decide +kernel
theorem dL_ramp_5 : decode cL_ramp 5 = .ok (.iload_n 2, 1) := by decide +kernel
theorem dL_ramp_6 : decode cL_ramp 6 = .ok (.iload_n 3, 1) := by decide +kernel
theorem dL_ramp_7 : decode cL_ramp 7 = .ok (.invokevirtual 25, 3) := by decide +kernel
theorem dL_ramp_10 : decode cL_ramp 10 = .ok (.i2l, 1) := by decide +kernel
theorem dL_ramp_11 : decode cL_ramp 11 = .ok (.lastore, 1) := by decide +kernel
theorem dL_ramp_12 : decode cL_ramp 12 = .ok (.goto 7, 3) := by decide +kernel
theorem dL_ramp_15 : decode cL_ramp 15 = .ok (.astore 5, 2) := by decide +kernel
theorem dL_ramp_17 : decode cL_ramp 17 = .ok (.iconst 1, 1) := by decide +kernel
theorem dL_ramp_18 : decode cL_ramp 18 = .ok (.ireturn, 1) := by decide +kernel
theorem dL_ramp_19 : decode cL_ramp 19 = .ok (.iconst 0, 1) := by decide +kernel
theorem dL_ramp_20 : decode cL_ramp 20 = .ok (.ireturn, 1) := by decide +kernel
theorem dL_pixel_0 : decode cL_pixel 0 = .ok (.aload_n 3, 1) := by decide +kernel
theorem dL_pixel_1 : decode cL_pixel 1 = .ok (.iconst 0, 1) := by decide +kernel
theorem dL_pixel_2 : decode cL_pixel 2 = .ok (.aload_n 0, 1) := by decide +kernel
theorem dL_pixel_3 : decode cL_pixel 3 = .ok (.iload_n 1, 1) := by decide +kernel
theorem dL_pixel_4 : decode cL_pixel 4 = .ok (.iload_n 2, 1) := by decide +kernel
theorem dL_pixel_5 : decode cL_pixel 5 = .ok (.invokevirtual 28, 3) := by decide +kernel
theorem dL_pixel_8 : decode cL_pixel 8 = .ok (.i2l, 1) := by decide +kernel
theorem dL_pixel_9 : decode cL_pixel 9 = .ok (.lastore, 1) := by decide +kernel
theorem dL_pixel_10 : decode cL_pixel 10 = .ok (.goto 7, 3) := by decide +kernel
theorem dL_pixel_13 : decode cL_pixel 13 = .ok (.astore 4, 2) := by decide +kernel
theorem dL_pixel_15 : decode cL_pixel 15 = .ok (.iconst 1, 1) := by decide +kernel
theorem dL_pixel_16 : decode cL_pixel 16 = .ok (.ireturn, 1) := by decide +kernel
theorem dL_pixel_17 : decode cL_pixel 17 = .ok (.iconst 0, 1) := by decide +kernel
theorem dL_pixel_18 : decode cL_pixel 18 = .ok (.ireturn, 1) := by decide +kernel
theorem dL_setSteps_0 : decode cL_setSteps 0 = .ok (.aload 4, 2) := by decide +kernel
theorem dL_setSteps_2 : decode cL_setSteps 2 = .ok (.iconst 0, 1) := by decide +kernel
theorem dL_setSteps_3 : decode cL_setSteps 3 = .ok (.aload_n 0, 1) := by decide +kernel
theorem dL_setSteps_4 : decode cL_setSteps 4 = .ok (.iload_n 1, 1) := by decide +kernel
theorem dL_setSteps_5 : decode cL_setSteps 5 = .ok (.iload_n 2, 1) := by decide +kernel
theorem dL_setSteps_6 : decode cL_setSteps 6 = .ok (.iload_n 3, 1) := by decide +kernel
theorem dL_setSteps_7 : decode cL_setSteps 7 = .ok (.invokevirtual 31, 3) := by decide +kernel
theorem dL_setSteps_10 : decode cL_setSteps 10 = .ok (.i2l, 1) := by decide +kernel
theorem dL_setSteps_11 : decode cL_setSteps 11 = .ok (.lastore, 1) := by decide +kernel
theorem dL_setSteps_12 : decode cL_setSteps 12 = .ok (.goto 7, 3) := by decide +kernel
theorem dL_setSteps_15 : decode cL_setSteps 15 = .ok (.astore 5, 2) := by decide +kernel
theorem dL_setSteps_17 : decode cL_setSteps 17 = .ok (.iconst 1, 1) := by decide +kernel
theorem dL_setSteps_18 : decode cL_setSteps 18 = .ok (.ireturn, 1) := by decide +kernel
theorem dL_setSteps_19 : decode cL_setSteps 19 = .ok (.iconst 0, 1) := by decide +kernel
theorem dL_setSteps_20 : decode cL_setSteps 20 = .ok (.ireturn, 1) := by decide +kernel
theorem dL_byteAt_0 : decode cL_byteAt 0 = .ok (.aload_n 2, 1) := by decide +kernel
theorem dL_byteAt_1 : decode cL_byteAt 1 = .ok (.iconst 0, 1) := by decide +kernel
theorem dL_byteAt_2 : decode cL_byteAt 2 = .ok (.aload_n 0, 1) := by decide +kernel
theorem dL_byteAt_3 : decode cL_byteAt 3 = .ok (.iload_n 1, 1) := by decide +kernel
theorem dL_byteAt_4 : decode cL_byteAt 4 = .ok (.invokevirtual 34, 3) := by decide +kernel
theorem dL_byteAt_7 : decode cL_byteAt 7 = .ok (.i2l, 1) := by decide +kernel
theorem dL_byteAt_8 : decode cL_byteAt 8 = .ok (.lastore, 1) := by decide +kernel
theorem dL_byteAt_9 : decode cL_byteAt 9 = .ok (.goto 6, 3) := by decide +kernel
theorem dL_byteAt_12 : decode cL_byteAt 12 = .ok (.astore_n 3, 1) := by decide +kernel
theorem dL_byteAt_13 : decode cL_byteAt 13 = .ok (.iconst 1, 1) := by decide +kernel
theorem dL_byteAt_14 : decode cL_byteAt 14 = .ok (.ireturn, 1) := by decide +kernel
theorem dL_byteAt_15 : decode cL_byteAt 15 = .ok (.iconst 0, 1) := by decide +kernel
theorem dL_byteAt_16 : decode cL_byteAt 16 = .ok (.ireturn, 1) := by decide +kernel
theorem dL_setByte_0 : decode cL_setByte 0 = .ok (.aload_n 3, 1) := by decide +kernel
theorem dL_setByte_1 : decode cL_setByte 1 = .ok (.iconst 0, 1) := by decide +kernel
theorem dL_setByte_2 : decode cL_setByte 2 = .ok (.aload_n 0, 1) := by decide +kernel
theorem dL_setByte_3 : decode cL_setByte 3 = .ok (.iload_n 1, 1) := by decide +kernel
theorem dL_setByte_4 : decode cL_setByte 4 = .ok (.iload_n 2, 1) := by decide +kernel
theorem dL_setByte_5 : decode cL_setByte 5 = .ok (.invokevirtual 38, 3) := by decide +kernel
theorem dL_setByte_8 : decode cL_setByte 8 = .ok (.i2l, 1) := by decide +kernel
theorem dL_setByte_9 : decode cL_setByte 9 = .ok (.lastore, 1) := by decide +kernel
theorem dL_setByte_10 : decode cL_setByte 10 = .ok (.goto 11, 3) := by decide +kernel
theorem dL_setByte_13 : decode cL_setByte 13 = .ok (.astore 4, 2) := by decide +kernel
theorem dL_setByte_15 : decode cL_setByte 15 = .ok (.iconst 1, 1) := by decide +kernel
theorem dL_setByte_16 : decode cL_setByte 16 = .ok (.ireturn, 1) := by decide +kernel
theorem dL_setByte_17 : decode cL_setByte 17 = .ok (.astore 4, 2) := by decide +kernel
theorem dL_setByte_19 : decode cL_setByte 19 = .ok (.iconst 2, 1) := by decide +kernel
theorem dL_setByte_20 : decode cL_setByte 20 = .ok (.ireturn, 1) := by decide +kernel
theorem dL_setByte_21 : decode cL_setByte 21 = .ok (.iconst 0, 1) := by decide +kernel
theorem dL_setByte_22 : decode cL_setByte 22 = .ok (.ireturn, 1) := by decide +kernel
theorem dL_cut_0 : decode cL_cut 0 = .ok (.aload_n 2, 1) := by decide +kernel
theorem dL_cut_1 : decode cL_cut 1 = .ok (.iconst 0, 1) := by decide +kernel
theorem dL_cut_2 : decode cL_cut 2 = .ok (.aload_n 0, 1) := by decide +kernel
theorem dL_cut_3 : decode cL_cut 3 = .ok (.iload_n 1, 1) := by decide +kernel
theorem dL_cut_4 : decode cL_cut 4 = .ok (.invokevirtual 41, 3) := by decide +kernel
theorem dL_cut_7 : decode cL_cut 7 = .ok (.i2l, 1) := by decide +kernel
theorem dL_cut_8 : decode cL_cut 8 = .ok (.lastore, 1) := by decide +kernel
theorem dL_cut_9 : decode cL_cut 9 = .ok (.goto 6, 3) := by decide +kernel
theorem dL_cut_12 : decode cL_cut 12 = .ok (.astore_n 3, 1) := by decide +kernel
theorem dL_cut_13 : decode cL_cut 13 = .ok (.iconst 1, 1) := by decide +kernel
theorem dL_cut_14 : decode cL_cut 14 = .ok (.ireturn, 1) := by decide +kernel
theorem dL_cut_15 : decode cL_cut 15 = .ok (.iconst 0, 1) := by decide +kernel
theorem dL_cut_16 : decode cL_cut 16 = .ok (.ireturn, 1) := by decide +kernel
theorem dL_decode_0 : decode cL_decode 0 = .ok (.aload_n 2, 1) := by decide +kernel
theorem dL_decode_1 : decode cL_decode 1 = .ok (.iconst 0, 1) := by decide +kernel
theorem dL_decode_2 : decode cL_decode 2 = .ok (.aload_n 0, 1) := by decide +kernel
theorem dL_decode_3 : decode cL_decode 3 = .ok (.iload_n 1, 1) := by decide +kernel
theorem dL_decode_4 : decode cL_decode 4 = .ok (.invokevirtual 44, 3) := by decide +kernel
theorem dL_decode_7 : decode cL_decode 7 = .ok (.i2l, 1) := by decide +kernel
theorem dL_decode_8 : decode cL_decode 8 = .ok (.lastore, 1) := by decide +kernel
theorem dL_decode_9 : decode cL_decode 9 = .ok (.goto 9, 3) := by decide +kernel
theorem dL_decode_12 : decode cL_decode 12 = .ok (.astore_n 3, 1) := by decide +kernel
theorem dL_decode_13 : decode cL_decode 13 = .ok (.iconst 1, 1) := by decide +kernel
theorem dL_decode_14 : decode cL_decode 14 = .ok (.ireturn, 1) := by decide +kernel
theorem dL_decode_15 : decode cL_decode 15 = .ok (.astore_n 3, 1) := by decide +kernel
theorem dL_decode_16 : decode cL_decode 16 = .ok (.iconst 2, 1) := by decide +kernel
theorem dL_decode_17 : decode cL_decode 17 = .ok (.ireturn, 1) := by decide +kernel
theorem dL_decode_18 : decode cL_decode 18 = .ok (.iconst 0, 1) := by decide +kernel
theorem dL_decode_19 : decode cL_decode 19 = .ok (.ireturn, 1) := by decide +kernel
theorem dL_decodedWidth_0 : decode cL_decodedWidth 0 = .ok (.aload_n 1, 1) := by decide +kernel
theorem dL_decodedWidth_1 : decode cL_decodedWidth 1 = .ok (.iconst 0, 1) := by decide +kernel
theorem dL_decodedWidth_2 : decode cL_decodedWidth 2 = .ok (.aload_n 0, 1) := by decide +kernel
theorem dL_decodedWidth_3 : decode cL_decodedWidth 3 = .ok (.invokevirtual 49, 3) := by decide +kernel
theorem dL_decodedWidth_6 : decode cL_decodedWidth 6 = .ok (.i2l, 1) := by decide +kernel
theorem dL_decodedWidth_7 : decode cL_decodedWidth 7 = .ok (.lastore, 1) := by decide +kernel
theorem dL_decodedWidth_8 : decode cL_decodedWidth 8 = .ok (.goto 6, 3) := by decide +kernel
theorem dL_decodedWidth_11 : decode cL_decodedWidth 11 = .ok (.astore_n 2, 1) := by decide +kernel
theorem dL_decodedWidth_12 : decode cL_decodedWidth 12 = .ok (.iconst 1, 1) := by decide +kernel
theorem dL_decodedWidth_13 : decode cL_decodedWidth 13 = .ok (.ireturn, 1) := by decide +kernel
theorem dL_decodedWidth_14 : decode cL_decodedWidth 14 = .ok (.iconst 0, 1) := by decide +kernel
theorem dL_decodedWidth_15 : decode cL_decodedWidth 15 = .ok (.ireturn, 1) := by decide +kernel
theorem dL_decodedHeight_0 : decode cL_decodedHeight 0 = .ok (.aload_n 1, 1) := by decide +kernel
theorem dL_decodedHeight_1 : decode cL_decodedHeight 1 = .ok (.iconst 0, 1) := by decide +kernel
theorem dL_decodedHeight_2 : decode cL_decodedHeight 2 = .ok (.aload_n 0, 1) := by decide +kernel
theorem dL_decodedHeight_3 : decode cL_decodedHeight 3 = .ok (.invokevirtual 55, 3) := by decide +kernel
theorem dL_decodedHeight_6 : decode cL_decodedHeight 6 = .ok (.i2l, 1) := by decide +kernel
theorem dL_decodedHeight_7 : decode cL_decodedHeight 7 = .ok (.lastore, 1) := by decide +kernel
theorem dL_decodedHeight_8 : decode cL_decodedHeight 8 = .ok (.goto 6, 3) := by decide +kernel
theorem dL_decodedHeight_11 : decode cL_decodedHeight 11 = .ok (.astore_n 2, 1) := by decide +kernel
theorem dL_decodedHeight_12 : decode cL_decodedHeight 12 = .ok (.iconst 1, 1) := by decide +kernel
theorem dL_decodedHeight_13 : decode cL_decodedHeight 13 = .ok (.ireturn, 1) := by decide +kernel
theorem dL_decodedHeight_14 : decode cL_decodedHeight 14 = .ok (.iconst 0, 1) := by decide +kernel
theorem dL_decodedHeight_15 : decode cL_decodedHeight 15 = .ok (.ireturn, 1) := by decide +kernel
theorem dL_decodedPixel_0 : decode cL_decodedPixel 0 = .ok (.aload_n 3, 1) := by decide +kernel
theorem dL_decodedPixel_1 : decode cL_decodedPixel 1 = .ok (.iconst 0, 1) := by decide +kernel
theorem dL_decodedPixel_2 : decode cL_decodedPixel 2 = .ok (.aload_n 0, 1) := by decide +kernel
theorem dL_decodedPixel_3 : decode cL_decodedPixel 3 = .ok (.iload_n 1, 1) := by decide +kernel
theorem dL_decodedPixel_4 : decode cL_decodedPixel 4 = .ok (.iload_n 2, 1) := by decide +kernel
theorem dL_decodedPixel_5 : decode cL_decodedPixel 5 = .ok (.invokevirtual 58, 3) := by decide +kernel
theorem dL_decodedPixel_8 : decode cL_decodedPixel 8 = .ok (.i2l, 1) := by decide +kernel
theorem dL_decodedPixel_9 : decode cL_decodedPixel 9 = .ok (.lastore, 1) := by decide +kernel
theorem dL_decodedPixel_10 : decode cL_decodedPixel 10 = .ok (.goto 11, 3) := by decide +kernel
theorem dL_decodedPixel_13 : decode cL_decodedPixel 13 = .ok (.astore 4, 2) := by decide +kernel
theorem dL_decodedPixel_15 : decode cL_decodedPixel 15 = .ok (.iconst 1, 1) := by decide +kernel
theorem dL_decodedPixel_16 : decode cL_decodedPixel 16 = .ok (.ireturn, 1) := by decide +kernel
theorem dL_decodedPixel_17 : decode cL_decodedPixel 17 = .ok (.astore 4, 2) := by decide +kernel
theorem dL_decodedPixel_19 : decode cL_decodedPixel 19 = .ok (.iconst 2, 1) := by decide +kernel
theorem dL_decodedPixel_20 : decode cL_decodedPixel 20 = .ok (.ireturn, 1) := by decide +kernel
theorem dL_decodedPixel_21 : decode cL_decodedPixel 21 = .ok (.iconst 0, 1) := by decide +kernel
theorem dL_decodedPixel_22 : decode cL_decodedPixel 22 = .ok (.ireturn, 1) := by decide +kernel
theorem dL_fault_0 : decode cL_fault 0 = .ok (.aload_n 2, 1) := by decide +kernel
theorem dL_fault_1 : decode cL_fault 1 = .ok (.iconst 0, 1) := by decide +kernel
theorem dL_fault_2 : decode cL_fault 2 = .ok (.aload_n 0, 1) := by decide +kernel
theorem dL_fault_3 : decode cL_fault 3 = .ok (.iload_n 1, 1) := by decide +kernel
theorem dL_fault_4 : decode cL_fault 4 = .ok (.invokevirtual 61, 3) := by decide +kernel
theorem dL_fault_7 : decode cL_fault 7 = .ok (.i2l, 1) := by decide +kernel
theorem dL_fault_8 : decode cL_fault 8 = .ok (.lastore, 1) := by decide +kernel
theorem dL_fault_9 : decode cL_fault 9 = .ok (.goto 9, 3) := by decide +kernel
theorem dL_fault_12 : decode cL_fault 12 = .ok (.astore_n 3, 1) := by decide +kernel
theorem dL_fault_13 : decode cL_fault 13 = .ok (.iconst 1, 1) := by decide +kernel
theorem dL_fault_14 : decode cL_fault 14 = .ok (.ireturn, 1) := by decide +kernel
theorem dL_fault_15 : decode cL_fault 15 = .ok (.astore_n 3, 1) := by decide +kernel
theorem dL_fault_16 : decode cL_fault 16 = .ok (.iconst 2, 1) := by decide +kernel
theorem dL_fault_17 : decode cL_fault 17 = .ok (.ireturn, 1) := by decide +kernel
theorem dL_fault_18 : decode cL_fault 18 = .ok (.iconst 0, 1) := by decide +kernel
theorem dL_fault_19 : decode cL_fault 19 = .ok (.ireturn, 1) := by decide +kernel
theorem dL_layersUsed_0 : decode cL_layersUsed 0 = .ok (.aload_n 2, 1) := by decide +kernel
theorem dL_layersUsed_1 : decode cL_layersUsed 1 = .ok (.iconst 0, 1) := by decide +kernel
theorem dL_layersUsed_2 : decode cL_layersUsed 2 = .ok (.aload_n 0, 1) := by decide +kernel
theorem dL_layersUsed_3 : decode cL_layersUsed 3 = .ok (.iload_n 1, 1) := by decide +kernel
theorem dL_layersUsed_4 : decode cL_layersUsed 4 = .ok (.invokevirtual 65, 3) := by decide +kernel
theorem dL_layersUsed_7 : decode cL_layersUsed 7 = .ok (.i2l, 1) := by decide +kernel
theorem dL_layersUsed_8 : decode cL_layersUsed 8 = .ok (.lastore, 1) := by decide +kernel
theorem dL_layersUsed_9 : decode cL_layersUsed 9 = .ok (.goto 9, 3) := by decide +kernel
theorem dL_layersUsed_12 : decode cL_layersUsed 12 = .ok (.astore_n 3, 1) := by decide +kernel
theorem dL_layersUsed_13 : decode cL_layersUsed 13 = .ok (.iconst 1, 1) := by decide +kernel
theorem dL_layersUsed_14 : decode cL_layersUsed 14 = .ok (.ireturn, 1) := by decide +kernel
theorem dL_layersUsed_15 : decode cL_layersUsed 15 = .ok (.astore_n 3, 1) := by decide +kernel
theorem dL_layersUsed_16 : decode cL_layersUsed 16 = .ok (.iconst 2, 1) := by decide +kernel
theorem dL_layersUsed_17 : decode cL_layersUsed 17 = .ok (.ireturn, 1) := by decide +kernel
theorem dL_layersUsed_18 : decode cL_layersUsed 18 = .ok (.iconst 0, 1) := by decide +kernel
theorem dL_layersUsed_19 : decode cL_layersUsed 19 = .ok (.ireturn, 1) := by decide +kernel
theorem dL_isSame_0 : decode cL_isSame 0 = .ok (.aload_n 1, 1) := by decide +kernel
theorem dL_isSame_1 : decode cL_isSame 1 = .ok (.iconst 0, 1) := by decide +kernel
theorem dL_isSame_2 : decode cL_isSame 2 = .ok (.aload_n 0, 1) := by decide +kernel
theorem dL_isSame_3 : decode cL_isSame 3 = .ok (.invokevirtual 68, 3) := by decide +kernel
theorem dL_isSame_6 : decode cL_isSame 6 = .ok (.ifCond .eq 7, 3) := by decide +kernel
theorem dL_isSame_9 : decode cL_isSame 9 = .ok (.lconst 1, 1) := by decide +kernel
theorem dL_isSame_10 : decode cL_isSame 10 = .ok (.goto 4, 3) := by decide +kernel
theorem dL_isSame_13 : decode cL_isSame 13 = .ok (.lconst 0, 1) := by decide +kernel
theorem dL_isSame_14 : decode cL_isSame 14 = .ok (.lastore, 1) := by decide +kernel
theorem dL_isSame_15 : decode cL_isSame 15 = .ok (.goto 6, 3) := by decide +kernel
theorem dL_isSame_18 : decode cL_isSame 18 = .ok (.astore_n 2, 1) := by decide +kernel
theorem dL_isSame_19 : decode cL_isSame 19 = .ok (.iconst 1, 1) := by decide +kernel
theorem dL_isSame_20 : decode cL_isSame 20 = .ok (.ireturn, 1) := by decide +kernel
theorem dL_isSame_21 : decode cL_isSame 21 = .ok (.iconst 0, 1) := by decide +kernel
theorem dL_isSame_22 : decode cL_isSame 22 = .ok (.ireturn, 1) := by decide +kernel
theorem dL_squaredError_0 : decode cL_squaredError 0 = .ok (.aload_n 1, 1) := by decide +kernel
theorem dL_squaredError_1 : decode cL_squaredError 1 = .ok (.iconst 0, 1) := by decide +kernel
theorem dL_squaredError_2 : decode cL_squaredError 2 = .ok (.aload_n 0, 1) := by decide +kernel
theorem dL_squaredError_3 : decode cL_squaredError 3 = .ok (.invokevirtual 72, 3) := by decide +kernel
theorem dL_squaredError_6 : decode cL_squaredError 6 = .ok (.i2l, 1) := by decide +kernel
theorem dL_squaredError_7 : decode cL_squaredError 7 = .ok (.lastore, 1) := by decide +kernel
theorem dL_squaredError_8 : decode cL_squaredError 8 = .ok (.goto 9, 3) := by decide +kernel
theorem dL_squaredError_11 : decode cL_squaredError 11 = .ok (.astore_n 2, 1) := by decide +kernel
theorem dL_squaredError_12 : decode cL_squaredError 12 = .ok (.iconst 1, 1) := by decide +kernel
theorem dL_squaredError_13 : decode cL_squaredError 13 = .ok (.ireturn, 1) := by decide +kernel
theorem dL_squaredError_14 : decode cL_squaredError 14 = .ok (.astore_n 2, 1) := by decide +kernel
theorem dL_squaredError_15 : decode cL_squaredError 15 = .ok (.iconst 2, 1) := by decide +kernel
theorem dL_squaredError_16 : decode cL_squaredError 16 = .ok (.ireturn, 1) := by decide +kernel
theorem dL_squaredError_17 : decode cL_squaredError 17 = .ok (.iconst 0, 1) := by decide +kernel
theorem dL_squaredError_18 : decode cL_squaredError 18 = .ok (.ireturn, 1) := by decide +kernel
theorem dL_greatestError_0 : decode cL_greatestError 0 = .ok (.aload_n 1, 1) := by decide +kernel
theorem dL_greatestError_1 : decode cL_greatestError 1 = .ok (.iconst 0, 1) := by decide +kernel
theorem dL_greatestError_2 : decode cL_greatestError 2 = .ok (.aload_n 0, 1) := by decide +kernel
theorem dL_greatestError_3 : decode cL_greatestError 3 = .ok (.invokevirtual 75, 3) := by decide +kernel
theorem dL_greatestError_6 : decode cL_greatestError 6 = .ok (.i2l, 1) := by decide +kernel
theorem dL_greatestError_7 : decode cL_greatestError 7 = .ok (.lastore, 1) := by decide +kernel
theorem dL_greatestError_8 : decode cL_greatestError 8 = .ok (.goto 9, 3) := by decide +kernel
theorem dL_greatestError_11 : decode cL_greatestError 11 = .ok (.astore_n 2, 1) := by decide +kernel
theorem dL_greatestError_12 : decode cL_greatestError 12 = .ok (.iconst 1, 1) := by decide +kernel
theorem dL_greatestError_13 : decode cL_greatestError 13 = .ok (.ireturn, 1) := by decide +kernel
theorem dL_greatestError_14 : decode cL_greatestError 14 = .ok (.astore_n 2, 1) := by decide +kernel
theorem dL_greatestError_15 : decode cL_greatestError 15 = .ok (.iconst 2, 1) := by decide +kernel
theorem dL_greatestError_16 : decode cL_greatestError 16 = .ok (.ireturn, 1) := by decide +kernel
theorem dL_greatestError_17 : decode cL_greatestError 17 = .ok (.iconst 0, 1) := by decide +kernel
theorem dL_greatestError_18 : decode cL_greatestError 18 = .ok (.ireturn, 1) := by decide +kernel
theorem dL_blocks_0 : decode cL_blocks 0 = .ok (.aload_n 2, 1) := by decide +kernel
theorem dL_blocks_1 : decode cL_blocks 1 = .ok (.iconst 0, 1) := by decide +kernel
theorem dL_blocks_2 : decode cL_blocks 2 = .ok (.aload_n 0, 1) := by decide +kernel
theorem dL_blocks_3 : decode cL_blocks 3 = .ok (.iload_n 1, 1) := by decide +kernel
theorem dL_blocks_4 : decode cL_blocks 4 = .ok (.invokevirtual 78, 3) := by decide +kernel
theorem dL_blocks_7 : decode cL_blocks 7 = .ok (.i2l, 1) := by decide +kernel
theorem dL_blocks_8 : decode cL_blocks 8 = .ok (.lastore, 1) := by decide +kernel
theorem dL_blocks_9 : decode cL_blocks 9 = .ok (.goto 9, 3) := by decide +kernel
theorem dL_blocks_12 : decode cL_blocks 12 = .ok (.astore_n 3, 1) := by decide +kernel
theorem dL_blocks_13 : decode cL_blocks 13 = .ok (.iconst 1, 1) := by decide +kernel
theorem dL_blocks_14 : decode cL_blocks 14 = .ok (.ireturn, 1) := by decide +kernel
theorem dL_blocks_15 : decode cL_blocks 15 = .ok (.astore_n 3, 1) := by decide +kernel
theorem dL_blocks_16 : decode cL_blocks 16 = .ok (.iconst 2, 1) := by decide +kernel
theorem dL_blocks_17 : decode cL_blocks 17 = .ok (.ireturn, 1) := by decide +kernel
theorem dL_blocks_18 : decode cL_blocks 18 = .ok (.iconst 0, 1) := by decide +kernel
theorem dL_blocks_19 : decode cL_blocks 19 = .ok (.ireturn, 1) := by decide +kernel
theorem dL_blockSize_0 : decode cL_blockSize 0 = .ok (.aload 4, 2) := by decide +kernel
theorem dL_blockSize_2 : decode cL_blockSize 2 = .ok (.iconst 0, 1) := by decide +kernel
theorem dL_blockSize_3 : decode cL_blockSize 3 = .ok (.aload_n 0, 1) := by decide +kernel
theorem dL_blockSize_4 : decode cL_blockSize 4 = .ok (.iload_n 1, 1) := by decide +kernel
theorem dL_blockSize_5 : decode cL_blockSize 5 = .ok (.iload_n 2, 1) := by decide +kernel
theorem dL_blockSize_6 : decode cL_blockSize 6 = .ok (.iload_n 3, 1) := by decide +kernel
theorem dL_blockSize_7 : decode cL_blockSize 7 = .ok (.invokevirtual 81, 3) := by decide +kernel
theorem dL_blockSize_10 : decode cL_blockSize 10 = .ok (.i2l, 1) := by decide +kernel
theorem dL_blockSize_11 : decode cL_blockSize 11 = .ok (.lastore, 1) := by decide +kernel
theorem dL_blockSize_12 : decode cL_blockSize 12 = .ok (.goto 11, 3) := by decide +kernel
theorem dL_blockSize_15 : decode cL_blockSize 15 = .ok (.astore 5, 2) := by decide +kernel
theorem dL_blockSize_17 : decode cL_blockSize 17 = .ok (.iconst 1, 1) := by decide +kernel
theorem dL_blockSize_18 : decode cL_blockSize 18 = .ok (.ireturn, 1) := by decide +kernel
theorem dL_blockSize_19 : decode cL_blockSize 19 = .ok (.astore 5, 2) := by decide +kernel
theorem dL_blockSize_21 : decode cL_blockSize 21 = .ok (.iconst 2, 1) := by decide +kernel
theorem dL_blockSize_22 : decode cL_blockSize 22 = .ok (.ireturn, 1) := by decide +kernel
theorem dL_blockSize_23 : decode cL_blockSize 23 = .ok (.iconst 0, 1) := by decide +kernel
theorem dL_blockSize_24 : decode cL_blockSize 24 = .ok (.ireturn, 1) := by decide +kernel
theorem dL_mode_0 : decode cL_mode 0 = .ok (.aload 4, 2) := by decide +kernel
theorem dL_mode_2 : decode cL_mode 2 = .ok (.iconst 0, 1) := by decide +kernel
theorem dL_mode_3 : decode cL_mode 3 = .ok (.aload_n 0, 1) := by decide +kernel
theorem dL_mode_4 : decode cL_mode 4 = .ok (.iload_n 1, 1) := by decide +kernel
theorem dL_mode_5 : decode cL_mode 5 = .ok (.iload_n 2, 1) := by decide +kernel
theorem dL_mode_6 : decode cL_mode 6 = .ok (.iload_n 3, 1) := by decide +kernel
theorem dL_mode_7 : decode cL_mode 7 = .ok (.invokevirtual 84, 3) := by decide +kernel
theorem dL_mode_10 : decode cL_mode 10 = .ok (.i2l, 1) := by decide +kernel
theorem dL_mode_11 : decode cL_mode 11 = .ok (.lastore, 1) := by decide +kernel
theorem dL_mode_12 : decode cL_mode 12 = .ok (.goto 11, 3) := by decide +kernel
theorem dL_mode_15 : decode cL_mode 15 = .ok (.astore 5, 2) := by decide +kernel
theorem dL_mode_17 : decode cL_mode 17 = .ok (.iconst 1, 1) := by decide +kernel
theorem dL_mode_18 : decode cL_mode 18 = .ok (.ireturn, 1) := by decide +kernel
theorem dL_mode_19 : decode cL_mode 19 = .ok (.astore 5, 2) := by decide +kernel
theorem dL_mode_21 : decode cL_mode 21 = .ok (.iconst 2, 1) := by decide +kernel
theorem dL_mode_22 : decode cL_mode 22 = .ok (.ireturn, 1) := by decide +kernel
theorem dL_mode_23 : decode cL_mode 23 = .ok (.iconst 0, 1) := by decide +kernel
theorem dL_mode_24 : decode cL_mode 24 = .ok (.ireturn, 1) := by decide +kernel
theorem dL_level_0 : decode cL_level 0 = .ok (.aload 4, 2) := by decide +kernel
theorem dL_level_2 : decode cL_level 2 = .ok (.iconst 0, 1) := by decide +kernel
theorem dL_level_3 : decode cL_level 3 = .ok (.aload_n 0, 1) := by decide +kernel
theorem dL_level_4 : decode cL_level 4 = .ok (.iload_n 1, 1) := by decide +kernel
theorem dL_level_5 : decode cL_level 5 = .ok (.iload_n 2, 1) := by decide +kernel
theorem dL_level_6 : decode cL_level 6 = .ok (.iload_n 3, 1) := by decide +kernel
theorem dL_level_7 : decode cL_level 7 = .ok (.invokevirtual 88, 3) := by decide +kernel
theorem dL_level_10 : decode cL_level 10 = .ok (.i2l, 1) := by decide +kernel
theorem dL_level_11 : decode cL_level 11 = .ok (.lastore, 1) := by decide +kernel
theorem dL_level_12 : decode cL_level 12 = .ok (.goto 11, 3) := by decide +kernel
theorem dL_level_15 : decode cL_level 15 = .ok (.astore 5, 2) := by decide +kernel
theorem dL_level_17 : decode cL_level 17 = .ok (.iconst 1, 1) := by decide +kernel
theorem dL_level_18 : decode cL_level 18 = .ok (.ireturn, 1) := by decide +kernel
theorem dL_level_19 : decode cL_level 19 = .ok (.astore 5, 2) := by decide +kernel
theorem dL_level_21 : decode cL_level 21 = .ok (.iconst 2, 1) := by decide +kernel
theorem dL_level_22 : decode cL_level 22 = .ok (.ireturn, 1) := by decide +kernel
theorem dL_level_23 : decode cL_level 23 = .ok (.iconst 0, 1) := by decide +kernel
theorem dL_level_24 : decode cL_level 24 = .ok (.ireturn, 1) := by decide +kernel
theorem dL_cost_0 : decode cL_cost 0 = .ok (.aload 4, 2) := by decide +kernel
theorem dL_cost_2 : decode cL_cost 2 = .ok (.iconst 0, 1) := by decide +kernel
theorem dL_cost_3 : decode cL_cost 3 = .ok (.aload_n 0, 1) := by decide +kernel
theorem dL_cost_4 : decode cL_cost 4 = .ok (.iload_n 1, 1) := by decide +kernel
theorem dL_cost_5 : decode cL_cost 5 = .ok (.iload_n 2, 1) := by decide +kernel
theorem dL_cost_6 : decode cL_cost 6 = .ok (.iload_n 3, 1) := by decide +kernel
theorem dL_cost_7 : decode cL_cost 7 = .ok (.invokevirtual 91, 3) := by decide +kernel
theorem dL_cost_10 : decode cL_cost 10 = .ok (.i2l, 1) := by decide +kernel
theorem dL_cost_11 : decode cL_cost 11 = .ok (.lastore, 1) := by decide +kernel
theorem dL_cost_12 : decode cL_cost 12 = .ok (.goto 11, 3) := by decide +kernel
theorem dL_cost_15 : decode cL_cost 15 = .ok (.astore 5, 2) := by decide +kernel
theorem dL_cost_17 : decode cL_cost 17 = .ok (.iconst 1, 1) := by decide +kernel
theorem dL_cost_18 : decode cL_cost 18 = .ok (.ireturn, 1) := by decide +kernel
theorem dL_cost_19 : decode cL_cost 19 = .ok (.astore 5, 2) := by decide +kernel
theorem dL_cost_21 : decode cL_cost 21 = .ok (.iconst 2, 1) := by decide +kernel
theorem dL_cost_22 : decode cL_cost 22 = .ok (.ireturn, 1) := by decide +kernel
theorem dL_cost_23 : decode cL_cost 23 = .ok (.iconst 0, 1) := by decide +kernel
theorem dL_cost_24 : decode cL_cost 24 = .ok (.ireturn, 1) := by decide +kernel
theorem dL_partSize_0 : decode cL_partSize 0 = .ok (.aload_n 3, 1) := by decide +kernel
theorem dL_partSize_1 : decode cL_partSize 1 = .ok (.iconst 0, 1) := by decide +kernel
theorem dL_partSize_2 : decode cL_partSize 2 = .ok (.aload_n 0, 1) := by decide +kernel
theorem dL_partSize_3 : decode cL_partSize 3 = .ok (.iload_n 1, 1) := by decide +kernel
theorem dL_partSize_4 : decode cL_partSize 4 = .ok (.iload_n 2, 1) := by decide +kernel
theorem dL_partSize_5 : decode cL_partSize 5 = .ok (.invokevirtual 94, 3) := by decide +kernel
theorem dL_partSize_8 : decode cL_partSize 8 = .ok (.i2l, 1) := by decide +kernel
theorem dL_partSize_9 : decode cL_partSize 9 = .ok (.lastore, 1) := by decide +kernel
theorem dL_partSize_10 : decode cL_partSize 10 = .ok (.goto 11, 3) := by decide +kernel
theorem dL_partSize_13 : decode cL_partSize 13 = .ok (.astore 4, 2) := by decide +kernel
theorem dL_partSize_15 : decode cL_partSize 15 = .ok (.iconst 1, 1) := by decide +kernel
theorem dL_partSize_16 : decode cL_partSize 16 = .ok (.ireturn, 1) := by decide +kernel
theorem dL_partSize_17 : decode cL_partSize 17 = .ok (.astore 4, 2) := by decide +kernel
theorem dL_partSize_19 : decode cL_partSize 19 = .ok (.iconst 2, 1) := by decide +kernel
theorem dL_partSize_20 : decode cL_partSize 20 = .ok (.ireturn, 1) := by decide +kernel
theorem dL_partSize_21 : decode cL_partSize 21 = .ok (.iconst 0, 1) := by decide +kernel
theorem dL_partSize_22 : decode cL_partSize 22 = .ok (.ireturn, 1) := by decide +kernel
theorem dL_ratio_0 : decode cL_ratio 0 = .ok (.aload_n 1, 1) := by decide +kernel
theorem dL_ratio_1 : decode cL_ratio 1 = .ok (.iconst 0, 1) := by decide +kernel
theorem dL_ratio_2 : decode cL_ratio 2 = .ok (.aload_n 0, 1) := by decide +kernel
theorem dL_ratio_3 : decode cL_ratio 3 = .ok (.invokevirtual 97, 3) := by decide +kernel
theorem dL_ratio_6 : decode cL_ratio 6 = .ok (.f2d, 1) := by decide +kernel
theorem dL_ratio_7 : decode cL_ratio 7 = .ok (.dastore, 1) := by decide +kernel
theorem dL_ratio_8 : decode cL_ratio 8 = .ok (.goto 6, 3) := by decide +kernel
theorem dL_ratio_11 : decode cL_ratio 11 = .ok (.astore_n 2, 1) := by decide +kernel
theorem dL_ratio_12 : decode cL_ratio 12 = .ok (.iconst 1, 1) := by decide +kernel
theorem dL_ratio_13 : decode cL_ratio 13 = .ok (.ireturn, 1) := by decide +kernel
theorem dL_ratio_14 : decode cL_ratio 14 = .ok (.iconst 0, 1) := by decide +kernel
theorem dL_ratio_15 : decode cL_ratio 15 = .ok (.ireturn, 1) := by decide +kernel
theorem dL_law_0 : decode cL_law 0 = .ok (.new 8, 3) := by decide +kernel
theorem dL_law_3 : decode cL_law 3 = .ok (.dup, 1) := by decide +kernel
theorem dL_law_4 : decode cL_law 4 = .ok (.invokespecial 101, 3) := by decide +kernel
theorem dL_law_7 : decode cL_law 7 = .ok (.astore_n 1, 1) := by decide +kernel
theorem dL_law_8 : decode cL_law 8 = .ok (.new 102, 3) := by decide +kernel
theorem dL_law_11 : decode cL_law 11 = .ok (.dup, 1) := by decide +kernel
theorem dL_law_12 : decode cL_law 12 = .ok (.invokespecial 104, 3) := by decide +kernel
theorem dL_law_15 : decode cL_law 15 = .ok (.astore_n 2, 1) := by decide +kernel
theorem dL_law_16 : decode cL_law 16 = .ok (.iconst 1, 1) := by decide +kernel
theorem dL_law_17 : decode cL_law 17 = .ok (.newarray .long, 2) := by decide +kernel
theorem dL_law_19 : decode cL_law 19 = .ok (.astore_n 3, 1) := by decide +kernel
theorem dL_law_20 : decode cL_law 20 = .ok (.iconst 1, 1) := by decide +kernel
theorem dL_law_21 : decode cL_law 21 = .ok (.newarray .double, 2) := by decide +kernel
theorem dL_law_23 : decode cL_law 23 = .ok (.astore 4, 2) := by decide +kernel
theorem dL_law_25 : decode cL_law 25 = .ok (.iconst 0, 1) := by decide +kernel
theorem dL_law_26 : decode cL_law 26 = .ok (.istore 5, 2) := by decide +kernel
theorem dL_law_28 : decode cL_law 28 = .ok (.iload 5, 2) := by decide +kernel
theorem dL_law_30 : decode cL_law 30 = .ok (.aload_n 0, 1) := by decide +kernel
theorem dL_law_31 : decode cL_law 31 = .ok (.arraylength, 1) := by decide +kernel
theorem dL_law_32 : decode cL_law 32 = .ok (.bipush 6, 2) := by decide +kernel
theorem dL_law_34 : decode cL_law 34 = .ok (.isub, 1) := by decide +kernel
theorem dL_law_35 : decode cL_law 35 = .ok (.if_icmp .gt 1866, 3) := by decide +kernel
theorem dL_law_38 : decode cL_law 38 = .ok (.aload_n 0, 1) := by decide +kernel
theorem dL_law_39 : decode cL_law 39 = .ok (.iload 5, 2) := by decide +kernel
theorem dL_law_41 : decode cL_law 41 = .ok (.iaload, 1) := by decide +kernel
theorem dL_law_42 : decode cL_law 42 = .ok (.bipush 31, 2) := by decide +kernel
theorem dL_law_44 : decode cL_law 44 = .ok (.iand, 1) := by decide +kernel
theorem dL_law_45 : decode cL_law 45 = .ok (.tableswitch 1850 0 30 #[139, 207, 287, 391, 471, 539, 552, 565, 645, 658, 671, 684, 697, 753, 821, 877, 933, 977, 1021, 1089, 1145, 1201, 1252, 1296, 1340, 1396, 1476, 1556, 1636, 1716, 1784], 139) := by decide +kernel
theorem dL_law_184 : decode cL_law 184 = .ok (.aload_n 1, 1) := by decide +kernel
theorem dL_law_185 : decode cL_law 185 = .ok (.aload_n 0, 1) := by decide +kernel
theorem dL_law_186 : decode cL_law 186 = .ok (.iload 5, 2) := by decide +kernel
theorem dL_law_188 : decode cL_law 188 = .ok (.iconst 1, 1) := by decide +kernel
theorem dL_law_189 : decode cL_law 189 = .ok (.iadd, 1) := by decide +kernel
theorem dL_law_190 : decode cL_law 190 = .ok (.iaload, 1) := by decide +kernel
theorem dL_law_191 : decode cL_law 191 = .ok (.aload_n 0, 1) := by decide +kernel
theorem dL_law_192 : decode cL_law 192 = .ok (.iload 5, 2) := by decide +kernel
theorem dL_law_194 : decode cL_law 194 = .ok (.iconst 2, 1) := by decide +kernel
theorem dL_law_195 : decode cL_law 195 = .ok (.iadd, 1) := by decide +kernel
theorem dL_law_196 : decode cL_law 196 = .ok (.iaload, 1) := by decide +kernel
theorem dL_law_197 : decode cL_law 197 = .ok (.aload_n 3, 1) := by decide +kernel
theorem dL_law_198 : decode cL_law 198 = .ok (.invokestatic 105, 3) := by decide +kernel
theorem dL_law_201 : decode cL_law 201 = .ok (.istore 6, 2) := by decide +kernel
theorem dL_law_203 : decode cL_law 203 = .ok (.aload_n 2, 1) := by decide +kernel
theorem dL_law_204 : decode cL_law 204 = .ok (.aload_n 0, 1) := by decide +kernel
theorem dL_law_205 : decode cL_law 205 = .ok (.iload 5, 2) := by decide +kernel
theorem dL_law_207 : decode cL_law 207 = .ok (.iconst 1, 1) := by decide +kernel
theorem dL_law_208 : decode cL_law 208 = .ok (.iadd, 1) := by decide +kernel
theorem dL_law_209 : decode cL_law 209 = .ok (.iaload, 1) := by decide +kernel
theorem dL_law_210 : decode cL_law 210 = .ok (.aload_n 0, 1) := by decide +kernel
theorem dL_law_211 : decode cL_law 211 = .ok (.iload 5, 2) := by decide +kernel
theorem dL_law_213 : decode cL_law 213 = .ok (.iconst 2, 1) := by decide +kernel
theorem dL_law_214 : decode cL_law 214 = .ok (.iadd, 1) := by decide +kernel
theorem dL_law_215 : decode cL_law 215 = .ok (.iaload, 1) := by decide +kernel
theorem dL_law_216 : decode cL_law 216 = .ok (.invokevirtual 110, 3) := by decide +kernel
theorem dL_law_219 : decode cL_law 219 = .ok (.istore 7, 2) := by decide +kernel
theorem dL_law_221 : decode cL_law 221 = .ok (.aload_n 2, 1) := by decide +kernel
theorem dL_law_222 : decode cL_law 222 = .ok (.invokevirtual 111, 3) := by decide +kernel
theorem dL_law_225 : decode cL_law 225 = .ok (.iload 6, 2) := by decide +kernel
theorem dL_law_227 : decode cL_law 227 = .ok (.if_icmp .eq 5, 3) := by decide +kernel
theorem dL_law_230 : decode cL_law 230 = .ok (.iconst 0, 1) := by decide +kernel
theorem dL_law_231 : decode cL_law 231 = .ok (.ireturn, 1) := by decide +kernel
theorem dL_law_232 : decode cL_law 232 = .ok (.iload 6, 2) := by decide +kernel
theorem dL_law_234 : decode cL_law 234 = .ok (.ifCond .ne 15, 3) := by decide +kernel
theorem dL_law_237 : decode cL_law 237 = .ok (.aload_n 3, 1) := by decide +kernel
theorem dL_law_238 : decode cL_law 238 = .ok (.iconst 0, 1) := by decide +kernel
theorem dL_law_239 : decode cL_law 239 = .ok (.laload, 1) := by decide +kernel
theorem dL_law_240 : decode cL_law 240 = .ok (.iload 7, 2) := by decide +kernel
theorem dL_law_242 : decode cL_law 242 = .ok (.i2l, 1) := by decide +kernel
theorem dL_law_243 : decode cL_law 243 = .ok (.lcmp, 1) := by decide +kernel
theorem dL_law_244 : decode cL_law 244 = .ok (.ifCond .eq 5, 3) := by decide +kernel
theorem dL_law_247 : decode cL_law 247 = .ok (.iconst 0, 1) := by decide +kernel
theorem dL_law_248 : decode cL_law 248 = .ok (.ireturn, 1) := by decide +kernel
theorem dL_law_249 : decode cL_law 249 = .ok (.goto 1646, 3) := by decide +kernel
theorem dL_law_252 : decode cL_law 252 = .ok (.aload_n 1, 1) := by decide +kernel
theorem dL_law_253 : decode cL_law 253 = .ok (.aload_n 0, 1) := by decide +kernel
theorem dL_law_254 : decode cL_law 254 = .ok (.iload 5, 2) := by decide +kernel
theorem dL_law_256 : decode cL_law 256 = .ok (.iconst 1, 1) := by decide +kernel
theorem dL_law_257 : decode cL_law 257 = .ok (.iadd, 1) := by decide +kernel
theorem dL_law_258 : decode cL_law 258 = .ok (.iaload, 1) := by decide +kernel
theorem dL_law_259 : decode cL_law 259 = .ok (.aload_n 0, 1) := by decide +kernel
theorem dL_law_260 : decode cL_law 260 = .ok (.iload 5, 2) := by decide +kernel
theorem dL_law_262 : decode cL_law 262 = .ok (.iconst 2, 1) := by decide +kernel
theorem dL_law_263 : decode cL_law 263 = .ok (.iadd, 1) := by decide +kernel
theorem dL_law_264 : decode cL_law 264 = .ok (.iaload, 1) := by decide +kernel
theorem dL_law_265 : decode cL_law 265 = .ok (.aload_n 0, 1) := by decide +kernel
theorem dL_law_266 : decode cL_law 266 = .ok (.iload 5, 2) := by decide +kernel
theorem dL_law_268 : decode cL_law 268 = .ok (.iconst 3, 1) := by decide +kernel
theorem dL_law_269 : decode cL_law 269 = .ok (.iadd, 1) := by decide +kernel
theorem dL_law_270 : decode cL_law 270 = .ok (.iaload, 1) := by decide +kernel
theorem dL_law_271 : decode cL_law 271 = .ok (.aload_n 3, 1) := by decide +kernel
theorem dL_law_272 : decode cL_law 272 = .ok (.invokestatic 114, 3) := by decide +kernel
theorem dL_law_275 : decode cL_law 275 = .ok (.istore 6, 2) := by decide +kernel
theorem dL_law_277 : decode cL_law 277 = .ok (.aload_n 2, 1) := by decide +kernel
theorem dL_law_278 : decode cL_law 278 = .ok (.aload_n 0, 1) := by decide +kernel
theorem dL_law_279 : decode cL_law 279 = .ok (.iload 5, 2) := by decide +kernel
theorem dL_law_281 : decode cL_law 281 = .ok (.iconst 1, 1) := by decide +kernel
theorem dL_law_282 : decode cL_law 282 = .ok (.iadd, 1) := by decide +kernel
theorem dL_law_283 : decode cL_law 283 = .ok (.iaload, 1) := by decide +kernel
theorem dL_law_284 : decode cL_law 284 = .ok (.aload_n 0, 1) := by decide +kernel
theorem dL_law_285 : decode cL_law 285 = .ok (.iload 5, 2) := by decide +kernel
theorem dL_law_287 : decode cL_law 287 = .ok (.iconst 2, 1) := by decide +kernel
theorem dL_law_288 : decode cL_law 288 = .ok (.iadd, 1) := by decide +kernel
theorem dL_law_289 : decode cL_law 289 = .ok (.iaload, 1) := by decide +kernel
theorem dL_law_290 : decode cL_law 290 = .ok (.aload_n 0, 1) := by decide +kernel
theorem dL_law_291 : decode cL_law 291 = .ok (.iload 5, 2) := by decide +kernel
theorem dL_law_293 : decode cL_law 293 = .ok (.iconst 3, 1) := by decide +kernel
theorem dL_law_294 : decode cL_law 294 = .ok (.iadd, 1) := by decide +kernel
theorem dL_law_295 : decode cL_law 295 = .ok (.iaload, 1) := by decide +kernel
theorem dL_law_296 : decode cL_law 296 = .ok (.invokevirtual 117, 3) := by decide +kernel
theorem dL_law_299 : decode cL_law 299 = .ok (.istore 7, 2) := by decide +kernel
theorem dL_law_301 : decode cL_law 301 = .ok (.aload_n 2, 1) := by decide +kernel
theorem dL_law_302 : decode cL_law 302 = .ok (.invokevirtual 111, 3) := by decide +kernel
theorem dL_law_305 : decode cL_law 305 = .ok (.iload 6, 2) := by decide +kernel
theorem dL_law_307 : decode cL_law 307 = .ok (.if_icmp .eq 5, 3) := by decide +kernel
theorem dL_law_310 : decode cL_law 310 = .ok (.iconst 0, 1) := by decide +kernel
theorem dL_law_311 : decode cL_law 311 = .ok (.ireturn, 1) := by decide +kernel
theorem dL_law_312 : decode cL_law 312 = .ok (.iload 6, 2) := by decide +kernel
theorem dL_law_314 : decode cL_law 314 = .ok (.ifCond .ne 15, 3) := by decide +kernel
theorem dL_law_317 : decode cL_law 317 = .ok (.aload_n 3, 1) := by decide +kernel
theorem dL_law_318 : decode cL_law 318 = .ok (.iconst 0, 1) := by decide +kernel
theorem dL_law_319 : decode cL_law 319 = .ok (.laload, 1) := by decide +kernel
theorem dL_law_320 : decode cL_law 320 = .ok (.iload 7, 2) := by decide +kernel
theorem dL_law_322 : decode cL_law 322 = .ok (.i2l, 1) := by decide +kernel
theorem dL_law_323 : decode cL_law 323 = .ok (.lcmp, 1) := by decide +kernel
theorem dL_law_324 : decode cL_law 324 = .ok (.ifCond .eq 5, 3) := by decide +kernel
theorem dL_law_327 : decode cL_law 327 = .ok (.iconst 0, 1) := by decide +kernel
theorem dL_law_328 : decode cL_law 328 = .ok (.ireturn, 1) := by decide +kernel
theorem dL_law_329 : decode cL_law 329 = .ok (.goto 1566, 3) := by decide +kernel
theorem dL_law_332 : decode cL_law 332 = .ok (.aload_n 1, 1) := by decide +kernel
theorem dL_law_333 : decode cL_law 333 = .ok (.aload_n 0, 1) := by decide +kernel
theorem dL_law_334 : decode cL_law 334 = .ok (.iload 5, 2) := by decide +kernel
theorem dL_law_336 : decode cL_law 336 = .ok (.iconst 1, 1) := by decide +kernel
theorem dL_law_337 : decode cL_law 337 = .ok (.iadd, 1) := by decide +kernel
theorem dL_law_338 : decode cL_law 338 = .ok (.iaload, 1) := by decide +kernel
theorem dL_law_339 : decode cL_law 339 = .ok (.aload_n 0, 1) := by decide +kernel
theorem dL_law_340 : decode cL_law 340 = .ok (.iload 5, 2) := by decide +kernel
theorem dL_law_342 : decode cL_law 342 = .ok (.iconst 2, 1) := by decide +kernel
theorem dL_law_343 : decode cL_law 343 = .ok (.iadd, 1) := by decide +kernel
theorem dL_law_344 : decode cL_law 344 = .ok (.iaload, 1) := by decide +kernel
theorem dL_law_345 : decode cL_law 345 = .ok (.aload_n 0, 1) := by decide +kernel
theorem dL_law_346 : decode cL_law 346 = .ok (.iload 5, 2) := by decide +kernel
theorem dL_law_348 : decode cL_law 348 = .ok (.iconst 3, 1) := by decide +kernel
theorem dL_law_349 : decode cL_law 349 = .ok (.iadd, 1) := by decide +kernel
theorem dL_law_350 : decode cL_law 350 = .ok (.iaload, 1) := by decide +kernel
theorem dL_law_351 : decode cL_law 351 = .ok (.aload_n 0, 1) := by decide +kernel
theorem dL_law_352 : decode cL_law 352 = .ok (.iload 5, 2) := by decide +kernel
theorem dL_law_354 : decode cL_law 354 = .ok (.iconst 4, 1) := by decide +kernel
theorem dL_law_355 : decode cL_law 355 = .ok (.iadd, 1) := by decide +kernel
theorem dL_law_356 : decode cL_law 356 = .ok (.iaload, 1) := by decide +kernel
theorem dL_law_357 : decode cL_law 357 = .ok (.aload_n 0, 1) := by decide +kernel
theorem dL_law_358 : decode cL_law 358 = .ok (.iload 5, 2) := by decide +kernel
theorem dL_law_360 : decode cL_law 360 = .ok (.iconst 5, 1) := by decide +kernel
theorem dL_law_361 : decode cL_law 361 = .ok (.iadd, 1) := by decide +kernel
theorem dL_law_362 : decode cL_law 362 = .ok (.iaload, 1) := by decide +kernel
theorem dL_law_363 : decode cL_law 363 = .ok (.aload_n 3, 1) := by decide +kernel
theorem dL_law_364 : decode cL_law 364 = .ok (.invokestatic 118, 3) := by decide +kernel
theorem dL_law_367 : decode cL_law 367 = .ok (.istore 6, 2) := by decide +kernel
theorem dL_law_369 : decode cL_law 369 = .ok (.aload_n 2, 1) := by decide +kernel
theorem dL_law_370 : decode cL_law 370 = .ok (.aload_n 0, 1) := by decide +kernel
theorem dL_law_371 : decode cL_law 371 = .ok (.iload 5, 2) := by decide +kernel
theorem dL_law_373 : decode cL_law 373 = .ok (.iconst 1, 1) := by decide +kernel
theorem dL_law_374 : decode cL_law 374 = .ok (.iadd, 1) := by decide +kernel
theorem dL_law_375 : decode cL_law 375 = .ok (.iaload, 1) := by decide +kernel
theorem dL_law_376 : decode cL_law 376 = .ok (.aload_n 0, 1) := by decide +kernel
theorem dL_law_377 : decode cL_law 377 = .ok (.iload 5, 2) := by decide +kernel
theorem dL_law_379 : decode cL_law 379 = .ok (.iconst 2, 1) := by decide +kernel
theorem dL_law_380 : decode cL_law 380 = .ok (.iadd, 1) := by decide +kernel
theorem dL_law_381 : decode cL_law 381 = .ok (.iaload, 1) := by decide +kernel
theorem dL_law_382 : decode cL_law 382 = .ok (.aload_n 0, 1) := by decide +kernel
theorem dL_law_383 : decode cL_law 383 = .ok (.iload 5, 2) := by decide +kernel
theorem dL_law_385 : decode cL_law 385 = .ok (.iconst 3, 1) := by decide +kernel
theorem dL_law_386 : decode cL_law 386 = .ok (.iadd, 1) := by decide +kernel
theorem dL_law_387 : decode cL_law 387 = .ok (.iaload, 1) := by decide +kernel
theorem dL_law_388 : decode cL_law 388 = .ok (.aload_n 0, 1) := by decide +kernel
theorem dL_law_389 : decode cL_law 389 = .ok (.iload 5, 2) := by decide +kernel
theorem dL_law_391 : decode cL_law 391 = .ok (.iconst 4, 1) := by decide +kernel
theorem dL_law_392 : decode cL_law 392 = .ok (.iadd, 1) := by decide +kernel
theorem dL_law_393 : decode cL_law 393 = .ok (.iaload, 1) := by decide +kernel
theorem dL_law_394 : decode cL_law 394 = .ok (.aload_n 0, 1) := by decide +kernel
theorem dL_law_395 : decode cL_law 395 = .ok (.iload 5, 2) := by decide +kernel
theorem dL_law_397 : decode cL_law 397 = .ok (.iconst 5, 1) := by decide +kernel
theorem dL_law_398 : decode cL_law 398 = .ok (.iadd, 1) := by decide +kernel
theorem dL_law_399 : decode cL_law 399 = .ok (.iaload, 1) := by decide +kernel
theorem dL_law_400 : decode cL_law 400 = .ok (.invokevirtual 121, 3) := by decide +kernel
theorem dL_law_403 : decode cL_law 403 = .ok (.istore 7, 2) := by decide +kernel
theorem dL_law_405 : decode cL_law 405 = .ok (.aload_n 2, 1) := by decide +kernel
theorem dL_law_406 : decode cL_law 406 = .ok (.invokevirtual 111, 3) := by decide +kernel
theorem dL_law_409 : decode cL_law 409 = .ok (.iload 6, 2) := by decide +kernel
theorem dL_law_411 : decode cL_law 411 = .ok (.if_icmp .eq 5, 3) := by decide +kernel
theorem dL_law_414 : decode cL_law 414 = .ok (.iconst 0, 1) := by decide +kernel
theorem dL_law_415 : decode cL_law 415 = .ok (.ireturn, 1) := by decide +kernel
theorem dL_law_416 : decode cL_law 416 = .ok (.iload 6, 2) := by decide +kernel
theorem dL_law_418 : decode cL_law 418 = .ok (.ifCond .ne 15, 3) := by decide +kernel
theorem dL_law_421 : decode cL_law 421 = .ok (.aload_n 3, 1) := by decide +kernel
theorem dL_law_422 : decode cL_law 422 = .ok (.iconst 0, 1) := by decide +kernel
theorem dL_law_423 : decode cL_law 423 = .ok (.laload, 1) := by decide +kernel
theorem dL_law_424 : decode cL_law 424 = .ok (.iload 7, 2) := by decide +kernel
theorem dL_law_426 : decode cL_law 426 = .ok (.i2l, 1) := by decide +kernel
theorem dL_law_427 : decode cL_law 427 = .ok (.lcmp, 1) := by decide +kernel
theorem dL_law_428 : decode cL_law 428 = .ok (.ifCond .eq 5, 3) := by decide +kernel
theorem dL_law_431 : decode cL_law 431 = .ok (.iconst 0, 1) := by decide +kernel
theorem dL_law_432 : decode cL_law 432 = .ok (.ireturn, 1) := by decide +kernel
theorem dL_law_433 : decode cL_law 433 = .ok (.goto 1462, 3) := by decide +kernel
theorem dL_law_436 : decode cL_law 436 = .ok (.aload_n 1, 1) := by decide +kernel
theorem dL_law_437 : decode cL_law 437 = .ok (.aload_n 0, 1) := by decide +kernel
theorem dL_law_438 : decode cL_law 438 = .ok (.iload 5, 2) := by decide +kernel
theorem dL_law_440 : decode cL_law 440 = .ok (.iconst 1, 1) := by decide +kernel
theorem dL_law_441 : decode cL_law 441 = .ok (.iadd, 1) := by decide +kernel
theorem dL_law_442 : decode cL_law 442 = .ok (.iaload, 1) := by decide +kernel
theorem dL_law_443 : decode cL_law 443 = .ok (.aload_n 0, 1) := by decide +kernel
theorem dL_law_444 : decode cL_law 444 = .ok (.iload 5, 2) := by decide +kernel
theorem dL_law_446 : decode cL_law 446 = .ok (.iconst 2, 1) := by decide +kernel
theorem dL_law_447 : decode cL_law 447 = .ok (.iadd, 1) := by decide +kernel
theorem dL_law_448 : decode cL_law 448 = .ok (.iaload, 1) := by decide +kernel
theorem dL_law_449 : decode cL_law 449 = .ok (.aload_n 0, 1) := by decide +kernel
theorem dL_law_450 : decode cL_law 450 = .ok (.iload 5, 2) := by decide +kernel
theorem dL_law_452 : decode cL_law 452 = .ok (.iconst 3, 1) := by decide +kernel
theorem dL_law_453 : decode cL_law 453 = .ok (.iadd, 1) := by decide +kernel
theorem dL_law_454 : decode cL_law 454 = .ok (.iaload, 1) := by decide +kernel
theorem dL_law_455 : decode cL_law 455 = .ok (.aload_n 3, 1) := by decide +kernel
theorem dL_law_456 : decode cL_law 456 = .ok (.invokestatic 122, 3) := by decide +kernel
theorem dL_law_459 : decode cL_law 459 = .ok (.istore 6, 2) := by decide +kernel
theorem dL_law_461 : decode cL_law 461 = .ok (.aload_n 2, 1) := by decide +kernel
theorem dL_law_462 : decode cL_law 462 = .ok (.aload_n 0, 1) := by decide +kernel
theorem dL_law_463 : decode cL_law 463 = .ok (.iload 5, 2) := by decide +kernel
theorem dL_law_465 : decode cL_law 465 = .ok (.iconst 1, 1) := by decide +kernel
theorem dL_law_466 : decode cL_law 466 = .ok (.iadd, 1) := by decide +kernel
theorem dL_law_467 : decode cL_law 467 = .ok (.iaload, 1) := by decide +kernel
theorem dL_law_468 : decode cL_law 468 = .ok (.aload_n 0, 1) := by decide +kernel
theorem dL_law_469 : decode cL_law 469 = .ok (.iload 5, 2) := by decide +kernel
theorem dL_law_471 : decode cL_law 471 = .ok (.iconst 2, 1) := by decide +kernel
theorem dL_law_472 : decode cL_law 472 = .ok (.iadd, 1) := by decide +kernel
theorem dL_law_473 : decode cL_law 473 = .ok (.iaload, 1) := by decide +kernel
theorem dL_law_474 : decode cL_law 474 = .ok (.aload_n 0, 1) := by decide +kernel
theorem dL_law_475 : decode cL_law 475 = .ok (.iload 5, 2) := by decide +kernel
theorem dL_law_477 : decode cL_law 477 = .ok (.iconst 3, 1) := by decide +kernel
theorem dL_law_478 : decode cL_law 478 = .ok (.iadd, 1) := by decide +kernel
theorem dL_law_479 : decode cL_law 479 = .ok (.iaload, 1) := by decide +kernel
theorem dL_law_480 : decode cL_law 480 = .ok (.invokevirtual 124, 3) := by decide +kernel
theorem dL_law_483 : decode cL_law 483 = .ok (.istore 7, 2) := by decide +kernel
theorem dL_law_485 : decode cL_law 485 = .ok (.aload_n 2, 1) := by decide +kernel
theorem dL_law_486 : decode cL_law 486 = .ok (.invokevirtual 111, 3) := by decide +kernel
theorem dL_law_489 : decode cL_law 489 = .ok (.iload 6, 2) := by decide +kernel
theorem dL_law_491 : decode cL_law 491 = .ok (.if_icmp .eq 5, 3) := by decide +kernel
theorem dL_law_494 : decode cL_law 494 = .ok (.iconst 0, 1) := by decide +kernel
theorem dL_law_495 : decode cL_law 495 = .ok (.ireturn, 1) := by decide +kernel
theorem dL_law_496 : decode cL_law 496 = .ok (.iload 6, 2) := by decide +kernel
theorem dL_law_498 : decode cL_law 498 = .ok (.ifCond .ne 15, 3) := by decide +kernel
theorem dL_law_501 : decode cL_law 501 = .ok (.aload_n 3, 1) := by decide +kernel
theorem dL_law_502 : decode cL_law 502 = .ok (.iconst 0, 1) := by decide +kernel
theorem dL_law_503 : decode cL_law 503 = .ok (.laload, 1) := by decide +kernel
theorem dL_law_504 : decode cL_law 504 = .ok (.iload 7, 2) := by decide +kernel
theorem dL_law_506 : decode cL_law 506 = .ok (.i2l, 1) := by decide +kernel
theorem dL_law_507 : decode cL_law 507 = .ok (.lcmp, 1) := by decide +kernel
theorem dL_law_508 : decode cL_law 508 = .ok (.ifCond .eq 5, 3) := by decide +kernel
theorem dL_law_511 : decode cL_law 511 = .ok (.iconst 0, 1) := by decide +kernel
theorem dL_law_512 : decode cL_law 512 = .ok (.ireturn, 1) := by decide +kernel
theorem dL_law_513 : decode cL_law 513 = .ok (.goto 1382, 3) := by decide +kernel
theorem dL_law_516 : decode cL_law 516 = .ok (.aload_n 1, 1) := by decide +kernel
theorem dL_law_517 : decode cL_law 517 = .ok (.aload_n 0, 1) := by decide +kernel
theorem dL_law_518 : decode cL_law 518 = .ok (.iload 5, 2) := by decide +kernel
theorem dL_law_520 : decode cL_law 520 = .ok (.iconst 1, 1) := by decide +kernel
theorem dL_law_521 : decode cL_law 521 = .ok (.iadd, 1) := by decide +kernel
theorem dL_law_522 : decode cL_law 522 = .ok (.iaload, 1) := by decide +kernel
theorem dL_law_523 : decode cL_law 523 = .ok (.aload_n 0, 1) := by decide +kernel
theorem dL_law_524 : decode cL_law 524 = .ok (.iload 5, 2) := by decide +kernel
theorem dL_law_526 : decode cL_law 526 = .ok (.iconst 2, 1) := by decide +kernel
theorem dL_law_527 : decode cL_law 527 = .ok (.iadd, 1) := by decide +kernel
theorem dL_law_528 : decode cL_law 528 = .ok (.iaload, 1) := by decide +kernel
theorem dL_law_529 : decode cL_law 529 = .ok (.aload_n 3, 1) := by decide +kernel
theorem dL_law_530 : decode cL_law 530 = .ok (.invokestatic 125, 3) := by decide +kernel
theorem dL_law_533 : decode cL_law 533 = .ok (.istore 6, 2) := by decide +kernel
theorem dL_law_535 : decode cL_law 535 = .ok (.aload_n 2, 1) := by decide +kernel
theorem dL_law_536 : decode cL_law 536 = .ok (.aload_n 0, 1) := by decide +kernel
theorem dL_law_537 : decode cL_law 537 = .ok (.iload 5, 2) := by decide +kernel
theorem dL_law_539 : decode cL_law 539 = .ok (.iconst 1, 1) := by decide +kernel
theorem dL_law_540 : decode cL_law 540 = .ok (.iadd, 1) := by decide +kernel
theorem dL_law_541 : decode cL_law 541 = .ok (.iaload, 1) := by decide +kernel
theorem dL_law_542 : decode cL_law 542 = .ok (.aload_n 0, 1) := by decide +kernel
theorem dL_law_543 : decode cL_law 543 = .ok (.iload 5, 2) := by decide +kernel
theorem dL_law_545 : decode cL_law 545 = .ok (.iconst 2, 1) := by decide +kernel
theorem dL_law_546 : decode cL_law 546 = .ok (.iadd, 1) := by decide +kernel
theorem dL_law_547 : decode cL_law 547 = .ok (.iaload, 1) := by decide +kernel
theorem dL_law_548 : decode cL_law 548 = .ok (.invokevirtual 127, 3) := by decide +kernel
theorem dL_law_551 : decode cL_law 551 = .ok (.istore 7, 2) := by decide +kernel
theorem dL_law_553 : decode cL_law 553 = .ok (.aload_n 2, 1) := by decide +kernel
theorem dL_law_554 : decode cL_law 554 = .ok (.invokevirtual 111, 3) := by decide +kernel
theorem dL_law_557 : decode cL_law 557 = .ok (.iload 6, 2) := by decide +kernel
theorem dL_law_559 : decode cL_law 559 = .ok (.if_icmp .eq 5, 3) := by decide +kernel
theorem dL_law_562 : decode cL_law 562 = .ok (.iconst 0, 1) := by decide +kernel
theorem dL_law_563 : decode cL_law 563 = .ok (.ireturn, 1) := by decide +kernel
theorem dL_law_564 : decode cL_law 564 = .ok (.iload 6, 2) := by decide +kernel
theorem dL_law_566 : decode cL_law 566 = .ok (.ifCond .ne 15, 3) := by decide +kernel
theorem dL_law_569 : decode cL_law 569 = .ok (.aload_n 3, 1) := by decide +kernel
theorem dL_law_570 : decode cL_law 570 = .ok (.iconst 0, 1) := by decide +kernel
theorem dL_law_571 : decode cL_law 571 = .ok (.laload, 1) := by decide +kernel
theorem dL_law_572 : decode cL_law 572 = .ok (.iload 7, 2) := by decide +kernel
theorem dL_law_574 : decode cL_law 574 = .ok (.i2l, 1) := by decide +kernel
theorem dL_law_575 : decode cL_law 575 = .ok (.lcmp, 1) := by decide +kernel
theorem dL_law_576 : decode cL_law 576 = .ok (.ifCond .eq 5, 3) := by decide +kernel
theorem dL_law_579 : decode cL_law 579 = .ok (.iconst 0, 1) := by decide +kernel
theorem dL_law_580 : decode cL_law 580 = .ok (.ireturn, 1) := by decide +kernel
theorem dL_law_581 : decode cL_law 581 = .ok (.goto 1314, 3) := by decide +kernel
theorem dL_law_584 : decode cL_law 584 = .ok (.aload_n 1, 1) := by decide +kernel
theorem dL_law_585 : decode cL_law 585 = .ok (.invokevirtual 128, 3) := by decide +kernel
theorem dL_law_588 : decode cL_law 588 = .ok (.aload_n 2, 1) := by decide +kernel
theorem dL_law_589 : decode cL_law 589 = .ok (.invokevirtual 131, 3) := by decide +kernel
theorem dL_law_592 : decode cL_law 592 = .ok (.if_icmp .eq 1303, 3) := by decide +kernel
theorem dL_law_595 : decode cL_law 595 = .ok (.iconst 0, 1) := by decide +kernel
theorem dL_law_596 : decode cL_law 596 = .ok (.ireturn, 1) := by decide +kernel
theorem dL_law_597 : decode cL_law 597 = .ok (.aload_n 1, 1) := by decide +kernel
theorem dL_law_598 : decode cL_law 598 = .ok (.invokevirtual 132, 3) := by decide +kernel
theorem dL_law_601 : decode cL_law 601 = .ok (.aload_n 2, 1) := by decide +kernel
theorem dL_law_602 : decode cL_law 602 = .ok (.invokevirtual 135, 3) := by decide +kernel
theorem dL_law_605 : decode cL_law 605 = .ok (.if_icmp .eq 1290, 3) := by decide +kernel
theorem dL_law_608 : decode cL_law 608 = .ok (.iconst 0, 1) := by decide +kernel
theorem dL_law_609 : decode cL_law 609 = .ok (.ireturn, 1) := by decide +kernel
theorem dL_law_610 : decode cL_law 610 = .ok (.aload_n 1, 1) := by decide +kernel
theorem dL_law_611 : decode cL_law 611 = .ok (.aload_n 0, 1) := by decide +kernel
theorem dL_law_612 : decode cL_law 612 = .ok (.iload 5, 2) := by decide +kernel
theorem dL_law_614 : decode cL_law 614 = .ok (.iconst 1, 1) := by decide +kernel
theorem dL_law_615 : decode cL_law 615 = .ok (.iadd, 1) := by decide +kernel
theorem dL_law_616 : decode cL_law 616 = .ok (.iaload, 1) := by decide +kernel
theorem dL_law_617 : decode cL_law 617 = .ok (.aload_n 0, 1) := by decide +kernel
theorem dL_law_618 : decode cL_law 618 = .ok (.iload 5, 2) := by decide +kernel
theorem dL_law_620 : decode cL_law 620 = .ok (.iconst 2, 1) := by decide +kernel
theorem dL_law_621 : decode cL_law 621 = .ok (.iadd, 1) := by decide +kernel
theorem dL_law_622 : decode cL_law 622 = .ok (.iaload, 1) := by decide +kernel
theorem dL_law_623 : decode cL_law 623 = .ok (.aload_n 0, 1) := by decide +kernel
theorem dL_law_624 : decode cL_law 624 = .ok (.iload 5, 2) := by decide +kernel
theorem dL_law_626 : decode cL_law 626 = .ok (.iconst 3, 1) := by decide +kernel
theorem dL_law_627 : decode cL_law 627 = .ok (.iadd, 1) := by decide +kernel
theorem dL_law_628 : decode cL_law 628 = .ok (.iaload, 1) := by decide +kernel
theorem dL_law_629 : decode cL_law 629 = .ok (.aload_n 3, 1) := by decide +kernel
theorem dL_law_630 : decode cL_law 630 = .ok (.invokestatic 136, 3) := by decide +kernel
theorem dL_law_633 : decode cL_law 633 = .ok (.istore 6, 2) := by decide +kernel
theorem dL_law_635 : decode cL_law 635 = .ok (.aload_n 2, 1) := by decide +kernel
theorem dL_law_636 : decode cL_law 636 = .ok (.aload_n 0, 1) := by decide +kernel
theorem dL_law_637 : decode cL_law 637 = .ok (.iload 5, 2) := by decide +kernel
theorem dL_law_639 : decode cL_law 639 = .ok (.iconst 1, 1) := by decide +kernel
theorem dL_law_640 : decode cL_law 640 = .ok (.iadd, 1) := by decide +kernel
theorem dL_law_641 : decode cL_law 641 = .ok (.iaload, 1) := by decide +kernel
theorem dL_law_642 : decode cL_law 642 = .ok (.aload_n 0, 1) := by decide +kernel
theorem dL_law_643 : decode cL_law 643 = .ok (.iload 5, 2) := by decide +kernel
theorem dL_law_645 : decode cL_law 645 = .ok (.iconst 2, 1) := by decide +kernel
theorem dL_law_646 : decode cL_law 646 = .ok (.iadd, 1) := by decide +kernel
theorem dL_law_647 : decode cL_law 647 = .ok (.iaload, 1) := by decide +kernel
theorem dL_law_648 : decode cL_law 648 = .ok (.aload_n 0, 1) := by decide +kernel
theorem dL_law_649 : decode cL_law 649 = .ok (.iload 5, 2) := by decide +kernel
theorem dL_law_651 : decode cL_law 651 = .ok (.iconst 3, 1) := by decide +kernel
theorem dL_law_652 : decode cL_law 652 = .ok (.iadd, 1) := by decide +kernel
theorem dL_law_653 : decode cL_law 653 = .ok (.iaload, 1) := by decide +kernel
theorem dL_law_654 : decode cL_law 654 = .ok (.invokevirtual 138, 3) := by decide +kernel
theorem dL_law_657 : decode cL_law 657 = .ok (.istore 7, 2) := by decide +kernel
theorem dL_law_659 : decode cL_law 659 = .ok (.aload_n 2, 1) := by decide +kernel
theorem dL_law_660 : decode cL_law 660 = .ok (.invokevirtual 111, 3) := by decide +kernel
theorem dL_law_663 : decode cL_law 663 = .ok (.iload 6, 2) := by decide +kernel
theorem dL_law_665 : decode cL_law 665 = .ok (.if_icmp .eq 5, 3) := by decide +kernel
theorem dL_law_668 : decode cL_law 668 = .ok (.iconst 0, 1) := by decide +kernel
theorem dL_law_669 : decode cL_law 669 = .ok (.ireturn, 1) := by decide +kernel
theorem dL_law_670 : decode cL_law 670 = .ok (.iload 6, 2) := by decide +kernel
theorem dL_law_672 : decode cL_law 672 = .ok (.ifCond .ne 15, 3) := by decide +kernel
theorem dL_law_675 : decode cL_law 675 = .ok (.aload_n 3, 1) := by decide +kernel
theorem dL_law_676 : decode cL_law 676 = .ok (.iconst 0, 1) := by decide +kernel
theorem dL_law_677 : decode cL_law 677 = .ok (.laload, 1) := by decide +kernel
theorem dL_law_678 : decode cL_law 678 = .ok (.iload 7, 2) := by decide +kernel
theorem dL_law_680 : decode cL_law 680 = .ok (.i2l, 1) := by decide +kernel
theorem dL_law_681 : decode cL_law 681 = .ok (.lcmp, 1) := by decide +kernel
theorem dL_law_682 : decode cL_law 682 = .ok (.ifCond .eq 5, 3) := by decide +kernel
theorem dL_law_685 : decode cL_law 685 = .ok (.iconst 0, 1) := by decide +kernel
theorem dL_law_686 : decode cL_law 686 = .ok (.ireturn, 1) := by decide +kernel
theorem dL_law_687 : decode cL_law 687 = .ok (.goto 1208, 3) := by decide +kernel
theorem dL_law_690 : decode cL_law 690 = .ok (.aload_n 1, 1) := by decide +kernel
theorem dL_law_691 : decode cL_law 691 = .ok (.invokevirtual 139, 3) := by decide +kernel
theorem dL_law_694 : decode cL_law 694 = .ok (.aload_n 2, 1) := by decide +kernel
theorem dL_law_695 : decode cL_law 695 = .ok (.invokevirtual 142, 3) := by decide +kernel
theorem dL_law_698 : decode cL_law 698 = .ok (.if_icmp .eq 1197, 3) := by decide +kernel
theorem dL_law_701 : decode cL_law 701 = .ok (.iconst 0, 1) := by decide +kernel
theorem dL_law_702 : decode cL_law 702 = .ok (.ireturn, 1) := by decide +kernel
theorem dL_law_703 : decode cL_law 703 = .ok (.aload_n 1, 1) := by decide +kernel
theorem dL_law_704 : decode cL_law 704 = .ok (.invokevirtual 143, 3) := by decide +kernel
theorem dL_law_707 : decode cL_law 707 = .ok (.aload_n 2, 1) := by decide +kernel
theorem dL_law_708 : decode cL_law 708 = .ok (.invokevirtual 146, 3) := by decide +kernel
theorem dL_law_711 : decode cL_law 711 = .ok (.if_icmp .eq 1184, 3) := by decide +kernel
theorem dL_law_714 : decode cL_law 714 = .ok (.iconst 0, 1) := by decide +kernel
theorem dL_law_715 : decode cL_law 715 = .ok (.ireturn, 1) := by decide +kernel
theorem dL_law_716 : decode cL_law 716 = .ok (.aload_n 1, 1) := by decide +kernel
theorem dL_law_717 : decode cL_law 717 = .ok (.invokevirtual 147, 3) := by decide +kernel
theorem dL_law_720 : decode cL_law 720 = .ok (.aload_n 2, 1) := by decide +kernel
theorem dL_law_721 : decode cL_law 721 = .ok (.invokevirtual 150, 3) := by decide +kernel
theorem dL_law_724 : decode cL_law 724 = .ok (.if_icmp .eq 1171, 3) := by decide +kernel
theorem dL_law_727 : decode cL_law 727 = .ok (.iconst 0, 1) := by decide +kernel
theorem dL_law_728 : decode cL_law 728 = .ok (.ireturn, 1) := by decide +kernel
theorem dL_law_729 : decode cL_law 729 = .ok (.aload_n 1, 1) := by decide +kernel
theorem dL_law_730 : decode cL_law 730 = .ok (.invokevirtual 151, 3) := by decide +kernel
theorem dL_law_733 : decode cL_law 733 = .ok (.aload_n 2, 1) := by decide +kernel
theorem dL_law_734 : decode cL_law 734 = .ok (.invokevirtual 154, 3) := by decide +kernel
theorem dL_law_737 : decode cL_law 737 = .ok (.if_icmp .eq 1158, 3) := by decide +kernel
theorem dL_law_740 : decode cL_law 740 = .ok (.iconst 0, 1) := by decide +kernel
theorem dL_law_741 : decode cL_law 741 = .ok (.ireturn, 1) := by decide +kernel
theorem dL_law_742 : decode cL_law 742 = .ok (.aload_n 1, 1) := by decide +kernel
theorem dL_law_743 : decode cL_law 743 = .ok (.aload_n 0, 1) := by decide +kernel
theorem dL_law_744 : decode cL_law 744 = .ok (.iload 5, 2) := by decide +kernel
theorem dL_law_746 : decode cL_law 746 = .ok (.iconst 1, 1) := by decide +kernel
theorem dL_law_747 : decode cL_law 747 = .ok (.iadd, 1) := by decide +kernel
theorem dL_law_748 : decode cL_law 748 = .ok (.iaload, 1) := by decide +kernel
theorem dL_law_749 : decode cL_law 749 = .ok (.aload_n 3, 1) := by decide +kernel
theorem dL_law_750 : decode cL_law 750 = .ok (.invokestatic 155, 3) := by decide +kernel
theorem dL_law_753 : decode cL_law 753 = .ok (.istore 6, 2) := by decide +kernel
theorem dL_law_755 : decode cL_law 755 = .ok (.aload_n 2, 1) := by decide +kernel
theorem dL_law_756 : decode cL_law 756 = .ok (.aload_n 0, 1) := by decide +kernel
theorem dL_law_757 : decode cL_law 757 = .ok (.iload 5, 2) := by decide +kernel
theorem dL_law_759 : decode cL_law 759 = .ok (.iconst 1, 1) := by decide +kernel
theorem dL_law_760 : decode cL_law 760 = .ok (.iadd, 1) := by decide +kernel
theorem dL_law_761 : decode cL_law 761 = .ok (.iaload, 1) := by decide +kernel
theorem dL_law_762 : decode cL_law 762 = .ok (.invokevirtual 158, 3) := by decide +kernel
theorem dL_law_765 : decode cL_law 765 = .ok (.istore 7, 2) := by decide +kernel
theorem dL_law_767 : decode cL_law 767 = .ok (.aload_n 2, 1) := by decide +kernel
theorem dL_law_768 : decode cL_law 768 = .ok (.invokevirtual 111, 3) := by decide +kernel
theorem dL_law_771 : decode cL_law 771 = .ok (.iload 6, 2) := by decide +kernel
theorem dL_law_773 : decode cL_law 773 = .ok (.if_icmp .eq 5, 3) := by decide +kernel
theorem dL_law_776 : decode cL_law 776 = .ok (.iconst 0, 1) := by decide +kernel
theorem dL_law_777 : decode cL_law 777 = .ok (.ireturn, 1) := by decide +kernel
theorem dL_law_778 : decode cL_law 778 = .ok (.iload 6, 2) := by decide +kernel
theorem dL_law_780 : decode cL_law 780 = .ok (.ifCond .ne 15, 3) := by decide +kernel
theorem dL_law_783 : decode cL_law 783 = .ok (.aload_n 3, 1) := by decide +kernel
theorem dL_law_784 : decode cL_law 784 = .ok (.iconst 0, 1) := by decide +kernel
theorem dL_law_785 : decode cL_law 785 = .ok (.laload, 1) := by decide +kernel
theorem dL_law_786 : decode cL_law 786 = .ok (.iload 7, 2) := by decide +kernel
theorem dL_law_788 : decode cL_law 788 = .ok (.i2l, 1) := by decide +kernel
theorem dL_law_789 : decode cL_law 789 = .ok (.lcmp, 1) := by decide +kernel
theorem dL_law_790 : decode cL_law 790 = .ok (.ifCond .eq 5, 3) := by decide +kernel
theorem dL_law_793 : decode cL_law 793 = .ok (.iconst 0, 1) := by decide +kernel
theorem dL_law_794 : decode cL_law 794 = .ok (.ireturn, 1) := by decide +kernel
theorem dL_law_795 : decode cL_law 795 = .ok (.goto 1100, 3) := by decide +kernel
theorem dL_law_798 : decode cL_law 798 = .ok (.aload_n 1, 1) := by decide +kernel
theorem dL_law_799 : decode cL_law 799 = .ok (.aload_n 0, 1) := by decide +kernel
theorem dL_law_800 : decode cL_law 800 = .ok (.iload 5, 2) := by decide +kernel
theorem dL_law_802 : decode cL_law 802 = .ok (.iconst 1, 1) := by decide +kernel
theorem dL_law_803 : decode cL_law 803 = .ok (.iadd, 1) := by decide +kernel
theorem dL_law_804 : decode cL_law 804 = .ok (.iaload, 1) := by decide +kernel
theorem dL_law_805 : decode cL_law 805 = .ok (.aload_n 0, 1) := by decide +kernel
theorem dL_law_806 : decode cL_law 806 = .ok (.iload 5, 2) := by decide +kernel
theorem dL_law_808 : decode cL_law 808 = .ok (.iconst 2, 1) := by decide +kernel
theorem dL_law_809 : decode cL_law 809 = .ok (.iadd, 1) := by decide +kernel
theorem dL_law_810 : decode cL_law 810 = .ok (.iaload, 1) := by decide +kernel
theorem dL_law_811 : decode cL_law 811 = .ok (.aload_n 3, 1) := by decide +kernel
theorem dL_law_812 : decode cL_law 812 = .ok (.invokestatic 159, 3) := by decide +kernel
theorem dL_law_815 : decode cL_law 815 = .ok (.istore 6, 2) := by decide +kernel
theorem dL_law_817 : decode cL_law 817 = .ok (.aload_n 2, 1) := by decide +kernel
theorem dL_law_818 : decode cL_law 818 = .ok (.aload_n 0, 1) := by decide +kernel
theorem dL_law_819 : decode cL_law 819 = .ok (.iload 5, 2) := by decide +kernel
theorem dL_law_821 : decode cL_law 821 = .ok (.iconst 1, 1) := by decide +kernel
theorem dL_law_822 : decode cL_law 822 = .ok (.iadd, 1) := by decide +kernel
theorem dL_law_823 : decode cL_law 823 = .ok (.iaload, 1) := by decide +kernel
theorem dL_law_824 : decode cL_law 824 = .ok (.aload_n 0, 1) := by decide +kernel
theorem dL_law_825 : decode cL_law 825 = .ok (.iload 5, 2) := by decide +kernel
theorem dL_law_827 : decode cL_law 827 = .ok (.iconst 2, 1) := by decide +kernel
theorem dL_law_828 : decode cL_law 828 = .ok (.iadd, 1) := by decide +kernel
theorem dL_law_829 : decode cL_law 829 = .ok (.iaload, 1) := by decide +kernel
theorem dL_law_830 : decode cL_law 830 = .ok (.invokevirtual 161, 3) := by decide +kernel
theorem dL_law_833 : decode cL_law 833 = .ok (.istore 7, 2) := by decide +kernel
theorem dL_law_835 : decode cL_law 835 = .ok (.aload_n 2, 1) := by decide +kernel
theorem dL_law_836 : decode cL_law 836 = .ok (.invokevirtual 111, 3) := by decide +kernel
theorem dL_law_839 : decode cL_law 839 = .ok (.iload 6, 2) := by decide +kernel
theorem dL_law_841 : decode cL_law 841 = .ok (.if_icmp .eq 5, 3) := by decide +kernel
theorem dL_law_844 : decode cL_law 844 = .ok (.iconst 0, 1) := by decide +kernel
theorem dL_law_845 : decode cL_law 845 = .ok (.ireturn, 1) := by decide +kernel
theorem dL_law_846 : decode cL_law 846 = .ok (.iload 6, 2) := by decide +kernel
theorem dL_law_848 : decode cL_law 848 = .ok (.ifCond .ne 15, 3) := by decide +kernel
theorem dL_law_851 : decode cL_law 851 = .ok (.aload_n 3, 1) := by decide +kernel
theorem dL_law_852 : decode cL_law 852 = .ok (.iconst 0, 1) := by decide +kernel
theorem dL_law_853 : decode cL_law 853 = .ok (.laload, 1) := by decide +kernel
theorem dL_law_854 : decode cL_law 854 = .ok (.iload 7, 2) := by decide +kernel
theorem dL_law_856 : decode cL_law 856 = .ok (.i2l, 1) := by decide +kernel
theorem dL_law_857 : decode cL_law 857 = .ok (.lcmp, 1) := by decide +kernel
theorem dL_law_858 : decode cL_law 858 = .ok (.ifCond .eq 5, 3) := by decide +kernel
theorem dL_law_861 : decode cL_law 861 = .ok (.iconst 0, 1) := by decide +kernel
theorem dL_law_862 : decode cL_law 862 = .ok (.ireturn, 1) := by decide +kernel
theorem dL_law_863 : decode cL_law 863 = .ok (.goto 1032, 3) := by decide +kernel
theorem dL_law_866 : decode cL_law 866 = .ok (.aload_n 1, 1) := by decide +kernel
theorem dL_law_867 : decode cL_law 867 = .ok (.aload_n 0, 1) := by decide +kernel
theorem dL_law_868 : decode cL_law 868 = .ok (.iload 5, 2) := by decide +kernel
theorem dL_law_870 : decode cL_law 870 = .ok (.iconst 1, 1) := by decide +kernel
theorem dL_law_871 : decode cL_law 871 = .ok (.iadd, 1) := by decide +kernel
theorem dL_law_872 : decode cL_law 872 = .ok (.iaload, 1) := by decide +kernel
theorem dL_law_873 : decode cL_law 873 = .ok (.aload_n 3, 1) := by decide +kernel
theorem dL_law_874 : decode cL_law 874 = .ok (.invokestatic 162, 3) := by decide +kernel
theorem dL_law_877 : decode cL_law 877 = .ok (.istore 6, 2) := by decide +kernel
theorem dL_law_879 : decode cL_law 879 = .ok (.aload_n 2, 1) := by decide +kernel
theorem dL_law_880 : decode cL_law 880 = .ok (.aload_n 0, 1) := by decide +kernel
theorem dL_law_881 : decode cL_law 881 = .ok (.iload 5, 2) := by decide +kernel
theorem dL_law_883 : decode cL_law 883 = .ok (.iconst 1, 1) := by decide +kernel
theorem dL_law_884 : decode cL_law 884 = .ok (.iadd, 1) := by decide +kernel
theorem dL_law_885 : decode cL_law 885 = .ok (.iaload, 1) := by decide +kernel
theorem dL_law_886 : decode cL_law 886 = .ok (.invokevirtual 164, 3) := by decide +kernel
theorem dL_law_889 : decode cL_law 889 = .ok (.istore 7, 2) := by decide +kernel
theorem dL_law_891 : decode cL_law 891 = .ok (.aload_n 2, 1) := by decide +kernel
theorem dL_law_892 : decode cL_law 892 = .ok (.invokevirtual 111, 3) := by decide +kernel
theorem dL_law_895 : decode cL_law 895 = .ok (.iload 6, 2) := by decide +kernel
theorem dL_law_897 : decode cL_law 897 = .ok (.if_icmp .eq 5, 3) := by decide +kernel
theorem dL_law_900 : decode cL_law 900 = .ok (.iconst 0, 1) := by decide +kernel
theorem dL_law_901 : decode cL_law 901 = .ok (.ireturn, 1) := by decide +kernel
theorem dL_law_902 : decode cL_law 902 = .ok (.iload 6, 2) := by decide +kernel
theorem dL_law_904 : decode cL_law 904 = .ok (.ifCond .ne 15, 3) := by decide +kernel
theorem dL_law_907 : decode cL_law 907 = .ok (.aload_n 3, 1) := by decide +kernel
theorem dL_law_908 : decode cL_law 908 = .ok (.iconst 0, 1) := by decide +kernel
theorem dL_law_909 : decode cL_law 909 = .ok (.laload, 1) := by decide +kernel
theorem dL_law_910 : decode cL_law 910 = .ok (.iload 7, 2) := by decide +kernel
theorem dL_law_912 : decode cL_law 912 = .ok (.i2l, 1) := by decide +kernel
theorem dL_law_913 : decode cL_law 913 = .ok (.lcmp, 1) := by decide +kernel
theorem dL_law_914 : decode cL_law 914 = .ok (.ifCond .eq 5, 3) := by decide +kernel
theorem dL_law_917 : decode cL_law 917 = .ok (.iconst 0, 1) := by decide +kernel
theorem dL_law_918 : decode cL_law 918 = .ok (.ireturn, 1) := by decide +kernel
theorem dL_law_919 : decode cL_law 919 = .ok (.goto 976, 3) := by decide +kernel
theorem dL_law_922 : decode cL_law 922 = .ok (.aload_n 1, 1) := by decide +kernel
theorem dL_law_923 : decode cL_law 923 = .ok (.aload_n 0, 1) := by decide +kernel
theorem dL_law_924 : decode cL_law 924 = .ok (.iload 5, 2) := by decide +kernel
theorem dL_law_926 : decode cL_law 926 = .ok (.iconst 1, 1) := by decide +kernel
theorem dL_law_927 : decode cL_law 927 = .ok (.iadd, 1) := by decide +kernel
theorem dL_law_928 : decode cL_law 928 = .ok (.iaload, 1) := by decide +kernel
theorem dL_law_929 : decode cL_law 929 = .ok (.aload_n 3, 1) := by decide +kernel
theorem dL_law_930 : decode cL_law 930 = .ok (.invokestatic 165, 3) := by decide +kernel
theorem dL_law_933 : decode cL_law 933 = .ok (.istore 6, 2) := by decide +kernel
theorem dL_law_935 : decode cL_law 935 = .ok (.aload_n 2, 1) := by decide +kernel
theorem dL_law_936 : decode cL_law 936 = .ok (.aload_n 0, 1) := by decide +kernel
theorem dL_law_937 : decode cL_law 937 = .ok (.iload 5, 2) := by decide +kernel
theorem dL_law_939 : decode cL_law 939 = .ok (.iconst 1, 1) := by decide +kernel
theorem dL_law_940 : decode cL_law 940 = .ok (.iadd, 1) := by decide +kernel
theorem dL_law_941 : decode cL_law 941 = .ok (.iaload, 1) := by decide +kernel
theorem dL_law_942 : decode cL_law 942 = .ok (.invokevirtual 167, 3) := by decide +kernel
theorem dL_law_945 : decode cL_law 945 = .ok (.istore 7, 2) := by decide +kernel
theorem dL_law_947 : decode cL_law 947 = .ok (.aload_n 2, 1) := by decide +kernel
theorem dL_law_948 : decode cL_law 948 = .ok (.invokevirtual 111, 3) := by decide +kernel
theorem dL_law_951 : decode cL_law 951 = .ok (.iload 6, 2) := by decide +kernel
theorem dL_law_953 : decode cL_law 953 = .ok (.if_icmp .eq 5, 3) := by decide +kernel
theorem dL_law_956 : decode cL_law 956 = .ok (.iconst 0, 1) := by decide +kernel
theorem dL_law_957 : decode cL_law 957 = .ok (.ireturn, 1) := by decide +kernel
theorem dL_law_958 : decode cL_law 958 = .ok (.iload 6, 2) := by decide +kernel
theorem dL_law_960 : decode cL_law 960 = .ok (.ifCond .ne 15, 3) := by decide +kernel
theorem dL_law_963 : decode cL_law 963 = .ok (.aload_n 3, 1) := by decide +kernel
theorem dL_law_964 : decode cL_law 964 = .ok (.iconst 0, 1) := by decide +kernel
theorem dL_law_965 : decode cL_law 965 = .ok (.laload, 1) := by decide +kernel
theorem dL_law_966 : decode cL_law 966 = .ok (.iload 7, 2) := by decide +kernel
theorem dL_law_968 : decode cL_law 968 = .ok (.i2l, 1) := by decide +kernel
theorem dL_law_969 : decode cL_law 969 = .ok (.lcmp, 1) := by decide +kernel
theorem dL_law_970 : decode cL_law 970 = .ok (.ifCond .eq 5, 3) := by decide +kernel
theorem dL_law_973 : decode cL_law 973 = .ok (.iconst 0, 1) := by decide +kernel
theorem dL_law_974 : decode cL_law 974 = .ok (.ireturn, 1) := by decide +kernel
theorem dL_law_975 : decode cL_law 975 = .ok (.goto 920, 3) := by decide +kernel
theorem dL_law_978 : decode cL_law 978 = .ok (.aload_n 1, 1) := by decide +kernel
theorem dL_law_979 : decode cL_law 979 = .ok (.aload_n 3, 1) := by decide +kernel
theorem dL_law_980 : decode cL_law 980 = .ok (.invokestatic 168, 3) := by decide +kernel
theorem dL_law_983 : decode cL_law 983 = .ok (.istore 6, 2) := by decide +kernel
theorem dL_law_985 : decode cL_law 985 = .ok (.aload_n 2, 1) := by decide +kernel
theorem dL_law_986 : decode cL_law 986 = .ok (.invokevirtual 171, 3) := by decide +kernel
theorem dL_law_989 : decode cL_law 989 = .ok (.istore 7, 2) := by decide +kernel
theorem dL_law_991 : decode cL_law 991 = .ok (.aload_n 2, 1) := by decide +kernel
theorem dL_law_992 : decode cL_law 992 = .ok (.invokevirtual 111, 3) := by decide +kernel
theorem dL_law_995 : decode cL_law 995 = .ok (.iload 6, 2) := by decide +kernel
theorem dL_law_997 : decode cL_law 997 = .ok (.if_icmp .eq 5, 3) := by decide +kernel
theorem dL_law_1000 : decode cL_law 1000 = .ok (.iconst 0, 1) := by decide +kernel
theorem dL_law_1001 : decode cL_law 1001 = .ok (.ireturn, 1) := by decide +kernel
theorem dL_law_1002 : decode cL_law 1002 = .ok (.iload 6, 2) := by decide +kernel
theorem dL_law_1004 : decode cL_law 1004 = .ok (.ifCond .ne 15, 3) := by decide +kernel
theorem dL_law_1007 : decode cL_law 1007 = .ok (.aload_n 3, 1) := by decide +kernel
theorem dL_law_1008 : decode cL_law 1008 = .ok (.iconst 0, 1) := by decide +kernel
theorem dL_law_1009 : decode cL_law 1009 = .ok (.laload, 1) := by decide +kernel
theorem dL_law_1010 : decode cL_law 1010 = .ok (.iload 7, 2) := by decide +kernel
theorem dL_law_1012 : decode cL_law 1012 = .ok (.i2l, 1) := by decide +kernel
theorem dL_law_1013 : decode cL_law 1013 = .ok (.lcmp, 1) := by decide +kernel
theorem dL_law_1014 : decode cL_law 1014 = .ok (.ifCond .eq 5, 3) := by decide +kernel
theorem dL_law_1017 : decode cL_law 1017 = .ok (.iconst 0, 1) := by decide +kernel
theorem dL_law_1018 : decode cL_law 1018 = .ok (.ireturn, 1) := by decide +kernel
theorem dL_law_1019 : decode cL_law 1019 = .ok (.goto 876, 3) := by decide +kernel
theorem dL_law_1022 : decode cL_law 1022 = .ok (.aload_n 1, 1) := by decide +kernel
theorem dL_law_1023 : decode cL_law 1023 = .ok (.aload_n 3, 1) := by decide +kernel
theorem dL_law_1024 : decode cL_law 1024 = .ok (.invokestatic 172, 3) := by decide +kernel
theorem dL_law_1027 : decode cL_law 1027 = .ok (.istore 6, 2) := by decide +kernel
theorem dL_law_1029 : decode cL_law 1029 = .ok (.aload_n 2, 1) := by decide +kernel
theorem dL_law_1030 : decode cL_law 1030 = .ok (.invokevirtual 174, 3) := by decide +kernel
theorem dL_law_1033 : decode cL_law 1033 = .ok (.istore 7, 2) := by decide +kernel
theorem dL_law_1035 : decode cL_law 1035 = .ok (.aload_n 2, 1) := by decide +kernel
theorem dL_law_1036 : decode cL_law 1036 = .ok (.invokevirtual 111, 3) := by decide +kernel
theorem dL_law_1039 : decode cL_law 1039 = .ok (.iload 6, 2) := by decide +kernel
theorem dL_law_1041 : decode cL_law 1041 = .ok (.if_icmp .eq 5, 3) := by decide +kernel
theorem dL_law_1044 : decode cL_law 1044 = .ok (.iconst 0, 1) := by decide +kernel
theorem dL_law_1045 : decode cL_law 1045 = .ok (.ireturn, 1) := by decide +kernel
theorem dL_law_1046 : decode cL_law 1046 = .ok (.iload 6, 2) := by decide +kernel
theorem dL_law_1048 : decode cL_law 1048 = .ok (.ifCond .ne 15, 3) := by decide +kernel
theorem dL_law_1051 : decode cL_law 1051 = .ok (.aload_n 3, 1) := by decide +kernel
theorem dL_law_1052 : decode cL_law 1052 = .ok (.iconst 0, 1) := by decide +kernel
theorem dL_law_1053 : decode cL_law 1053 = .ok (.laload, 1) := by decide +kernel
theorem dL_law_1054 : decode cL_law 1054 = .ok (.iload 7, 2) := by decide +kernel
theorem dL_law_1056 : decode cL_law 1056 = .ok (.i2l, 1) := by decide +kernel
theorem dL_law_1057 : decode cL_law 1057 = .ok (.lcmp, 1) := by decide +kernel
theorem dL_law_1058 : decode cL_law 1058 = .ok (.ifCond .eq 5, 3) := by decide +kernel
theorem dL_law_1061 : decode cL_law 1061 = .ok (.iconst 0, 1) := by decide +kernel
theorem dL_law_1062 : decode cL_law 1062 = .ok (.ireturn, 1) := by decide +kernel
theorem dL_law_1063 : decode cL_law 1063 = .ok (.goto 832, 3) := by decide +kernel
theorem dL_law_1066 : decode cL_law 1066 = .ok (.aload_n 1, 1) := by decide +kernel
theorem dL_law_1067 : decode cL_law 1067 = .ok (.aload_n 0, 1) := by decide +kernel
theorem dL_law_1068 : decode cL_law 1068 = .ok (.iload 5, 2) := by decide +kernel
theorem dL_law_1070 : decode cL_law 1070 = .ok (.iconst 1, 1) := by decide +kernel
theorem dL_law_1071 : decode cL_law 1071 = .ok (.iadd, 1) := by decide +kernel
theorem dL_law_1072 : decode cL_law 1072 = .ok (.iaload, 1) := by decide +kernel
theorem dL_law_1073 : decode cL_law 1073 = .ok (.aload_n 0, 1) := by decide +kernel
theorem dL_law_1074 : decode cL_law 1074 = .ok (.iload 5, 2) := by decide +kernel
theorem dL_law_1076 : decode cL_law 1076 = .ok (.iconst 2, 1) := by decide +kernel
theorem dL_law_1077 : decode cL_law 1077 = .ok (.iadd, 1) := by decide +kernel
theorem dL_law_1078 : decode cL_law 1078 = .ok (.iaload, 1) := by decide +kernel
theorem dL_law_1079 : decode cL_law 1079 = .ok (.aload_n 3, 1) := by decide +kernel
theorem dL_law_1080 : decode cL_law 1080 = .ok (.invokestatic 175, 3) := by decide +kernel
theorem dL_law_1083 : decode cL_law 1083 = .ok (.istore 6, 2) := by decide +kernel
theorem dL_law_1085 : decode cL_law 1085 = .ok (.aload_n 2, 1) := by decide +kernel
theorem dL_law_1086 : decode cL_law 1086 = .ok (.aload_n 0, 1) := by decide +kernel
theorem dL_law_1087 : decode cL_law 1087 = .ok (.iload 5, 2) := by decide +kernel
theorem dL_law_1089 : decode cL_law 1089 = .ok (.iconst 1, 1) := by decide +kernel
theorem dL_law_1090 : decode cL_law 1090 = .ok (.iadd, 1) := by decide +kernel
theorem dL_law_1091 : decode cL_law 1091 = .ok (.iaload, 1) := by decide +kernel
theorem dL_law_1092 : decode cL_law 1092 = .ok (.aload_n 0, 1) := by decide +kernel
theorem dL_law_1093 : decode cL_law 1093 = .ok (.iload 5, 2) := by decide +kernel
theorem dL_law_1095 : decode cL_law 1095 = .ok (.iconst 2, 1) := by decide +kernel
theorem dL_law_1096 : decode cL_law 1096 = .ok (.iadd, 1) := by decide +kernel
theorem dL_law_1097 : decode cL_law 1097 = .ok (.iaload, 1) := by decide +kernel
theorem dL_law_1098 : decode cL_law 1098 = .ok (.invokevirtual 177, 3) := by decide +kernel
theorem dL_law_1101 : decode cL_law 1101 = .ok (.istore 7, 2) := by decide +kernel
theorem dL_law_1103 : decode cL_law 1103 = .ok (.aload_n 2, 1) := by decide +kernel
theorem dL_law_1104 : decode cL_law 1104 = .ok (.invokevirtual 111, 3) := by decide +kernel
theorem dL_law_1107 : decode cL_law 1107 = .ok (.iload 6, 2) := by decide +kernel
theorem dL_law_1109 : decode cL_law 1109 = .ok (.if_icmp .eq 5, 3) := by decide +kernel
theorem dL_law_1112 : decode cL_law 1112 = .ok (.iconst 0, 1) := by decide +kernel
theorem dL_law_1113 : decode cL_law 1113 = .ok (.ireturn, 1) := by decide +kernel
theorem dL_law_1114 : decode cL_law 1114 = .ok (.iload 6, 2) := by decide +kernel
theorem dL_law_1116 : decode cL_law 1116 = .ok (.ifCond .ne 15, 3) := by decide +kernel
theorem dL_law_1119 : decode cL_law 1119 = .ok (.aload_n 3, 1) := by decide +kernel
theorem dL_law_1120 : decode cL_law 1120 = .ok (.iconst 0, 1) := by decide +kernel
theorem dL_law_1121 : decode cL_law 1121 = .ok (.laload, 1) := by decide +kernel
theorem dL_law_1122 : decode cL_law 1122 = .ok (.iload 7, 2) := by decide +kernel
theorem dL_law_1124 : decode cL_law 1124 = .ok (.i2l, 1) := by decide +kernel
theorem dL_law_1125 : decode cL_law 1125 = .ok (.lcmp, 1) := by decide +kernel
theorem dL_law_1126 : decode cL_law 1126 = .ok (.ifCond .eq 5, 3) := by decide +kernel
theorem dL_law_1129 : decode cL_law 1129 = .ok (.iconst 0, 1) := by decide +kernel
theorem dL_law_1130 : decode cL_law 1130 = .ok (.ireturn, 1) := by decide +kernel
theorem dL_law_1131 : decode cL_law 1131 = .ok (.goto 764, 3) := by decide +kernel
theorem dL_law_1134 : decode cL_law 1134 = .ok (.aload_n 1, 1) := by decide +kernel
theorem dL_law_1135 : decode cL_law 1135 = .ok (.aload_n 0, 1) := by decide +kernel
theorem dL_law_1136 : decode cL_law 1136 = .ok (.iload 5, 2) := by decide +kernel
theorem dL_law_1138 : decode cL_law 1138 = .ok (.iconst 1, 1) := by decide +kernel
theorem dL_law_1139 : decode cL_law 1139 = .ok (.iadd, 1) := by decide +kernel
theorem dL_law_1140 : decode cL_law 1140 = .ok (.iaload, 1) := by decide +kernel
theorem dL_law_1141 : decode cL_law 1141 = .ok (.aload_n 3, 1) := by decide +kernel
theorem dL_law_1142 : decode cL_law 1142 = .ok (.invokestatic 178, 3) := by decide +kernel
theorem dL_law_1145 : decode cL_law 1145 = .ok (.istore 6, 2) := by decide +kernel
theorem dL_law_1147 : decode cL_law 1147 = .ok (.aload_n 2, 1) := by decide +kernel
theorem dL_law_1148 : decode cL_law 1148 = .ok (.aload_n 0, 1) := by decide +kernel
theorem dL_law_1149 : decode cL_law 1149 = .ok (.iload 5, 2) := by decide +kernel
theorem dL_law_1151 : decode cL_law 1151 = .ok (.iconst 1, 1) := by decide +kernel
theorem dL_law_1152 : decode cL_law 1152 = .ok (.iadd, 1) := by decide +kernel
theorem dL_law_1153 : decode cL_law 1153 = .ok (.iaload, 1) := by decide +kernel
theorem dL_law_1154 : decode cL_law 1154 = .ok (.invokevirtual 180, 3) := by decide +kernel
theorem dL_law_1157 : decode cL_law 1157 = .ok (.istore 7, 2) := by decide +kernel
theorem dL_law_1159 : decode cL_law 1159 = .ok (.aload_n 2, 1) := by decide +kernel
theorem dL_law_1160 : decode cL_law 1160 = .ok (.invokevirtual 111, 3) := by decide +kernel
theorem dL_law_1163 : decode cL_law 1163 = .ok (.iload 6, 2) := by decide +kernel
theorem dL_law_1165 : decode cL_law 1165 = .ok (.if_icmp .eq 5, 3) := by decide +kernel
theorem dL_law_1168 : decode cL_law 1168 = .ok (.iconst 0, 1) := by decide +kernel
theorem dL_law_1169 : decode cL_law 1169 = .ok (.ireturn, 1) := by decide +kernel
theorem dL_law_1170 : decode cL_law 1170 = .ok (.iload 6, 2) := by decide +kernel
theorem dL_law_1172 : decode cL_law 1172 = .ok (.ifCond .ne 15, 3) := by decide +kernel
theorem dL_law_1175 : decode cL_law 1175 = .ok (.aload_n 3, 1) := by decide +kernel
theorem dL_law_1176 : decode cL_law 1176 = .ok (.iconst 0, 1) := by decide +kernel
theorem dL_law_1177 : decode cL_law 1177 = .ok (.laload, 1) := by decide +kernel
theorem dL_law_1178 : decode cL_law 1178 = .ok (.iload 7, 2) := by decide +kernel
theorem dL_law_1180 : decode cL_law 1180 = .ok (.i2l, 1) := by decide +kernel
theorem dL_law_1181 : decode cL_law 1181 = .ok (.lcmp, 1) := by decide +kernel
theorem dL_law_1182 : decode cL_law 1182 = .ok (.ifCond .eq 5, 3) := by decide +kernel
theorem dL_law_1185 : decode cL_law 1185 = .ok (.iconst 0, 1) := by decide +kernel
theorem dL_law_1186 : decode cL_law 1186 = .ok (.ireturn, 1) := by decide +kernel
theorem dL_law_1187 : decode cL_law 1187 = .ok (.goto 708, 3) := by decide +kernel
theorem dL_law_1190 : decode cL_law 1190 = .ok (.aload_n 1, 1) := by decide +kernel
theorem dL_law_1191 : decode cL_law 1191 = .ok (.aload_n 0, 1) := by decide +kernel
theorem dL_law_1192 : decode cL_law 1192 = .ok (.iload 5, 2) := by decide +kernel
theorem dL_law_1194 : decode cL_law 1194 = .ok (.iconst 1, 1) := by decide +kernel
theorem dL_law_1195 : decode cL_law 1195 = .ok (.iadd, 1) := by decide +kernel
theorem dL_law_1196 : decode cL_law 1196 = .ok (.iaload, 1) := by decide +kernel
theorem dL_law_1197 : decode cL_law 1197 = .ok (.aload_n 3, 1) := by decide +kernel
theorem dL_law_1198 : decode cL_law 1198 = .ok (.invokestatic 181, 3) := by decide +kernel
theorem dL_law_1201 : decode cL_law 1201 = .ok (.istore 6, 2) := by decide +kernel
theorem dL_law_1203 : decode cL_law 1203 = .ok (.aload_n 2, 1) := by decide +kernel
theorem dL_law_1204 : decode cL_law 1204 = .ok (.aload_n 0, 1) := by decide +kernel
theorem dL_law_1205 : decode cL_law 1205 = .ok (.iload 5, 2) := by decide +kernel
theorem dL_law_1207 : decode cL_law 1207 = .ok (.iconst 1, 1) := by decide +kernel
theorem dL_law_1208 : decode cL_law 1208 = .ok (.iadd, 1) := by decide +kernel
theorem dL_law_1209 : decode cL_law 1209 = .ok (.iaload, 1) := by decide +kernel
theorem dL_law_1210 : decode cL_law 1210 = .ok (.invokevirtual 183, 3) := by decide +kernel
theorem dL_law_1213 : decode cL_law 1213 = .ok (.istore 7, 2) := by decide +kernel
theorem dL_law_1215 : decode cL_law 1215 = .ok (.aload_n 2, 1) := by decide +kernel
theorem dL_law_1216 : decode cL_law 1216 = .ok (.invokevirtual 111, 3) := by decide +kernel
theorem dL_law_1219 : decode cL_law 1219 = .ok (.iload 6, 2) := by decide +kernel
theorem dL_law_1221 : decode cL_law 1221 = .ok (.if_icmp .eq 5, 3) := by decide +kernel
theorem dL_law_1224 : decode cL_law 1224 = .ok (.iconst 0, 1) := by decide +kernel
theorem dL_law_1225 : decode cL_law 1225 = .ok (.ireturn, 1) := by decide +kernel
theorem dL_law_1226 : decode cL_law 1226 = .ok (.iload 6, 2) := by decide +kernel
theorem dL_law_1228 : decode cL_law 1228 = .ok (.ifCond .ne 15, 3) := by decide +kernel
theorem dL_law_1231 : decode cL_law 1231 = .ok (.aload_n 3, 1) := by decide +kernel
theorem dL_law_1232 : decode cL_law 1232 = .ok (.iconst 0, 1) := by decide +kernel
theorem dL_law_1233 : decode cL_law 1233 = .ok (.laload, 1) := by decide +kernel
theorem dL_law_1234 : decode cL_law 1234 = .ok (.iload 7, 2) := by decide +kernel
theorem dL_law_1236 : decode cL_law 1236 = .ok (.i2l, 1) := by decide +kernel
theorem dL_law_1237 : decode cL_law 1237 = .ok (.lcmp, 1) := by decide +kernel
theorem dL_law_1238 : decode cL_law 1238 = .ok (.ifCond .eq 5, 3) := by decide +kernel
theorem dL_law_1241 : decode cL_law 1241 = .ok (.iconst 0, 1) := by decide +kernel
theorem dL_law_1242 : decode cL_law 1242 = .ok (.ireturn, 1) := by decide +kernel
theorem dL_law_1243 : decode cL_law 1243 = .ok (.goto 652, 3) := by decide +kernel
theorem dL_law_1246 : decode cL_law 1246 = .ok (.aload_n 1, 1) := by decide +kernel
theorem dL_law_1247 : decode cL_law 1247 = .ok (.aload_n 3, 1) := by decide +kernel
theorem dL_law_1248 : decode cL_law 1248 = .ok (.invokestatic 184, 3) := by decide +kernel
theorem dL_law_1251 : decode cL_law 1251 = .ok (.istore 6, 2) := by decide +kernel
theorem dL_law_1253 : decode cL_law 1253 = .ok (.aload_n 2, 1) := by decide +kernel
theorem dL_law_1254 : decode cL_law 1254 = .ok (.invokevirtual 186, 3) := by decide +kernel
theorem dL_law_1257 : decode cL_law 1257 = .ok (.istore 7, 2) := by decide +kernel
theorem dL_law_1259 : decode cL_law 1259 = .ok (.aload_n 2, 1) := by decide +kernel
theorem dL_law_1260 : decode cL_law 1260 = .ok (.invokevirtual 111, 3) := by decide +kernel
theorem dL_law_1263 : decode cL_law 1263 = .ok (.iload 6, 2) := by decide +kernel
theorem dL_law_1265 : decode cL_law 1265 = .ok (.if_icmp .eq 5, 3) := by decide +kernel
theorem dL_law_1268 : decode cL_law 1268 = .ok (.iconst 0, 1) := by decide +kernel
theorem dL_law_1269 : decode cL_law 1269 = .ok (.ireturn, 1) := by decide +kernel
theorem dL_law_1270 : decode cL_law 1270 = .ok (.iload 6, 2) := by decide +kernel
theorem dL_law_1272 : decode cL_law 1272 = .ok (.ifCond .ne 22, 3) := by decide +kernel
theorem dL_law_1275 : decode cL_law 1275 = .ok (.aload_n 3, 1) := by decide +kernel
theorem dL_law_1276 : decode cL_law 1276 = .ok (.iconst 0, 1) := by decide +kernel
theorem dL_law_1277 : decode cL_law 1277 = .ok (.laload, 1) := by decide +kernel
theorem dL_law_1278 : decode cL_law 1278 = .ok (.iload 7, 2) := by decide +kernel
theorem dL_law_1280 : decode cL_law 1280 = .ok (.ifCond .eq 7, 3) := by decide +kernel
theorem dL_law_1283 : decode cL_law 1283 = .ok (.lconst 1, 1) := by decide +kernel
theorem dL_law_1284 : decode cL_law 1284 = .ok (.goto 4, 3) := by decide +kernel
theorem dL_law_1287 : decode cL_law 1287 = .ok (.lconst 0, 1) := by decide +kernel
theorem dL_law_1288 : decode cL_law 1288 = .ok (.lcmp, 1) := by decide +kernel
theorem dL_law_1289 : decode cL_law 1289 = .ok (.ifCond .eq 5, 3) := by decide +kernel
theorem dL_law_1292 : decode cL_law 1292 = .ok (.iconst 0, 1) := by decide +kernel
theorem dL_law_1293 : decode cL_law 1293 = .ok (.ireturn, 1) := by decide +kernel
theorem dL_law_1294 : decode cL_law 1294 = .ok (.goto 601, 3) := by decide +kernel
theorem dL_law_1297 : decode cL_law 1297 = .ok (.aload_n 1, 1) := by decide +kernel
theorem dL_law_1298 : decode cL_law 1298 = .ok (.aload_n 3, 1) := by decide +kernel
theorem dL_law_1299 : decode cL_law 1299 = .ok (.invokestatic 187, 3) := by decide +kernel
theorem dL_law_1302 : decode cL_law 1302 = .ok (.istore 6, 2) := by decide +kernel
theorem dL_law_1304 : decode cL_law 1304 = .ok (.aload_n 2, 1) := by decide +kernel
theorem dL_law_1305 : decode cL_law 1305 = .ok (.invokevirtual 189, 3) := by decide +kernel
theorem dL_law_1308 : decode cL_law 1308 = .ok (.istore 7, 2) := by decide +kernel
theorem dL_law_1310 : decode cL_law 1310 = .ok (.aload_n 2, 1) := by decide +kernel
theorem dL_law_1311 : decode cL_law 1311 = .ok (.invokevirtual 111, 3) := by decide +kernel
theorem dL_law_1314 : decode cL_law 1314 = .ok (.iload 6, 2) := by decide +kernel
theorem dL_law_1316 : decode cL_law 1316 = .ok (.if_icmp .eq 5, 3) := by decide +kernel
theorem dL_law_1319 : decode cL_law 1319 = .ok (.iconst 0, 1) := by decide +kernel
theorem dL_law_1320 : decode cL_law 1320 = .ok (.ireturn, 1) := by decide +kernel
theorem dL_law_1321 : decode cL_law 1321 = .ok (.iload 6, 2) := by decide +kernel
theorem dL_law_1323 : decode cL_law 1323 = .ok (.ifCond .ne 15, 3) := by decide +kernel
theorem dL_law_1326 : decode cL_law 1326 = .ok (.aload_n 3, 1) := by decide +kernel
theorem dL_law_1327 : decode cL_law 1327 = .ok (.iconst 0, 1) := by decide +kernel
theorem dL_law_1328 : decode cL_law 1328 = .ok (.laload, 1) := by decide +kernel
theorem dL_law_1329 : decode cL_law 1329 = .ok (.iload 7, 2) := by decide +kernel
theorem dL_law_1331 : decode cL_law 1331 = .ok (.i2l, 1) := by decide +kernel
theorem dL_law_1332 : decode cL_law 1332 = .ok (.lcmp, 1) := by decide +kernel
theorem dL_law_1333 : decode cL_law 1333 = .ok (.ifCond .eq 5, 3) := by decide +kernel
theorem dL_law_1336 : decode cL_law 1336 = .ok (.iconst 0, 1) := by decide +kernel
theorem dL_law_1337 : decode cL_law 1337 = .ok (.ireturn, 1) := by decide +kernel
theorem dL_law_1338 : decode cL_law 1338 = .ok (.goto 557, 3) := by decide +kernel
theorem dL_law_1341 : decode cL_law 1341 = .ok (.aload_n 1, 1) := by decide +kernel
theorem dL_law_1342 : decode cL_law 1342 = .ok (.aload_n 3, 1) := by decide +kernel
theorem dL_law_1343 : decode cL_law 1343 = .ok (.invokestatic 190, 3) := by decide +kernel
theorem dL_law_1346 : decode cL_law 1346 = .ok (.istore 6, 2) := by decide +kernel
theorem dL_law_1348 : decode cL_law 1348 = .ok (.aload_n 2, 1) := by decide +kernel
theorem dL_law_1349 : decode cL_law 1349 = .ok (.invokevirtual 192, 3) := by decide +kernel
theorem dL_law_1352 : decode cL_law 1352 = .ok (.istore 7, 2) := by decide +kernel
theorem dL_law_1354 : decode cL_law 1354 = .ok (.aload_n 2, 1) := by decide +kernel
theorem dL_law_1355 : decode cL_law 1355 = .ok (.invokevirtual 111, 3) := by decide +kernel
theorem dL_law_1358 : decode cL_law 1358 = .ok (.iload 6, 2) := by decide +kernel
theorem dL_law_1360 : decode cL_law 1360 = .ok (.if_icmp .eq 5, 3) := by decide +kernel
theorem dL_law_1363 : decode cL_law 1363 = .ok (.iconst 0, 1) := by decide +kernel
theorem dL_law_1364 : decode cL_law 1364 = .ok (.ireturn, 1) := by decide +kernel
theorem dL_law_1365 : decode cL_law 1365 = .ok (.iload 6, 2) := by decide +kernel
theorem dL_law_1367 : decode cL_law 1367 = .ok (.ifCond .ne 15, 3) := by decide +kernel
theorem dL_law_1370 : decode cL_law 1370 = .ok (.aload_n 3, 1) := by decide +kernel
theorem dL_law_1371 : decode cL_law 1371 = .ok (.iconst 0, 1) := by decide +kernel
theorem dL_law_1372 : decode cL_law 1372 = .ok (.laload, 1) := by decide +kernel
theorem dL_law_1373 : decode cL_law 1373 = .ok (.iload 7, 2) := by decide +kernel
theorem dL_law_1375 : decode cL_law 1375 = .ok (.i2l, 1) := by decide +kernel
theorem dL_law_1376 : decode cL_law 1376 = .ok (.lcmp, 1) := by decide +kernel
theorem dL_law_1377 : decode cL_law 1377 = .ok (.ifCond .eq 5, 3) := by decide +kernel
theorem dL_law_1380 : decode cL_law 1380 = .ok (.iconst 0, 1) := by decide +kernel
theorem dL_law_1381 : decode cL_law 1381 = .ok (.ireturn, 1) := by decide +kernel
theorem dL_law_1382 : decode cL_law 1382 = .ok (.goto 513, 3) := by decide +kernel
theorem dL_law_1385 : decode cL_law 1385 = .ok (.aload_n 1, 1) := by decide +kernel
theorem dL_law_1386 : decode cL_law 1386 = .ok (.aload_n 0, 1) := by decide +kernel
theorem dL_law_1387 : decode cL_law 1387 = .ok (.iload 5, 2) := by decide +kernel
theorem dL_law_1389 : decode cL_law 1389 = .ok (.iconst 1, 1) := by decide +kernel
theorem dL_law_1390 : decode cL_law 1390 = .ok (.iadd, 1) := by decide +kernel
theorem dL_law_1391 : decode cL_law 1391 = .ok (.iaload, 1) := by decide +kernel
theorem dL_law_1392 : decode cL_law 1392 = .ok (.aload_n 3, 1) := by decide +kernel
theorem dL_law_1393 : decode cL_law 1393 = .ok (.invokestatic 193, 3) := by decide +kernel
theorem dL_law_1396 : decode cL_law 1396 = .ok (.istore 6, 2) := by decide +kernel
theorem dL_law_1398 : decode cL_law 1398 = .ok (.aload_n 2, 1) := by decide +kernel
theorem dL_law_1399 : decode cL_law 1399 = .ok (.aload_n 0, 1) := by decide +kernel
theorem dL_law_1400 : decode cL_law 1400 = .ok (.iload 5, 2) := by decide +kernel
theorem dL_law_1402 : decode cL_law 1402 = .ok (.iconst 1, 1) := by decide +kernel
theorem dL_law_1403 : decode cL_law 1403 = .ok (.iadd, 1) := by decide +kernel
theorem dL_law_1404 : decode cL_law 1404 = .ok (.iaload, 1) := by decide +kernel
theorem dL_law_1405 : decode cL_law 1405 = .ok (.invokevirtual 195, 3) := by decide +kernel
theorem dL_law_1408 : decode cL_law 1408 = .ok (.istore 7, 2) := by decide +kernel
theorem dL_law_1410 : decode cL_law 1410 = .ok (.aload_n 2, 1) := by decide +kernel
theorem dL_law_1411 : decode cL_law 1411 = .ok (.invokevirtual 111, 3) := by decide +kernel
theorem dL_law_1414 : decode cL_law 1414 = .ok (.iload 6, 2) := by decide +kernel
theorem dL_law_1416 : decode cL_law 1416 = .ok (.if_icmp .eq 5, 3) := by decide +kernel
theorem dL_law_1419 : decode cL_law 1419 = .ok (.iconst 0, 1) := by decide +kernel
theorem dL_law_1420 : decode cL_law 1420 = .ok (.ireturn, 1) := by decide +kernel
theorem dL_law_1421 : decode cL_law 1421 = .ok (.iload 6, 2) := by decide +kernel
theorem dL_law_1423 : decode cL_law 1423 = .ok (.ifCond .ne 15, 3) := by decide +kernel
theorem dL_law_1426 : decode cL_law 1426 = .ok (.aload_n 3, 1) := by decide +kernel
theorem dL_law_1427 : decode cL_law 1427 = .ok (.iconst 0, 1) := by decide +kernel
theorem dL_law_1428 : decode cL_law 1428 = .ok (.laload, 1) := by decide +kernel
theorem dL_law_1429 : decode cL_law 1429 = .ok (.iload 7, 2) := by decide +kernel
theorem dL_law_1431 : decode cL_law 1431 = .ok (.i2l, 1) := by decide +kernel
theorem dL_law_1432 : decode cL_law 1432 = .ok (.lcmp, 1) := by decide +kernel
theorem dL_law_1433 : decode cL_law 1433 = .ok (.ifCond .eq 5, 3) := by decide +kernel
theorem dL_law_1436 : decode cL_law 1436 = .ok (.iconst 0, 1) := by decide +kernel
theorem dL_law_1437 : decode cL_law 1437 = .ok (.ireturn, 1) := by decide +kernel
theorem dL_law_1438 : decode cL_law 1438 = .ok (.goto 457, 3) := by decide +kernel
theorem dL_law_1441 : decode cL_law 1441 = .ok (.aload_n 1, 1) := by decide +kernel
theorem dL_law_1442 : decode cL_law 1442 = .ok (.aload_n 0, 1) := by decide +kernel
theorem dL_law_1443 : decode cL_law 1443 = .ok (.iload 5, 2) := by decide +kernel
theorem dL_law_1445 : decode cL_law 1445 = .ok (.iconst 1, 1) := by decide +kernel
theorem dL_law_1446 : decode cL_law 1446 = .ok (.iadd, 1) := by decide +kernel
theorem dL_law_1447 : decode cL_law 1447 = .ok (.iaload, 1) := by decide +kernel
theorem dL_law_1448 : decode cL_law 1448 = .ok (.aload_n 0, 1) := by decide +kernel
theorem dL_law_1449 : decode cL_law 1449 = .ok (.iload 5, 2) := by decide +kernel
theorem dL_law_1451 : decode cL_law 1451 = .ok (.iconst 2, 1) := by decide +kernel
theorem dL_law_1452 : decode cL_law 1452 = .ok (.iadd, 1) := by decide +kernel
theorem dL_law_1453 : decode cL_law 1453 = .ok (.iaload, 1) := by decide +kernel
theorem dL_law_1454 : decode cL_law 1454 = .ok (.aload_n 0, 1) := by decide +kernel
theorem dL_law_1455 : decode cL_law 1455 = .ok (.iload 5, 2) := by decide +kernel
theorem dL_law_1457 : decode cL_law 1457 = .ok (.iconst 3, 1) := by decide +kernel
theorem dL_law_1458 : decode cL_law 1458 = .ok (.iadd, 1) := by decide +kernel
theorem dL_law_1459 : decode cL_law 1459 = .ok (.iaload, 1) := by decide +kernel
theorem dL_law_1460 : decode cL_law 1460 = .ok (.aload_n 3, 1) := by decide +kernel
theorem dL_law_1461 : decode cL_law 1461 = .ok (.invokestatic 196, 3) := by decide +kernel
theorem dL_law_1464 : decode cL_law 1464 = .ok (.istore 6, 2) := by decide +kernel
theorem dL_law_1466 : decode cL_law 1466 = .ok (.aload_n 2, 1) := by decide +kernel
theorem dL_law_1467 : decode cL_law 1467 = .ok (.aload_n 0, 1) := by decide +kernel
theorem dL_law_1468 : decode cL_law 1468 = .ok (.iload 5, 2) := by decide +kernel
theorem dL_law_1470 : decode cL_law 1470 = .ok (.iconst 1, 1) := by decide +kernel
theorem dL_law_1471 : decode cL_law 1471 = .ok (.iadd, 1) := by decide +kernel
theorem dL_law_1472 : decode cL_law 1472 = .ok (.iaload, 1) := by decide +kernel
theorem dL_law_1473 : decode cL_law 1473 = .ok (.aload_n 0, 1) := by decide +kernel
theorem dL_law_1474 : decode cL_law 1474 = .ok (.iload 5, 2) := by decide +kernel
theorem dL_law_1476 : decode cL_law 1476 = .ok (.iconst 2, 1) := by decide +kernel
theorem dL_law_1477 : decode cL_law 1477 = .ok (.iadd, 1) := by decide +kernel
theorem dL_law_1478 : decode cL_law 1478 = .ok (.iaload, 1) := by decide +kernel
theorem dL_law_1479 : decode cL_law 1479 = .ok (.aload_n 0, 1) := by decide +kernel
theorem dL_law_1480 : decode cL_law 1480 = .ok (.iload 5, 2) := by decide +kernel
theorem dL_law_1482 : decode cL_law 1482 = .ok (.iconst 3, 1) := by decide +kernel
theorem dL_law_1483 : decode cL_law 1483 = .ok (.iadd, 1) := by decide +kernel
theorem dL_law_1484 : decode cL_law 1484 = .ok (.iaload, 1) := by decide +kernel
theorem dL_law_1485 : decode cL_law 1485 = .ok (.invokevirtual 198, 3) := by decide +kernel
theorem dL_law_1488 : decode cL_law 1488 = .ok (.istore 7, 2) := by decide +kernel
theorem dL_law_1490 : decode cL_law 1490 = .ok (.aload_n 2, 1) := by decide +kernel
theorem dL_law_1491 : decode cL_law 1491 = .ok (.invokevirtual 111, 3) := by decide +kernel
theorem dL_law_1494 : decode cL_law 1494 = .ok (.iload 6, 2) := by decide +kernel
theorem dL_law_1496 : decode cL_law 1496 = .ok (.if_icmp .eq 5, 3) := by decide +kernel
theorem dL_law_1499 : decode cL_law 1499 = .ok (.iconst 0, 1) := by decide +kernel
theorem dL_law_1500 : decode cL_law 1500 = .ok (.ireturn, 1) := by decide +kernel
theorem dL_law_1501 : decode cL_law 1501 = .ok (.iload 6, 2) := by decide +kernel
theorem dL_law_1503 : decode cL_law 1503 = .ok (.ifCond .ne 15, 3) := by decide +kernel
theorem dL_law_1506 : decode cL_law 1506 = .ok (.aload_n 3, 1) := by decide +kernel
theorem dL_law_1507 : decode cL_law 1507 = .ok (.iconst 0, 1) := by decide +kernel
theorem dL_law_1508 : decode cL_law 1508 = .ok (.laload, 1) := by decide +kernel
theorem dL_law_1509 : decode cL_law 1509 = .ok (.iload 7, 2) := by decide +kernel
theorem dL_law_1511 : decode cL_law 1511 = .ok (.i2l, 1) := by decide +kernel
theorem dL_law_1512 : decode cL_law 1512 = .ok (.lcmp, 1) := by decide +kernel
theorem dL_law_1513 : decode cL_law 1513 = .ok (.ifCond .eq 5, 3) := by decide +kernel
theorem dL_law_1516 : decode cL_law 1516 = .ok (.iconst 0, 1) := by decide +kernel
theorem dL_law_1517 : decode cL_law 1517 = .ok (.ireturn, 1) := by decide +kernel
theorem dL_law_1518 : decode cL_law 1518 = .ok (.goto 377, 3) := by decide +kernel
theorem dL_law_1521 : decode cL_law 1521 = .ok (.aload_n 1, 1) := by decide +kernel
theorem dL_law_1522 : decode cL_law 1522 = .ok (.aload_n 0, 1) := by decide +kernel
theorem dL_law_1523 : decode cL_law 1523 = .ok (.iload 5, 2) := by decide +kernel
theorem dL_law_1525 : decode cL_law 1525 = .ok (.iconst 1, 1) := by decide +kernel
theorem dL_law_1526 : decode cL_law 1526 = .ok (.iadd, 1) := by decide +kernel
theorem dL_law_1527 : decode cL_law 1527 = .ok (.iaload, 1) := by decide +kernel
theorem dL_law_1528 : decode cL_law 1528 = .ok (.aload_n 0, 1) := by decide +kernel
theorem dL_law_1529 : decode cL_law 1529 = .ok (.iload 5, 2) := by decide +kernel
theorem dL_law_1531 : decode cL_law 1531 = .ok (.iconst 2, 1) := by decide +kernel
theorem dL_law_1532 : decode cL_law 1532 = .ok (.iadd, 1) := by decide +kernel
theorem dL_law_1533 : decode cL_law 1533 = .ok (.iaload, 1) := by decide +kernel
theorem dL_law_1534 : decode cL_law 1534 = .ok (.aload_n 0, 1) := by decide +kernel
theorem dL_law_1535 : decode cL_law 1535 = .ok (.iload 5, 2) := by decide +kernel
theorem dL_law_1537 : decode cL_law 1537 = .ok (.iconst 3, 1) := by decide +kernel
theorem dL_law_1538 : decode cL_law 1538 = .ok (.iadd, 1) := by decide +kernel
theorem dL_law_1539 : decode cL_law 1539 = .ok (.iaload, 1) := by decide +kernel
theorem dL_law_1540 : decode cL_law 1540 = .ok (.aload_n 3, 1) := by decide +kernel
theorem dL_law_1541 : decode cL_law 1541 = .ok (.invokestatic 199, 3) := by decide +kernel
theorem dL_law_1544 : decode cL_law 1544 = .ok (.istore 6, 2) := by decide +kernel
theorem dL_law_1546 : decode cL_law 1546 = .ok (.aload_n 2, 1) := by decide +kernel
theorem dL_law_1547 : decode cL_law 1547 = .ok (.aload_n 0, 1) := by decide +kernel
theorem dL_law_1548 : decode cL_law 1548 = .ok (.iload 5, 2) := by decide +kernel
theorem dL_law_1550 : decode cL_law 1550 = .ok (.iconst 1, 1) := by decide +kernel
theorem dL_law_1551 : decode cL_law 1551 = .ok (.iadd, 1) := by decide +kernel
theorem dL_law_1552 : decode cL_law 1552 = .ok (.iaload, 1) := by decide +kernel
theorem dL_law_1553 : decode cL_law 1553 = .ok (.aload_n 0, 1) := by decide +kernel
theorem dL_law_1554 : decode cL_law 1554 = .ok (.iload 5, 2) := by decide +kernel
theorem dL_law_1556 : decode cL_law 1556 = .ok (.iconst 2, 1) := by decide +kernel
theorem dL_law_1557 : decode cL_law 1557 = .ok (.iadd, 1) := by decide +kernel
theorem dL_law_1558 : decode cL_law 1558 = .ok (.iaload, 1) := by decide +kernel
theorem dL_law_1559 : decode cL_law 1559 = .ok (.aload_n 0, 1) := by decide +kernel
theorem dL_law_1560 : decode cL_law 1560 = .ok (.iload 5, 2) := by decide +kernel
theorem dL_law_1562 : decode cL_law 1562 = .ok (.iconst 3, 1) := by decide +kernel
theorem dL_law_1563 : decode cL_law 1563 = .ok (.iadd, 1) := by decide +kernel
theorem dL_law_1564 : decode cL_law 1564 = .ok (.iaload, 1) := by decide +kernel
theorem dL_law_1565 : decode cL_law 1565 = .ok (.invokevirtual 201, 3) := by decide +kernel
theorem dL_law_1568 : decode cL_law 1568 = .ok (.istore 7, 2) := by decide +kernel
theorem dL_law_1570 : decode cL_law 1570 = .ok (.aload_n 2, 1) := by decide +kernel
theorem dL_law_1571 : decode cL_law 1571 = .ok (.invokevirtual 111, 3) := by decide +kernel
theorem dL_law_1574 : decode cL_law 1574 = .ok (.iload 6, 2) := by decide +kernel
theorem dL_law_1576 : decode cL_law 1576 = .ok (.if_icmp .eq 5, 3) := by decide +kernel
theorem dL_law_1579 : decode cL_law 1579 = .ok (.iconst 0, 1) := by decide +kernel
theorem dL_law_1580 : decode cL_law 1580 = .ok (.ireturn, 1) := by decide +kernel
theorem dL_law_1581 : decode cL_law 1581 = .ok (.iload 6, 2) := by decide +kernel
theorem dL_law_1583 : decode cL_law 1583 = .ok (.ifCond .ne 15, 3) := by decide +kernel
theorem dL_law_1586 : decode cL_law 1586 = .ok (.aload_n 3, 1) := by decide +kernel
theorem dL_law_1587 : decode cL_law 1587 = .ok (.iconst 0, 1) := by decide +kernel
theorem dL_law_1588 : decode cL_law 1588 = .ok (.laload, 1) := by decide +kernel
theorem dL_law_1589 : decode cL_law 1589 = .ok (.iload 7, 2) := by decide +kernel
theorem dL_law_1591 : decode cL_law 1591 = .ok (.i2l, 1) := by decide +kernel
theorem dL_law_1592 : decode cL_law 1592 = .ok (.lcmp, 1) := by decide +kernel
theorem dL_law_1593 : decode cL_law 1593 = .ok (.ifCond .eq 5, 3) := by decide +kernel
theorem dL_law_1596 : decode cL_law 1596 = .ok (.iconst 0, 1) := by decide +kernel
theorem dL_law_1597 : decode cL_law 1597 = .ok (.ireturn, 1) := by decide +kernel
theorem dL_law_1598 : decode cL_law 1598 = .ok (.goto 297, 3) := by decide +kernel
theorem dL_law_1601 : decode cL_law 1601 = .ok (.aload_n 1, 1) := by decide +kernel
theorem dL_law_1602 : decode cL_law 1602 = .ok (.aload_n 0, 1) := by decide +kernel
theorem dL_law_1603 : decode cL_law 1603 = .ok (.iload 5, 2) := by decide +kernel
theorem dL_law_1605 : decode cL_law 1605 = .ok (.iconst 1, 1) := by decide +kernel
theorem dL_law_1606 : decode cL_law 1606 = .ok (.iadd, 1) := by decide +kernel
theorem dL_law_1607 : decode cL_law 1607 = .ok (.iaload, 1) := by decide +kernel
theorem dL_law_1608 : decode cL_law 1608 = .ok (.aload_n 0, 1) := by decide +kernel
theorem dL_law_1609 : decode cL_law 1609 = .ok (.iload 5, 2) := by decide +kernel
theorem dL_law_1611 : decode cL_law 1611 = .ok (.iconst 2, 1) := by decide +kernel
theorem dL_law_1612 : decode cL_law 1612 = .ok (.iadd, 1) := by decide +kernel
theorem dL_law_1613 : decode cL_law 1613 = .ok (.iaload, 1) := by decide +kernel
theorem dL_law_1614 : decode cL_law 1614 = .ok (.aload_n 0, 1) := by decide +kernel
theorem dL_law_1615 : decode cL_law 1615 = .ok (.iload 5, 2) := by decide +kernel
theorem dL_law_1617 : decode cL_law 1617 = .ok (.iconst 3, 1) := by decide +kernel
theorem dL_law_1618 : decode cL_law 1618 = .ok (.iadd, 1) := by decide +kernel
theorem dL_law_1619 : decode cL_law 1619 = .ok (.iaload, 1) := by decide +kernel
theorem dL_law_1620 : decode cL_law 1620 = .ok (.aload_n 3, 1) := by decide +kernel
theorem dL_law_1621 : decode cL_law 1621 = .ok (.invokestatic 202, 3) := by decide +kernel
theorem dL_law_1624 : decode cL_law 1624 = .ok (.istore 6, 2) := by decide +kernel
theorem dL_law_1626 : decode cL_law 1626 = .ok (.aload_n 2, 1) := by decide +kernel
theorem dL_law_1627 : decode cL_law 1627 = .ok (.aload_n 0, 1) := by decide +kernel
theorem dL_law_1628 : decode cL_law 1628 = .ok (.iload 5, 2) := by decide +kernel
theorem dL_law_1630 : decode cL_law 1630 = .ok (.iconst 1, 1) := by decide +kernel
theorem dL_law_1631 : decode cL_law 1631 = .ok (.iadd, 1) := by decide +kernel
theorem dL_law_1632 : decode cL_law 1632 = .ok (.iaload, 1) := by decide +kernel
theorem dL_law_1633 : decode cL_law 1633 = .ok (.aload_n 0, 1) := by decide +kernel
theorem dL_law_1634 : decode cL_law 1634 = .ok (.iload 5, 2) := by decide +kernel
theorem dL_law_1636 : decode cL_law 1636 = .ok (.iconst 2, 1) := by decide +kernel
theorem dL_law_1637 : decode cL_law 1637 = .ok (.iadd, 1) := by decide +kernel
theorem dL_law_1638 : decode cL_law 1638 = .ok (.iaload, 1) := by decide +kernel
theorem dL_law_1639 : decode cL_law 1639 = .ok (.aload_n 0, 1) := by decide +kernel
theorem dL_law_1640 : decode cL_law 1640 = .ok (.iload 5, 2) := by decide +kernel
theorem dL_law_1642 : decode cL_law 1642 = .ok (.iconst 3, 1) := by decide +kernel
theorem dL_law_1643 : decode cL_law 1643 = .ok (.iadd, 1) := by decide +kernel
theorem dL_law_1644 : decode cL_law 1644 = .ok (.iaload, 1) := by decide +kernel
theorem dL_law_1645 : decode cL_law 1645 = .ok (.invokevirtual 204, 3) := by decide +kernel
theorem dL_law_1648 : decode cL_law 1648 = .ok (.istore 7, 2) := by decide +kernel
theorem dL_law_1650 : decode cL_law 1650 = .ok (.aload_n 2, 1) := by decide +kernel
theorem dL_law_1651 : decode cL_law 1651 = .ok (.invokevirtual 111, 3) := by decide +kernel
theorem dL_law_1654 : decode cL_law 1654 = .ok (.iload 6, 2) := by decide +kernel
theorem dL_law_1656 : decode cL_law 1656 = .ok (.if_icmp .eq 5, 3) := by decide +kernel
theorem dL_law_1659 : decode cL_law 1659 = .ok (.iconst 0, 1) := by decide +kernel
theorem dL_law_1660 : decode cL_law 1660 = .ok (.ireturn, 1) := by decide +kernel
theorem dL_law_1661 : decode cL_law 1661 = .ok (.iload 6, 2) := by decide +kernel
theorem dL_law_1663 : decode cL_law 1663 = .ok (.ifCond .ne 15, 3) := by decide +kernel
theorem dL_law_1666 : decode cL_law 1666 = .ok (.aload_n 3, 1) := by decide +kernel
theorem dL_law_1667 : decode cL_law 1667 = .ok (.iconst 0, 1) := by decide +kernel
theorem dL_law_1668 : decode cL_law 1668 = .ok (.laload, 1) := by decide +kernel
theorem dL_law_1669 : decode cL_law 1669 = .ok (.iload 7, 2) := by decide +kernel
theorem dL_law_1671 : decode cL_law 1671 = .ok (.i2l, 1) := by decide +kernel
theorem dL_law_1672 : decode cL_law 1672 = .ok (.lcmp, 1) := by decide +kernel
theorem dL_law_1673 : decode cL_law 1673 = .ok (.ifCond .eq 5, 3) := by decide +kernel
theorem dL_law_1676 : decode cL_law 1676 = .ok (.iconst 0, 1) := by decide +kernel
theorem dL_law_1677 : decode cL_law 1677 = .ok (.ireturn, 1) := by decide +kernel
theorem dL_law_1678 : decode cL_law 1678 = .ok (.goto 217, 3) := by decide +kernel
theorem dL_law_1681 : decode cL_law 1681 = .ok (.aload_n 1, 1) := by decide +kernel
theorem dL_law_1682 : decode cL_law 1682 = .ok (.aload_n 0, 1) := by decide +kernel
theorem dL_law_1683 : decode cL_law 1683 = .ok (.iload 5, 2) := by decide +kernel
theorem dL_law_1685 : decode cL_law 1685 = .ok (.iconst 1, 1) := by decide +kernel
theorem dL_law_1686 : decode cL_law 1686 = .ok (.iadd, 1) := by decide +kernel
theorem dL_law_1687 : decode cL_law 1687 = .ok (.iaload, 1) := by decide +kernel
theorem dL_law_1688 : decode cL_law 1688 = .ok (.aload_n 0, 1) := by decide +kernel
theorem dL_law_1689 : decode cL_law 1689 = .ok (.iload 5, 2) := by decide +kernel
theorem dL_law_1691 : decode cL_law 1691 = .ok (.iconst 2, 1) := by decide +kernel
theorem dL_law_1692 : decode cL_law 1692 = .ok (.iadd, 1) := by decide +kernel
theorem dL_law_1693 : decode cL_law 1693 = .ok (.iaload, 1) := by decide +kernel
theorem dL_law_1694 : decode cL_law 1694 = .ok (.aload_n 0, 1) := by decide +kernel
theorem dL_law_1695 : decode cL_law 1695 = .ok (.iload 5, 2) := by decide +kernel
theorem dL_law_1697 : decode cL_law 1697 = .ok (.iconst 3, 1) := by decide +kernel
theorem dL_law_1698 : decode cL_law 1698 = .ok (.iadd, 1) := by decide +kernel
theorem dL_law_1699 : decode cL_law 1699 = .ok (.iaload, 1) := by decide +kernel
theorem dL_law_1700 : decode cL_law 1700 = .ok (.aload_n 3, 1) := by decide +kernel
theorem dL_law_1701 : decode cL_law 1701 = .ok (.invokestatic 205, 3) := by decide +kernel
theorem dL_law_1704 : decode cL_law 1704 = .ok (.istore 6, 2) := by decide +kernel
theorem dL_law_1706 : decode cL_law 1706 = .ok (.aload_n 2, 1) := by decide +kernel
theorem dL_law_1707 : decode cL_law 1707 = .ok (.aload_n 0, 1) := by decide +kernel
theorem dL_law_1708 : decode cL_law 1708 = .ok (.iload 5, 2) := by decide +kernel
theorem dL_law_1710 : decode cL_law 1710 = .ok (.iconst 1, 1) := by decide +kernel
theorem dL_law_1711 : decode cL_law 1711 = .ok (.iadd, 1) := by decide +kernel
theorem dL_law_1712 : decode cL_law 1712 = .ok (.iaload, 1) := by decide +kernel
theorem dL_law_1713 : decode cL_law 1713 = .ok (.aload_n 0, 1) := by decide +kernel
theorem dL_law_1714 : decode cL_law 1714 = .ok (.iload 5, 2) := by decide +kernel
theorem dL_law_1716 : decode cL_law 1716 = .ok (.iconst 2, 1) := by decide +kernel
theorem dL_law_1717 : decode cL_law 1717 = .ok (.iadd, 1) := by decide +kernel
theorem dL_law_1718 : decode cL_law 1718 = .ok (.iaload, 1) := by decide +kernel
theorem dL_law_1719 : decode cL_law 1719 = .ok (.aload_n 0, 1) := by decide +kernel
theorem dL_law_1720 : decode cL_law 1720 = .ok (.iload 5, 2) := by decide +kernel
theorem dL_law_1722 : decode cL_law 1722 = .ok (.iconst 3, 1) := by decide +kernel
theorem dL_law_1723 : decode cL_law 1723 = .ok (.iadd, 1) := by decide +kernel
theorem dL_law_1724 : decode cL_law 1724 = .ok (.iaload, 1) := by decide +kernel
theorem dL_law_1725 : decode cL_law 1725 = .ok (.invokevirtual 207, 3) := by decide +kernel
theorem dL_law_1728 : decode cL_law 1728 = .ok (.istore 7, 2) := by decide +kernel
theorem dL_law_1730 : decode cL_law 1730 = .ok (.aload_n 2, 1) := by decide +kernel
theorem dL_law_1731 : decode cL_law 1731 = .ok (.invokevirtual 111, 3) := by decide +kernel
theorem dL_law_1734 : decode cL_law 1734 = .ok (.iload 6, 2) := by decide +kernel
theorem dL_law_1736 : decode cL_law 1736 = .ok (.if_icmp .eq 5, 3) := by decide +kernel
theorem dL_law_1739 : decode cL_law 1739 = .ok (.iconst 0, 1) := by decide +kernel
theorem dL_law_1740 : decode cL_law 1740 = .ok (.ireturn, 1) := by decide +kernel
theorem dL_law_1741 : decode cL_law 1741 = .ok (.iload 6, 2) := by decide +kernel
theorem dL_law_1743 : decode cL_law 1743 = .ok (.ifCond .ne 15, 3) := by decide +kernel
theorem dL_law_1746 : decode cL_law 1746 = .ok (.aload_n 3, 1) := by decide +kernel
theorem dL_law_1747 : decode cL_law 1747 = .ok (.iconst 0, 1) := by decide +kernel
theorem dL_law_1748 : decode cL_law 1748 = .ok (.laload, 1) := by decide +kernel
theorem dL_law_1749 : decode cL_law 1749 = .ok (.iload 7, 2) := by decide +kernel
theorem dL_law_1751 : decode cL_law 1751 = .ok (.i2l, 1) := by decide +kernel
theorem dL_law_1752 : decode cL_law 1752 = .ok (.lcmp, 1) := by decide +kernel
theorem dL_law_1753 : decode cL_law 1753 = .ok (.ifCond .eq 5, 3) := by decide +kernel
theorem dL_law_1756 : decode cL_law 1756 = .ok (.iconst 0, 1) := by decide +kernel
theorem dL_law_1757 : decode cL_law 1757 = .ok (.ireturn, 1) := by decide +kernel
theorem dL_law_1758 : decode cL_law 1758 = .ok (.goto 137, 3) := by decide +kernel
theorem dL_law_1761 : decode cL_law 1761 = .ok (.aload_n 1, 1) := by decide +kernel
theorem dL_law_1762 : decode cL_law 1762 = .ok (.aload_n 0, 1) := by decide +kernel
theorem dL_law_1763 : decode cL_law 1763 = .ok (.iload 5, 2) := by decide +kernel
theorem dL_law_1765 : decode cL_law 1765 = .ok (.iconst 1, 1) := by decide +kernel
theorem dL_law_1766 : decode cL_law 1766 = .ok (.iadd, 1) := by decide +kernel
theorem dL_law_1767 : decode cL_law 1767 = .ok (.iaload, 1) := by decide +kernel
theorem dL_law_1768 : decode cL_law 1768 = .ok (.aload_n 0, 1) := by decide +kernel
theorem dL_law_1769 : decode cL_law 1769 = .ok (.iload 5, 2) := by decide +kernel
theorem dL_law_1771 : decode cL_law 1771 = .ok (.iconst 2, 1) := by decide +kernel
theorem dL_law_1772 : decode cL_law 1772 = .ok (.iadd, 1) := by decide +kernel
theorem dL_law_1773 : decode cL_law 1773 = .ok (.iaload, 1) := by decide +kernel
theorem dL_law_1774 : decode cL_law 1774 = .ok (.aload_n 3, 1) := by decide +kernel
theorem dL_law_1775 : decode cL_law 1775 = .ok (.invokestatic 208, 3) := by decide +kernel
theorem dL_law_1778 : decode cL_law 1778 = .ok (.istore 6, 2) := by decide +kernel
theorem dL_law_1780 : decode cL_law 1780 = .ok (.aload_n 2, 1) := by decide +kernel
theorem dL_law_1781 : decode cL_law 1781 = .ok (.aload_n 0, 1) := by decide +kernel
theorem dL_law_1782 : decode cL_law 1782 = .ok (.iload 5, 2) := by decide +kernel
theorem dL_law_1784 : decode cL_law 1784 = .ok (.iconst 1, 1) := by decide +kernel
theorem dL_law_1785 : decode cL_law 1785 = .ok (.iadd, 1) := by decide +kernel
theorem dL_law_1786 : decode cL_law 1786 = .ok (.iaload, 1) := by decide +kernel
theorem dL_law_1787 : decode cL_law 1787 = .ok (.aload_n 0, 1) := by decide +kernel
theorem dL_law_1788 : decode cL_law 1788 = .ok (.iload 5, 2) := by decide +kernel
theorem dL_law_1790 : decode cL_law 1790 = .ok (.iconst 2, 1) := by decide +kernel
theorem dL_law_1791 : decode cL_law 1791 = .ok (.iadd, 1) := by decide +kernel
theorem dL_law_1792 : decode cL_law 1792 = .ok (.iaload, 1) := by decide +kernel
theorem dL_law_1793 : decode cL_law 1793 = .ok (.invokevirtual 210, 3) := by decide +kernel
theorem dL_law_1796 : decode cL_law 1796 = .ok (.istore 7, 2) := by decide +kernel
theorem dL_law_1798 : decode cL_law 1798 = .ok (.aload_n 2, 1) := by decide +kernel
theorem dL_law_1799 : decode cL_law 1799 = .ok (.invokevirtual 111, 3) := by decide +kernel
theorem dL_law_1802 : decode cL_law 1802 = .ok (.iload 6, 2) := by decide +kernel
theorem dL_law_1804 : decode cL_law 1804 = .ok (.if_icmp .eq 5, 3) := by decide +kernel
theorem dL_law_1807 : decode cL_law 1807 = .ok (.iconst 0, 1) := by decide +kernel
theorem dL_law_1808 : decode cL_law 1808 = .ok (.ireturn, 1) := by decide +kernel
theorem dL_law_1809 : decode cL_law 1809 = .ok (.iload 6, 2) := by decide +kernel
theorem dL_law_1811 : decode cL_law 1811 = .ok (.ifCond .ne 15, 3) := by decide +kernel
theorem dL_law_1814 : decode cL_law 1814 = .ok (.aload_n 3, 1) := by decide +kernel
theorem dL_law_1815 : decode cL_law 1815 = .ok (.iconst 0, 1) := by decide +kernel
theorem dL_law_1816 : decode cL_law 1816 = .ok (.laload, 1) := by decide +kernel
theorem dL_law_1817 : decode cL_law 1817 = .ok (.iload 7, 2) := by decide +kernel
theorem dL_law_1819 : decode cL_law 1819 = .ok (.i2l, 1) := by decide +kernel
theorem dL_law_1820 : decode cL_law 1820 = .ok (.lcmp, 1) := by decide +kernel
theorem dL_law_1821 : decode cL_law 1821 = .ok (.ifCond .eq 5, 3) := by decide +kernel
theorem dL_law_1824 : decode cL_law 1824 = .ok (.iconst 0, 1) := by decide +kernel
theorem dL_law_1825 : decode cL_law 1825 = .ok (.ireturn, 1) := by decide +kernel
theorem dL_law_1826 : decode cL_law 1826 = .ok (.goto 69, 3) := by decide +kernel
theorem dL_law_1829 : decode cL_law 1829 = .ok (.aload_n 1, 1) := by decide +kernel
theorem dL_law_1830 : decode cL_law 1830 = .ok (.aload 4, 2) := by decide +kernel
theorem dL_law_1832 : decode cL_law 1832 = .ok (.invokestatic 211, 3) := by decide +kernel
theorem dL_law_1835 : decode cL_law 1835 = .ok (.istore 6, 2) := by decide +kernel
theorem dL_law_1837 : decode cL_law 1837 = .ok (.aload_n 2, 1) := by decide +kernel
theorem dL_law_1838 : decode cL_law 1838 = .ok (.invokevirtual 214, 3) := by decide +kernel
theorem dL_law_1841 : decode cL_law 1841 = .ok (.fstore 7, 2) := by decide +kernel
theorem dL_law_1843 : decode cL_law 1843 = .ok (.aload_n 2, 1) := by decide +kernel
theorem dL_law_1844 : decode cL_law 1844 = .ok (.invokevirtual 111, 3) := by decide +kernel
theorem dL_law_1847 : decode cL_law 1847 = .ok (.iload 6, 2) := by decide +kernel
theorem dL_law_1849 : decode cL_law 1849 = .ok (.if_icmp .eq 5, 3) := by decide +kernel
theorem dL_law_1852 : decode cL_law 1852 = .ok (.iconst 0, 1) := by decide +kernel
theorem dL_law_1853 : decode cL_law 1853 = .ok (.ireturn, 1) := by decide +kernel
theorem dL_law_1854 : decode cL_law 1854 = .ok (.iload 6, 2) := by decide +kernel
theorem dL_law_1856 : decode cL_law 1856 = .ok (.ifCond .ne 36, 3) := by decide +kernel
theorem dL_law_1859 : decode cL_law 1859 = .ok (.aload 4, 2) := by decide +kernel
theorem dL_law_1861 : decode cL_law 1861 = .ok (.iconst 0, 1) := by decide +kernel
theorem dL_law_1862 : decode cL_law 1862 = .ok (.daload, 1) := by decide +kernel
theorem dL_law_1863 : decode cL_law 1863 = .ok (.fload 7, 2) := by decide +kernel
theorem dL_law_1865 : decode cL_law 1865 = .ok (.f2d, 1) := by decide +kernel
theorem dL_law_1866 : decode cL_law 1866 = .ok (.dcmp .l, 1) := by decide +kernel
theorem dL_law_1867 : decode cL_law 1867 = .ok (.ifCond .eq 25, 3) := by decide +kernel
theorem dL_law_1870 : decode cL_law 1870 = .ok (.aload 4, 2) := by decide +kernel
theorem dL_law_1872 : decode cL_law 1872 = .ok (.iconst 0, 1) := by decide +kernel
theorem dL_law_1873 : decode cL_law 1873 = .ok (.daload, 1) := by decide +kernel
theorem dL_law_1874 : decode cL_law 1874 = .ok (.aload 4, 2) := by decide +kernel
theorem dL_law_1876 : decode cL_law 1876 = .ok (.iconst 0, 1) := by decide +kernel
theorem dL_law_1877 : decode cL_law 1877 = .ok (.daload, 1) := by decide +kernel
theorem dL_law_1878 : decode cL_law 1878 = .ok (.dcmp .l, 1) := by decide +kernel
theorem dL_law_1879 : decode cL_law 1879 = .ok (.ifCond .eq 11, 3) := by decide +kernel
theorem dL_law_1882 : decode cL_law 1882 = .ok (.fload 7, 2) := by decide +kernel
theorem dL_law_1884 : decode cL_law 1884 = .ok (.fload 7, 2) := by decide +kernel
theorem dL_law_1886 : decode cL_law 1886 = .ok (.fcmp .l, 1) := by decide +kernel
theorem dL_law_1887 : decode cL_law 1887 = .ok (.ifCond .ne 5, 3) := by decide +kernel
theorem dL_law_1890 : decode cL_law 1890 = .ok (.iconst 0, 1) := by decide +kernel
theorem dL_law_1891 : decode cL_law 1891 = .ok (.ireturn, 1) := by decide +kernel
theorem dL_law_1892 : decode cL_law 1892 = .ok (.goto 3, 3) := by decide +kernel
theorem dL_law_1895 : decode cL_law 1895 = .ok (.iinc 5 6, 3) := by decide +kernel
theorem dL_law_1898 : decode cL_law 1898 = .ok (.goto (-1870), 3) := by decide +kernel
theorem dL_law_1901 : decode cL_law 1901 = .ok (.iconst 1, 1) := by decide +kernel
theorem dL_law_1902 : decode cL_law 1902 = .ok (.ireturn, 1) := by decide +kernel
