theorem dX0_init_0 : decode cX0_init 0 = .ok (.aload_n 0, 1) := by decide +kernel
theorem dX0_init_1 : decode cX0_init 1 = .ok (.invokespecial 3, 3) := by decide +kernel
theorem dX0_init_4 : decode cX0_init 4 = .ok (.aload_n 0, 1) := by decide +kernel
theorem dX0_init_5 : decode cX0_init 5 = .ok (.bipush 8, 2) := by decide +kernel
theorem dX0_init_7 : decode cX0_init 7 = .ok (.newarray .long, 2) := by decide +kernel
theorem dX0_init_9 : decode cX0_init 9 = .ok (.putfield 9, 3) := by decide +kernel
theorem dX0_init_12 : decode cX0_init 12 = .ok (.aload_n 0, 1) := by decide +kernel
theorem dX0_init_13 : decode cX0_init 13 = .ok (.bipush 8, 2) := by decide +kernel
theorem dX0_init_15 : decode cX0_init 15 = .ok (.newarray .int, 2) := by decide +kernel
theorem dX0_init_17 : decode cX0_init 17 = .ok (.putfield 15, 3) := by decide +kernel
theorem dX0_init_20 : decode cX0_init 20 = .ok (.aload_n 0, 1) := by decide +kernel
theorem dX0_init_21 : decode cX0_init 21 = .ok (.bipush 8, 2) := by decide +kernel
theorem dX0_init_23 : decode cX0_init 23 = .ok (.newarray .int, 2) := by decide +kernel
theorem dX0_init_25 : decode cX0_init 25 = .ok (.putfield 19, 3) := by decide +kernel
theorem dX0_init_28 : decode cX0_init 28 = .ok (.aload_n 0, 1) := by decide +kernel
theorem dX0_init_29 : decode cX0_init 29 = .ok (.bipush 8, 2) := by decide +kernel
theorem dX0_init_31 : decode cX0_init 31 = .ok (.newarray .int, 2) := by decide +kernel
theorem dX0_init_33 : decode cX0_init 33 = .ok (.putfield 22, 3) := by decide +kernel
theorem dX0_init_36 : decode cX0_init 36 = .ok (.aload_n 0, 1) := by decide +kernel
theorem dX0_init_37 : decode cX0_init 37 = .ok (.bipush 8, 2) := by decide +kernel
theorem dX0_init_39 : decode cX0_init 39 = .ok (.newarray .int, 2) := by decide +kernel
theorem dX0_init_41 : decode cX0_init 41 = .ok (.putfield 25, 3) := by decide +kernel
theorem dX0_init_44 : decode cX0_init 44 = .ok (.aload_n 0, 1) := by decide +kernel
theorem dX0_init_45 : decode cX0_init 45 = .ok (.iconst 4, 1) := by decide +kernel
theorem dX0_init_46 : decode cX0_init 46 = .ok (.newarray .int, 2) := by decide +kernel
theorem dX0_init_48 : decode cX0_init 48 = .ok (.putfield 28, 3) := by decide +kernel
theorem dX0_init_51 : decode cX0_init 51 = .ok (.aload_n 0, 1) := by decide +kernel
theorem dX0_init_52 : decode cX0_init 52 = .ok (.iconst 4, 1) := by decide +kernel
theorem dX0_init_53 : decode cX0_init 53 = .ok (.newarray .int, 2) := by decide +kernel
theorem dX0_init_55 : decode cX0_init 55 = .ok (.putfield 31, 3) := by decide +kernel
theorem dX0_init_58 : decode cX0_init 58 = .ok (.aload_n 0, 1) := by decide +kernel
theorem dX0_init_59 : decode cX0_init 59 = .ok (.iconst 4, 1) := by decide +kernel
theorem dX0_init_60 : decode cX0_init 60 = .ok (.newarray .int, 2) := by decide +kernel
theorem dX0_init_62 : decode cX0_init 62 = .ok (.putfield 34, 3) := by decide +kernel
theorem dX0_init_65 : decode cX0_init 65 = .ok (.aload_n 0, 1) := by decide +kernel
theorem dX0_init_66 : decode cX0_init 66 = .ok (.bipush 16, 2) := by decide +kernel
theorem dX0_init_68 : decode cX0_init 68 = .ok (.newarray .int, 2) := by decide +kernel
theorem dX0_init_70 : decode cX0_init 70 = .ok (.putfield 37, 3) := by decide +kernel
theorem dX0_init_73 : decode cX0_init 73 = .ok (.return_, 1) := by decide +kernel
theorem dX0_clear_0 : decode cX0_clear 0 = .ok (.aload_n 0, 1) := by decide +kernel
theorem dX0_clear_1 : decode cX0_clear 1 = .ok (.iconst 0, 1) := by decide +kernel
theorem dX0_clear_2 : decode cX0_clear 2 = .ok (.putfield 40, 3) := by decide +kernel
theorem dX0_clear_5 : decode cX0_clear 5 = .ok (.aload_n 0, 1) := by decide +kernel
theorem dX0_clear_6 : decode cX0_clear 6 = .ok (.iconst 0, 1) := by decide +kernel
theorem dX0_clear_7 : decode cX0_clear 7 = .ok (.putfield 44, 3) := by decide +kernel
theorem dX0_clear_10 : decode cX0_clear 10 = .ok (.return_, 1) := by decide +kernel
theorem dX0_isTold_0 : decode cX0_isTold 0 = .ok (.aload_n 0, 1) := by decide +kernel
theorem dX0_isTold_1 : decode cX0_isTold 1 = .ok (.getfield 40, 3) := by decide +kernel
theorem dX0_isTold_4 : decode cX0_isTold 4 = .ok (.ifCond .le 7, 3) := by decide +kernel
theorem dX0_isTold_7 : decode cX0_isTold 7 = .ok (.iconst 1, 1) := by decide +kernel
theorem dX0_isTold_8 : decode cX0_isTold 8 = .ok (.goto 4, 3) := by decide +kernel
theorem dX0_isTold_11 : decode cX0_isTold 11 = .ok (.iconst 0, 1) := by decide +kernel
theorem dX0_isTold_12 : decode cX0_isTold 12 = .ok (.ireturn, 1) := by decide +kernel
theorem dX0_hasKind_0 : decode cX0_hasKind 0 = .ok (.iload_n 1, 1) := by decide +kernel
theorem dX0_hasKind_1 : decode cX0_hasKind 1 = .ok (.ifCond .lt 15, 3) := by decide +kernel
theorem dX0_hasKind_4 : decode cX0_hasKind 4 = .ok (.iload_n 1, 1) := by decide +kernel
theorem dX0_hasKind_5 : decode cX0_hasKind 5 = .ok (.aload_n 0, 1) := by decide +kernel
theorem dX0_hasKind_6 : decode cX0_hasKind 6 = .ok (.getfield 40, 3) := by decide +kernel
theorem dX0_hasKind_9 : decode cX0_hasKind 9 = .ok (.if_icmp .ge 7, 3) := by decide +kernel
theorem dX0_hasKind_12 : decode cX0_hasKind 12 = .ok (.iconst 1, 1) := by decide +kernel
theorem dX0_hasKind_13 : decode cX0_hasKind 13 = .ok (.goto 4, 3) := by decide +kernel
theorem dX0_hasKind_16 : decode cX0_hasKind 16 = .ok (.iconst 0, 1) := by decide +kernel
theorem dX0_hasKind_17 : decode cX0_hasKind 17 = .ok (.ireturn, 1) := by decide +kernel
theorem dX0_ofKind_0 : decode cX0_ofKind 0 = .ok (.aload_n 0, 1) := by decide +kernel
theorem dX0_ofKind_1 : decode cX0_ofKind 1 = .ok (.iload_n 1, 1) := by decide +kernel
theorem dX0_ofKind_2 : decode cX0_ofKind 2 = .ok (.invokevirtual 47, 3) := by decide +kernel
theorem dX0_ofKind_5 : decode cX0_ofKind 5 = .ok (.ifCond .ne 6, 3) := by decide +kernel
theorem dX0_ofKind_8 : decode cX0_ofKind 8 = .ok (.ldc 51, 2) := by decide +kernel
theorem dX0_ofKind_10 : decode cX0_ofKind 10 = .ok (.ireturn, 1) := by decide +kernel
theorem dX0_ofKind_11 : decode cX0_ofKind 11 = .ok (.iload_n 2, 1) := by decide +kernel
theorem dX0_ofKind_12 : decode cX0_ofKind 12 = .ok (.tableswitch 60 0 3 #[32, 39, 46, 53], 32) := by decide +kernel
theorem dX0_ofKind_44 : decode cX0_ofKind 44 = .ok (.aload_n 0, 1) := by decide +kernel
theorem dX0_ofKind_45 : decode cX0_ofKind 45 = .ok (.getfield 15, 3) := by decide +kernel
theorem dX0_ofKind_48 : decode cX0_ofKind 48 = .ok (.iload_n 1, 1) := by decide +kernel
theorem dX0_ofKind_49 : decode cX0_ofKind 49 = .ok (.iaload, 1) := by decide +kernel
theorem dX0_ofKind_50 : decode cX0_ofKind 50 = .ok (.ireturn, 1) := by decide +kernel
theorem dX0_ofKind_51 : decode cX0_ofKind 51 = .ok (.aload_n 0, 1) := by decide +kernel
theorem dX0_ofKind_52 : decode cX0_ofKind 52 = .ok (.getfield 19, 3) := by decide +kernel
theorem dX0_ofKind_55 : decode cX0_ofKind 55 = .ok (.iload_n 1, 1) := by decide +kernel
theorem dX0_ofKind_56 : decode cX0_ofKind 56 = .ok (.iaload, 1) := by decide +kernel
theorem dX0_ofKind_57 : decode cX0_ofKind 57 = .ok (.ireturn, 1) := by decide +kernel
theorem dX0_ofKind_58 : decode cX0_ofKind 58 = .ok (.aload_n 0, 1) := by decide +kernel
theorem dX0_ofKind_59 : decode cX0_ofKind 59 = .ok (.getfield 22, 3) := by decide +kernel
theorem dX0_ofKind_62 : decode cX0_ofKind 62 = .ok (.iload_n 1, 1) := by decide +kernel
theorem dX0_ofKind_63 : decode cX0_ofKind 63 = .ok (.iaload, 1) := by decide +kernel
theorem dX0_ofKind_64 : decode cX0_ofKind 64 = .ok (.ireturn, 1) := by decide +kernel
theorem dX0_ofKind_65 : decode cX0_ofKind 65 = .ok (.aload_n 0, 1) := by decide +kernel
theorem dX0_ofKind_66 : decode cX0_ofKind 66 = .ok (.getfield 25, 3) := by decide +kernel
theorem dX0_ofKind_69 : decode cX0_ofKind 69 = .ok (.iload_n 1, 1) := by decide +kernel
theorem dX0_ofKind_70 : decode cX0_ofKind 70 = .ok (.iaload, 1) := by decide +kernel
theorem dX0_ofKind_71 : decode cX0_ofKind 71 = .ok (.ireturn, 1) := by decide +kernel
theorem dX0_ofKind_72 : decode cX0_ofKind 72 = .ok (.ldc 51, 2) := by decide +kernel
theorem dX0_ofKind_74 : decode cX0_ofKind 74 = .ok (.ireturn, 1) := by decide +kernel
theorem dX0_ofRule_0 : decode cX0_ofRule 0 = .ok (.iload_n 1, 1) := by decide +kernel
theorem dX0_ofRule_1 : decode cX0_ofRule 1 = .ok (.ifCond .lt 11, 3) := by decide +kernel
theorem dX0_ofRule_4 : decode cX0_ofRule 4 = .ok (.iload_n 1, 1) := by decide +kernel
theorem dX0_ofRule_5 : decode cX0_ofRule 5 = .ok (.aload_n 0, 1) := by decide +kernel
theorem dX0_ofRule_6 : decode cX0_ofRule 6 = .ok (.getfield 44, 3) := by decide +kernel
theorem dX0_ofRule_9 : decode cX0_ofRule 9 = .ok (.if_icmp .lt 6, 3) := by decide +kernel
theorem dX0_ofRule_12 : decode cX0_ofRule 12 = .ok (.ldc 51, 2) := by decide +kernel
theorem dX0_ofRule_14 : decode cX0_ofRule 14 = .ok (.ireturn, 1) := by decide +kernel
theorem dX0_ofRule_15 : decode cX0_ofRule 15 = .ok (.iload_n 2, 1) := by decide +kernel
theorem dX0_ofRule_16 : decode cX0_ofRule 16 = .ok (.tableswitch 95 0 6 #[44, 51, 58, 65, 65, 65, 65], 44) := by decide +kernel
theorem dX0_ofRule_60 : decode cX0_ofRule 60 = .ok (.aload_n 0, 1) := by decide +kernel
theorem dX0_ofRule_61 : decode cX0_ofRule 61 = .ok (.getfield 28, 3) := by decide +kernel
theorem dX0_ofRule_64 : decode cX0_ofRule 64 = .ok (.iload_n 1, 1) := by decide +kernel
theorem dX0_ofRule_65 : decode cX0_ofRule 65 = .ok (.iaload, 1) := by decide +kernel
theorem dX0_ofRule_66 : decode cX0_ofRule 66 = .ok (.ireturn, 1) := by decide +kernel
theorem dX0_ofRule_67 : decode cX0_ofRule 67 = .ok (.aload_n 0, 1) := by decide +kernel
theorem dX0_ofRule_68 : decode cX0_ofRule 68 = .ok (.getfield 31, 3) := by decide +kernel
theorem dX0_ofRule_71 : decode cX0_ofRule 71 = .ok (.iload_n 1, 1) := by decide +kernel
theorem dX0_ofRule_72 : decode cX0_ofRule 72 = .ok (.iaload, 1) := by decide +kernel
theorem dX0_ofRule_73 : decode cX0_ofRule 73 = .ok (.ireturn, 1) := by decide +kernel
theorem dX0_ofRule_74 : decode cX0_ofRule 74 = .ok (.aload_n 0, 1) := by decide +kernel
theorem dX0_ofRule_75 : decode cX0_ofRule 75 = .ok (.getfield 34, 3) := by decide +kernel
theorem dX0_ofRule_78 : decode cX0_ofRule 78 = .ok (.iload_n 1, 1) := by decide +kernel
theorem dX0_ofRule_79 : decode cX0_ofRule 79 = .ok (.iaload, 1) := by decide +kernel
theorem dX0_ofRule_80 : decode cX0_ofRule 80 = .ok (.ireturn, 1) := by decide +kernel
theorem dX0_ofRule_81 : decode cX0_ofRule 81 = .ok (.iload_n 2, 1) := by decide +kernel
theorem dX0_ofRule_82 : decode cX0_ofRule 82 = .ok (.iconst 3, 1) := by decide +kernel
theorem dX0_ofRule_83 : decode cX0_ofRule 83 = .ok (.isub, 1) := by decide +kernel
theorem dX0_ofRule_84 : decode cX0_ofRule 84 = .ok (.aload_n 0, 1) := by decide +kernel
theorem dX0_ofRule_85 : decode cX0_ofRule 85 = .ok (.getfield 28, 3) := by decide +kernel
theorem dX0_ofRule_88 : decode cX0_ofRule 88 = .ok (.iload_n 1, 1) := by decide +kernel
theorem dX0_ofRule_89 : decode cX0_ofRule 89 = .ok (.iaload, 1) := by decide +kernel
theorem dX0_ofRule_90 : decode cX0_ofRule 90 = .ok (.if_icmp .ge 18, 3) := by decide +kernel
theorem dX0_ofRule_93 : decode cX0_ofRule 93 = .ok (.aload_n 0, 1) := by decide +kernel
theorem dX0_ofRule_94 : decode cX0_ofRule 94 = .ok (.getfield 37, 3) := by decide +kernel
theorem dX0_ofRule_97 : decode cX0_ofRule 97 = .ok (.iload_n 1, 1) := by decide +kernel
theorem dX0_ofRule_98 : decode cX0_ofRule 98 = .ok (.iconst 4, 1) := by decide +kernel
theorem dX0_ofRule_99 : decode cX0_ofRule 99 = .ok (.imul, 1) := by decide +kernel
theorem dX0_ofRule_100 : decode cX0_ofRule 100 = .ok (.iload_n 2, 1) := by decide +kernel
theorem dX0_ofRule_101 : decode cX0_ofRule 101 = .ok (.iadd, 1) := by decide +kernel
theorem dX0_ofRule_102 : decode cX0_ofRule 102 = .ok (.iconst 3, 1) := by decide +kernel
theorem dX0_ofRule_103 : decode cX0_ofRule 103 = .ok (.isub, 1) := by decide +kernel
theorem dX0_ofRule_104 : decode cX0_ofRule 104 = .ok (.iaload, 1) := by decide +kernel
theorem dX0_ofRule_105 : decode cX0_ofRule 105 = .ok (.goto 5, 3) := by decide +kernel
theorem dX0_ofRule_108 : decode cX0_ofRule 108 = .ok (.bipush (-2), 2) := by decide +kernel
theorem dX0_ofRule_110 : decode cX0_ofRule 110 = .ok (.ireturn, 1) := by decide +kernel
theorem dX0_ofRule_111 : decode cX0_ofRule 111 = .ok (.ldc 51, 2) := by decide +kernel
theorem dX0_ofRule_113 : decode cX0_ofRule 113 = .ok (.ireturn, 1) := by decide +kernel
theorem dX0_isHalf_0 : decode cX0_isHalf 0 = .ok (.aload_n 0, 1) := by decide +kernel
theorem dX0_isHalf_1 : decode cX0_isHalf 1 = .ok (.iload_n 1, 1) := by decide +kernel
theorem dX0_isHalf_2 : decode cX0_isHalf 2 = .ok (.invokevirtual 47, 3) := by decide +kernel
theorem dX0_isHalf_5 : decode cX0_isHalf 5 = .ok (.ifCond .eq 17, 3) := by decide +kernel
theorem dX0_isHalf_8 : decode cX0_isHalf 8 = .ok (.aload_n 0, 1) := by decide +kernel
theorem dX0_isHalf_9 : decode cX0_isHalf 9 = .ok (.getfield 25, 3) := by decide +kernel
theorem dX0_isHalf_12 : decode cX0_isHalf 12 = .ok (.iload_n 1, 1) := by decide +kernel
theorem dX0_isHalf_13 : decode cX0_isHalf 13 = .ok (.iaload, 1) := by decide +kernel
theorem dX0_isHalf_14 : decode cX0_isHalf 14 = .ok (.iconst 2, 1) := by decide +kernel
theorem dX0_isHalf_15 : decode cX0_isHalf 15 = .ok (.if_icmp .ne 7, 3) := by decide +kernel
theorem dX0_isHalf_18 : decode cX0_isHalf 18 = .ok (.iconst 1, 1) := by decide +kernel
theorem dX0_isHalf_19 : decode cX0_isHalf 19 = .ok (.goto 4, 3) := by decide +kernel
theorem dX0_isHalf_22 : decode cX0_isHalf 22 = .ok (.iconst 0, 1) := by decide +kernel
theorem dX0_isHalf_23 : decode cX0_isHalf 23 = .ok (.ireturn, 1) := by decide +kernel
theorem dX0_areEven_0 : decode cX0_areEven 0 = .ok (.iconst 0, 1) := by decide +kernel
theorem dX0_areEven_1 : decode cX0_areEven 1 = .ok (.istore 4, 2) := by decide +kernel
theorem dX0_areEven_3 : decode cX0_areEven 3 = .ok (.iconst 0, 1) := by decide +kernel
theorem dX0_areEven_4 : decode cX0_areEven 4 = .ok (.istore 5, 2) := by decide +kernel
theorem dX0_areEven_6 : decode cX0_areEven 6 = .ok (.iload_n 2, 1) := by decide +kernel
theorem dX0_areEven_7 : decode cX0_areEven 7 = .ok (.istore 6, 2) := by decide +kernel
theorem dX0_areEven_9 : decode cX0_areEven 9 = .ok (.iload 6, 2) := by decide +kernel
theorem dX0_areEven_11 : decode cX0_areEven 11 = .ok (.iload_n 2, 1) := by decide +kernel
theorem dX0_areEven_12 : decode cX0_areEven 12 = .ok (.iload_n 3, 1) := by decide +kernel
theorem dX0_areEven_13 : decode cX0_areEven 13 = .ok (.iadd, 1) := by decide +kernel
theorem dX0_areEven_14 : decode cX0_areEven 14 = .ok (.if_icmp .ge 67, 3) := by decide +kernel
theorem dX0_areEven_17 : decode cX0_areEven 17 = .ok (.iload 6, 2) := by decide +kernel
theorem dX0_areEven_19 : decode cX0_areEven 19 = .ok (.aload_n 1, 1) := by decide +kernel
theorem dX0_areEven_20 : decode cX0_areEven 20 = .ok (.arraylength, 1) := by decide +kernel
theorem dX0_areEven_21 : decode cX0_areEven 21 = .ok (.if_icmp .ge 60, 3) := by decide +kernel
theorem dX0_areEven_24 : decode cX0_areEven 24 = .ok (.iload 6, 2) := by decide +kernel
theorem dX0_areEven_26 : decode cX0_areEven 26 = .ok (.ifCond .lt 49, 3) := by decide +kernel
theorem dX0_areEven_29 : decode cX0_areEven 29 = .ok (.aload_n 0, 1) := by decide +kernel
theorem dX0_areEven_30 : decode cX0_areEven 30 = .ok (.aload_n 1, 1) := by decide +kernel
theorem dX0_areEven_31 : decode cX0_areEven 31 = .ok (.iload 6, 2) := by decide +kernel
theorem dX0_areEven_33 : decode cX0_areEven 33 = .ok (.iaload, 1) := by decide +kernel
theorem dX0_areEven_34 : decode cX0_areEven 34 = .ok (.invokevirtual 47, 3) := by decide +kernel
theorem dX0_areEven_37 : decode cX0_areEven 37 = .ok (.ifCond .eq 38, 3) := by decide +kernel
theorem dX0_areEven_40 : decode cX0_areEven 40 = .ok (.iload 4, 2) := by decide +kernel
theorem dX0_areEven_42 : decode cX0_areEven 42 = .ok (.aload_n 0, 1) := by decide +kernel
theorem dX0_areEven_43 : decode cX0_areEven 43 = .ok (.getfield 22, 3) := by decide +kernel
theorem dX0_areEven_46 : decode cX0_areEven 46 = .ok (.aload_n 1, 1) := by decide +kernel
theorem dX0_areEven_47 : decode cX0_areEven 47 = .ok (.iload 6, 2) := by decide +kernel
theorem dX0_areEven_49 : decode cX0_areEven 49 = .ok (.iaload, 1) := by decide +kernel
theorem dX0_areEven_50 : decode cX0_areEven 50 = .ok (.iaload, 1) := by decide +kernel
theorem dX0_areEven_51 : decode cX0_areEven 51 = .ok (.iadd, 1) := by decide +kernel
theorem dX0_areEven_52 : decode cX0_areEven 52 = .ok (.istore 4, 2) := by decide +kernel
theorem dX0_areEven_54 : decode cX0_areEven 54 = .ok (.iload 5, 2) := by decide +kernel
theorem dX0_areEven_56 : decode cX0_areEven 56 = .ok (.aload_n 0, 1) := by decide +kernel
theorem dX0_areEven_57 : decode cX0_areEven 57 = .ok (.aload_n 1, 1) := by decide +kernel
theorem dX0_areEven_58 : decode cX0_areEven 58 = .ok (.iload 6, 2) := by decide +kernel
theorem dX0_areEven_60 : decode cX0_areEven 60 = .ok (.iaload, 1) := by decide +kernel
theorem dX0_areEven_61 : decode cX0_areEven 61 = .ok (.invokevirtual 52, 3) := by decide +kernel
theorem dX0_areEven_64 : decode cX0_areEven 64 = .ok (.ifCond .eq 7, 3) := by decide +kernel
theorem dX0_areEven_67 : decode cX0_areEven 67 = .ok (.iconst 1, 1) := by decide +kernel
theorem dX0_areEven_68 : decode cX0_areEven 68 = .ok (.goto 4, 3) := by decide +kernel
theorem dX0_areEven_71 : decode cX0_areEven 71 = .ok (.iconst 0, 1) := by decide +kernel
theorem dX0_areEven_72 : decode cX0_areEven 72 = .ok (.iadd, 1) := by decide +kernel
theorem dX0_areEven_73 : decode cX0_areEven 73 = .ok (.istore 5, 2) := by decide +kernel
theorem dX0_areEven_75 : decode cX0_areEven 75 = .ok (.iinc 6 1, 3) := by decide +kernel
theorem dX0_areEven_78 : decode cX0_areEven 78 = .ok (.goto (-69), 3) := by decide +kernel
theorem dX0_areEven_81 : decode cX0_areEven 81 = .ok (.iload 4, 2) := by decide +kernel
theorem dX0_areEven_83 : decode cX0_areEven 83 = .ok (.ifCond .ne 14, 3) := by decide +kernel
theorem dX0_areEven_86 : decode cX0_areEven 86 = .ok (.iload 5, 2) := by decide +kernel
theorem dX0_areEven_88 : decode cX0_areEven 88 = .ok (.iconst 2, 1) := by decide +kernel
theorem dX0_areEven_89 : decode cX0_areEven 89 = .ok (.irem, 1) := by decide +kernel
theorem dX0_areEven_90 : decode cX0_areEven 90 = .ok (.ifCond .ne 7, 3) := by decide +kernel
theorem dX0_areEven_93 : decode cX0_areEven 93 = .ok (.iconst 1, 1) := by decide +kernel
theorem dX0_areEven_94 : decode cX0_areEven 94 = .ok (.goto 4, 3) := by decide +kernel
theorem dX0_areEven_97 : decode cX0_areEven 97 = .ok (.iconst 0, 1) := by decide +kernel
theorem dX0_areEven_98 : decode cX0_areEven 98 = .ok (.ireturn, 1) := by decide +kernel
theorem dX0_findKind_0 : decode cX0_findKind 0 = .ok (.iconst 0, 1) := by decide +kernel
theorem dX0_findKind_1 : decode cX0_findKind 1 = .ok (.istore_n 3, 1) := by decide +kernel
theorem dX0_findKind_2 : decode cX0_findKind 2 = .ok (.iload_n 3, 1) := by decide +kernel
theorem dX0_findKind_3 : decode cX0_findKind 3 = .ok (.aload_n 0, 1) := by decide +kernel
theorem dX0_findKind_4 : decode cX0_findKind 4 = .ok (.getfield 40, 3) := by decide +kernel
theorem dX0_findKind_7 : decode cX0_findKind 7 = .ok (.if_icmp .ge 22, 3) := by decide +kernel
theorem dX0_findKind_10 : decode cX0_findKind 10 = .ok (.aload_n 0, 1) := by decide +kernel
theorem dX0_findKind_11 : decode cX0_findKind 11 = .ok (.getfield 9, 3) := by decide +kernel
theorem dX0_findKind_14 : decode cX0_findKind 14 = .ok (.iload_n 3, 1) := by decide +kernel
theorem dX0_findKind_15 : decode cX0_findKind 15 = .ok (.laload, 1) := by decide +kernel
theorem dX0_findKind_16 : decode cX0_findKind 16 = .ok (.lload_n 1, 1) := by decide +kernel
theorem dX0_findKind_17 : decode cX0_findKind 17 = .ok (.lcmp, 1) := by decide +kernel
theorem dX0_findKind_18 : decode cX0_findKind 18 = .ok (.ifCond .ne 5, 3) := by decide +kernel
theorem dX0_findKind_21 : decode cX0_findKind 21 = .ok (.iload_n 3, 1) := by decide +kernel
theorem dX0_findKind_22 : decode cX0_findKind 22 = .ok (.ireturn, 1) := by decide +kernel
theorem dX0_findKind_23 : decode cX0_findKind 23 = .ok (.iinc 3 1, 3) := by decide +kernel
theorem dX0_findKind_26 : decode cX0_findKind 26 = .ok (.goto (-24), 3) := by decide +kernel
theorem dX0_findKind_29 : decode cX0_findKind 29 = .ok (.iconst (-1), 1) := by decide +kernel
theorem dX0_findKind_30 : decode cX0_findKind 30 = .ok (.ireturn, 1) := by decide +kernel
theorem dX0_addKind_0 : decode cX0_addKind 0 = .ok (.aload_n 0, 1) := by decide +kernel
theorem dX0_addKind_1 : decode cX0_addKind 1 = .ok (.getfield 40, 3) := by decide +kernel
theorem dX0_addKind_4 : decode cX0_addKind 4 = .ok (.bipush 8, 2) := by decide +kernel
theorem dX0_addKind_6 : decode cX0_addKind 6 = .ok (.if_icmp .lt 5, 3) := by decide +kernel
theorem dX0_addKind_9 : decode cX0_addKind 9 = .ok (.iconst 0, 1) := by decide +kernel
theorem dX0_addKind_10 : decode cX0_addKind 10 = .ok (.ireturn, 1) := by decide +kernel
theorem dX0_addKind_11 : decode cX0_addKind 11 = .ok (.aload_n 0, 1) := by decide +kernel
theorem dX0_addKind_12 : decode cX0_addKind 12 = .ok (.getfield 9, 3) := by decide +kernel
theorem dX0_addKind_15 : decode cX0_addKind 15 = .ok (.aload_n 0, 1) := by decide +kernel
theorem dX0_addKind_16 : decode cX0_addKind 16 = .ok (.getfield 40, 3) := by decide +kernel
theorem dX0_addKind_19 : decode cX0_addKind 19 = .ok (.lload_n 1, 1) := by decide +kernel
theorem dX0_addKind_20 : decode cX0_addKind 20 = .ok (.lastore, 1) := by decide +kernel
theorem dX0_addKind_21 : decode cX0_addKind 21 = .ok (.aload_n 0, 1) := by decide +kernel
theorem dX0_addKind_22 : decode cX0_addKind 22 = .ok (.dup, 1) := by decide +kernel
theorem dX0_addKind_23 : decode cX0_addKind 23 = .ok (.getfield 40, 3) := by decide +kernel
theorem dX0_addKind_26 : decode cX0_addKind 26 = .ok (.iconst 1, 1) := by decide +kernel
theorem dX0_addKind_27 : decode cX0_addKind 27 = .ok (.iadd, 1) := by decide +kernel
theorem dX0_addKind_28 : decode cX0_addKind 28 = .ok (.putfield 40, 3) := by decide +kernel
theorem dX0_addKind_31 : decode cX0_addKind 31 = .ok (.iconst 1, 1) := by decide +kernel
theorem dX0_addKind_32 : decode cX0_addKind 32 = .ok (.ireturn, 1) := by decide +kernel
theorem dX0_setOwn_0 : decode cX0_setOwn 0 = .ok (.aload_n 0, 1) := by decide +kernel
theorem dX0_setOwn_1 : decode cX0_setOwn 1 = .ok (.getfield 40, 3) := by decide +kernel
theorem dX0_setOwn_4 : decode cX0_setOwn 4 = .ok (.iconst 1, 1) := by decide +kernel
theorem dX0_setOwn_5 : decode cX0_setOwn 5 = .ok (.if_icmp .lt 22, 3) := by decide +kernel
theorem dX0_setOwn_8 : decode cX0_setOwn 8 = .ok (.aload_n 0, 1) := by decide +kernel
theorem dX0_setOwn_9 : decode cX0_setOwn 9 = .ok (.aload_n 0, 1) := by decide +kernel
theorem dX0_setOwn_10 : decode cX0_setOwn 10 = .ok (.getfield 40, 3) := by decide +kernel
theorem dX0_setOwn_13 : decode cX0_setOwn 13 = .ok (.iconst 1, 1) := by decide +kernel
theorem dX0_setOwn_14 : decode cX0_setOwn 14 = .ok (.isub, 1) := by decide +kernel
theorem dX0_setOwn_15 : decode cX0_setOwn 15 = .ok (.aload_n 0, 1) := by decide +kernel
theorem dX0_setOwn_16 : decode cX0_setOwn 16 = .ok (.getfield 40, 3) := by decide +kernel
theorem dX0_setOwn_19 : decode cX0_setOwn 19 = .ok (.iconst 1, 1) := by decide +kernel
theorem dX0_setOwn_20 : decode cX0_setOwn 20 = .ok (.isub, 1) := by decide +kernel
theorem dX0_setOwn_21 : decode cX0_setOwn 21 = .ok (.iconst 0, 1) := by decide +kernel
theorem dX0_setOwn_22 : decode cX0_setOwn 22 = .ok (.iload_n 1, 1) := by decide +kernel
theorem dX0_setOwn_23 : decode cX0_setOwn 23 = .ok (.iconst 0, 1) := by decide +kernel
theorem dX0_setOwn_24 : decode cX0_setOwn 24 = .ok (.invokevirtual 55, 3) := by decide +kernel
theorem dX0_setOwn_27 : decode cX0_setOwn 27 = .ok (.return_, 1) := by decide +kernel
theorem dX0_setTwo_0 : decode cX0_setTwo 0 = .ok (.aload_n 0, 1) := by decide +kernel
theorem dX0_setTwo_1 : decode cX0_setTwo 1 = .ok (.getfield 40, 3) := by decide +kernel
theorem dX0_setTwo_4 : decode cX0_setTwo 4 = .ok (.iconst 2, 1) := by decide +kernel
theorem dX0_setTwo_5 : decode cX0_setTwo 5 = .ok (.if_icmp .lt 42, 3) := by decide +kernel
theorem dX0_setTwo_8 : decode cX0_setTwo 8 = .ok (.aload_n 0, 1) := by decide +kernel
theorem dX0_setTwo_9 : decode cX0_setTwo 9 = .ok (.aload_n 0, 1) := by decide +kernel
theorem dX0_setTwo_10 : decode cX0_setTwo 10 = .ok (.getfield 40, 3) := by decide +kernel
theorem dX0_setTwo_13 : decode cX0_setTwo 13 = .ok (.iconst 2, 1) := by decide +kernel
theorem dX0_setTwo_14 : decode cX0_setTwo 14 = .ok (.isub, 1) := by decide +kernel
theorem dX0_setTwo_15 : decode cX0_setTwo 15 = .ok (.aload_n 0, 1) := by decide +kernel
theorem dX0_setTwo_16 : decode cX0_setTwo 16 = .ok (.getfield 40, 3) := by decide +kernel
theorem dX0_setTwo_19 : decode cX0_setTwo 19 = .ok (.iconst 1, 1) := by decide +kernel
theorem dX0_setTwo_20 : decode cX0_setTwo 20 = .ok (.isub, 1) := by decide +kernel
theorem dX0_setTwo_21 : decode cX0_setTwo 21 = .ok (.iload_n 1, 1) := by decide +kernel
theorem dX0_setTwo_22 : decode cX0_setTwo 22 = .ok (.iload_n 2, 1) := by decide +kernel
theorem dX0_setTwo_23 : decode cX0_setTwo 23 = .ok (.iload_n 3, 1) := by decide +kernel
theorem dX0_setTwo_24 : decode cX0_setTwo 24 = .ok (.invokevirtual 55, 3) := by decide +kernel
theorem dX0_setTwo_27 : decode cX0_setTwo 27 = .ok (.aload_n 0, 1) := by decide +kernel
theorem dX0_setTwo_28 : decode cX0_setTwo 28 = .ok (.aload_n 0, 1) := by decide +kernel
theorem dX0_setTwo_29 : decode cX0_setTwo 29 = .ok (.getfield 40, 3) := by decide +kernel
theorem dX0_setTwo_32 : decode cX0_setTwo 32 = .ok (.iconst 1, 1) := by decide +kernel
theorem dX0_setTwo_33 : decode cX0_setTwo 33 = .ok (.isub, 1) := by decide +kernel
theorem dX0_setTwo_34 : decode cX0_setTwo 34 = .ok (.aload_n 0, 1) := by decide +kernel
theorem dX0_setTwo_35 : decode cX0_setTwo 35 = .ok (.getfield 40, 3) := by decide +kernel
theorem dX0_setTwo_38 : decode cX0_setTwo 38 = .ok (.iconst 2, 1) := by decide +kernel
theorem dX0_setTwo_39 : decode cX0_setTwo 39 = .ok (.isub, 1) := by decide +kernel
theorem dX0_setTwo_40 : decode cX0_setTwo 40 = .ok (.iload_n 1, 1) := by decide +kernel
theorem dX0_setTwo_41 : decode cX0_setTwo 41 = .ok (.iload_n 2, 1) := by decide +kernel
theorem dX0_setTwo_42 : decode cX0_setTwo 42 = .ok (.iload_n 3, 1) := by decide +kernel
theorem dX0_setTwo_43 : decode cX0_setTwo 43 = .ok (.ineg, 1) := by decide +kernel
theorem dX0_setTwo_44 : decode cX0_setTwo 44 = .ok (.invokevirtual 55, 3) := by decide +kernel
theorem dX0_setTwo_47 : decode cX0_setTwo 47 = .ok (.return_, 1) := by decide +kernel
theorem dX0_setKind_0 : decode cX0_setKind 0 = .ok (.aload_n 0, 1) := by decide +kernel
theorem dX0_setKind_1 : decode cX0_setKind 1 = .ok (.getfield 15, 3) := by decide +kernel
theorem dX0_setKind_4 : decode cX0_setKind 4 = .ok (.iload_n 1, 1) := by decide +kernel
theorem dX0_setKind_5 : decode cX0_setKind 5 = .ok (.iload_n 2, 1) := by decide +kernel
theorem dX0_setKind_6 : decode cX0_setKind 6 = .ok (.iastore, 1) := by decide +kernel
theorem dX0_setKind_7 : decode cX0_setKind 7 = .ok (.aload_n 0, 1) := by decide +kernel
theorem dX0_setKind_8 : decode cX0_setKind 8 = .ok (.getfield 25, 3) := by decide +kernel
theorem dX0_setKind_11 : decode cX0_setKind 11 = .ok (.iload_n 1, 1) := by decide +kernel
theorem dX0_setKind_12 : decode cX0_setKind 12 = .ok (.iload_n 3, 1) := by decide +kernel
theorem dX0_setKind_13 : decode cX0_setKind 13 = .ok (.iastore, 1) := by decide +kernel
theorem dX0_setKind_14 : decode cX0_setKind 14 = .ok (.aload_n 0, 1) := by decide +kernel
theorem dX0_setKind_15 : decode cX0_setKind 15 = .ok (.getfield 19, 3) := by decide +kernel
theorem dX0_setKind_18 : decode cX0_setKind 18 = .ok (.iload_n 1, 1) := by decide +kernel
theorem dX0_setKind_19 : decode cX0_setKind 19 = .ok (.iload 4, 2) := by decide +kernel
theorem dX0_setKind_21 : decode cX0_setKind 21 = .ok (.iastore, 1) := by decide +kernel
theorem dX0_setKind_22 : decode cX0_setKind 22 = .ok (.aload_n 0, 1) := by decide +kernel
theorem dX0_setKind_23 : decode cX0_setKind 23 = .ok (.getfield 22, 3) := by decide +kernel
theorem dX0_setKind_26 : decode cX0_setKind 26 = .ok (.iload_n 1, 1) := by decide +kernel
theorem dX0_setKind_27 : decode cX0_setKind 27 = .ok (.iload 5, 2) := by decide +kernel
theorem dX0_setKind_29 : decode cX0_setKind 29 = .ok (.iastore, 1) := by decide +kernel
theorem dX0_setKind_30 : decode cX0_setKind 30 = .ok (.return_, 1) := by decide +kernel
theorem dX0_openRule_0 : decode cX0_openRule 0 = .ok (.aload_n 0, 1) := by decide +kernel
theorem dX0_openRule_1 : decode cX0_openRule 1 = .ok (.getfield 44, 3) := by decide +kernel
theorem dX0_openRule_4 : decode cX0_openRule 4 = .ok (.iconst 4, 1) := by decide +kernel
theorem dX0_openRule_5 : decode cX0_openRule 5 = .ok (.if_icmp .lt 5, 3) := by decide +kernel
theorem dX0_openRule_8 : decode cX0_openRule 8 = .ok (.iconst 0, 1) := by decide +kernel
theorem dX0_openRule_9 : decode cX0_openRule 9 = .ok (.ireturn, 1) := by decide +kernel
theorem dX0_openRule_10 : decode cX0_openRule 10 = .ok (.aload_n 0, 1) := by decide +kernel
theorem dX0_openRule_11 : decode cX0_openRule 11 = .ok (.getfield 28, 3) := by decide +kernel
theorem dX0_openRule_14 : decode cX0_openRule 14 = .ok (.aload_n 0, 1) := by decide +kernel
theorem dX0_openRule_15 : decode cX0_openRule 15 = .ok (.getfield 44, 3) := by decide +kernel
theorem dX0_openRule_18 : decode cX0_openRule 18 = .ok (.iconst 0, 1) := by decide +kernel
theorem dX0_openRule_19 : decode cX0_openRule 19 = .ok (.iastore, 1) := by decide +kernel
theorem dX0_openRule_20 : decode cX0_openRule 20 = .ok (.iconst 1, 1) := by decide +kernel
theorem dX0_openRule_21 : decode cX0_openRule 21 = .ok (.ireturn, 1) := by decide +kernel
theorem dX0_addLeg_0 : decode cX0_addLeg 0 = .ok (.aload_n 0, 1) := by decide +kernel
theorem dX0_addLeg_1 : decode cX0_addLeg 1 = .ok (.getfield 44, 3) := by decide +kernel
theorem dX0_addLeg_4 : decode cX0_addLeg 4 = .ok (.iconst 4, 1) := by decide +kernel
theorem dX0_addLeg_5 : decode cX0_addLeg 5 = .ok (.if_icmp .ge 16, 3) := by decide +kernel
theorem dX0_addLeg_8 : decode cX0_addLeg 8 = .ok (.aload_n 0, 1) := by decide +kernel
theorem dX0_addLeg_9 : decode cX0_addLeg 9 = .ok (.getfield 28, 3) := by decide +kernel
theorem dX0_addLeg_12 : decode cX0_addLeg 12 = .ok (.aload_n 0, 1) := by decide +kernel
theorem dX0_addLeg_13 : decode cX0_addLeg 13 = .ok (.getfield 44, 3) := by decide +kernel
theorem dX0_addLeg_16 : decode cX0_addLeg 16 = .ok (.iaload, 1) := by decide +kernel
theorem dX0_addLeg_17 : decode cX0_addLeg 17 = .ok (.iconst 4, 1) := by decide +kernel
theorem dX0_addLeg_18 : decode cX0_addLeg 18 = .ok (.if_icmp .lt 5, 3) := by decide +kernel
theorem dX0_addLeg_21 : decode cX0_addLeg 21 = .ok (.iconst 0, 1) := by decide +kernel
theorem dX0_addLeg_22 : decode cX0_addLeg 22 = .ok (.ireturn, 1) := by decide +kernel
theorem dX0_addLeg_23 : decode cX0_addLeg 23 = .ok (.aload_n 0, 1) := by decide +kernel
theorem dX0_addLeg_24 : decode cX0_addLeg 24 = .ok (.getfield 37, 3) := by decide +kernel
theorem dX0_addLeg_27 : decode cX0_addLeg 27 = .ok (.aload_n 0, 1) := by decide +kernel
theorem dX0_addLeg_28 : decode cX0_addLeg 28 = .ok (.getfield 44, 3) := by decide +kernel
theorem dX0_addLeg_31 : decode cX0_addLeg 31 = .ok (.iconst 4, 1) := by decide +kernel
theorem dX0_addLeg_32 : decode cX0_addLeg 32 = .ok (.imul, 1) := by decide +kernel
theorem dX0_addLeg_33 : decode cX0_addLeg 33 = .ok (.aload_n 0, 1) := by decide +kernel
theorem dX0_addLeg_34 : decode cX0_addLeg 34 = .ok (.getfield 28, 3) := by decide +kernel
theorem dX0_addLeg_37 : decode cX0_addLeg 37 = .ok (.aload_n 0, 1) := by decide +kernel
theorem dX0_addLeg_38 : decode cX0_addLeg 38 = .ok (.getfield 44, 3) := by decide +kernel
theorem dX0_addLeg_41 : decode cX0_addLeg 41 = .ok (.iaload, 1) := by decide +kernel
theorem dX0_addLeg_42 : decode cX0_addLeg 42 = .ok (.iadd, 1) := by decide +kernel
theorem dX0_addLeg_43 : decode cX0_addLeg 43 = .ok (.iload_n 1, 1) := by decide +kernel
theorem dX0_addLeg_44 : decode cX0_addLeg 44 = .ok (.iastore, 1) := by decide +kernel
theorem dX0_addLeg_45 : decode cX0_addLeg 45 = .ok (.aload_n 0, 1) := by decide +kernel
theorem dX0_addLeg_46 : decode cX0_addLeg 46 = .ok (.getfield 28, 3) := by decide +kernel
theorem dX0_addLeg_49 : decode cX0_addLeg 49 = .ok (.aload_n 0, 1) := by decide +kernel
theorem dX0_addLeg_50 : decode cX0_addLeg 50 = .ok (.getfield 44, 3) := by decide +kernel
theorem dX0_addLeg_53 : decode cX0_addLeg 53 = .ok (.dup2, 1) := by decide +kernel
theorem dX0_addLeg_54 : decode cX0_addLeg 54 = .ok (.iaload, 1) := by decide +kernel
theorem dX0_addLeg_55 : decode cX0_addLeg 55 = .ok (.iconst 1, 1) := by decide +kernel
theorem dX0_addLeg_56 : decode cX0_addLeg 56 = .ok (.iadd, 1) := by decide +kernel
theorem dX0_addLeg_57 : decode cX0_addLeg 57 = .ok (.iastore, 1) := by decide +kernel
theorem dX0_addLeg_58 : decode cX0_addLeg 58 = .ok (.iconst 1, 1) := by decide +kernel
theorem dX0_addLeg_59 : decode cX0_addLeg 59 = .ok (.ireturn, 1) := by decide +kernel
theorem dX0_closeRule_0 : decode cX0_closeRule 0 = .ok (.aload_n 0, 1) := by decide +kernel
theorem dX0_closeRule_1 : decode cX0_closeRule 1 = .ok (.getfield 44, 3) := by decide +kernel
theorem dX0_closeRule_4 : decode cX0_closeRule 4 = .ok (.iconst 4, 1) := by decide +kernel
theorem dX0_closeRule_5 : decode cX0_closeRule 5 = .ok (.if_icmp .lt 5, 3) := by decide +kernel
theorem dX0_closeRule_8 : decode cX0_closeRule 8 = .ok (.iconst 0, 1) := by decide +kernel
theorem dX0_closeRule_9 : decode cX0_closeRule 9 = .ok (.ireturn, 1) := by decide +kernel
theorem dX0_closeRule_10 : decode cX0_closeRule 10 = .ok (.aload_n 0, 1) := by decide +kernel
theorem dX0_closeRule_11 : decode cX0_closeRule 11 = .ok (.getfield 44, 3) := by decide +kernel
theorem dX0_closeRule_14 : decode cX0_closeRule 14 = .ok (.iconst 4, 1) := by decide +kernel
theorem dX0_closeRule_15 : decode cX0_closeRule 15 = .ok (.imul, 1) := by decide +kernel
theorem dX0_closeRule_16 : decode cX0_closeRule 16 = .ok (.istore_n 3, 1) := by decide +kernel
theorem dX0_closeRule_17 : decode cX0_closeRule 17 = .ok (.aload_n 0, 1) := by decide +kernel
theorem dX0_closeRule_18 : decode cX0_closeRule 18 = .ok (.aload_n 0, 1) := by decide +kernel
theorem dX0_closeRule_19 : decode cX0_closeRule 19 = .ok (.getfield 37, 3) := by decide +kernel
theorem dX0_closeRule_22 : decode cX0_closeRule 22 = .ok (.iload_n 3, 1) := by decide +kernel
theorem dX0_closeRule_23 : decode cX0_closeRule 23 = .ok (.aload_n 0, 1) := by decide +kernel
theorem dX0_closeRule_24 : decode cX0_closeRule 24 = .ok (.getfield 28, 3) := by decide +kernel
theorem dX0_closeRule_27 : decode cX0_closeRule 27 = .ok (.aload_n 0, 1) := by decide +kernel
theorem dX0_closeRule_28 : decode cX0_closeRule 28 = .ok (.getfield 44, 3) := by decide +kernel
theorem dX0_closeRule_31 : decode cX0_closeRule 31 = .ok (.iaload, 1) := by decide +kernel
theorem dX0_closeRule_32 : decode cX0_closeRule 32 = .ok (.invokevirtual 59, 3) := by decide +kernel
theorem dX0_closeRule_35 : decode cX0_closeRule 35 = .ok (.ifCond .eq 20, 3) := by decide +kernel
theorem dX0_closeRule_38 : decode cX0_closeRule 38 = .ok (.aload_n 0, 1) := by decide +kernel
theorem dX0_closeRule_39 : decode cX0_closeRule 39 = .ok (.iload_n 3, 1) := by decide +kernel
theorem dX0_closeRule_40 : decode cX0_closeRule 40 = .ok (.aload_n 0, 1) := by decide +kernel
theorem dX0_closeRule_41 : decode cX0_closeRule 41 = .ok (.getfield 28, 3) := by decide +kernel
theorem dX0_closeRule_44 : decode cX0_closeRule 44 = .ok (.aload_n 0, 1) := by decide +kernel
theorem dX0_closeRule_45 : decode cX0_closeRule 45 = .ok (.getfield 44, 3) := by decide +kernel
theorem dX0_closeRule_48 : decode cX0_closeRule 48 = .ok (.iaload, 1) := by decide +kernel
theorem dX0_closeRule_49 : decode cX0_closeRule 49 = .ok (.invokevirtual 63, 3) := by decide +kernel
theorem dX0_closeRule_52 : decode cX0_closeRule 52 = .ok (.ifCond .eq 5, 3) := by decide +kernel
theorem dX0_closeRule_55 : decode cX0_closeRule 55 = .ok (.iconst 0, 1) := by decide +kernel
theorem dX0_closeRule_56 : decode cX0_closeRule 56 = .ok (.ireturn, 1) := by decide +kernel
theorem dX0_closeRule_57 : decode cX0_closeRule 57 = .ok (.aload_n 0, 1) := by decide +kernel
theorem dX0_closeRule_58 : decode cX0_closeRule 58 = .ok (.getfield 31, 3) := by decide +kernel
theorem dX0_closeRule_61 : decode cX0_closeRule 61 = .ok (.aload_n 0, 1) := by decide +kernel
theorem dX0_closeRule_62 : decode cX0_closeRule 62 = .ok (.getfield 44, 3) := by decide +kernel
theorem dX0_closeRule_65 : decode cX0_closeRule 65 = .ok (.iload_n 1, 1) := by decide +kernel
theorem dX0_closeRule_66 : decode cX0_closeRule 66 = .ok (.iastore, 1) := by decide +kernel
theorem dX0_closeRule_67 : decode cX0_closeRule 67 = .ok (.aload_n 0, 1) := by decide +kernel
theorem dX0_closeRule_68 : decode cX0_closeRule 68 = .ok (.getfield 34, 3) := by decide +kernel
theorem dX0_closeRule_71 : decode cX0_closeRule 71 = .ok (.aload_n 0, 1) := by decide +kernel
theorem dX0_closeRule_72 : decode cX0_closeRule 72 = .ok (.getfield 44, 3) := by decide +kernel
theorem dX0_closeRule_75 : decode cX0_closeRule 75 = .ok (.iload_n 2, 1) := by decide +kernel
theorem dX0_closeRule_76 : decode cX0_closeRule 76 = .ok (.iastore, 1) := by decide +kernel
theorem dX0_closeRule_77 : decode cX0_closeRule 77 = .ok (.aload_n 0, 1) := by decide +kernel
theorem dX0_closeRule_78 : decode cX0_closeRule 78 = .ok (.dup, 1) := by decide +kernel
theorem dX0_closeRule_79 : decode cX0_closeRule 79 = .ok (.getfield 44, 3) := by decide +kernel
theorem dX0_closeRule_82 : decode cX0_closeRule 82 = .ok (.iconst 1, 1) := by decide +kernel
theorem dX0_closeRule_83 : decode cX0_closeRule 83 = .ok (.iadd, 1) := by decide +kernel
theorem dX0_closeRule_84 : decode cX0_closeRule 84 = .ok (.putfield 44, 3) := by decide +kernel
theorem dX0_closeRule_87 : decode cX0_closeRule 87 = .ok (.iconst 1, 1) := by decide +kernel
theorem dX0_closeRule_88 : decode cX0_closeRule 88 = .ok (.ireturn, 1) := by decide +kernel
theorem dX0_hasHalfTwice_0 : decode cX0_hasHalfTwice 0 = .ok (.iconst 0, 1) := by decide +kernel
theorem dX0_hasHalfTwice_1 : decode cX0_hasHalfTwice 1 = .ok (.istore_n 3, 1) := by decide +kernel
theorem dX0_hasHalfTwice_2 : decode cX0_hasHalfTwice 2 = .ok (.iload_n 1, 1) := by decide +kernel
theorem dX0_hasHalfTwice_3 : decode cX0_hasHalfTwice 3 = .ok (.istore 4, 2) := by decide +kernel
theorem dX0_hasHalfTwice_5 : decode cX0_hasHalfTwice 5 = .ok (.iload 4, 2) := by decide +kernel
theorem dX0_hasHalfTwice_7 : decode cX0_hasHalfTwice 7 = .ok (.iload_n 1, 1) := by decide +kernel
theorem dX0_hasHalfTwice_8 : decode cX0_hasHalfTwice 8 = .ok (.iload_n 2, 1) := by decide +kernel
theorem dX0_hasHalfTwice_9 : decode cX0_hasHalfTwice 9 = .ok (.iadd, 1) := by decide +kernel
theorem dX0_hasHalfTwice_10 : decode cX0_hasHalfTwice 10 = .ok (.if_icmp .ge 58, 3) := by decide +kernel
theorem dX0_hasHalfTwice_13 : decode cX0_hasHalfTwice 13 = .ok (.iload 4, 2) := by decide +kernel
theorem dX0_hasHalfTwice_15 : decode cX0_hasHalfTwice 15 = .ok (.aload_n 0, 1) := by decide +kernel
theorem dX0_hasHalfTwice_16 : decode cX0_hasHalfTwice 16 = .ok (.getfield 37, 3) := by decide +kernel
theorem dX0_hasHalfTwice_19 : decode cX0_hasHalfTwice 19 = .ok (.arraylength, 1) := by decide +kernel
theorem dX0_hasHalfTwice_20 : decode cX0_hasHalfTwice 20 = .ok (.if_icmp .ge 48, 3) := by decide +kernel
theorem dX0_hasHalfTwice_23 : decode cX0_hasHalfTwice 23 = .ok (.iconst 1, 1) := by decide +kernel
theorem dX0_hasHalfTwice_24 : decode cX0_hasHalfTwice 24 = .ok (.aload_n 0, 1) := by decide +kernel
theorem dX0_hasHalfTwice_25 : decode cX0_hasHalfTwice 25 = .ok (.getfield 37, 3) := by decide +kernel
theorem dX0_hasHalfTwice_28 : decode cX0_hasHalfTwice 28 = .ok (.iload 4, 2) := by decide +kernel
theorem dX0_hasHalfTwice_30 : decode cX0_hasHalfTwice 30 = .ok (.iaload, 1) := by decide +kernel
theorem dX0_hasHalfTwice_31 : decode cX0_hasHalfTwice 31 = .ok (.ishl, 1) := by decide +kernel
theorem dX0_hasHalfTwice_32 : decode cX0_hasHalfTwice 32 = .ok (.istore 5, 2) := by decide +kernel
theorem dX0_hasHalfTwice_34 : decode cX0_hasHalfTwice 34 = .ok (.aload_n 0, 1) := by decide +kernel
theorem dX0_hasHalfTwice_35 : decode cX0_hasHalfTwice 35 = .ok (.aload_n 0, 1) := by decide +kernel
theorem dX0_hasHalfTwice_36 : decode cX0_hasHalfTwice 36 = .ok (.getfield 37, 3) := by decide +kernel
theorem dX0_hasHalfTwice_39 : decode cX0_hasHalfTwice 39 = .ok (.iload 4, 2) := by decide +kernel
theorem dX0_hasHalfTwice_41 : decode cX0_hasHalfTwice 41 = .ok (.iaload, 1) := by decide +kernel
theorem dX0_hasHalfTwice_42 : decode cX0_hasHalfTwice 42 = .ok (.invokevirtual 52, 3) := by decide +kernel
theorem dX0_hasHalfTwice_45 : decode cX0_hasHalfTwice 45 = .ok (.ifCond .eq 12, 3) := by decide +kernel
theorem dX0_hasHalfTwice_48 : decode cX0_hasHalfTwice 48 = .ok (.iload_n 3, 1) := by decide +kernel
theorem dX0_hasHalfTwice_49 : decode cX0_hasHalfTwice 49 = .ok (.iload 5, 2) := by decide +kernel
theorem dX0_hasHalfTwice_51 : decode cX0_hasHalfTwice 51 = .ok (.iand, 1) := by decide +kernel
theorem dX0_hasHalfTwice_52 : decode cX0_hasHalfTwice 52 = .ok (.ifCond .eq 5, 3) := by decide +kernel
theorem dX0_hasHalfTwice_55 : decode cX0_hasHalfTwice 55 = .ok (.iconst 1, 1) := by decide +kernel
theorem dX0_hasHalfTwice_56 : decode cX0_hasHalfTwice 56 = .ok (.ireturn, 1) := by decide +kernel
theorem dX0_hasHalfTwice_57 : decode cX0_hasHalfTwice 57 = .ok (.iload_n 3, 1) := by decide +kernel
theorem dX0_hasHalfTwice_58 : decode cX0_hasHalfTwice 58 = .ok (.iload 5, 2) := by decide +kernel
theorem dX0_hasHalfTwice_60 : decode cX0_hasHalfTwice 60 = .ok (.ior, 1) := by decide +kernel
theorem dX0_hasHalfTwice_61 : decode cX0_hasHalfTwice 61 = .ok (.istore_n 3, 1) := by decide +kernel
theorem dX0_hasHalfTwice_62 : decode cX0_hasHalfTwice 62 = .ok (.iinc 4 1, 3) := by decide +kernel
theorem dX0_hasHalfTwice_65 : decode cX0_hasHalfTwice 65 = .ok (.goto (-60), 3) := by decide +kernel
theorem dX0_hasHalfTwice_68 : decode cX0_hasHalfTwice 68 = .ok (.iconst 0, 1) := by decide +kernel
theorem dX0_hasHalfTwice_69 : decode cX0_hasHalfTwice 69 = .ok (.ireturn, 1) := by decide +kernel

