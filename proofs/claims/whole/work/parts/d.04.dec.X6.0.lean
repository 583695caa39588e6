theorem dX6_init_0 : decode cX6_init 0 = .ok (.aload_n 0, 1) := by decide +kernel
theorem dX6_init_1 : decode cX6_init 1 = .ok (.invokespecial 3, 3) := by decide +kernel
theorem dX6_init_4 : decode cX6_init 4 = .ok (.aload_n 0, 1) := by decide +kernel
theorem dX6_init_5 : decode cX6_init 5 = .ok (.sipush 400, 3) := by decide +kernel
theorem dX6_init_8 : decode cX6_init 8 = .ok (.newarray .byte, 2) := by decide +kernel
theorem dX6_init_10 : decode cX6_init 10 = .ok (.putfield 11, 3) := by decide +kernel
theorem dX6_init_13 : decode cX6_init 13 = .ok (.aload_n 0, 1) := by decide +kernel
theorem dX6_init_14 : decode cX6_init 14 = .ok (.new 15, 3) := by decide +kernel
theorem dX6_init_17 : decode cX6_init 17 = .ok (.dup, 1) := by decide +kernel
theorem dX6_init_18 : decode cX6_init 18 = .ok (.invokespecial 17, 3) := by decide +kernel
theorem dX6_init_21 : decode cX6_init 21 = .ok (.putfield 18, 3) := by decide +kernel
theorem dX6_init_24 : decode cX6_init 24 = .ok (.return_, 1) := by decide +kernel
theorem dX6_take_0 : decode cX6_take 0 = .ok (.aload_n 0, 1) := by decide +kernel
theorem dX6_take_1 : decode cX6_take 1 = .ok (.getfield 22, 3) := by decide +kernel
theorem dX6_take_4 : decode cX6_take 4 = .ok (.sipush 380, 3) := by decide +kernel
theorem dX6_take_7 : decode cX6_take 7 = .ok (.if_icmp .le 5, 3) := by decide +kernel
theorem dX6_take_10 : decode cX6_take 10 = .ok (.iconst (-1), 1) := by decide +kernel
theorem dX6_take_11 : decode cX6_take 11 = .ok (.ireturn, 1) := by decide +kernel
theorem dX6_take_12 : decode cX6_take 12 = .ok (.aload_n 0, 1) := by decide +kernel
theorem dX6_take_13 : decode cX6_take 13 = .ok (.iload_n 1, 1) := by decide +kernel
theorem dX6_take_14 : decode cX6_take 14 = .ok (.invokevirtual 26, 3) := by decide +kernel
theorem dX6_take_17 : decode cX6_take 17 = .ok (.aload_n 0, 1) := by decide +kernel
theorem dX6_take_18 : decode cX6_take 18 = .ok (.iload_n 2, 1) := by decide +kernel
theorem dX6_take_19 : decode cX6_take 19 = .ok (.invokevirtual 26, 3) := by decide +kernel
theorem dX6_take_22 : decode cX6_take 22 = .ok (.aload_n 0, 1) := by decide +kernel
theorem dX6_take_23 : decode cX6_take 23 = .ok (.iload_n 3, 1) := by decide +kernel
theorem dX6_take_24 : decode cX6_take 24 = .ok (.invokevirtual 26, 3) := by decide +kernel
theorem dX6_take_27 : decode cX6_take 27 = .ok (.aload_n 0, 1) := by decide +kernel
theorem dX6_take_28 : decode cX6_take 28 = .ok (.iload 4, 2) := by decide +kernel
theorem dX6_take_30 : decode cX6_take 30 = .ok (.invokevirtual 26, 3) := by decide +kernel
theorem dX6_take_33 : decode cX6_take 33 = .ok (.aload_n 0, 1) := by decide +kernel
theorem dX6_take_34 : decode cX6_take 34 = .ok (.iload 5, 2) := by decide +kernel
theorem dX6_take_36 : decode cX6_take 36 = .ok (.invokevirtual 26, 3) := by decide +kernel
theorem dX6_take_39 : decode cX6_take 39 = .ok (.aload_n 0, 1) := by decide +kernel
theorem dX6_take_40 : decode cX6_take 40 = .ok (.getfield 22, 3) := by decide +kernel
theorem dX6_take_43 : decode cX6_take 43 = .ok (.ireturn, 1) := by decide +kernel
theorem dX6_read_0 : decode cX6_read 0 = .ok (.aload_n 0, 1) := by decide +kernel
theorem dX6_read_1 : decode cX6_read 1 = .ok (.iload_n 1, 1) := by decide +kernel
theorem dX6_read_2 : decode cX6_read 2 = .ok (.putfield 30, 3) := by decide +kernel
theorem dX6_read_5 : decode cX6_read 5 = .ok (.aload_n 0, 1) := by decide +kernel
theorem dX6_read_6 : decode cX6_read 6 = .ok (.iconst 0, 1) := by decide +kernel
theorem dX6_read_7 : decode cX6_read 7 = .ok (.putfield 33, 3) := by decide +kernel
theorem dX6_read_10 : decode cX6_read 10 = .ok (.aload_n 0, 1) := by decide +kernel
theorem dX6_read_11 : decode cX6_read 11 = .ok (.iconst 0, 1) := by decide +kernel
theorem dX6_read_12 : decode cX6_read 12 = .ok (.putfield 36, 3) := by decide +kernel
theorem dX6_read_15 : decode cX6_read 15 = .ok (.aload_n 0, 1) := by decide +kernel
theorem dX6_read_16 : decode cX6_read 16 = .ok (.iconst (-1), 1) := by decide +kernel
theorem dX6_read_17 : decode cX6_read 17 = .ok (.putfield 39, 3) := by decide +kernel
theorem dX6_read_20 : decode cX6_read 20 = .ok (.aload_n 0, 1) := by decide +kernel
theorem dX6_read_21 : decode cX6_read 21 = .ok (.getfield 18, 3) := by decide +kernel
theorem dX6_read_24 : decode cX6_read 24 = .ok (.invokevirtual 42, 3) := by decide +kernel
theorem dX6_read_27 : decode cX6_read 27 = .ok (.aload_n 0, 1) := by decide +kernel
theorem dX6_read_28 : decode cX6_read 28 = .ok (.invokevirtual 45, 3) := by decide +kernel
theorem dX6_read_31 : decode cX6_read 31 = .ok (.iconst 0, 1) := by decide +kernel
theorem dX6_read_32 : decode cX6_read 32 = .ok (.istore_n 2, 1) := by decide +kernel
theorem dX6_read_33 : decode cX6_read 33 = .ok (.iload_n 2, 1) := by decide +kernel
theorem dX6_read_34 : decode cX6_read 34 = .ok (.sipush 400, 3) := by decide +kernel
theorem dX6_read_37 : decode cX6_read 37 = .ok (.if_icmp .ge 49, 3) := by decide +kernel
theorem dX6_read_40 : decode cX6_read 40 = .ok (.aload_n 0, 1) := by decide +kernel
theorem dX6_read_41 : decode cX6_read 41 = .ok (.invokevirtual 48, 3) := by decide +kernel
theorem dX6_read_44 : decode cX6_read 44 = .ok (.ifCond .ne 5, 3) := by decide +kernel
theorem dX6_read_47 : decode cX6_read 47 = .ok (.iconst 0, 1) := by decide +kernel
theorem dX6_read_48 : decode cX6_read 48 = .ok (.ireturn, 1) := by decide +kernel
theorem dX6_read_49 : decode cX6_read 49 = .ok (.aload_n 0, 1) := by decide +kernel
theorem dX6_read_50 : decode cX6_read 50 = .ok (.getfield 52, 3) := by decide +kernel
theorem dX6_read_53 : decode cX6_read 53 = .ok (.ifCond .ne 5, 3) := by decide +kernel
theorem dX6_read_56 : decode cX6_read 56 = .ok (.iconst 1, 1) := by decide +kernel
theorem dX6_read_57 : decode cX6_read 57 = .ok (.ireturn, 1) := by decide +kernel
theorem dX6_read_58 : decode cX6_read 58 = .ok (.aload_n 0, 1) := by decide +kernel
theorem dX6_read_59 : decode cX6_read 59 = .ok (.getfield 52, 3) := by decide +kernel
theorem dX6_read_62 : decode cX6_read 62 = .ok (.iconst 3, 1) := by decide +kernel
theorem dX6_read_63 : decode cX6_read 63 = .ok (.if_icmp .eq 13, 3) := by decide +kernel
theorem dX6_read_66 : decode cX6_read 66 = .ok (.aload_n 0, 1) := by decide +kernel
theorem dX6_read_67 : decode cX6_read 67 = .ok (.iconst 1, 1) := by decide +kernel
theorem dX6_read_68 : decode cX6_read 68 = .ok (.aload_n 0, 1) := by decide +kernel
theorem dX6_read_69 : decode cX6_read 69 = .ok (.getfield 55, 3) := by decide +kernel
theorem dX6_read_72 : decode cX6_read 72 = .ok (.invokevirtual 58, 3) := by decide +kernel
theorem dX6_read_75 : decode cX6_read 75 = .ok (.ireturn, 1) := by decide +kernel
theorem dX6_read_76 : decode cX6_read 76 = .ok (.aload_n 0, 1) := by decide +kernel
theorem dX6_read_77 : decode cX6_read 77 = .ok (.invokevirtual 45, 3) := by decide +kernel
theorem dX6_read_80 : decode cX6_read 80 = .ok (.iinc 2 1, 3) := by decide +kernel
theorem dX6_read_83 : decode cX6_read 83 = .ok (.goto (-50), 3) := by decide +kernel
theorem dX6_read_86 : decode cX6_read 86 = .ok (.aload_n 0, 1) := by decide +kernel
theorem dX6_read_87 : decode cX6_read 87 = .ok (.iconst 1, 1) := by decide +kernel
theorem dX6_read_88 : decode cX6_read 88 = .ok (.aload_n 0, 1) := by decide +kernel
theorem dX6_read_89 : decode cX6_read 89 = .ok (.getfield 55, 3) := by decide +kernel
theorem dX6_read_92 : decode cX6_read 92 = .ok (.invokevirtual 58, 3) := by decide +kernel
theorem dX6_read_95 : decode cX6_read 95 = .ok (.ireturn, 1) := by decide +kernel
theorem dX6_put_0 : decode cX6_put 0 = .ok (.bipush 24, 2) := by decide +kernel
theorem dX6_put_2 : decode cX6_put 2 = .ok (.istore_n 2, 1) := by decide +kernel
theorem dX6_put_3 : decode cX6_put 3 = .ok (.iload_n 2, 1) := by decide +kernel
theorem dX6_put_4 : decode cX6_put 4 = .ok (.ifCond .lt 42, 3) := by decide +kernel
theorem dX6_put_7 : decode cX6_put 7 = .ok (.aload_n 0, 1) := by decide +kernel
theorem dX6_put_8 : decode cX6_put 8 = .ok (.getfield 22, 3) := by decide +kernel
theorem dX6_put_11 : decode cX6_put 11 = .ok (.sipush 400, 3) := by decide +kernel
theorem dX6_put_14 : decode cX6_put 14 = .ok (.if_icmp .ge 26, 3) := by decide +kernel
theorem dX6_put_17 : decode cX6_put 17 = .ok (.aload_n 0, 1) := by decide +kernel
theorem dX6_put_18 : decode cX6_put 18 = .ok (.getfield 11, 3) := by decide +kernel
theorem dX6_put_21 : decode cX6_put 21 = .ok (.aload_n 0, 1) := by decide +kernel
theorem dX6_put_22 : decode cX6_put 22 = .ok (.getfield 22, 3) := by decide +kernel
theorem dX6_put_25 : decode cX6_put 25 = .ok (.iload_n 1, 1) := by decide +kernel
theorem dX6_put_26 : decode cX6_put 26 = .ok (.iload_n 2, 1) := by decide +kernel
theorem dX6_put_27 : decode cX6_put 27 = .ok (.ishr, 1) := by decide +kernel
theorem dX6_put_28 : decode cX6_put 28 = .ok (.i2b, 1) := by decide +kernel
theorem dX6_put_29 : decode cX6_put 29 = .ok (.bastore, 1) := by decide +kernel
theorem dX6_put_30 : decode cX6_put 30 = .ok (.aload_n 0, 1) := by decide +kernel
theorem dX6_put_31 : decode cX6_put 31 = .ok (.dup, 1) := by decide +kernel
theorem dX6_put_32 : decode cX6_put 32 = .ok (.getfield 22, 3) := by decide +kernel
theorem dX6_put_35 : decode cX6_put 35 = .ok (.iconst 1, 1) := by decide +kernel
theorem dX6_put_36 : decode cX6_put 36 = .ok (.iadd, 1) := by decide +kernel
theorem dX6_put_37 : decode cX6_put 37 = .ok (.putfield 22, 3) := by decide +kernel
theorem dX6_put_40 : decode cX6_put 40 = .ok (.iinc 2 (-8), 3) := by decide +kernel
theorem dX6_put_43 : decode cX6_put 43 = .ok (.goto (-40), 3) := by decide +kernel
theorem dX6_put_46 : decode cX6_put 46 = .ok (.return_, 1) := by decide +kernel
theorem dX6_fail_0 : decode cX6_fail 0 = .ok (.aload_n 0, 1) := by decide +kernel
theorem dX6_fail_1 : decode cX6_fail 1 = .ok (.iload_n 1, 1) := by decide +kernel
theorem dX6_fail_2 : decode cX6_fail 2 = .ok (.putfield 36, 3) := by decide +kernel
theorem dX6_fail_5 : decode cX6_fail 5 = .ok (.aload_n 0, 1) := by decide +kernel
theorem dX6_fail_6 : decode cX6_fail 6 = .ok (.iload_n 2, 1) := by decide +kernel
theorem dX6_fail_7 : decode cX6_fail 7 = .ok (.putfield 39, 3) := by decide +kernel
theorem dX6_fail_10 : decode cX6_fail 10 = .ok (.iconst 0, 1) := by decide +kernel
theorem dX6_fail_11 : decode cX6_fail 11 = .ok (.ireturn, 1) := by decide +kernel
theorem dX6_byteAt_0 : decode cX6_byteAt 0 = .ok (.iload_n 1, 1) := by decide +kernel
theorem dX6_byteAt_1 : decode cX6_byteAt 1 = .ok (.ifCond .lt 27, 3) := by decide +kernel
theorem dX6_byteAt_4 : decode cX6_byteAt 4 = .ok (.iload_n 1, 1) := by decide +kernel
theorem dX6_byteAt_5 : decode cX6_byteAt 5 = .ok (.aload_n 0, 1) := by decide +kernel
theorem dX6_byteAt_6 : decode cX6_byteAt 6 = .ok (.getfield 30, 3) := by decide +kernel
theorem dX6_byteAt_9 : decode cX6_byteAt 9 = .ok (.if_icmp .ge 19, 3) := by decide +kernel
theorem dX6_byteAt_12 : decode cX6_byteAt 12 = .ok (.iload_n 1, 1) := by decide +kernel
theorem dX6_byteAt_13 : decode cX6_byteAt 13 = .ok (.sipush 400, 3) := by decide +kernel
theorem dX6_byteAt_16 : decode cX6_byteAt 16 = .ok (.if_icmp .ge 12, 3) := by decide +kernel
theorem dX6_byteAt_19 : decode cX6_byteAt 19 = .ok (.aload_n 0, 1) := by decide +kernel
theorem dX6_byteAt_20 : decode cX6_byteAt 20 = .ok (.getfield 11, 3) := by decide +kernel
theorem dX6_byteAt_23 : decode cX6_byteAt 23 = .ok (.iload_n 1, 1) := by decide +kernel
theorem dX6_byteAt_24 : decode cX6_byteAt 24 = .ok (.baload, 1) := by decide +kernel
theorem dX6_byteAt_25 : decode cX6_byteAt 25 = .ok (.goto 4, 3) := by decide +kernel
theorem dX6_byteAt_28 : decode cX6_byteAt 28 = .ok (.iconst 0, 1) := by decide +kernel
theorem dX6_byteAt_29 : decode cX6_byteAt 29 = .ok (.ireturn, 1) := by decide +kernel
theorem dX6_advance_0 : decode cX6_advance 0 = .ok (.aload_n 0, 1) := by decide +kernel
theorem dX6_advance_1 : decode cX6_advance 1 = .ok (.getfield 33, 3) := by decide +kernel
theorem dX6_advance_4 : decode cX6_advance 4 = .ok (.aload_n 0, 1) := by decide +kernel
theorem dX6_advance_5 : decode cX6_advance 5 = .ok (.getfield 30, 3) := by decide +kernel
theorem dX6_advance_8 : decode cX6_advance 8 = .ok (.if_icmp .ge 29, 3) := by decide +kernel
theorem dX6_advance_11 : decode cX6_advance 11 = .ok (.aload_n 0, 1) := by decide +kernel
theorem dX6_advance_12 : decode cX6_advance 12 = .ok (.aload_n 0, 1) := by decide +kernel
theorem dX6_advance_13 : decode cX6_advance 13 = .ok (.getfield 33, 3) := by decide +kernel
theorem dX6_advance_16 : decode cX6_advance 16 = .ok (.invokevirtual 62, 3) := by decide +kernel
theorem dX6_advance_19 : decode cX6_advance 19 = .ok (.bipush 32, 2) := by decide +kernel
theorem dX6_advance_21 : decode cX6_advance 21 = .ok (.if_icmp .ne 16, 3) := by decide +kernel
theorem dX6_advance_24 : decode cX6_advance 24 = .ok (.aload_n 0, 1) := by decide +kernel
theorem dX6_advance_25 : decode cX6_advance 25 = .ok (.dup, 1) := by decide +kernel
theorem dX6_advance_26 : decode cX6_advance 26 = .ok (.getfield 33, 3) := by decide +kernel
theorem dX6_advance_29 : decode cX6_advance 29 = .ok (.iconst 1, 1) := by decide +kernel
theorem dX6_advance_30 : decode cX6_advance 30 = .ok (.iadd, 1) := by decide +kernel
theorem dX6_advance_31 : decode cX6_advance 31 = .ok (.putfield 33, 3) := by decide +kernel
theorem dX6_advance_34 : decode cX6_advance 34 = .ok (.goto (-34), 3) := by decide +kernel
theorem dX6_advance_37 : decode cX6_advance 37 = .ok (.aload_n 0, 1) := by decide +kernel
theorem dX6_advance_38 : decode cX6_advance 38 = .ok (.aload_n 0, 1) := by decide +kernel
theorem dX6_advance_39 : decode cX6_advance 39 = .ok (.getfield 33, 3) := by decide +kernel
theorem dX6_advance_42 : decode cX6_advance 42 = .ok (.putfield 55, 3) := by decide +kernel
theorem dX6_advance_45 : decode cX6_advance 45 = .ok (.aload_n 0, 1) := by decide +kernel
theorem dX6_advance_46 : decode cX6_advance 46 = .ok (.getfield 33, 3) := by decide +kernel
theorem dX6_advance_49 : decode cX6_advance 49 = .ok (.aload_n 0, 1) := by decide +kernel
theorem dX6_advance_50 : decode cX6_advance 50 = .ok (.getfield 30, 3) := by decide +kernel
theorem dX6_advance_53 : decode cX6_advance 53 = .ok (.if_icmp .lt 9, 3) := by decide +kernel
theorem dX6_advance_56 : decode cX6_advance 56 = .ok (.aload_n 0, 1) := by decide +kernel
theorem dX6_advance_57 : decode cX6_advance 57 = .ok (.iconst 0, 1) := by decide +kernel
theorem dX6_advance_58 : decode cX6_advance 58 = .ok (.putfield 52, 3) := by decide +kernel
theorem dX6_advance_61 : decode cX6_advance 61 = .ok (.return_, 1) := by decide +kernel
theorem dX6_advance_62 : decode cX6_advance 62 = .ok (.aload_n 0, 1) := by decide +kernel
theorem dX6_advance_63 : decode cX6_advance 63 = .ok (.aload_n 0, 1) := by decide +kernel
theorem dX6_advance_64 : decode cX6_advance 64 = .ok (.getfield 33, 3) := by decide +kernel
theorem dX6_advance_67 : decode cX6_advance 67 = .ok (.invokevirtual 62, 3) := by decide +kernel
theorem dX6_advance_70 : decode cX6_advance 70 = .ok (.istore_n 1, 1) := by decide +kernel
theorem dX6_advance_71 : decode cX6_advance 71 = .ok (.iload_n 1, 1) := by decide +kernel
theorem dX6_advance_72 : decode cX6_advance 72 = .ok (.invokestatic 66, 3) := by decide +kernel
theorem dX6_advance_75 : decode cX6_advance 75 = .ok (.ifCond .eq 10, 3) := by decide +kernel
theorem dX6_advance_78 : decode cX6_advance 78 = .ok (.aload_n 0, 1) := by decide +kernel
theorem dX6_advance_79 : decode cX6_advance 79 = .ok (.invokevirtual 70, 3) := by decide +kernel
theorem dX6_advance_82 : decode cX6_advance 82 = .ok (.goto 52, 3) := by decide +kernel
theorem dX6_advance_85 : decode cX6_advance 85 = .ok (.iload_n 1, 1) := by decide +kernel
theorem dX6_advance_86 : decode cX6_advance 86 = .ok (.invokestatic 73, 3) := by decide +kernel
theorem dX6_advance_89 : decode cX6_advance 89 = .ok (.ifCond .eq 10, 3) := by decide +kernel
theorem dX6_advance_92 : decode cX6_advance 92 = .ok (.aload_n 0, 1) := by decide +kernel
theorem dX6_advance_93 : decode cX6_advance 93 = .ok (.invokevirtual 76, 3) := by decide +kernel
theorem dX6_advance_96 : decode cX6_advance 96 = .ok (.goto 38, 3) := by decide +kernel
theorem dX6_advance_99 : decode cX6_advance 99 = .ok (.aload_n 0, 1) := by decide +kernel
theorem dX6_advance_100 : decode cX6_advance 100 = .ok (.iload_n 1, 1) := by decide +kernel
theorem dX6_advance_101 : decode cX6_advance 101 = .ok (.bipush 59, 2) := by decide +kernel
theorem dX6_advance_103 : decode cX6_advance 103 = .ok (.if_icmp .ne 7, 3) := by decide +kernel
theorem dX6_advance_106 : decode cX6_advance 106 = .ok (.iconst 3, 1) := by decide +kernel
theorem dX6_advance_107 : decode cX6_advance 107 = .ok (.goto 14, 3) := by decide +kernel
theorem dX6_advance_110 : decode cX6_advance 110 = .ok (.iload_n 1, 1) := by decide +kernel
theorem dX6_advance_111 : decode cX6_advance 111 = .ok (.bipush 45, 2) := by decide +kernel
theorem dX6_advance_113 : decode cX6_advance 113 = .ok (.if_icmp .ne 7, 3) := by decide +kernel
theorem dX6_advance_116 : decode cX6_advance 116 = .ok (.iconst 4, 1) := by decide +kernel
theorem dX6_advance_117 : decode cX6_advance 117 = .ok (.goto 4, 3) := by decide +kernel
theorem dX6_advance_120 : decode cX6_advance 120 = .ok (.iconst 5, 1) := by decide +kernel
theorem dX6_advance_121 : decode cX6_advance 121 = .ok (.putfield 52, 3) := by decide +kernel
theorem dX6_advance_124 : decode cX6_advance 124 = .ok (.aload_n 0, 1) := by decide +kernel
theorem dX6_advance_125 : decode cX6_advance 125 = .ok (.dup, 1) := by decide +kernel
theorem dX6_advance_126 : decode cX6_advance 126 = .ok (.getfield 33, 3) := by decide +kernel
theorem dX6_advance_129 : decode cX6_advance 129 = .ok (.iconst 1, 1) := by decide +kernel
theorem dX6_advance_130 : decode cX6_advance 130 = .ok (.iadd, 1) := by decide +kernel
theorem dX6_advance_131 : decode cX6_advance 131 = .ok (.putfield 33, 3) := by decide +kernel
theorem dX6_advance_134 : decode cX6_advance 134 = .ok (.return_, 1) := by decide +kernel
theorem dX6_readWord_0 : decode cX6_readWord 0 = .ok (.aload_n 0, 1) := by decide +kernel
theorem dX6_readWord_1 : decode cX6_readWord 1 = .ok (.lconst 0, 1) := by decide +kernel
theorem dX6_readWord_2 : decode cX6_readWord 2 = .ok (.putfield 79, 3) := by decide +kernel
theorem dX6_readWord_5 : decode cX6_readWord 5 = .ok (.aload_n 0, 1) := by decide +kernel
theorem dX6_readWord_6 : decode cX6_readWord 6 = .ok (.getfield 33, 3) := by decide +kernel
theorem dX6_readWord_9 : decode cX6_readWord 9 = .ok (.aload_n 0, 1) := by decide +kernel
theorem dX6_readWord_10 : decode cX6_readWord 10 = .ok (.getfield 30, 3) := by decide +kernel
theorem dX6_readWord_13 : decode cX6_readWord 13 = .ok (.if_icmp .ge 55, 3) := by decide +kernel
theorem dX6_readWord_16 : decode cX6_readWord 16 = .ok (.aload_n 0, 1) := by decide +kernel
theorem dX6_readWord_17 : decode cX6_readWord 17 = .ok (.aload_n 0, 1) := by decide +kernel
theorem dX6_readWord_18 : decode cX6_readWord 18 = .ok (.getfield 33, 3) := by decide +kernel
theorem dX6_readWord_21 : decode cX6_readWord 21 = .ok (.invokevirtual 62, 3) := by decide +kernel
theorem dX6_readWord_24 : decode cX6_readWord 24 = .ok (.invokestatic 66, 3) := by decide +kernel
theorem dX6_readWord_27 : decode cX6_readWord 27 = .ok (.ifCond .eq 41, 3) := by decide +kernel
theorem dX6_readWord_30 : decode cX6_readWord 30 = .ok (.aload_n 0, 1) := by decide +kernel
theorem dX6_readWord_31 : decode cX6_readWord 31 = .ok (.aload_n 0, 1) := by decide +kernel
theorem dX6_readWord_32 : decode cX6_readWord 32 = .ok (.getfield 79, 3) := by decide +kernel
theorem dX6_readWord_35 : decode cX6_readWord 35 = .ok (.iconst 5, 1) := by decide +kernel
theorem dX6_readWord_36 : decode cX6_readWord 36 = .ok (.lshl, 1) := by decide +kernel
theorem dX6_readWord_37 : decode cX6_readWord 37 = .ok (.aload_n 0, 1) := by decide +kernel
theorem dX6_readWord_38 : decode cX6_readWord 38 = .ok (.aload_n 0, 1) := by decide +kernel
theorem dX6_readWord_39 : decode cX6_readWord 39 = .ok (.getfield 33, 3) := by decide +kernel
theorem dX6_readWord_42 : decode cX6_readWord 42 = .ok (.invokevirtual 62, 3) := by decide +kernel
theorem dX6_readWord_45 : decode cX6_readWord 45 = .ok (.bipush 97, 2) := by decide +kernel
theorem dX6_readWord_47 : decode cX6_readWord 47 = .ok (.isub, 1) := by decide +kernel
theorem dX6_readWord_48 : decode cX6_readWord 48 = .ok (.iconst 1, 1) := by decide +kernel
theorem dX6_readWord_49 : decode cX6_readWord 49 = .ok (.iadd, 1) := by decide +kernel
theorem dX6_readWord_50 : decode cX6_readWord 50 = .ok (.i2l, 1) := by decide +kernel
theorem dX6_readWord_51 : decode cX6_readWord 51 = .ok (.lor, 1) := by decide +kernel
theorem dX6_readWord_52 : decode cX6_readWord 52 = .ok (.putfield 79, 3) := by decide +kernel
theorem dX6_readWord_55 : decode cX6_readWord 55 = .ok (.aload_n 0, 1) := by decide +kernel
theorem dX6_readWord_56 : decode cX6_readWord 56 = .ok (.dup, 1) := by decide +kernel
theorem dX6_readWord_57 : decode cX6_readWord 57 = .ok (.getfield 33, 3) := by decide +kernel
theorem dX6_readWord_60 : decode cX6_readWord 60 = .ok (.iconst 1, 1) := by decide +kernel
theorem dX6_readWord_61 : decode cX6_readWord 61 = .ok (.iadd, 1) := by decide +kernel
theorem dX6_readWord_62 : decode cX6_readWord 62 = .ok (.putfield 33, 3) := by decide +kernel
theorem dX6_readWord_65 : decode cX6_readWord 65 = .ok (.goto (-60), 3) := by decide +kernel
theorem dX6_readWord_68 : decode cX6_readWord 68 = .ok (.aload_n 0, 1) := by decide +kernel
theorem dX6_readWord_69 : decode cX6_readWord 69 = .ok (.aload_n 0, 1) := by decide +kernel
theorem dX6_readWord_70 : decode cX6_readWord 70 = .ok (.getfield 33, 3) := by decide +kernel
theorem dX6_readWord_73 : decode cX6_readWord 73 = .ok (.aload_n 0, 1) := by decide +kernel
theorem dX6_readWord_74 : decode cX6_readWord 74 = .ok (.getfield 55, 3) := by decide +kernel
theorem dX6_readWord_77 : decode cX6_readWord 77 = .ok (.isub, 1) := by decide +kernel
theorem dX6_readWord_78 : decode cX6_readWord 78 = .ok (.bipush 8, 2) := by decide +kernel
theorem dX6_readWord_80 : decode cX6_readWord 80 = .ok (.if_icmp .le 7, 3) := by decide +kernel
theorem dX6_readWord_83 : decode cX6_readWord 83 = .ok (.iconst 5, 1) := by decide +kernel
theorem dX6_readWord_84 : decode cX6_readWord 84 = .ok (.goto 4, 3) := by decide +kernel
theorem dX6_readWord_87 : decode cX6_readWord 87 = .ok (.iconst 1, 1) := by decide +kernel
theorem dX6_readWord_88 : decode cX6_readWord 88 = .ok (.putfield 52, 3) := by decide +kernel
theorem dX6_readWord_91 : decode cX6_readWord 91 = .ok (.return_, 1) := by decide +kernel
theorem dX6_readWhole_0 : decode cX6_readWhole 0 = .ok (.aload_n 0, 1) := by decide +kernel
theorem dX6_readWhole_1 : decode cX6_readWhole 1 = .ok (.iconst 0, 1) := by decide +kernel
theorem dX6_readWhole_2 : decode cX6_readWhole 2 = .ok (.putfield 83, 3) := by decide +kernel
theorem dX6_readWhole_5 : decode cX6_readWhole 5 = .ok (.aload_n 0, 1) := by decide +kernel
theorem dX6_readWhole_6 : decode cX6_readWhole 6 = .ok (.getfield 33, 3) := by decide +kernel
theorem dX6_readWhole_9 : decode cX6_readWhole 9 = .ok (.aload_n 0, 1) := by decide +kernel
theorem dX6_readWhole_10 : decode cX6_readWhole 10 = .ok (.getfield 30, 3) := by decide +kernel
theorem dX6_readWhole_13 : decode cX6_readWhole 13 = .ok (.if_icmp .ge 53, 3) := by decide +kernel
theorem dX6_readWhole_16 : decode cX6_readWhole 16 = .ok (.aload_n 0, 1) := by decide +kernel
theorem dX6_readWhole_17 : decode cX6_readWhole 17 = .ok (.aload_n 0, 1) := by decide +kernel
theorem dX6_readWhole_18 : decode cX6_readWhole 18 = .ok (.getfield 33, 3) := by decide +kernel
theorem dX6_readWhole_21 : decode cX6_readWhole 21 = .ok (.invokevirtual 62, 3) := by decide +kernel
theorem dX6_readWhole_24 : decode cX6_readWhole 24 = .ok (.invokestatic 73, 3) := by decide +kernel
theorem dX6_readWhole_27 : decode cX6_readWhole 27 = .ok (.ifCond .eq 39, 3) := by decide +kernel
theorem dX6_readWhole_30 : decode cX6_readWhole 30 = .ok (.aload_n 0, 1) := by decide +kernel
theorem dX6_readWhole_31 : decode cX6_readWhole 31 = .ok (.aload_n 0, 1) := by decide +kernel
theorem dX6_readWhole_32 : decode cX6_readWhole 32 = .ok (.getfield 83, 3) := by decide +kernel
theorem dX6_readWhole_35 : decode cX6_readWhole 35 = .ok (.bipush 10, 2) := by decide +kernel
theorem dX6_readWhole_37 : decode cX6_readWhole 37 = .ok (.imul, 1) := by decide +kernel
theorem dX6_readWhole_38 : decode cX6_readWhole 38 = .ok (.aload_n 0, 1) := by decide +kernel
theorem dX6_readWhole_39 : decode cX6_readWhole 39 = .ok (.aload_n 0, 1) := by decide +kernel
theorem dX6_readWhole_40 : decode cX6_readWhole 40 = .ok (.getfield 33, 3) := by decide +kernel
theorem dX6_readWhole_43 : decode cX6_readWhole 43 = .ok (.invokevirtual 62, 3) := by decide +kernel
theorem dX6_readWhole_46 : decode cX6_readWhole 46 = .ok (.iadd, 1) := by decide +kernel
theorem dX6_readWhole_47 : decode cX6_readWhole 47 = .ok (.bipush 48, 2) := by decide +kernel
theorem dX6_readWhole_49 : decode cX6_readWhole 49 = .ok (.isub, 1) := by decide +kernel
theorem dX6_readWhole_50 : decode cX6_readWhole 50 = .ok (.putfield 83, 3) := by decide +kernel
theorem dX6_readWhole_53 : decode cX6_readWhole 53 = .ok (.aload_n 0, 1) := by decide +kernel
theorem dX6_readWhole_54 : decode cX6_readWhole 54 = .ok (.dup, 1) := by decide +kernel
theorem dX6_readWhole_55 : decode cX6_readWhole 55 = .ok (.getfield 33, 3) := by decide +kernel
theorem dX6_readWhole_58 : decode cX6_readWhole 58 = .ok (.iconst 1, 1) := by decide +kernel
theorem dX6_readWhole_59 : decode cX6_readWhole 59 = .ok (.iadd, 1) := by decide +kernel
theorem dX6_readWhole_60 : decode cX6_readWhole 60 = .ok (.putfield 33, 3) := by decide +kernel
theorem dX6_readWhole_63 : decode cX6_readWhole 63 = .ok (.goto (-58), 3) := by decide +kernel
theorem dX6_readWhole_66 : decode cX6_readWhole 66 = .ok (.aload_n 0, 1) := by decide +kernel
theorem dX6_readWhole_67 : decode cX6_readWhole 67 = .ok (.aload_n 0, 1) := by decide +kernel
theorem dX6_readWhole_68 : decode cX6_readWhole 68 = .ok (.getfield 33, 3) := by decide +kernel
theorem dX6_readWhole_71 : decode cX6_readWhole 71 = .ok (.aload_n 0, 1) := by decide +kernel
theorem dX6_readWhole_72 : decode cX6_readWhole 72 = .ok (.getfield 55, 3) := by decide +kernel
theorem dX6_readWhole_75 : decode cX6_readWhole 75 = .ok (.isub, 1) := by decide +kernel
theorem dX6_readWhole_76 : decode cX6_readWhole 76 = .ok (.iconst 3, 1) := by decide +kernel
theorem dX6_readWhole_77 : decode cX6_readWhole 77 = .ok (.if_icmp .le 7, 3) := by decide +kernel
theorem dX6_readWhole_80 : decode cX6_readWhole 80 = .ok (.iconst 5, 1) := by decide +kernel
theorem dX6_readWhole_81 : decode cX6_readWhole 81 = .ok (.goto 4, 3) := by decide +kernel
theorem dX6_readWhole_84 : decode cX6_readWhole 84 = .ok (.iconst 2, 1) := by decide +kernel
theorem dX6_readWhole_85 : decode cX6_readWhole 85 = .ok (.putfield 52, 3) := by decide +kernel
theorem dX6_readWhole_88 : decode cX6_readWhole 88 = .ok (.return_, 1) := by decide +kernel
theorem dX6_readLine_0 : decode cX6_readLine 0 = .ok (.aload_n 0, 1) := by decide +kernel
theorem dX6_readLine_1 : decode cX6_readLine 1 = .ok (.getfield 52, 3) := by decide +kernel
theorem dX6_readLine_4 : decode cX6_readLine 4 = .ok (.iconst 1, 1) := by decide +kernel
theorem dX6_readLine_5 : decode cX6_readLine 5 = .ok (.if_icmp .eq 13, 3) := by decide +kernel
theorem dX6_readLine_8 : decode cX6_readLine 8 = .ok (.aload_n 0, 1) := by decide +kernel
theorem dX6_readLine_9 : decode cX6_readLine 9 = .ok (.iconst 1, 1) := by decide +kernel
theorem dX6_readLine_10 : decode cX6_readLine 10 = .ok (.aload_n 0, 1) := by decide +kernel
theorem dX6_readLine_11 : decode cX6_readLine 11 = .ok (.getfield 55, 3) := by decide +kernel
theorem dX6_readLine_14 : decode cX6_readLine 14 = .ok (.invokevirtual 58, 3) := by decide +kernel
theorem dX6_readLine_17 : decode cX6_readLine 17 = .ok (.ireturn, 1) := by decide +kernel
theorem dX6_readLine_18 : decode cX6_readLine 18 = .ok (.aload_n 0, 1) := by decide +kernel
theorem dX6_readLine_19 : decode cX6_readLine 19 = .ok (.getfield 79, 3) := by decide +kernel
theorem dX6_readLine_22 : decode cX6_readLine 22 = .ok (.ldc2_w 86, 3) := by decide +kernel
theorem dX6_readLine_25 : decode cX6_readLine 25 = .ok (.lcmp, 1) := by decide +kernel
theorem dX6_readLine_26 : decode cX6_readLine 26 = .ok (.ifCond .ne 8, 3) := by decide +kernel
theorem dX6_readLine_29 : decode cX6_readLine 29 = .ok (.aload_n 0, 1) := by decide +kernel
theorem dX6_readLine_30 : decode cX6_readLine 30 = .ok (.invokevirtual 88, 3) := by decide +kernel
theorem dX6_readLine_33 : decode cX6_readLine 33 = .ok (.ireturn, 1) := by decide +kernel
theorem dX6_readLine_34 : decode cX6_readLine 34 = .ok (.aload_n 0, 1) := by decide +kernel
theorem dX6_readLine_35 : decode cX6_readLine 35 = .ok (.getfield 79, 3) := by decide +kernel
theorem dX6_readLine_38 : decode cX6_readLine 38 = .ok (.ldc2_w 91, 3) := by decide +kernel
theorem dX6_readLine_41 : decode cX6_readLine 41 = .ok (.lcmp, 1) := by decide +kernel
theorem dX6_readLine_42 : decode cX6_readLine 42 = .ok (.ifCond .ne 9, 3) := by decide +kernel
theorem dX6_readLine_45 : decode cX6_readLine 45 = .ok (.aload_n 0, 1) := by decide +kernel
theorem dX6_readLine_46 : decode cX6_readLine 46 = .ok (.iconst 1, 1) := by decide +kernel
theorem dX6_readLine_47 : decode cX6_readLine 47 = .ok (.invokevirtual 93, 3) := by decide +kernel
theorem dX6_readLine_50 : decode cX6_readLine 50 = .ok (.ireturn, 1) := by decide +kernel
theorem dX6_readLine_51 : decode cX6_readLine 51 = .ok (.aload_n 0, 1) := by decide +kernel
theorem dX6_readLine_52 : decode cX6_readLine 52 = .ok (.getfield 79, 3) := by decide +kernel
theorem dX6_readLine_55 : decode cX6_readLine 55 = .ok (.ldc2_w 96, 3) := by decide +kernel
theorem dX6_readLine_58 : decode cX6_readLine 58 = .ok (.lcmp, 1) := by decide +kernel
theorem dX6_readLine_59 : decode cX6_readLine 59 = .ok (.ifCond .ne 9, 3) := by decide +kernel
theorem dX6_readLine_62 : decode cX6_readLine 62 = .ok (.aload_n 0, 1) := by decide +kernel
theorem dX6_readLine_63 : decode cX6_readLine 63 = .ok (.iconst 2, 1) := by decide +kernel
theorem dX6_readLine_64 : decode cX6_readLine 64 = .ok (.invokevirtual 93, 3) := by decide +kernel
theorem dX6_readLine_67 : decode cX6_readLine 67 = .ok (.ireturn, 1) := by decide +kernel
theorem dX6_readLine_68 : decode cX6_readLine 68 = .ok (.aload_n 0, 1) := by decide +kernel
theorem dX6_readLine_69 : decode cX6_readLine 69 = .ok (.getfield 79, 3) := by decide +kernel
theorem dX6_readLine_72 : decode cX6_readLine 72 = .ok (.ldc2_w 98, 3) := by decide +kernel
theorem dX6_readLine_75 : decode cX6_readLine 75 = .ok (.lcmp, 1) := by decide +kernel
theorem dX6_readLine_76 : decode cX6_readLine 76 = .ok (.ifCond .ne 8, 3) := by decide +kernel
theorem dX6_readLine_79 : decode cX6_readLine 79 = .ok (.aload_n 0, 1) := by decide +kernel
theorem dX6_readLine_80 : decode cX6_readLine 80 = .ok (.invokevirtual 100, 3) := by decide +kernel
theorem dX6_readLine_83 : decode cX6_readLine 83 = .ok (.ireturn, 1) := by decide +kernel
theorem dX6_readLine_84 : decode cX6_readLine 84 = .ok (.aload_n 0, 1) := by decide +kernel
theorem dX6_readLine_85 : decode cX6_readLine 85 = .ok (.iconst 1, 1) := by decide +kernel
theorem dX6_readLine_86 : decode cX6_readLine 86 = .ok (.aload_n 0, 1) := by decide +kernel
theorem dX6_readLine_87 : decode cX6_readLine 87 = .ok (.getfield 55, 3) := by decide +kernel
theorem dX6_readLine_90 : decode cX6_readLine 90 = .ok (.invokevirtual 58, 3) := by decide +kernel
theorem dX6_readLine_93 : decode cX6_readLine 93 = .ok (.ireturn, 1) := by decide +kernel
theorem dX6_readOwn_0 : decode cX6_readOwn 0 = .ok (.aload_n 0, 1) := by decide +kernel
theorem dX6_readOwn_1 : decode cX6_readOwn 1 = .ok (.invokevirtual 45, 3) := by decide +kernel
theorem dX6_readOwn_4 : decode cX6_readOwn 4 = .ok (.aload_n 0, 1) := by decide +kernel
theorem dX6_readOwn_5 : decode cX6_readOwn 5 = .ok (.invokevirtual 103, 3) := by decide +kernel
theorem dX6_readOwn_8 : decode cX6_readOwn 8 = .ok (.ifCond .eq 10, 3) := by decide +kernel
theorem dX6_readOwn_11 : decode cX6_readOwn 11 = .ok (.aload_n 0, 1) := by decide +kernel
theorem dX6_readOwn_12 : decode cX6_readOwn 12 = .ok (.invokevirtual 106, 3) := by decide +kernel
theorem dX6_readOwn_15 : decode cX6_readOwn 15 = .ok (.ifCond .ne 5, 3) := by decide +kernel
theorem dX6_readOwn_18 : decode cX6_readOwn 18 = .ok (.iconst 0, 1) := by decide +kernel
theorem dX6_readOwn_19 : decode cX6_readOwn 19 = .ok (.ireturn, 1) := by decide +kernel
theorem dX6_readOwn_20 : decode cX6_readOwn 20 = .ok (.aload_n 0, 1) := by decide +kernel
theorem dX6_readOwn_21 : decode cX6_readOwn 21 = .ok (.getfield 18, 3) := by decide +kernel
theorem dX6_readOwn_24 : decode cX6_readOwn 24 = .ok (.aload_n 0, 1) := by decide +kernel
theorem dX6_readOwn_25 : decode cX6_readOwn 25 = .ok (.getfield 83, 3) := by decide +kernel
theorem dX6_readOwn_28 : decode cX6_readOwn 28 = .ok (.invokevirtual 109, 3) := by decide +kernel
theorem dX6_readOwn_31 : decode cX6_readOwn 31 = .ok (.aload_n 0, 1) := by decide +kernel
theorem dX6_readOwn_32 : decode cX6_readOwn 32 = .ok (.invokevirtual 45, 3) := by decide +kernel
theorem dX6_readOwn_35 : decode cX6_readOwn 35 = .ok (.iconst 1, 1) := by decide +kernel
theorem dX6_readOwn_36 : decode cX6_readOwn 36 = .ok (.ireturn, 1) := by decide +kernel
theorem dX6_readTwo_0 : decode cX6_readTwo 0 = .ok (.aload_n 0, 1) := by decide +kernel
theorem dX6_readTwo_1 : decode cX6_readTwo 1 = .ok (.invokevirtual 45, 3) := by decide +kernel
theorem dX6_readTwo_4 : decode cX6_readTwo 4 = .ok (.aload_n 0, 1) := by decide +kernel
theorem dX6_readTwo_5 : decode cX6_readTwo 5 = .ok (.invokevirtual 103, 3) := by decide +kernel
theorem dX6_readTwo_8 : decode cX6_readTwo 8 = .ok (.ifCond .eq 17, 3) := by decide +kernel
theorem dX6_readTwo_11 : decode cX6_readTwo 11 = .ok (.aload_n 0, 1) := by decide +kernel
theorem dX6_readTwo_12 : decode cX6_readTwo 12 = .ok (.invokevirtual 103, 3) := by decide +kernel
theorem dX6_readTwo_15 : decode cX6_readTwo 15 = .ok (.ifCond .eq 10, 3) := by decide +kernel
theorem dX6_readTwo_18 : decode cX6_readTwo 18 = .ok (.aload_n 0, 1) := by decide +kernel
theorem dX6_readTwo_19 : decode cX6_readTwo 19 = .ok (.invokevirtual 106, 3) := by decide +kernel
theorem dX6_readTwo_22 : decode cX6_readTwo 22 = .ok (.ifCond .ne 5, 3) := by decide +kernel
theorem dX6_readTwo_25 : decode cX6_readTwo 25 = .ok (.iconst 0, 1) := by decide +kernel
theorem dX6_readTwo_26 : decode cX6_readTwo 26 = .ok (.ireturn, 1) := by decide +kernel
theorem dX6_readTwo_27 : decode cX6_readTwo 27 = .ok (.aload_n 0, 1) := by decide +kernel
theorem dX6_readTwo_28 : decode cX6_readTwo 28 = .ok (.getfield 83, 3) := by decide +kernel
theorem dX6_readTwo_31 : decode cX6_readTwo 31 = .ok (.istore_n 2, 1) := by decide +kernel
theorem dX6_readTwo_32 : decode cX6_readTwo 32 = .ok (.aload_n 0, 1) := by decide +kernel
theorem dX6_readTwo_33 : decode cX6_readTwo 33 = .ok (.invokevirtual 45, 3) := by decide +kernel
theorem dX6_readTwo_36 : decode cX6_readTwo 36 = .ok (.aload_n 0, 1) := by decide +kernel
theorem dX6_readTwo_37 : decode cX6_readTwo 37 = .ok (.bipush 9, 2) := by decide +kernel
theorem dX6_readTwo_39 : decode cX6_readTwo 39 = .ok (.iconst 1, 1) := by decide +kernel
theorem dX6_readTwo_40 : decode cX6_readTwo 40 = .ok (.invokevirtual 112, 3) := by decide +kernel
theorem dX6_readTwo_43 : decode cX6_readTwo 43 = .ok (.ifCond .ne 5, 3) := by decide +kernel
theorem dX6_readTwo_46 : decode cX6_readTwo 46 = .ok (.iconst 0, 1) := by decide +kernel
theorem dX6_readTwo_47 : decode cX6_readTwo 47 = .ok (.ireturn, 1) := by decide +kernel
theorem dX6_readTwo_48 : decode cX6_readTwo 48 = .ok (.aload_n 0, 1) := by decide +kernel
theorem dX6_readTwo_49 : decode cX6_readTwo 49 = .ok (.getfield 18, 3) := by decide +kernel
theorem dX6_readTwo_52 : decode cX6_readTwo 52 = .ok (.iload_n 1, 1) := by decide +kernel
theorem dX6_readTwo_53 : decode cX6_readTwo 53 = .ok (.iload_n 2, 1) := by decide +kernel
theorem dX6_readTwo_54 : decode cX6_readTwo 54 = .ok (.aload_n 0, 1) := by decide +kernel
theorem dX6_readTwo_55 : decode cX6_readTwo 55 = .ok (.getfield 83, 3) := by decide +kernel
theorem dX6_readTwo_58 : decode cX6_readTwo 58 = .ok (.invokevirtual 116, 3) := by decide +kernel
theorem dX6_readTwo_61 : decode cX6_readTwo 61 = .ok (.aload_n 0, 1) := by decide +kernel
theorem dX6_readTwo_62 : decode cX6_readTwo 62 = .ok (.invokevirtual 45, 3) := by decide +kernel
theorem dX6_readTwo_65 : decode cX6_readTwo 65 = .ok (.iconst 1, 1) := by decide +kernel
theorem dX6_readTwo_66 : decode cX6_readTwo 66 = .ok (.ireturn, 1) := by decide +kernel
theorem dX6_readNewName_0 : decode cX6_readNewName 0 = .ok (.aload_n 0, 1) := by decide +kernel
theorem dX6_readNewName_1 : decode cX6_readNewName 1 = .ok (.invokevirtual 120, 3) := by decide +kernel
theorem dX6_readNewName_4 : decode cX6_readNewName 4 = .ok (.ifCond .ne 13, 3) := by decide +kernel
theorem dX6_readNewName_7 : decode cX6_readNewName 7 = .ok (.aload_n 0, 1) := by decide +kernel
theorem dX6_readNewName_8 : decode cX6_readNewName 8 = .ok (.iconst 1, 1) := by decide +kernel
theorem dX6_readNewName_9 : decode cX6_readNewName 9 = .ok (.aload_n 0, 1) := by decide +kernel
theorem dX6_readNewName_10 : decode cX6_readNewName 10 = .ok (.getfield 55, 3) := by decide +kernel
theorem dX6_readNewName_13 : decode cX6_readNewName 13 = .ok (.invokevirtual 58, 3) := by decide +kernel
theorem dX6_readNewName_16 : decode cX6_readNewName 16 = .ok (.ireturn, 1) := by decide +kernel
theorem dX6_readNewName_17 : decode cX6_readNewName 17 = .ok (.aload_n 0, 1) := by decide +kernel
theorem dX6_readNewName_18 : decode cX6_readNewName 18 = .ok (.getfield 18, 3) := by decide +kernel
theorem dX6_readNewName_21 : decode cX6_readNewName 21 = .ok (.aload_n 0, 1) := by decide +kernel
theorem dX6_readNewName_22 : decode cX6_readNewName 22 = .ok (.getfield 79, 3) := by decide +kernel
theorem dX6_readNewName_25 : decode cX6_readNewName 25 = .ok (.invokevirtual 123, 3) := by decide +kernel
theorem dX6_readNewName_28 : decode cX6_readNewName 28 = .ok (.iconst (-1), 1) := by decide +kernel
theorem dX6_readNewName_29 : decode cX6_readNewName 29 = .ok (.if_icmp .eq 13, 3) := by decide +kernel
theorem dX6_readNewName_32 : decode cX6_readNewName 32 = .ok (.aload_n 0, 1) := by decide +kernel
theorem dX6_readNewName_33 : decode cX6_readNewName 33 = .ok (.iconst 3, 1) := by decide +kernel
theorem dX6_readNewName_34 : decode cX6_readNewName 34 = .ok (.aload_n 0, 1) := by decide +kernel
theorem dX6_readNewName_35 : decode cX6_readNewName 35 = .ok (.getfield 55, 3) := by decide +kernel
theorem dX6_readNewName_38 : decode cX6_readNewName 38 = .ok (.invokevirtual 58, 3) := by decide +kernel
theorem dX6_readNewName_41 : decode cX6_readNewName 41 = .ok (.ireturn, 1) := by decide +kernel
theorem dX6_readNewName_42 : decode cX6_readNewName 42 = .ok (.aload_n 0, 1) := by decide +kernel
theorem dX6_readNewName_43 : decode cX6_readNewName 43 = .ok (.getfield 18, 3) := by decide +kernel
theorem dX6_readNewName_46 : decode cX6_readNewName 46 = .ok (.aload_n 0, 1) := by decide +kernel
theorem dX6_readNewName_47 : decode cX6_readNewName 47 = .ok (.getfield 79, 3) := by decide +kernel
theorem dX6_readNewName_50 : decode cX6_readNewName 50 = .ok (.invokevirtual 127, 3) := by decide +kernel
theorem dX6_readNewName_53 : decode cX6_readNewName 53 = .ok (.ifCond .ne 14, 3) := by decide +kernel
theorem dX6_readNewName_56 : decode cX6_readNewName 56 = .ok (.aload_n 0, 1) := by decide +kernel
theorem dX6_readNewName_57 : decode cX6_readNewName 57 = .ok (.bipush 6, 2) := by decide +kernel
theorem dX6_readNewName_59 : decode cX6_readNewName 59 = .ok (.aload_n 0, 1) := by decide +kernel
theorem dX6_readNewName_60 : decode cX6_readNewName 60 = .ok (.getfield 55, 3) := by decide +kernel
theorem dX6_readNewName_63 : decode cX6_readNewName 63 = .ok (.invokevirtual 58, 3) := by decide +kernel
theorem dX6_readNewName_66 : decode cX6_readNewName 66 = .ok (.ireturn, 1) := by decide +kernel
theorem dX6_readNewName_67 : decode cX6_readNewName 67 = .ok (.aload_n 0, 1) := by decide +kernel
theorem dX6_readNewName_68 : decode cX6_readNewName 68 = .ok (.invokevirtual 45, 3) := by decide +kernel
theorem dX6_readNewName_71 : decode cX6_readNewName 71 = .ok (.iconst 1, 1) := by decide +kernel
theorem dX6_readNewName_72 : decode cX6_readNewName 72 = .ok (.ireturn, 1) := by decide +kernel
theorem dX6_readHeavy_0 : decode cX6_readHeavy 0 = .ok (.aload_n 0, 1) := by decide +kernel
theorem dX6_readHeavy_1 : decode cX6_readHeavy 1 = .ok (.getfield 52, 3) := by decide +kernel
theorem dX6_readHeavy_4 : decode cX6_readHeavy 4 = .ok (.iconst 2, 1) := by decide +kernel
theorem dX6_readHeavy_5 : decode cX6_readHeavy 5 = .ok (.if_icmp .eq 13, 3) := by decide +kernel
theorem dX6_readHeavy_8 : decode cX6_readHeavy 8 = .ok (.aload_n 0, 1) := by decide +kernel
theorem dX6_readHeavy_9 : decode cX6_readHeavy 9 = .ok (.iconst 1, 1) := by decide +kernel
theorem dX6_readHeavy_10 : decode cX6_readHeavy 10 = .ok (.aload_n 0, 1) := by decide +kernel
theorem dX6_readHeavy_11 : decode cX6_readHeavy 11 = .ok (.getfield 55, 3) := by decide +kernel
theorem dX6_readHeavy_14 : decode cX6_readHeavy 14 = .ok (.invokevirtual 58, 3) := by decide +kernel
theorem dX6_readHeavy_17 : decode cX6_readHeavy 17 = .ok (.ireturn, 1) := by decide +kernel
theorem dX6_readHeavy_18 : decode cX6_readHeavy 18 = .ok (.aload_n 0, 1) := by decide +kernel
theorem dX6_readHeavy_19 : decode cX6_readHeavy 19 = .ok (.getfield 83, 3) := by decide +kernel
theorem dX6_readHeavy_22 : decode cX6_readHeavy 22 = .ok (.iconst 1, 1) := by decide +kernel
theorem dX6_readHeavy_23 : decode cX6_readHeavy 23 = .ok (.if_icmp .lt 12, 3) := by decide +kernel
theorem dX6_readHeavy_26 : decode cX6_readHeavy 26 = .ok (.aload_n 0, 1) := by decide +kernel
theorem dX6_readHeavy_27 : decode cX6_readHeavy 27 = .ok (.getfield 83, 3) := by decide +kernel
theorem dX6_readHeavy_30 : decode cX6_readHeavy 30 = .ok (.bipush 99, 2) := by decide +kernel
theorem dX6_readHeavy_32 : decode cX6_readHeavy 32 = .ok (.if_icmp .le 15, 3) := by decide +kernel
theorem dX6_readHeavy_35 : decode cX6_readHeavy 35 = .ok (.aload_n 0, 1) := by decide +kernel
theorem dX6_readHeavy_36 : decode cX6_readHeavy 36 = .ok (.iconst 4, 1) := by decide +kernel
theorem dX6_readHeavy_37 : decode cX6_readHeavy 37 = .ok (.aload_n 0, 1) := by decide +kernel
theorem dX6_readHeavy_38 : decode cX6_readHeavy 38 = .ok (.getfield 55, 3) := by decide +kernel
theorem dX6_readHeavy_41 : decode cX6_readHeavy 41 = .ok (.invokevirtual 58, 3) := by decide +kernel
theorem dX6_readHeavy_44 : decode cX6_readHeavy 44 = .ok (.ifCond .eq 7, 3) := by decide +kernel
theorem dX6_readHeavy_47 : decode cX6_readHeavy 47 = .ok (.iconst 1, 1) := by decide +kernel
theorem dX6_readHeavy_48 : decode cX6_readHeavy 48 = .ok (.goto 4, 3) := by decide +kernel
theorem dX6_readHeavy_51 : decode cX6_readHeavy 51 = .ok (.iconst 0, 1) := by decide +kernel
theorem dX6_readHeavy_52 : decode cX6_readHeavy 52 = .ok (.ireturn, 1) := by decide +kernel
theorem dX6_readInt_0 : decode cX6_readInt 0 = .ok (.aload_n 0, 1) := by decide +kernel
theorem dX6_readInt_1 : decode cX6_readInt 1 = .ok (.getfield 55, 3) := by decide +kernel
theorem dX6_readInt_4 : decode cX6_readInt 4 = .ok (.istore_n 3, 1) := by decide +kernel
theorem dX6_readInt_5 : decode cX6_readInt 5 = .ok (.aload_n 0, 1) := by decide +kernel
theorem dX6_readInt_6 : decode cX6_readInt 6 = .ok (.getfield 52, 3) := by decide +kernel
theorem dX6_readInt_9 : decode cX6_readInt 9 = .ok (.iconst 4, 1) := by decide +kernel
theorem dX6_readInt_10 : decode cX6_readInt 10 = .ok (.if_icmp .ne 7, 3) := by decide +kernel
theorem dX6_readInt_13 : decode cX6_readInt 13 = .ok (.iconst 1, 1) := by decide +kernel
theorem dX6_readInt_14 : decode cX6_readInt 14 = .ok (.goto 4, 3) := by decide +kernel
theorem dX6_readInt_17 : decode cX6_readInt 17 = .ok (.iconst 0, 1) := by decide +kernel
theorem dX6_readInt_18 : decode cX6_readInt 18 = .ok (.istore 4, 2) := by decide +kernel
theorem dX6_readInt_20 : decode cX6_readInt 20 = .ok (.iload 4, 2) := by decide +kernel
theorem dX6_readInt_22 : decode cX6_readInt 22 = .ok (.ifCond .eq 7, 3) := by decide +kernel
theorem dX6_readInt_25 : decode cX6_readInt 25 = .ok (.aload_n 0, 1) := by decide +kernel
theorem dX6_readInt_26 : decode cX6_readInt 26 = .ok (.invokevirtual 45, 3) := by decide +kernel
theorem dX6_readInt_29 : decode cX6_readInt 29 = .ok (.aload_n 0, 1) := by decide +kernel
theorem dX6_readInt_30 : decode cX6_readInt 30 = .ok (.getfield 52, 3) := by decide +kernel
theorem dX6_readInt_33 : decode cX6_readInt 33 = .ok (.iconst 2, 1) := by decide +kernel
theorem dX6_readInt_34 : decode cX6_readInt 34 = .ok (.if_icmp .eq 13, 3) := by decide +kernel
theorem dX6_readInt_37 : decode cX6_readInt 37 = .ok (.aload_n 0, 1) := by decide +kernel
theorem dX6_readInt_38 : decode cX6_readInt 38 = .ok (.iconst 1, 1) := by decide +kernel
theorem dX6_readInt_39 : decode cX6_readInt 39 = .ok (.aload_n 0, 1) := by decide +kernel
theorem dX6_readInt_40 : decode cX6_readInt 40 = .ok (.getfield 55, 3) := by decide +kernel
theorem dX6_readInt_43 : decode cX6_readInt 43 = .ok (.invokevirtual 58, 3) := by decide +kernel
theorem dX6_readInt_46 : decode cX6_readInt 46 = .ok (.ireturn, 1) := by decide +kernel
theorem dX6_readInt_47 : decode cX6_readInt 47 = .ok (.aload_n 0, 1) := by decide +kernel
theorem dX6_readInt_48 : decode cX6_readInt 48 = .ok (.getfield 83, 3) := by decide +kernel
theorem dX6_readInt_51 : decode cX6_readInt 51 = .ok (.iload_n 1, 1) := by decide +kernel
theorem dX6_readInt_52 : decode cX6_readInt 52 = .ok (.if_icmp .gt 14, 3) := by decide +kernel
theorem dX6_readInt_55 : decode cX6_readInt 55 = .ok (.aload_n 0, 1) := by decide +kernel
theorem dX6_readInt_56 : decode cX6_readInt 56 = .ok (.getfield 83, 3) := by decide +kernel
theorem dX6_readInt_59 : decode cX6_readInt 59 = .ok (.ifCond .ne 14, 3) := by decide +kernel
theorem dX6_readInt_62 : decode cX6_readInt 62 = .ok (.iload_n 2, 1) := by decide +kernel
theorem dX6_readInt_63 : decode cX6_readInt 63 = .ok (.ifCond .ne 10, 3) := by decide +kernel
theorem dX6_readInt_66 : decode cX6_readInt 66 = .ok (.aload_n 0, 1) := by decide +kernel
theorem dX6_readInt_67 : decode cX6_readInt 67 = .ok (.iconst 4, 1) := by decide +kernel
theorem dX6_readInt_68 : decode cX6_readInt 68 = .ok (.iload_n 3, 1) := by decide +kernel
theorem dX6_readInt_69 : decode cX6_readInt 69 = .ok (.invokevirtual 58, 3) := by decide +kernel
theorem dX6_readInt_72 : decode cX6_readInt 72 = .ok (.ireturn, 1) := by decide +kernel
theorem dX6_readInt_73 : decode cX6_readInt 73 = .ok (.aload_n 0, 1) := by decide +kernel
theorem dX6_readInt_74 : decode cX6_readInt 74 = .ok (.iload 4, 2) := by decide +kernel
theorem dX6_readInt_76 : decode cX6_readInt 76 = .ok (.ifCond .eq 11, 3) := by decide +kernel
theorem dX6_readInt_79 : decode cX6_readInt 79 = .ok (.aload_n 0, 1) := by decide +kernel
theorem dX6_readInt_80 : decode cX6_readInt 80 = .ok (.getfield 83, 3) := by decide +kernel
theorem dX6_readInt_83 : decode cX6_readInt 83 = .ok (.ineg, 1) := by decide +kernel
theorem dX6_readInt_84 : decode cX6_readInt 84 = .ok (.goto 7, 3) := by decide +kernel
theorem dX6_readInt_87 : decode cX6_readInt 87 = .ok (.aload_n 0, 1) := by decide +kernel
theorem dX6_readInt_88 : decode cX6_readInt 88 = .ok (.getfield 83, 3) := by decide +kernel
theorem dX6_readInt_91 : decode cX6_readInt 91 = .ok (.putfield 83, 3) := by decide +kernel
theorem dX6_readInt_94 : decode cX6_readInt 94 = .ok (.iconst 1, 1) := by decide +kernel
theorem dX6_readInt_95 : decode cX6_readInt 95 = .ok (.ireturn, 1) := by decide +kernel
theorem dX6_readMeet_0 : decode cX6_readMeet 0 = .ok (.aload_n 0, 1) := by decide +kernel
theorem dX6_readMeet_1 : decode cX6_readMeet 1 = .ok (.getfield 55, 3) := by decide +kernel
theorem dX6_readMeet_4 : decode cX6_readMeet 4 = .ok (.istore_n 1, 1) := by decide +kernel
theorem dX6_readMeet_5 : decode cX6_readMeet 5 = .ok (.aload_n 0, 1) := by decide +kernel
theorem dX6_readMeet_6 : decode cX6_readMeet 6 = .ok (.getfield 18, 3) := by decide +kernel
theorem dX6_readMeet_9 : decode cX6_readMeet 9 = .ok (.invokevirtual 131, 3) := by decide +kernel
theorem dX6_readMeet_12 : decode cX6_readMeet 12 = .ok (.ifCond .ne 11, 3) := by decide +kernel
theorem dX6_readMeet_15 : decode cX6_readMeet 15 = .ok (.aload_n 0, 1) := by decide +kernel
theorem dX6_readMeet_16 : decode cX6_readMeet 16 = .ok (.bipush 6, 2) := by decide +kernel
theorem dX6_readMeet_18 : decode cX6_readMeet 18 = .ok (.iload_n 1, 1) := by decide +kernel
theorem dX6_readMeet_19 : decode cX6_readMeet 19 = .ok (.invokevirtual 58, 3) := by decide +kernel
theorem dX6_readMeet_22 : decode cX6_readMeet 22 = .ok (.ireturn, 1) := by decide +kernel
theorem dX6_readMeet_23 : decode cX6_readMeet 23 = .ok (.aload_n 0, 1) := by decide +kernel
theorem dX6_readMeet_24 : decode cX6_readMeet 24 = .ok (.invokevirtual 45, 3) := by decide +kernel
theorem dX6_readMeet_27 : decode cX6_readMeet 27 = .ok (.aload_n 0, 1) := by decide +kernel
theorem dX6_readMeet_28 : decode cX6_readMeet 28 = .ok (.invokevirtual 134, 3) := by decide +kernel
theorem dX6_readMeet_31 : decode cX6_readMeet 31 = .ok (.ifCond .ne 5, 3) := by decide +kernel
theorem dX6_readMeet_34 : decode cX6_readMeet 34 = .ok (.iconst 0, 1) := by decide +kernel
theorem dX6_readMeet_35 : decode cX6_readMeet 35 = .ok (.ireturn, 1) := by decide +kernel
theorem dX6_readMeet_36 : decode cX6_readMeet 36 = .ok (.aload_n 0, 1) := by decide +kernel
theorem dX6_readMeet_37 : decode cX6_readMeet 37 = .ok (.invokevirtual 45, 3) := by decide +kernel
theorem dX6_readMeet_40 : decode cX6_readMeet 40 = .ok (.aload_n 0, 1) := by decide +kernel
theorem dX6_readMeet_41 : decode cX6_readMeet 41 = .ok (.bipush 99, 2) := by decide +kernel
theorem dX6_readMeet_43 : decode cX6_readMeet 43 = .ok (.iconst 0, 1) := by decide +kernel
theorem dX6_readMeet_44 : decode cX6_readMeet 44 = .ok (.invokevirtual 112, 3) := by decide +kernel
theorem dX6_readMeet_47 : decode cX6_readMeet 47 = .ok (.ifCond .ne 5, 3) := by decide +kernel
theorem dX6_readMeet_50 : decode cX6_readMeet 50 = .ok (.iconst 0, 1) := by decide +kernel
theorem dX6_readMeet_51 : decode cX6_readMeet 51 = .ok (.ireturn, 1) := by decide +kernel
theorem dX6_readMeet_52 : decode cX6_readMeet 52 = .ok (.aload_n 0, 1) := by decide +kernel
theorem dX6_readMeet_53 : decode cX6_readMeet 53 = .ok (.getfield 83, 3) := by decide +kernel
theorem dX6_readMeet_56 : decode cX6_readMeet 56 = .ok (.istore_n 2, 1) := by decide +kernel
theorem dX6_readMeet_57 : decode cX6_readMeet 57 = .ok (.aload_n 0, 1) := by decide +kernel
theorem dX6_readMeet_58 : decode cX6_readMeet 58 = .ok (.invokevirtual 45, 3) := by decide +kernel
theorem dX6_readMeet_61 : decode cX6_readMeet 61 = .ok (.aload_n 0, 1) := by decide +kernel
theorem dX6_readMeet_62 : decode cX6_readMeet 62 = .ok (.getfield 52, 3) := by decide +kernel
theorem dX6_readMeet_65 : decode cX6_readMeet 65 = .ok (.iconst 1, 1) := by decide +kernel
theorem dX6_readMeet_66 : decode cX6_readMeet 66 = .ok (.if_icmp .eq 13, 3) := by decide +kernel
theorem dX6_readMeet_69 : decode cX6_readMeet 69 = .ok (.aload_n 0, 1) := by decide +kernel
theorem dX6_readMeet_70 : decode cX6_readMeet 70 = .ok (.iconst 1, 1) := by decide +kernel
theorem dX6_readMeet_71 : decode cX6_readMeet 71 = .ok (.aload_n 0, 1) := by decide +kernel
theorem dX6_readMeet_72 : decode cX6_readMeet 72 = .ok (.getfield 55, 3) := by decide +kernel
theorem dX6_readMeet_75 : decode cX6_readMeet 75 = .ok (.invokevirtual 58, 3) := by decide +kernel
theorem dX6_readMeet_78 : decode cX6_readMeet 78 = .ok (.ireturn, 1) := by decide +kernel
theorem dX6_readMeet_79 : decode cX6_readMeet 79 = .ok (.aload_n 0, 1) := by decide +kernel
theorem dX6_readMeet_80 : decode cX6_readMeet 80 = .ok (.getfield 79, 3) := by decide +kernel
theorem dX6_readMeet_83 : decode cX6_readMeet 83 = .ok (.lconst 1, 1) := by decide +kernel
theorem dX6_readMeet_84 : decode cX6_readMeet 84 = .ok (.lcmp, 1) := by decide +kernel
theorem dX6_readMeet_85 : decode cX6_readMeet 85 = .ok (.ifCond .lt 14, 3) := by decide +kernel
theorem dX6_readMeet_88 : decode cX6_readMeet 88 = .ok (.aload_n 0, 1) := by decide +kernel
theorem dX6_readMeet_89 : decode cX6_readMeet 89 = .ok (.getfield 79, 3) := by decide +kernel
theorem dX6_readMeet_92 : decode cX6_readMeet 92 = .ok (.ldc2_w 137, 3) := by decide +kernel
theorem dX6_readMeet_95 : decode cX6_readMeet 95 = .ok (.lcmp, 1) := by decide +kernel
theorem dX6_readMeet_96 : decode cX6_readMeet 96 = .ok (.ifCond .le 13, 3) := by decide +kernel
theorem dX6_readMeet_99 : decode cX6_readMeet 99 = .ok (.aload_n 0, 1) := by decide +kernel
theorem dX6_readMeet_100 : decode cX6_readMeet 100 = .ok (.iconst 4, 1) := by decide +kernel
theorem dX6_readMeet_101 : decode cX6_readMeet 101 = .ok (.aload_n 0, 1) := by decide +kernel
theorem dX6_readMeet_102 : decode cX6_readMeet 102 = .ok (.getfield 55, 3) := by decide +kernel
theorem dX6_readMeet_105 : decode cX6_readMeet 105 = .ok (.invokevirtual 58, 3) := by decide +kernel
theorem dX6_readMeet_108 : decode cX6_readMeet 108 = .ok (.ireturn, 1) := by decide +kernel
theorem dX6_readMeet_109 : decode cX6_readMeet 109 = .ok (.aload_n 0, 1) := by decide +kernel
theorem dX6_readMeet_110 : decode cX6_readMeet 110 = .ok (.getfield 18, 3) := by decide +kernel
theorem dX6_readMeet_113 : decode cX6_readMeet 113 = .ok (.iload_n 2, 1) := by decide +kernel
theorem dX6_readMeet_114 : decode cX6_readMeet 114 = .ok (.aload_n 0, 1) := by decide +kernel
theorem dX6_readMeet_115 : decode cX6_readMeet 115 = .ok (.getfield 79, 3) := by decide +kernel
theorem dX6_readMeet_118 : decode cX6_readMeet 118 = .ok (.l2i, 1) := by decide +kernel
theorem dX6_readMeet_119 : decode cX6_readMeet 119 = .ok (.iconst 1, 1) := by decide +kernel
theorem dX6_readMeet_120 : decode cX6_readMeet 120 = .ok (.isub, 1) := by decide +kernel
theorem dX6_readMeet_121 : decode cX6_readMeet 121 = .ok (.invokevirtual 139, 3) := by decide +kernel
theorem dX6_readMeet_124 : decode cX6_readMeet 124 = .ok (.ifCond .ne 10, 3) := by decide +kernel
theorem dX6_readMeet_127 : decode cX6_readMeet 127 = .ok (.aload_n 0, 1) := by decide +kernel
theorem dX6_readMeet_128 : decode cX6_readMeet 128 = .ok (.iconst 5, 1) := by decide +kernel
theorem dX6_readMeet_129 : decode cX6_readMeet 129 = .ok (.iload_n 1, 1) := by decide +kernel
theorem dX6_readMeet_130 : decode cX6_readMeet 130 = .ok (.invokevirtual 58, 3) := by decide +kernel
theorem dX6_readMeet_133 : decode cX6_readMeet 133 = .ok (.ireturn, 1) := by decide +kernel
theorem dX6_readMeet_134 : decode cX6_readMeet 134 = .ok (.aload_n 0, 1) := by decide +kernel
theorem dX6_readMeet_135 : decode cX6_readMeet 135 = .ok (.invokevirtual 45, 3) := by decide +kernel
theorem dX6_readMeet_138 : decode cX6_readMeet 138 = .ok (.iconst 1, 1) := by decide +kernel
theorem dX6_readMeet_139 : decode cX6_readMeet 139 = .ok (.ireturn, 1) := by decide +kernel
theorem dX6_readLegs_0 : decode cX6_readLegs 0 = .ok (.iconst 0, 1) := by decide +kernel
theorem dX6_readLegs_1 : decode cX6_readLegs 1 = .ok (.istore_n 1, 1) := by decide +kernel
theorem dX6_readLegs_2 : decode cX6_readLegs 2 = .ok (.iload_n 1, 1) := by decide +kernel
theorem dX6_readLegs_3 : decode cX6_readLegs 3 = .ok (.iconst 4, 1) := by decide +kernel
theorem dX6_readLegs_4 : decode cX6_readLegs 4 = .ok (.if_icmp .gt 105, 3) := by decide +kernel
theorem dX6_readLegs_7 : decode cX6_readLegs 7 = .ok (.iload_n 1, 1) := by decide +kernel
theorem dX6_readLegs_8 : decode cX6_readLegs 8 = .ok (.iconst 3, 1) := by decide +kernel
theorem dX6_readLegs_9 : decode cX6_readLegs 9 = .ok (.if_icmp .lt 24, 3) := by decide +kernel
theorem dX6_readLegs_12 : decode cX6_readLegs 12 = .ok (.aload_n 0, 1) := by decide +kernel
theorem dX6_readLegs_13 : decode cX6_readLegs 13 = .ok (.getfield 52, 3) := by decide +kernel
theorem dX6_readLegs_16 : decode cX6_readLegs 16 = .ok (.iconst 1, 1) := by decide +kernel
theorem dX6_readLegs_17 : decode cX6_readLegs 17 = .ok (.if_icmp .ne 16, 3) := by decide +kernel
theorem dX6_readLegs_20 : decode cX6_readLegs 20 = .ok (.aload_n 0, 1) := by decide +kernel
theorem dX6_readLegs_21 : decode cX6_readLegs 21 = .ok (.getfield 79, 3) := by decide +kernel
theorem dX6_readLegs_24 : decode cX6_readLegs 24 = .ok (.ldc2_w 142, 3) := by decide +kernel
theorem dX6_readLegs_27 : decode cX6_readLegs 27 = .ok (.lcmp, 1) := by decide +kernel
theorem dX6_readLegs_28 : decode cX6_readLegs 28 = .ok (.ifCond .ne 5, 3) := by decide +kernel
theorem dX6_readLegs_31 : decode cX6_readLegs 31 = .ok (.iconst 1, 1) := by decide +kernel
theorem dX6_readLegs_32 : decode cX6_readLegs 32 = .ok (.ireturn, 1) := by decide +kernel
theorem dX6_readLegs_33 : decode cX6_readLegs 33 = .ok (.aload_n 0, 1) := by decide +kernel
theorem dX6_readLegs_34 : decode cX6_readLegs 34 = .ok (.invokevirtual 120, 3) := by decide +kernel
theorem dX6_readLegs_37 : decode cX6_readLegs 37 = .ok (.ifCond .ne 13, 3) := by decide +kernel
theorem dX6_readLegs_40 : decode cX6_readLegs 40 = .ok (.aload_n 0, 1) := by decide +kernel
theorem dX6_readLegs_41 : decode cX6_readLegs 41 = .ok (.iconst 1, 1) := by decide +kernel
theorem dX6_readLegs_42 : decode cX6_readLegs 42 = .ok (.aload_n 0, 1) := by decide +kernel
theorem dX6_readLegs_43 : decode cX6_readLegs 43 = .ok (.getfield 55, 3) := by decide +kernel
theorem dX6_readLegs_46 : decode cX6_readLegs 46 = .ok (.invokevirtual 58, 3) := by decide +kernel
theorem dX6_readLegs_49 : decode cX6_readLegs 49 = .ok (.ireturn, 1) := by decide +kernel
theorem dX6_readLegs_50 : decode cX6_readLegs 50 = .ok (.aload_n 0, 1) := by decide +kernel
theorem dX6_readLegs_51 : decode cX6_readLegs 51 = .ok (.getfield 18, 3) := by decide +kernel
theorem dX6_readLegs_54 : decode cX6_readLegs 54 = .ok (.aload_n 0, 1) := by decide +kernel
theorem dX6_readLegs_55 : decode cX6_readLegs 55 = .ok (.getfield 79, 3) := by decide +kernel
theorem dX6_readLegs_58 : decode cX6_readLegs 58 = .ok (.invokevirtual 123, 3) := by decide +kernel
theorem dX6_readLegs_61 : decode cX6_readLegs 61 = .ok (.istore_n 2, 1) := by decide +kernel
theorem dX6_readLegs_62 : decode cX6_readLegs 62 = .ok (.iload_n 2, 1) := by decide +kernel
theorem dX6_readLegs_63 : decode cX6_readLegs 63 = .ok (.iconst (-1), 1) := by decide +kernel
theorem dX6_readLegs_64 : decode cX6_readLegs 64 = .ok (.if_icmp .ne 13, 3) := by decide +kernel
theorem dX6_readLegs_67 : decode cX6_readLegs 67 = .ok (.aload_n 0, 1) := by decide +kernel
theorem dX6_readLegs_68 : decode cX6_readLegs 68 = .ok (.iconst 2, 1) := by decide +kernel
theorem dX6_readLegs_69 : decode cX6_readLegs 69 = .ok (.aload_n 0, 1) := by decide +kernel
theorem dX6_readLegs_70 : decode cX6_readLegs 70 = .ok (.getfield 55, 3) := by decide +kernel
theorem dX6_readLegs_73 : decode cX6_readLegs 73 = .ok (.invokevirtual 58, 3) := by decide +kernel
theorem dX6_readLegs_76 : decode cX6_readLegs 76 = .ok (.ireturn, 1) := by decide +kernel
theorem dX6_readLegs_77 : decode cX6_readLegs 77 = .ok (.aload_n 0, 1) := by decide +kernel
theorem dX6_readLegs_78 : decode cX6_readLegs 78 = .ok (.getfield 18, 3) := by decide +kernel
theorem dX6_readLegs_81 : decode cX6_readLegs 81 = .ok (.iload_n 2, 1) := by decide +kernel
theorem dX6_readLegs_82 : decode cX6_readLegs 82 = .ok (.invokevirtual 144, 3) := by decide +kernel
theorem dX6_readLegs_85 : decode cX6_readLegs 85 = .ok (.ifCond .ne 14, 3) := by decide +kernel
theorem dX6_readLegs_88 : decode cX6_readLegs 88 = .ok (.aload_n 0, 1) := by decide +kernel
theorem dX6_readLegs_89 : decode cX6_readLegs 89 = .ok (.bipush 6, 2) := by decide +kernel
theorem dX6_readLegs_91 : decode cX6_readLegs 91 = .ok (.aload_n 0, 1) := by decide +kernel
theorem dX6_readLegs_92 : decode cX6_readLegs 92 = .ok (.getfield 55, 3) := by decide +kernel
theorem dX6_readLegs_95 : decode cX6_readLegs 95 = .ok (.invokevirtual 58, 3) := by decide +kernel
theorem dX6_readLegs_98 : decode cX6_readLegs 98 = .ok (.ireturn, 1) := by decide +kernel
theorem dX6_readLegs_99 : decode cX6_readLegs 99 = .ok (.aload_n 0, 1) := by decide +kernel
theorem dX6_readLegs_100 : decode cX6_readLegs 100 = .ok (.invokevirtual 45, 3) := by decide +kernel
theorem dX6_readLegs_103 : decode cX6_readLegs 103 = .ok (.iinc 1 1, 3) := by decide +kernel
theorem dX6_readLegs_106 : decode cX6_readLegs 106 = .ok (.goto (-104), 3) := by decide +kernel
theorem dX6_readLegs_109 : decode cX6_readLegs 109 = .ok (.aload_n 0, 1) := by decide +kernel
theorem dX6_readLegs_110 : decode cX6_readLegs 110 = .ok (.bipush 6, 2) := by decide +kernel
theorem dX6_readLegs_112 : decode cX6_readLegs 112 = .ok (.aload_n 0, 1) := by decide +kernel
theorem dX6_readLegs_113 : decode cX6_readLegs 113 = .ok (.getfield 55, 3) := by decide +kernel
theorem dX6_readLegs_116 : decode cX6_readLegs 116 = .ok (.invokevirtual 58, 3) := by decide +kernel
theorem dX6_readLegs_119 : decode cX6_readLegs 119 = .ok (.ireturn, 1) := by decide +kernel
theorem dX6_isName_0 : decode cX6_isName 0 = .ok (.aload_n 0, 1) := by decide +kernel
theorem dX6_isName_1 : decode cX6_isName 1 = .ok (.getfield 52, 3) := by decide +kernel
theorem dX6_isName_4 : decode cX6_isName 4 = .ok (.iconst 1, 1) := by decide +kernel
theorem dX6_isName_5 : decode cX6_isName 5 = .ok (.if_icmp .ne 62, 3) := by decide +kernel
theorem dX6_isName_8 : decode cX6_isName 8 = .ok (.aload_n 0, 1) := by decide +kernel
theorem dX6_isName_9 : decode cX6_isName 9 = .ok (.getfield 79, 3) := by decide +kernel
theorem dX6_isName_12 : decode cX6_isName 12 = .ok (.ldc2_w 86, 3) := by decide +kernel
theorem dX6_isName_15 : decode cX6_isName 15 = .ok (.lcmp, 1) := by decide +kernel
theorem dX6_isName_16 : decode cX6_isName 16 = .ok (.ifCond .eq 51, 3) := by decide +kernel
theorem dX6_isName_19 : decode cX6_isName 19 = .ok (.aload_n 0, 1) := by decide +kernel
theorem dX6_isName_20 : decode cX6_isName 20 = .ok (.getfield 79, 3) := by decide +kernel
theorem dX6_isName_23 : decode cX6_isName 23 = .ok (.ldc2_w 91, 3) := by decide +kernel
theorem dX6_isName_26 : decode cX6_isName 26 = .ok (.lcmp, 1) := by decide +kernel
theorem dX6_isName_27 : decode cX6_isName 27 = .ok (.ifCond .eq 40, 3) := by decide +kernel
theorem dX6_isName_30 : decode cX6_isName 30 = .ok (.aload_n 0, 1) := by decide +kernel
theorem dX6_isName_31 : decode cX6_isName 31 = .ok (.getfield 79, 3) := by decide +kernel
theorem dX6_isName_34 : decode cX6_isName 34 = .ok (.ldc2_w 96, 3) := by decide +kernel
theorem dX6_isName_37 : decode cX6_isName 37 = .ok (.lcmp, 1) := by decide +kernel
theorem dX6_isName_38 : decode cX6_isName 38 = .ok (.ifCond .eq 29, 3) := by decide +kernel
theorem dX6_isName_41 : decode cX6_isName 41 = .ok (.aload_n 0, 1) := by decide +kernel
theorem dX6_isName_42 : decode cX6_isName 42 = .ok (.getfield 79, 3) := by decide +kernel
theorem dX6_isName_45 : decode cX6_isName 45 = .ok (.ldc2_w 98, 3) := by decide +kernel
theorem dX6_isName_48 : decode cX6_isName 48 = .ok (.lcmp, 1) := by decide +kernel
theorem dX6_isName_49 : decode cX6_isName 49 = .ok (.ifCond .eq 18, 3) := by decide +kernel
theorem dX6_isName_52 : decode cX6_isName 52 = .ok (.aload_n 0, 1) := by decide +kernel
theorem dX6_isName_53 : decode cX6_isName 53 = .ok (.getfield 79, 3) := by decide +kernel
theorem dX6_isName_56 : decode cX6_isName 56 = .ok (.ldc2_w 142, 3) := by decide +kernel
theorem dX6_isName_59 : decode cX6_isName 59 = .ok (.lcmp, 1) := by decide +kernel
theorem dX6_isName_60 : decode cX6_isName 60 = .ok (.ifCond .eq 7, 3) := by decide +kernel
theorem dX6_isName_63 : decode cX6_isName 63 = .ok (.iconst 1, 1) := by decide +kernel
theorem dX6_isName_64 : decode cX6_isName 64 = .ok (.goto 4, 3) := by decide +kernel
theorem dX6_isName_67 : decode cX6_isName 67 = .ok (.iconst 0, 1) := by decide +kernel
theorem dX6_isName_68 : decode cX6_isName 68 = .ok (.ireturn, 1) := by decide +kernel
theorem dX6_isSmall_0 : decode cX6_isSmall 0 = .ok (.iload_n 0, 1) := by decide +kernel
theorem dX6_isSmall_1 : decode cX6_isSmall 1 = .ok (.bipush 97, 2) := by decide +kernel
theorem dX6_isSmall_3 : decode cX6_isSmall 3 = .ok (.if_icmp .lt 13, 3) := by decide +kernel
theorem dX6_isSmall_6 : decode cX6_isSmall 6 = .ok (.iload_n 0, 1) := by decide +kernel
theorem dX6_isSmall_7 : decode cX6_isSmall 7 = .ok (.bipush 122, 2) := by decide +kernel
theorem dX6_isSmall_9 : decode cX6_isSmall 9 = .ok (.if_icmp .gt 7, 3) := by decide +kernel
theorem dX6_isSmall_12 : decode cX6_isSmall 12 = .ok (.iconst 1, 1) := by decide +kernel
theorem dX6_isSmall_13 : decode cX6_isSmall 13 = .ok (.goto 4, 3) := by decide +kernel
theorem dX6_isSmall_16 : decode cX6_isSmall 16 = .ok (.iconst 0, 1) := by decide +kernel
theorem dX6_isSmall_17 : decode cX6_isSmall 17 = .ok (.ireturn, 1) := by decide +kernel
theorem dX6_isDigit_0 : decode cX6_isDigit 0 = .ok (.iload_n 0, 1) := by decide +kernel
theorem dX6_isDigit_1 : decode cX6_isDigit 1 = .ok (.bipush 48, 2) := by decide +kernel
theorem dX6_isDigit_3 : decode cX6_isDigit 3 = .ok (.if_icmp .lt 13, 3) := by decide +kernel
theorem dX6_isDigit_6 : decode cX6_isDigit 6 = .ok (.iload_n 0, 1) := by decide +kernel
theorem dX6_isDigit_7 : decode cX6_isDigit 7 = .ok (.bipush 57, 2) := by decide +kernel
theorem dX6_isDigit_9 : decode cX6_isDigit 9 = .ok (.if_icmp .gt 7, 3) := by decide +kernel
theorem dX6_isDigit_12 : decode cX6_isDigit 12 = .ok (.iconst 1, 1) := by decide +kernel
theorem dX6_isDigit_13 : decode cX6_isDigit 13 = .ok (.goto 4, 3) := by decide +kernel
theorem dX6_isDigit_16 : decode cX6_isDigit 16 = .ok (.iconst 0, 1) := by decide +kernel
theorem dX6_isDigit_17 : decode cX6_isDigit 17 = .ok (.ireturn, 1) := by decide +kernel

