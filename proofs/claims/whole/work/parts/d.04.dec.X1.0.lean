theorem dX1_init_0 : decode cX1_init 0 = .ok (.aload_n 0, 1) := by decide +kernel
theorem dX1_init_1 : decode cX1_init 1 = .ok (.invokespecial 3, 3) := by decide +kernel
theorem dX1_init_4 : decode cX1_init 4 = .ok (.aload_n 0, 1) := by decide +kernel
theorem dX1_init_5 : decode cX1_init 5 = .ok (.bipush 6, 2) := by decide +kernel
theorem dX1_init_7 : decode cX1_init 7 = .ok (.newarray .int, 2) := by decide +kernel
theorem dX1_init_9 : decode cX1_init 9 = .ok (.putfield 9, 3) := by decide +kernel
theorem dX1_init_12 : decode cX1_init 12 = .ok (.aload_n 0, 1) := by decide +kernel
theorem dX1_init_13 : decode cX1_init 13 = .ok (.bipush 6, 2) := by decide +kernel
theorem dX1_init_15 : decode cX1_init 15 = .ok (.newarray .int, 2) := by decide +kernel
theorem dX1_init_17 : decode cX1_init 17 = .ok (.putfield 15, 3) := by decide +kernel
theorem dX1_init_20 : decode cX1_init 20 = .ok (.return_, 1) := by decide +kernel
theorem dX1_clear_0 : decode cX1_clear 0 = .ok (.aload_n 0, 1) := by decide +kernel
theorem dX1_clear_1 : decode cX1_clear 1 = .ok (.iconst 0, 1) := by decide +kernel
theorem dX1_clear_2 : decode cX1_clear 2 = .ok (.putfield 18, 3) := by decide +kernel
theorem dX1_clear_5 : decode cX1_clear 5 = .ok (.return_, 1) := by decide +kernel
theorem dX1_add_0 : decode cX1_add 0 = .ok (.aload_n 0, 1) := by decide +kernel
theorem dX1_add_1 : decode cX1_add 1 = .ok (.getfield 18, 3) := by decide +kernel
theorem dX1_add_4 : decode cX1_add 4 = .ok (.bipush 6, 2) := by decide +kernel
theorem dX1_add_6 : decode cX1_add 6 = .ok (.if_icmp .ge 33, 3) := by decide +kernel
theorem dX1_add_9 : decode cX1_add 9 = .ok (.aload_n 0, 1) := by decide +kernel
theorem dX1_add_10 : decode cX1_add 10 = .ok (.getfield 9, 3) := by decide +kernel
theorem dX1_add_13 : decode cX1_add 13 = .ok (.aload_n 0, 1) := by decide +kernel
theorem dX1_add_14 : decode cX1_add 14 = .ok (.getfield 18, 3) := by decide +kernel
theorem dX1_add_17 : decode cX1_add 17 = .ok (.iload_n 1, 1) := by decide +kernel
theorem dX1_add_18 : decode cX1_add 18 = .ok (.iastore, 1) := by decide +kernel
theorem dX1_add_19 : decode cX1_add 19 = .ok (.aload_n 0, 1) := by decide +kernel
theorem dX1_add_20 : decode cX1_add 20 = .ok (.getfield 15, 3) := by decide +kernel
theorem dX1_add_23 : decode cX1_add 23 = .ok (.aload_n 0, 1) := by decide +kernel
theorem dX1_add_24 : decode cX1_add 24 = .ok (.getfield 18, 3) := by decide +kernel
theorem dX1_add_27 : decode cX1_add 27 = .ok (.iload_n 2, 1) := by decide +kernel
theorem dX1_add_28 : decode cX1_add 28 = .ok (.iastore, 1) := by decide +kernel
theorem dX1_add_29 : decode cX1_add 29 = .ok (.aload_n 0, 1) := by decide +kernel
theorem dX1_add_30 : decode cX1_add 30 = .ok (.dup, 1) := by decide +kernel
theorem dX1_add_31 : decode cX1_add 31 = .ok (.getfield 18, 3) := by decide +kernel
theorem dX1_add_34 : decode cX1_add 34 = .ok (.iconst 1, 1) := by decide +kernel
theorem dX1_add_35 : decode cX1_add 35 = .ok (.iadd, 1) := by decide +kernel
theorem dX1_add_36 : decode cX1_add 36 = .ok (.putfield 18, 3) := by decide +kernel
theorem dX1_add_39 : decode cX1_add 39 = .ok (.return_, 1) := by decide +kernel
theorem dX1_isBalanced_0 : decode cX1_isBalanced 0 = .ok (.aload_n 1, 1) := by decide +kernel
theorem dX1_isBalanced_1 : decode cX1_isBalanced 1 = .ok (.aload_n 0, 1) := by decide +kernel
theorem dX1_isBalanced_2 : decode cX1_isBalanced 2 = .ok (.getfield 9, 3) := by decide +kernel
theorem dX1_isBalanced_5 : decode cX1_isBalanced 5 = .ok (.iconst 0, 1) := by decide +kernel
theorem dX1_isBalanced_6 : decode cX1_isBalanced 6 = .ok (.aload_n 0, 1) := by decide +kernel
theorem dX1_isBalanced_7 : decode cX1_isBalanced 7 = .ok (.getfield 18, 3) := by decide +kernel
theorem dX1_isBalanced_10 : decode cX1_isBalanced 10 = .ok (.invokevirtual 22, 3) := by decide +kernel
theorem dX1_isBalanced_13 : decode cX1_isBalanced 13 = .ok (.ireturn, 1) := by decide +kernel
theorem dX1_total_0 : decode cX1_total 0 = .ok (.aload_n 0, 1) := by decide +kernel
theorem dX1_total_1 : decode cX1_total 1 = .ok (.iconst 1, 1) := by decide +kernel
theorem dX1_total_2 : decode cX1_total 2 = .ok (.aload_n 0, 1) := by decide +kernel
theorem dX1_total_3 : decode cX1_total 3 = .ok (.getfield 18, 3) := by decide +kernel
theorem dX1_total_6 : decode cX1_total 6 = .ok (.ishl, 1) := by decide +kernel
theorem dX1_total_7 : decode cX1_total 7 = .ok (.iconst 1, 1) := by decide +kernel
theorem dX1_total_8 : decode cX1_total 8 = .ok (.isub, 1) := by decide +kernel
theorem dX1_total_9 : decode cX1_total 9 = .ok (.invokevirtual 28, 3) := by decide +kernel
theorem dX1_total_12 : decode cX1_total 12 = .ok (.ireturn, 1) := by decide +kernel
theorem dX1_flow_0 : decode cX1_flow 0 = .ok (.iconst 0, 1) := by decide +kernel
theorem dX1_flow_1 : decode cX1_flow 1 = .ok (.istore_n 2, 1) := by decide +kernel
theorem dX1_flow_2 : decode cX1_flow 2 = .ok (.iconst 0, 1) := by decide +kernel
theorem dX1_flow_3 : decode cX1_flow 3 = .ok (.istore_n 3, 1) := by decide +kernel
theorem dX1_flow_4 : decode cX1_flow 4 = .ok (.iload_n 3, 1) := by decide +kernel
theorem dX1_flow_5 : decode cX1_flow 5 = .ok (.aload_n 0, 1) := by decide +kernel
theorem dX1_flow_6 : decode cX1_flow 6 = .ok (.getfield 18, 3) := by decide +kernel
theorem dX1_flow_9 : decode cX1_flow 9 = .ok (.if_icmp .ge 26, 3) := by decide +kernel
theorem dX1_flow_12 : decode cX1_flow 12 = .ok (.iload_n 1, 1) := by decide +kernel
theorem dX1_flow_13 : decode cX1_flow 13 = .ok (.iload_n 3, 1) := by decide +kernel
theorem dX1_flow_14 : decode cX1_flow 14 = .ok (.ishr, 1) := by decide +kernel
theorem dX1_flow_15 : decode cX1_flow 15 = .ok (.iconst 1, 1) := by decide +kernel
theorem dX1_flow_16 : decode cX1_flow 16 = .ok (.iand, 1) := by decide +kernel
theorem dX1_flow_17 : decode cX1_flow 17 = .ok (.ifCond .eq 12, 3) := by decide +kernel
theorem dX1_flow_20 : decode cX1_flow 20 = .ok (.iload_n 2, 1) := by decide +kernel
theorem dX1_flow_21 : decode cX1_flow 21 = .ok (.aload_n 0, 1) := by decide +kernel
theorem dX1_flow_22 : decode cX1_flow 22 = .ok (.getfield 15, 3) := by decide +kernel
theorem dX1_flow_25 : decode cX1_flow 25 = .ok (.iload_n 3, 1) := by decide +kernel
theorem dX1_flow_26 : decode cX1_flow 26 = .ok (.iaload, 1) := by decide +kernel
theorem dX1_flow_27 : decode cX1_flow 27 = .ok (.iadd, 1) := by decide +kernel
theorem dX1_flow_28 : decode cX1_flow 28 = .ok (.istore_n 2, 1) := by decide +kernel
theorem dX1_flow_29 : decode cX1_flow 29 = .ok (.iinc 3 1, 3) := by decide +kernel
theorem dX1_flow_32 : decode cX1_flow 32 = .ok (.goto (-28), 3) := by decide +kernel
theorem dX1_flow_35 : decode cX1_flow 35 = .ok (.iload_n 2, 1) := by decide +kernel
theorem dX1_flow_36 : decode cX1_flow 36 = .ok (.ireturn, 1) := by decide +kernel
theorem dX1_isSide_0 : decode cX1_isSide 0 = .ok (.iconst 1, 1) := by decide +kernel
theorem dX1_isSide_1 : decode cX1_isSide 1 = .ok (.aload_n 0, 1) := by decide +kernel
theorem dX1_isSide_2 : decode cX1_isSide 2 = .ok (.getfield 18, 3) := by decide +kernel
theorem dX1_isSide_5 : decode cX1_isSide 5 = .ok (.ishl, 1) := by decide +kernel
theorem dX1_isSide_6 : decode cX1_isSide 6 = .ok (.iconst 1, 1) := by decide +kernel
theorem dX1_isSide_7 : decode cX1_isSide 7 = .ok (.isub, 1) := by decide +kernel
theorem dX1_isSide_8 : decode cX1_isSide 8 = .ok (.istore_n 2, 1) := by decide +kernel
theorem dX1_isSide_9 : decode cX1_isSide 9 = .ok (.iload_n 1, 1) := by decide +kernel
theorem dX1_isSide_10 : decode cX1_isSide 10 = .ok (.invokestatic 32, 3) := by decide +kernel
theorem dX1_isSide_13 : decode cX1_isSide 13 = .ok (.istore_n 3, 1) := by decide +kernel
theorem dX1_isSide_14 : decode cX1_isSide 14 = .ok (.iload_n 1, 1) := by decide +kernel
theorem dX1_isSide_15 : decode cX1_isSide 15 = .ok (.iload_n 2, 1) := by decide +kernel
theorem dX1_isSide_16 : decode cX1_isSide 16 = .ok (.iconst (-1), 1) := by decide +kernel
theorem dX1_isSide_17 : decode cX1_isSide 17 = .ok (.ixor, 1) := by decide +kernel
theorem dX1_isSide_18 : decode cX1_isSide 18 = .ok (.iand, 1) := by decide +kernel
theorem dX1_isSide_19 : decode cX1_isSide 19 = .ok (.ifCond .ne 28, 3) := by decide +kernel
theorem dX1_isSide_22 : decode cX1_isSide 22 = .ok (.iload_n 1, 1) := by decide +kernel
theorem dX1_isSide_23 : decode cX1_isSide 23 = .ok (.iconst 1, 1) := by decide +kernel
theorem dX1_isSide_24 : decode cX1_isSide 24 = .ok (.iand, 1) := by decide +kernel
theorem dX1_isSide_25 : decode cX1_isSide 25 = .ok (.ifCond .eq 22, 3) := by decide +kernel
theorem dX1_isSide_28 : decode cX1_isSide 28 = .ok (.iload_n 3, 1) := by decide +kernel
theorem dX1_isSide_29 : decode cX1_isSide 29 = .ok (.iconst 2, 1) := by decide +kernel
theorem dX1_isSide_30 : decode cX1_isSide 30 = .ok (.if_icmp .lt 17, 3) := by decide +kernel
theorem dX1_isSide_33 : decode cX1_isSide 33 = .ok (.aload_n 0, 1) := by decide +kernel
theorem dX1_isSide_34 : decode cX1_isSide 34 = .ok (.getfield 18, 3) := by decide +kernel
theorem dX1_isSide_37 : decode cX1_isSide 37 = .ok (.iload_n 3, 1) := by decide +kernel
theorem dX1_isSide_38 : decode cX1_isSide 38 = .ok (.isub, 1) := by decide +kernel
theorem dX1_isSide_39 : decode cX1_isSide 39 = .ok (.iconst 2, 1) := by decide +kernel
theorem dX1_isSide_40 : decode cX1_isSide 40 = .ok (.if_icmp .lt 7, 3) := by decide +kernel
theorem dX1_isSide_43 : decode cX1_isSide 43 = .ok (.iconst 1, 1) := by decide +kernel
theorem dX1_isSide_44 : decode cX1_isSide 44 = .ok (.goto 4, 3) := by decide +kernel
theorem dX1_isSide_47 : decode cX1_isSide 47 = .ok (.iconst 0, 1) := by decide +kernel
theorem dX1_isSide_48 : decode cX1_isSide 48 = .ok (.ireturn, 1) := by decide +kernel

