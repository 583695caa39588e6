theorem dX8_init_0 : decode cX8_init 0 = .ok (.aload_n 0, 1) := by decide +kernel
theorem dX8_init_1 : decode cX8_init 1 = .ok (.invokespecial 1, 3) := by decide +kernel
theorem dX8_init_4 : decode cX8_init 4 = .ok (.aload_n 0, 1) := by decide +kernel
theorem dX8_init_5 : decode cX8_init 5 = .ok (.new 7, 3) := by decide +kernel
theorem dX8_init_8 : decode cX8_init 8 = .ok (.dup, 1) := by decide +kernel
theorem dX8_init_9 : decode cX8_init 9 = .ok (.invokespecial 9, 3) := by decide +kernel
theorem dX8_init_12 : decode cX8_init 12 = .ok (.putfield 10, 3) := by decide +kernel
theorem dX8_init_15 : decode cX8_init 15 = .ok (.aload_n 0, 1) := by decide +kernel
theorem dX8_init_16 : decode cX8_init 16 = .ok (.new 16, 3) := by decide +kernel
theorem dX8_init_19 : decode cX8_init 19 = .ok (.dup, 1) := by decide +kernel
theorem dX8_init_20 : decode cX8_init 20 = .ok (.invokespecial 18, 3) := by decide +kernel
theorem dX8_init_23 : decode cX8_init 23 = .ok (.putfield 19, 3) := by decide +kernel
theorem dX8_init_26 : decode cX8_init 26 = .ok (.aload_n 0, 1) := by decide +kernel
theorem dX8_init_27 : decode cX8_init 27 = .ok (.new 23, 3) := by decide +kernel
theorem dX8_init_30 : decode cX8_init 30 = .ok (.dup, 1) := by decide +kernel
theorem dX8_init_31 : decode cX8_init 31 = .ok (.invokespecial 25, 3) := by decide +kernel
theorem dX8_init_34 : decode cX8_init 34 = .ok (.putfield 26, 3) := by decide +kernel
theorem dX8_init_37 : decode cX8_init 37 = .ok (.aload_n 0, 1) := by decide +kernel
theorem dX8_init_38 : decode cX8_init 38 = .ok (.new 30, 3) := by decide +kernel
theorem dX8_init_41 : decode cX8_init 41 = .ok (.dup, 1) := by decide +kernel
theorem dX8_init_42 : decode cX8_init 42 = .ok (.invokespecial 32, 3) := by decide +kernel
theorem dX8_init_45 : decode cX8_init 45 = .ok (.putfield 33, 3) := by decide +kernel
theorem dX8_init_48 : decode cX8_init 48 = .ok (.aload_n 0, 1) := by decide +kernel
theorem dX8_init_49 : decode cX8_init 49 = .ok (.new 30, 3) := by decide +kernel
theorem dX8_init_52 : decode cX8_init 52 = .ok (.dup, 1) := by decide +kernel
theorem dX8_init_53 : decode cX8_init 53 = .ok (.invokespecial 32, 3) := by decide +kernel
theorem dX8_init_56 : decode cX8_init 56 = .ok (.putfield 37, 3) := by decide +kernel
theorem dX8_init_59 : decode cX8_init 59 = .ok (.aload_n 0, 1) := by decide +kernel
theorem dX8_init_60 : decode cX8_init 60 = .ok (.new 30, 3) := by decide +kernel
theorem dX8_init_63 : decode cX8_init 63 = .ok (.dup, 1) := by decide +kernel
theorem dX8_init_64 : decode cX8_init 64 = .ok (.invokespecial 32, 3) := by decide +kernel
theorem dX8_init_67 : decode cX8_init 67 = .ok (.putfield 40, 3) := by decide +kernel
theorem dX8_init_70 : decode cX8_init 70 = .ok (.aload_n 0, 1) := by decide +kernel
theorem dX8_init_71 : decode cX8_init 71 = .ok (.new 43, 3) := by decide +kernel
theorem dX8_init_74 : decode cX8_init 74 = .ok (.dup, 1) := by decide +kernel
theorem dX8_init_75 : decode cX8_init 75 = .ok (.invokespecial 45, 3) := by decide +kernel
theorem dX8_init_78 : decode cX8_init 78 = .ok (.putfield 46, 3) := by decide +kernel
theorem dX8_init_81 : decode cX8_init 81 = .ok (.aload_n 0, 1) := by decide +kernel
theorem dX8_init_82 : decode cX8_init 82 = .ok (.new 43, 3) := by decide +kernel
theorem dX8_init_85 : decode cX8_init 85 = .ok (.dup, 1) := by decide +kernel
theorem dX8_init_86 : decode cX8_init 86 = .ok (.invokespecial 45, 3) := by decide +kernel
theorem dX8_init_89 : decode cX8_init 89 = .ok (.putfield 50, 3) := by decide +kernel
theorem dX8_init_92 : decode cX8_init 92 = .ok (.aload_n 0, 1) := by decide +kernel
theorem dX8_init_93 : decode cX8_init 93 = .ok (.iconst 3, 1) := by decide +kernel
theorem dX8_init_94 : decode cX8_init 94 = .ok (.newarray .int, 2) := by decide +kernel
theorem dX8_init_96 : decode cX8_init 96 = .ok (.putfield 53, 3) := by decide +kernel
theorem dX8_init_99 : decode cX8_init 99 = .ok (.aload_n 0, 1) := by decide +kernel
theorem dX8_init_100 : decode cX8_init 100 = .ok (.bipush 6, 2) := by decide +kernel
theorem dX8_init_102 : decode cX8_init 102 = .ok (.newarray .int, 2) := by decide +kernel
theorem dX8_init_104 : decode cX8_init 104 = .ok (.putfield 57, 3) := by decide +kernel
theorem dX8_init_107 : decode cX8_init 107 = .ok (.aload_n 0, 1) := by decide +kernel
theorem dX8_init_108 : decode cX8_init 108 = .ok (.new 60, 3) := by decide +kernel
theorem dX8_init_111 : decode cX8_init 111 = .ok (.dup, 1) := by decide +kernel
theorem dX8_init_112 : decode cX8_init 112 = .ok (.invokespecial 62, 3) := by decide +kernel
theorem dX8_init_115 : decode cX8_init 115 = .ok (.putfield 63, 3) := by decide +kernel
theorem dX8_init_118 : decode cX8_init 118 = .ok (.aload_n 0, 1) := by decide +kernel
theorem dX8_init_119 : decode cX8_init 119 = .ok (.new 67, 3) := by decide +kernel
theorem dX8_init_122 : decode cX8_init 122 = .ok (.dup, 1) := by decide +kernel
theorem dX8_init_123 : decode cX8_init 123 = .ok (.invokespecial 69, 3) := by decide +kernel
theorem dX8_init_126 : decode cX8_init 126 = .ok (.putfield 70, 3) := by decide +kernel
theorem dX8_init_129 : decode cX8_init 129 = .ok (.aload_n 0, 1) := by decide +kernel
theorem dX8_init_130 : decode cX8_init 130 = .ok (.new 43, 3) := by decide +kernel
theorem dX8_init_133 : decode cX8_init 133 = .ok (.dup, 1) := by decide +kernel
theorem dX8_init_134 : decode cX8_init 134 = .ok (.invokespecial 45, 3) := by decide +kernel
theorem dX8_init_137 : decode cX8_init 137 = .ok (.putfield 74, 3) := by decide +kernel
theorem dX8_init_140 : decode cX8_init 140 = .ok (.aload_n 0, 1) := by decide +kernel
theorem dX8_init_141 : decode cX8_init 141 = .ok (.new 43, 3) := by decide +kernel
theorem dX8_init_144 : decode cX8_init 144 = .ok (.dup, 1) := by decide +kernel
theorem dX8_init_145 : decode cX8_init 145 = .ok (.invokespecial 45, 3) := by decide +kernel
theorem dX8_init_148 : decode cX8_init 148 = .ok (.putfield 77, 3) := by decide +kernel
theorem dX8_init_151 : decode cX8_init 151 = .ok (.iconst 0, 1) := by decide +kernel
theorem dX8_init_152 : decode cX8_init 152 = .ok (.istore_n 1, 1) := by decide +kernel
theorem dX8_init_153 : decode cX8_init 153 = .ok (.iload_n 1, 1) := by decide +kernel
theorem dX8_init_154 : decode cX8_init 154 = .ok (.iconst 3, 1) := by decide +kernel
theorem dX8_init_155 : decode cX8_init 155 = .ok (.if_icmp .ge 16, 3) := by decide +kernel
theorem dX8_init_158 : decode cX8_init 158 = .ok (.aload_n 0, 1) := by decide +kernel
theorem dX8_init_159 : decode cX8_init 159 = .ok (.getfield 53, 3) := by decide +kernel
theorem dX8_init_162 : decode cX8_init 162 = .ok (.iload_n 1, 1) := by decide +kernel
theorem dX8_init_163 : decode cX8_init 163 = .ok (.iconst 1, 1) := by decide +kernel
theorem dX8_init_164 : decode cX8_init 164 = .ok (.iastore, 1) := by decide +kernel
theorem dX8_init_165 : decode cX8_init 165 = .ok (.iinc 1 1, 3) := by decide +kernel
theorem dX8_init_168 : decode cX8_init 168 = .ok (.goto (-15), 3) := by decide +kernel
theorem dX8_init_171 : decode cX8_init 171 = .ok (.return_, 1) := by decide +kernel
theorem dX8_feed_0 : decode cX8_feed 0 = .ok (.aload_n 0, 1) := by decide +kernel
theorem dX8_feed_1 : decode cX8_feed 1 = .ok (.getfield 10, 3) := by decide +kernel
theorem dX8_feed_4 : decode cX8_feed 4 = .ok (.iload_n 1, 1) := by decide +kernel
theorem dX8_feed_5 : decode cX8_feed 5 = .ok (.iload_n 2, 1) := by decide +kernel
theorem dX8_feed_6 : decode cX8_feed 6 = .ok (.iload_n 3, 1) := by decide +kernel
theorem dX8_feed_7 : decode cX8_feed 7 = .ok (.iload 4, 2) := by decide +kernel
theorem dX8_feed_9 : decode cX8_feed 9 = .ok (.iload 5, 2) := by decide +kernel
theorem dX8_feed_11 : decode cX8_feed 11 = .ok (.invokevirtual 80, 3) := by decide +kernel
theorem dX8_feed_14 : decode cX8_feed 14 = .ok (.ireturn, 1) := by decide +kernel
theorem dX8_book_0 : decode cX8_book 0 = .ok (.iload_n 1, 1) := by decide +kernel
theorem dX8_book_1 : decode cX8_book 1 = .ok (.ifCond .lt 14, 3) := by decide +kernel
theorem dX8_book_4 : decode cX8_book 4 = .ok (.iload_n 1, 1) := by decide +kernel
theorem dX8_book_5 : decode cX8_book 5 = .ok (.aload_n 0, 1) := by decide +kernel
theorem dX8_book_6 : decode cX8_book 6 = .ok (.getfield 10, 3) := by decide +kernel
theorem dX8_book_9 : decode cX8_book 9 = .ok (.getfield 84, 3) := by decide +kernel
theorem dX8_book_12 : decode cX8_book 12 = .ok (.if_icmp .le 9, 3) := by decide +kernel
theorem dX8_book_15 : decode cX8_book 15 = .ok (.aload_n 0, 1) := by decide +kernel
theorem dX8_book_16 : decode cX8_book 16 = .ok (.iconst 2, 1) := by decide +kernel
theorem dX8_book_17 : decode cX8_book 17 = .ok (.invokevirtual 88, 3) := by decide +kernel
theorem dX8_book_20 : decode cX8_book 20 = .ok (.ireturn, 1) := by decide +kernel
theorem dX8_book_21 : decode cX8_book 21 = .ok (.aload_n 0, 1) := by decide +kernel
theorem dX8_book_22 : decode cX8_book 22 = .ok (.getfield 10, 3) := by decide +kernel
theorem dX8_book_25 : decode cX8_book 25 = .ok (.iload_n 1, 1) := by decide +kernel
theorem dX8_book_26 : decode cX8_book 26 = .ok (.invokevirtual 92, 3) := by decide +kernel
theorem dX8_book_29 : decode cX8_book 29 = .ok (.istore_n 2, 1) := by decide +kernel
theorem dX8_book_30 : decode cX8_book 30 = .ok (.aload_n 0, 1) := by decide +kernel
theorem dX8_book_31 : decode cX8_book 31 = .ok (.getfield 10, 3) := by decide +kernel
theorem dX8_book_34 : decode cX8_book 34 = .ok (.iconst 0, 1) := by decide +kernel
theorem dX8_book_35 : decode cX8_book 35 = .ok (.putfield 84, 3) := by decide +kernel
theorem dX8_book_38 : decode cX8_book 38 = .ok (.iload_n 2, 1) := by decide +kernel
theorem dX8_book_39 : decode cX8_book 39 = .ok (.ifCond .ne 9, 3) := by decide +kernel
theorem dX8_book_42 : decode cX8_book 42 = .ok (.aload_n 0, 1) := by decide +kernel
theorem dX8_book_43 : decode cX8_book 43 = .ok (.iconst 4, 1) := by decide +kernel
theorem dX8_book_44 : decode cX8_book 44 = .ok (.invokevirtual 88, 3) := by decide +kernel
theorem dX8_book_47 : decode cX8_book 47 = .ok (.ireturn, 1) := by decide +kernel
theorem dX8_book_48 : decode cX8_book 48 = .ok (.aload_n 0, 1) := by decide +kernel
theorem dX8_book_49 : decode cX8_book 49 = .ok (.getfield 63, 3) := by decide +kernel
theorem dX8_book_52 : decode cX8_book 52 = .ok (.astore_n 3, 1) := by decide +kernel
theorem dX8_book_53 : decode cX8_book 53 = .ok (.aload_n 0, 1) := by decide +kernel
theorem dX8_book_54 : decode cX8_book 54 = .ok (.aload_n 0, 1) := by decide +kernel
theorem dX8_book_55 : decode cX8_book 55 = .ok (.getfield 10, 3) := by decide +kernel
theorem dX8_book_58 : decode cX8_book 58 = .ok (.getfield 96, 3) := by decide +kernel
theorem dX8_book_61 : decode cX8_book 61 = .ok (.putfield 63, 3) := by decide +kernel
theorem dX8_book_64 : decode cX8_book 64 = .ok (.aload_n 0, 1) := by decide +kernel
theorem dX8_book_65 : decode cX8_book 65 = .ok (.getfield 10, 3) := by decide +kernel
theorem dX8_book_68 : decode cX8_book 68 = .ok (.aload_n 3, 1) := by decide +kernel
theorem dX8_book_69 : decode cX8_book 69 = .ok (.putfield 96, 3) := by decide +kernel
theorem dX8_book_72 : decode cX8_book 72 = .ok (.aload_n 0, 1) := by decide +kernel
theorem dX8_book_73 : decode cX8_book 73 = .ok (.getfield 33, 3) := by decide +kernel
theorem dX8_book_76 : decode cX8_book 76 = .ok (.invokevirtual 99, 3) := by decide +kernel
theorem dX8_book_79 : decode cX8_book 79 = .ok (.aload_n 0, 1) := by decide +kernel
theorem dX8_book_80 : decode cX8_book 80 = .ok (.iconst 0, 1) := by decide +kernel
theorem dX8_book_81 : decode cX8_book 81 = .ok (.putfield 102, 3) := by decide +kernel
theorem dX8_book_84 : decode cX8_book 84 = .ok (.iconst 0, 1) := by decide +kernel
theorem dX8_book_85 : decode cX8_book 85 = .ok (.istore 4, 2) := by decide +kernel
theorem dX8_book_87 : decode cX8_book 87 = .ok (.iload 4, 2) := by decide +kernel
theorem dX8_book_89 : decode cX8_book 89 = .ok (.iconst 3, 1) := by decide +kernel
theorem dX8_book_90 : decode cX8_book 90 = .ok (.if_icmp .ge 17, 3) := by decide +kernel
theorem dX8_book_93 : decode cX8_book 93 = .ok (.aload_n 0, 1) := by decide +kernel
theorem dX8_book_94 : decode cX8_book 94 = .ok (.getfield 53, 3) := by decide +kernel
theorem dX8_book_97 : decode cX8_book 97 = .ok (.iload 4, 2) := by decide +kernel
theorem dX8_book_99 : decode cX8_book 99 = .ok (.iconst 1, 1) := by decide +kernel
theorem dX8_book_100 : decode cX8_book 100 = .ok (.iastore, 1) := by decide +kernel
theorem dX8_book_101 : decode cX8_book 101 = .ok (.iinc 4 1, 3) := by decide +kernel
theorem dX8_book_104 : decode cX8_book 104 = .ok (.goto (-17), 3) := by decide +kernel
theorem dX8_book_107 : decode cX8_book 107 = .ok (.aload_n 0, 1) := by decide +kernel
theorem dX8_book_108 : decode cX8_book 108 = .ok (.iconst 0, 1) := by decide +kernel
theorem dX8_book_109 : decode cX8_book 109 = .ok (.putfield 106, 3) := by decide +kernel
theorem dX8_book_112 : decode cX8_book 112 = .ok (.aload_n 0, 1) := by decide +kernel
theorem dX8_book_113 : decode cX8_book 113 = .ok (.getfield 63, 3) := by decide +kernel
theorem dX8_book_116 : decode cX8_book 116 = .ok (.getfield 109, 3) := by decide +kernel
theorem dX8_book_119 : decode cX8_book 119 = .ok (.ireturn, 1) := by decide +kernel
theorem dX8_fault_0 : decode cX8_fault 0 = .ok (.aload_n 0, 1) := by decide +kernel
theorem dX8_fault_1 : decode cX8_fault 1 = .ok (.getfield 10, 3) := by decide +kernel
theorem dX8_fault_4 : decode cX8_fault 4 = .ok (.getfield 112, 3) := by decide +kernel
theorem dX8_fault_7 : decode cX8_fault 7 = .ok (.ireturn, 1) := by decide +kernel
theorem dX8_where_0 : decode cX8_where 0 = .ok (.aload_n 0, 1) := by decide +kernel
theorem dX8_where_1 : decode cX8_where 1 = .ok (.getfield 106, 3) := by decide +kernel
theorem dX8_where_4 : decode cX8_where 4 = .ok (.iconst 4, 1) := by decide +kernel
theorem dX8_where_5 : decode cX8_where 5 = .ok (.if_icmp .ne 13, 3) := by decide +kernel
theorem dX8_where_8 : decode cX8_where 8 = .ok (.aload_n 0, 1) := by decide +kernel
theorem dX8_where_9 : decode cX8_where 9 = .ok (.getfield 10, 3) := by decide +kernel
theorem dX8_where_12 : decode cX8_where 12 = .ok (.getfield 115, 3) := by decide +kernel
theorem dX8_where_15 : decode cX8_where 15 = .ok (.goto 4, 3) := by decide +kernel
theorem dX8_where_18 : decode cX8_where 18 = .ok (.iconst (-1), 1) := by decide +kernel
theorem dX8_where_19 : decode cX8_where 19 = .ok (.ireturn, 1) := by decide +kernel
theorem dX8_kind_0 : decode cX8_kind 0 = .ok (.aload_n 0, 1) := by decide +kernel
theorem dX8_kind_1 : decode cX8_kind 1 = .ok (.getfield 63, 3) := by decide +kernel
theorem dX8_kind_4 : decode cX8_kind 4 = .ok (.iload_n 1, 1) := by decide +kernel
theorem dX8_kind_5 : decode cX8_kind 5 = .ok (.iload_n 2, 1) := by decide +kernel
theorem dX8_kind_6 : decode cX8_kind 6 = .ok (.invokevirtual 118, 3) := by decide +kernel
theorem dX8_kind_9 : decode cX8_kind 9 = .ok (.ireturn, 1) := by decide +kernel
theorem dX8_rule_0 : decode cX8_rule 0 = .ok (.aload_n 0, 1) := by decide +kernel
theorem dX8_rule_1 : decode cX8_rule 1 = .ok (.getfield 63, 3) := by decide +kernel
theorem dX8_rule_4 : decode cX8_rule 4 = .ok (.iload_n 1, 1) := by decide +kernel
theorem dX8_rule_5 : decode cX8_rule 5 = .ok (.iload_n 2, 1) := by decide +kernel
theorem dX8_rule_6 : decode cX8_rule 6 = .ok (.invokevirtual 122, 3) := by decide +kernel
theorem dX8_rule_9 : decode cX8_rule 9 = .ok (.ireturn, 1) := by decide +kernel
theorem dX8_meeting_0 : decode cX8_meeting 0 = .ok (.aload_n 0, 1) := by decide +kernel
theorem dX8_meeting_1 : decode cX8_meeting 1 = .ok (.getfield 57, 3) := by decide +kernel
theorem dX8_meeting_4 : decode cX8_meeting 4 = .ok (.iconst 0, 1) := by decide +kernel
theorem dX8_meeting_5 : decode cX8_meeting 5 = .ok (.iload_n 1, 1) := by decide +kernel
theorem dX8_meeting_6 : decode cX8_meeting 6 = .ok (.iastore, 1) := by decide +kernel
theorem dX8_meeting_7 : decode cX8_meeting 7 = .ok (.aload_n 0, 1) := by decide +kernel
theorem dX8_meeting_8 : decode cX8_meeting 8 = .ok (.getfield 57, 3) := by decide +kernel
theorem dX8_meeting_11 : decode cX8_meeting 11 = .ok (.iconst 1, 1) := by decide +kernel
theorem dX8_meeting_12 : decode cX8_meeting 12 = .ok (.iload_n 2, 1) := by decide +kernel
theorem dX8_meeting_13 : decode cX8_meeting 13 = .ok (.iastore, 1) := by decide +kernel
theorem dX8_meeting_14 : decode cX8_meeting 14 = .ok (.aload_n 0, 1) := by decide +kernel
theorem dX8_meeting_15 : decode cX8_meeting 15 = .ok (.getfield 57, 3) := by decide +kernel
theorem dX8_meeting_18 : decode cX8_meeting 18 = .ok (.iconst 2, 1) := by decide +kernel
theorem dX8_meeting_19 : decode cX8_meeting 19 = .ok (.iload_n 3, 1) := by decide +kernel
theorem dX8_meeting_20 : decode cX8_meeting 20 = .ok (.iastore, 1) := by decide +kernel
theorem dX8_meeting_21 : decode cX8_meeting 21 = .ok (.aload_n 0, 1) := by decide +kernel
theorem dX8_meeting_22 : decode cX8_meeting 22 = .ok (.getfield 57, 3) := by decide +kernel
theorem dX8_meeting_25 : decode cX8_meeting 25 = .ok (.iconst 3, 1) := by decide +kernel
theorem dX8_meeting_26 : decode cX8_meeting 26 = .ok (.iload 4, 2) := by decide +kernel
theorem dX8_meeting_28 : decode cX8_meeting 28 = .ok (.iastore, 1) := by decide +kernel
theorem dX8_meeting_29 : decode cX8_meeting 29 = .ok (.aload_n 0, 1) := by decide +kernel
theorem dX8_meeting_30 : decode cX8_meeting 30 = .ok (.getfield 57, 3) := by decide +kernel
theorem dX8_meeting_33 : decode cX8_meeting 33 = .ok (.iconst 4, 1) := by decide +kernel
theorem dX8_meeting_34 : decode cX8_meeting 34 = .ok (.iload 5, 2) := by decide +kernel
theorem dX8_meeting_36 : decode cX8_meeting 36 = .ok (.iastore, 1) := by decide +kernel
theorem dX8_meeting_37 : decode cX8_meeting 37 = .ok (.aload_n 0, 1) := by decide +kernel
theorem dX8_meeting_38 : decode cX8_meeting 38 = .ok (.getfield 57, 3) := by decide +kernel
theorem dX8_meeting_41 : decode cX8_meeting 41 = .ok (.iconst 5, 1) := by decide +kernel
theorem dX8_meeting_42 : decode cX8_meeting 42 = .ok (.iload 6, 2) := by decide +kernel
theorem dX8_meeting_44 : decode cX8_meeting 44 = .ok (.iastore, 1) := by decide +kernel
theorem dX8_meeting_45 : decode cX8_meeting 45 = .ok (.iconst 0, 1) := by decide +kernel
theorem dX8_meeting_46 : decode cX8_meeting 46 = .ok (.istore 7, 2) := by decide +kernel
theorem dX8_meeting_48 : decode cX8_meeting 48 = .ok (.iload 7, 2) := by decide +kernel
theorem dX8_meeting_50 : decode cX8_meeting 50 = .ok (.bipush 6, 2) := by decide +kernel
theorem dX8_meeting_52 : decode cX8_meeting 52 = .ok (.if_icmp .ge 43, 3) := by decide +kernel
theorem dX8_meeting_55 : decode cX8_meeting 55 = .ok (.aload_n 0, 1) := by decide +kernel
theorem dX8_meeting_56 : decode cX8_meeting 56 = .ok (.getfield 57, 3) := by decide +kernel
theorem dX8_meeting_59 : decode cX8_meeting 59 = .ok (.iload 7, 2) := by decide +kernel
theorem dX8_meeting_61 : decode cX8_meeting 61 = .ok (.iaload, 1) := by decide +kernel
theorem dX8_meeting_62 : decode cX8_meeting 62 = .ok (.iconst (-1), 1) := by decide +kernel
theorem dX8_meeting_63 : decode cX8_meeting 63 = .ok (.if_icmp .eq 32, 3) := by decide +kernel
theorem dX8_meeting_66 : decode cX8_meeting 66 = .ok (.aload_n 0, 1) := by decide +kernel
theorem dX8_meeting_67 : decode cX8_meeting 67 = .ok (.getfield 63, 3) := by decide +kernel
theorem dX8_meeting_70 : decode cX8_meeting 70 = .ok (.aload_n 0, 1) := by decide +kernel
theorem dX8_meeting_71 : decode cX8_meeting 71 = .ok (.getfield 57, 3) := by decide +kernel
theorem dX8_meeting_74 : decode cX8_meeting 74 = .ok (.iload 7, 2) := by decide +kernel
theorem dX8_meeting_76 : decode cX8_meeting 76 = .ok (.iaload, 1) := by decide +kernel
theorem dX8_meeting_77 : decode cX8_meeting 77 = .ok (.invokevirtual 125, 3) := by decide +kernel
theorem dX8_meeting_80 : decode cX8_meeting 80 = .ok (.ifCond .ne 9, 3) := by decide +kernel
theorem dX8_meeting_83 : decode cX8_meeting 83 = .ok (.aload_n 0, 1) := by decide +kernel
theorem dX8_meeting_84 : decode cX8_meeting 84 = .ok (.iconst 1, 1) := by decide +kernel
theorem dX8_meeting_85 : decode cX8_meeting 85 = .ok (.invokevirtual 88, 3) := by decide +kernel
theorem dX8_meeting_88 : decode cX8_meeting 88 = .ok (.ireturn, 1) := by decide +kernel
theorem dX8_meeting_89 : decode cX8_meeting 89 = .ok (.iinc 7 1, 3) := by decide +kernel
theorem dX8_meeting_92 : decode cX8_meeting 92 = .ok (.goto (-44), 3) := by decide +kernel
theorem dX8_meeting_95 : decode cX8_meeting 95 = .ok (.aload_n 0, 1) := by decide +kernel
theorem dX8_meeting_96 : decode cX8_meeting 96 = .ok (.getfield 63, 3) := by decide +kernel
theorem dX8_meeting_99 : decode cX8_meeting 99 = .ok (.invokevirtual 128, 3) := by decide +kernel
theorem dX8_meeting_102 : decode cX8_meeting 102 = .ok (.ifCond .ne 9, 3) := by decide +kernel
theorem dX8_meeting_105 : decode cX8_meeting 105 = .ok (.aload_n 0, 1) := by decide +kernel
theorem dX8_meeting_106 : decode cX8_meeting 106 = .ok (.iconst 1, 1) := by decide +kernel
theorem dX8_meeting_107 : decode cX8_meeting 107 = .ok (.invokevirtual 88, 3) := by decide +kernel
theorem dX8_meeting_110 : decode cX8_meeting 110 = .ok (.ireturn, 1) := by decide +kernel
theorem dX8_meeting_111 : decode cX8_meeting 111 = .ok (.iload 7, 2) := by decide +kernel
theorem dX8_meeting_113 : decode cX8_meeting 113 = .ok (.iconst 2, 1) := by decide +kernel
theorem dX8_meeting_114 : decode cX8_meeting 114 = .ok (.if_icmp .ge 9, 3) := by decide +kernel
theorem dX8_meeting_117 : decode cX8_meeting 117 = .ok (.aload_n 0, 1) := by decide +kernel
theorem dX8_meeting_118 : decode cX8_meeting 118 = .ok (.iconst 2, 1) := by decide +kernel
theorem dX8_meeting_119 : decode cX8_meeting 119 = .ok (.invokevirtual 88, 3) := by decide +kernel
theorem dX8_meeting_122 : decode cX8_meeting 122 = .ok (.ireturn, 1) := by decide +kernel
theorem dX8_meeting_123 : decode cX8_meeting 123 = .ok (.aload_n 0, 1) := by decide +kernel
theorem dX8_meeting_124 : decode cX8_meeting 124 = .ok (.getfield 33, 3) := by decide +kernel
theorem dX8_meeting_127 : decode cX8_meeting 127 = .ok (.invokevirtual 99, 3) := by decide +kernel
theorem dX8_meeting_130 : decode cX8_meeting 130 = .ok (.iconst 0, 1) := by decide +kernel
theorem dX8_meeting_131 : decode cX8_meeting 131 = .ok (.istore 8, 2) := by decide +kernel
theorem dX8_meeting_133 : decode cX8_meeting 133 = .ok (.iload 8, 2) := by decide +kernel
theorem dX8_meeting_135 : decode cX8_meeting 135 = .ok (.iload 7, 2) := by decide +kernel
theorem dX8_meeting_137 : decode cX8_meeting 137 = .ok (.if_icmp .ge 24, 3) := by decide +kernel
theorem dX8_meeting_140 : decode cX8_meeting 140 = .ok (.aload_n 0, 1) := by decide +kernel
theorem dX8_meeting_141 : decode cX8_meeting 141 = .ok (.getfield 33, 3) := by decide +kernel
theorem dX8_meeting_144 : decode cX8_meeting 144 = .ok (.aload_n 0, 1) := by decide +kernel
theorem dX8_meeting_145 : decode cX8_meeting 145 = .ok (.getfield 57, 3) := by decide +kernel
theorem dX8_meeting_148 : decode cX8_meeting 148 = .ok (.iload 8, 2) := by decide +kernel
theorem dX8_meeting_150 : decode cX8_meeting 150 = .ok (.iaload, 1) := by decide +kernel
theorem dX8_meeting_151 : decode cX8_meeting 151 = .ok (.iconst 0, 1) := by decide +kernel
theorem dX8_meeting_152 : decode cX8_meeting 152 = .ok (.invokevirtual 132, 3) := by decide +kernel
theorem dX8_meeting_155 : decode cX8_meeting 155 = .ok (.iinc 8 1, 3) := by decide +kernel
theorem dX8_meeting_158 : decode cX8_meeting 158 = .ok (.goto (-25), 3) := by decide +kernel
theorem dX8_meeting_161 : decode cX8_meeting 161 = .ok (.aload_n 0, 1) := by decide +kernel
theorem dX8_meeting_162 : decode cX8_meeting 162 = .ok (.iconst 0, 1) := by decide +kernel
theorem dX8_meeting_163 : decode cX8_meeting 163 = .ok (.putfield 102, 3) := by decide +kernel
theorem dX8_meeting_166 : decode cX8_meeting 166 = .ok (.aload_n 0, 1) := by decide +kernel
theorem dX8_meeting_167 : decode cX8_meeting 167 = .ok (.iconst 0, 1) := by decide +kernel
theorem dX8_meeting_168 : decode cX8_meeting 168 = .ok (.putfield 106, 3) := by decide +kernel
theorem dX8_meeting_171 : decode cX8_meeting 171 = .ok (.iload 7, 2) := by decide +kernel
theorem dX8_meeting_173 : decode cX8_meeting 173 = .ok (.ireturn, 1) := by decide +kernel
theorem dX8_drawings_0 : decode cX8_drawings 0 = .ok (.aload_n 0, 1) := by decide +kernel
theorem dX8_drawings_1 : decode cX8_drawings 1 = .ok (.iload_n 1, 1) := by decide +kernel
theorem dX8_drawings_2 : decode cX8_drawings 2 = .ok (.invokevirtual 136, 3) := by decide +kernel
theorem dX8_drawings_5 : decode cX8_drawings 5 = .ok (.istore_n 2, 1) := by decide +kernel
theorem dX8_drawings_6 : decode cX8_drawings 6 = .ok (.iload_n 2, 1) := by decide +kernel
theorem dX8_drawings_7 : decode cX8_drawings 7 = .ok (.ifCond .eq 9, 3) := by decide +kernel
theorem dX8_drawings_10 : decode cX8_drawings 10 = .ok (.aload_n 0, 1) := by decide +kernel
theorem dX8_drawings_11 : decode cX8_drawings 11 = .ok (.iload_n 2, 1) := by decide +kernel
theorem dX8_drawings_12 : decode cX8_drawings 12 = .ok (.invokevirtual 88, 3) := by decide +kernel
theorem dX8_drawings_15 : decode cX8_drawings 15 = .ok (.ireturn, 1) := by decide +kernel
theorem dX8_drawings_16 : decode cX8_drawings 16 = .ok (.aload_n 0, 1) := by decide +kernel
theorem dX8_drawings_17 : decode cX8_drawings 17 = .ok (.getfield 33, 3) := by decide +kernel
theorem dX8_drawings_20 : decode cX8_drawings 20 = .ok (.aload_n 0, 1) := by decide +kernel
theorem dX8_drawings_21 : decode cX8_drawings 21 = .ok (.getfield 63, 3) := by decide +kernel
theorem dX8_drawings_24 : decode cX8_drawings 24 = .ok (.invokevirtual 139, 3) := by decide +kernel
theorem dX8_drawings_27 : decode cX8_drawings 27 = .ok (.ifCond .ne 10, 3) := by decide +kernel
theorem dX8_drawings_30 : decode cX8_drawings 30 = .ok (.aload_n 0, 1) := by decide +kernel
theorem dX8_drawings_31 : decode cX8_drawings 31 = .ok (.bipush 7, 2) := by decide +kernel
theorem dX8_drawings_33 : decode cX8_drawings 33 = .ok (.invokevirtual 88, 3) := by decide +kernel
theorem dX8_drawings_36 : decode cX8_drawings 36 = .ok (.ireturn, 1) := by decide +kernel
theorem dX8_drawings_37 : decode cX8_drawings 37 = .ok (.aload_n 0, 1) := by decide +kernel
theorem dX8_drawings_38 : decode cX8_drawings 38 = .ok (.getfield 19, 3) := by decide +kernel
theorem dX8_drawings_41 : decode cX8_drawings 41 = .ok (.aload_n 0, 1) := by decide +kernel
theorem dX8_drawings_42 : decode cX8_drawings 42 = .ok (.getfield 63, 3) := by decide +kernel
theorem dX8_drawings_45 : decode cX8_drawings 45 = .ok (.aload_n 0, 1) := by decide +kernel
theorem dX8_drawings_46 : decode cX8_drawings 46 = .ok (.getfield 33, 3) := by decide +kernel
theorem dX8_drawings_49 : decode cX8_drawings 49 = .ok (.iload_n 1, 1) := by decide +kernel
theorem dX8_drawings_50 : decode cX8_drawings 50 = .ok (.invokevirtual 143, 3) := by decide +kernel
theorem dX8_drawings_53 : decode cX8_drawings 53 = .ok (.ifCond .ne 9, 3) := by decide +kernel
theorem dX8_drawings_56 : decode cX8_drawings 56 = .ok (.aload_n 0, 1) := by decide +kernel
theorem dX8_drawings_57 : decode cX8_drawings 57 = .ok (.iconst 3, 1) := by decide +kernel
theorem dX8_drawings_58 : decode cX8_drawings 58 = .ok (.invokevirtual 88, 3) := by decide +kernel
theorem dX8_drawings_61 : decode cX8_drawings 61 = .ok (.ireturn, 1) := by decide +kernel
theorem dX8_drawings_62 : decode cX8_drawings 62 = .ok (.aload_n 0, 1) := by decide +kernel
theorem dX8_drawings_63 : decode cX8_drawings 63 = .ok (.getfield 70, 3) := by decide +kernel
theorem dX8_drawings_66 : decode cX8_drawings 66 = .ok (.astore_n 3, 1) := by decide +kernel
theorem dX8_drawings_67 : decode cX8_drawings 67 = .ok (.aload_n 0, 1) := by decide +kernel
theorem dX8_drawings_68 : decode cX8_drawings 68 = .ok (.aload_n 0, 1) := by decide +kernel
theorem dX8_drawings_69 : decode cX8_drawings 69 = .ok (.getfield 19, 3) := by decide +kernel
theorem dX8_drawings_72 : decode cX8_drawings 72 = .ok (.getfield 147, 3) := by decide +kernel
theorem dX8_drawings_75 : decode cX8_drawings 75 = .ok (.putfield 70, 3) := by decide +kernel
theorem dX8_drawings_78 : decode cX8_drawings 78 = .ok (.aload_n 0, 1) := by decide +kernel
theorem dX8_drawings_79 : decode cX8_drawings 79 = .ok (.getfield 19, 3) := by decide +kernel
theorem dX8_drawings_82 : decode cX8_drawings 82 = .ok (.aload_n 3, 1) := by decide +kernel
theorem dX8_drawings_83 : decode cX8_drawings 83 = .ok (.putfield 147, 3) := by decide +kernel
theorem dX8_drawings_86 : decode cX8_drawings 86 = .ok (.aload_n 0, 1) := by decide +kernel
theorem dX8_drawings_87 : decode cX8_drawings 87 = .ok (.iconst 1, 1) := by decide +kernel
theorem dX8_drawings_88 : decode cX8_drawings 88 = .ok (.putfield 102, 3) := by decide +kernel
theorem dX8_drawings_91 : decode cX8_drawings 91 = .ok (.aload_n 0, 1) := by decide +kernel
theorem dX8_drawings_92 : decode cX8_drawings 92 = .ok (.iconst 0, 1) := by decide +kernel
theorem dX8_drawings_93 : decode cX8_drawings 93 = .ok (.putfield 106, 3) := by decide +kernel
theorem dX8_drawings_96 : decode cX8_drawings 96 = .ok (.aload_n 0, 1) := by decide +kernel
theorem dX8_drawings_97 : decode cX8_drawings 97 = .ok (.getfield 70, 3) := by decide +kernel
theorem dX8_drawings_100 : decode cX8_drawings 100 = .ok (.getfield 150, 3) := by decide +kernel
theorem dX8_drawings_103 : decode cX8_drawings 103 = .ok (.ireturn, 1) := by decide +kernel
theorem dX8_drawing_0 : decode cX8_drawing 0 = .ok (.aload_n 0, 1) := by decide +kernel
theorem dX8_drawing_1 : decode cX8_drawing 1 = .ok (.iload_n 1, 1) := by decide +kernel
theorem dX8_drawing_2 : decode cX8_drawing 2 = .ok (.invokevirtual 153, 3) := by decide +kernel
theorem dX8_drawing_5 : decode cX8_drawing 5 = .ok (.ifCond .eq 15, 3) := by decide +kernel
theorem dX8_drawing_8 : decode cX8_drawing 8 = .ok (.aload_n 0, 1) := by decide +kernel
theorem dX8_drawing_9 : decode cX8_drawing 9 = .ok (.getfield 70, 3) := by decide +kernel
theorem dX8_drawing_12 : decode cX8_drawing 12 = .ok (.iload_n 1, 1) := by decide +kernel
theorem dX8_drawing_13 : decode cX8_drawing 13 = .ok (.iload_n 2, 1) := by decide +kernel
theorem dX8_drawing_14 : decode cX8_drawing 14 = .ok (.invokevirtual 156, 3) := by decide +kernel
theorem dX8_drawing_17 : decode cX8_drawing 17 = .ok (.goto 5, 3) := by decide +kernel
theorem dX8_drawing_20 : decode cX8_drawing 20 = .ok (.ldc 159, 2) := by decide +kernel
theorem dX8_drawing_22 : decode cX8_drawing 22 = .ok (.ireturn, 1) := by decide +kernel
theorem dX8_point_0 : decode cX8_point 0 = .ok (.aload_n 0, 1) := by decide +kernel
theorem dX8_point_1 : decode cX8_point 1 = .ok (.iload_n 1, 1) := by decide +kernel
theorem dX8_point_2 : decode cX8_point 2 = .ok (.invokevirtual 153, 3) := by decide +kernel
theorem dX8_point_5 : decode cX8_point 5 = .ok (.ifCond .eq 15, 3) := by decide +kernel
theorem dX8_point_8 : decode cX8_point 8 = .ok (.aload_n 0, 1) := by decide +kernel
theorem dX8_point_9 : decode cX8_point 9 = .ok (.getfield 70, 3) := by decide +kernel
theorem dX8_point_12 : decode cX8_point 12 = .ok (.iload_n 1, 1) := by decide +kernel
theorem dX8_point_13 : decode cX8_point 13 = .ok (.iload_n 2, 1) := by decide +kernel
theorem dX8_point_14 : decode cX8_point 14 = .ok (.invokevirtual 160, 3) := by decide +kernel
theorem dX8_point_17 : decode cX8_point 17 = .ok (.goto 4, 3) := by decide +kernel
theorem dX8_point_20 : decode cX8_point 20 = .ok (.iconst (-1), 1) := by decide +kernel
theorem dX8_point_21 : decode cX8_point 21 = .ok (.ireturn, 1) := by decide +kernel
theorem dX8_joined_0 : decode cX8_joined 0 = .ok (.aload_n 0, 1) := by decide +kernel
theorem dX8_joined_1 : decode cX8_joined 1 = .ok (.iload_n 1, 1) := by decide +kernel
theorem dX8_joined_2 : decode cX8_joined 2 = .ok (.invokevirtual 153, 3) := by decide +kernel
theorem dX8_joined_5 : decode cX8_joined 5 = .ok (.ifCond .eq 15, 3) := by decide +kernel
theorem dX8_joined_8 : decode cX8_joined 8 = .ok (.aload_n 0, 1) := by decide +kernel
theorem dX8_joined_9 : decode cX8_joined 9 = .ok (.getfield 70, 3) := by decide +kernel
theorem dX8_joined_12 : decode cX8_joined 12 = .ok (.iload_n 1, 1) := by decide +kernel
theorem dX8_joined_13 : decode cX8_joined 13 = .ok (.iload_n 2, 1) := by decide +kernel
theorem dX8_joined_14 : decode cX8_joined 14 = .ok (.invokevirtual 163, 3) := by decide +kernel
theorem dX8_joined_17 : decode cX8_joined 17 = .ok (.goto 4, 3) := by decide +kernel
theorem dX8_joined_20 : decode cX8_joined 20 = .ok (.iconst (-1), 1) := by decide +kernel
theorem dX8_joined_21 : decode cX8_joined 21 = .ok (.ireturn, 1) := by decide +kernel
theorem dX8_side_0 : decode cX8_side 0 = .ok (.aload_n 0, 1) := by decide +kernel
theorem dX8_side_1 : decode cX8_side 1 = .ok (.iload_n 1, 1) := by decide +kernel
theorem dX8_side_2 : decode cX8_side 2 = .ok (.invokevirtual 153, 3) := by decide +kernel
theorem dX8_side_5 : decode cX8_side 5 = .ok (.ifCond .eq 15, 3) := by decide +kernel
theorem dX8_side_8 : decode cX8_side 8 = .ok (.aload_n 0, 1) := by decide +kernel
theorem dX8_side_9 : decode cX8_side 9 = .ok (.getfield 70, 3) := by decide +kernel
theorem dX8_side_12 : decode cX8_side 12 = .ok (.iload_n 1, 1) := by decide +kernel
theorem dX8_side_13 : decode cX8_side 13 = .ok (.iload_n 2, 1) := by decide +kernel
theorem dX8_side_14 : decode cX8_side 14 = .ok (.invokevirtual 166, 3) := by decide +kernel
theorem dX8_side_17 : decode cX8_side 17 = .ok (.ifCond .ne 11, 3) := by decide +kernel
theorem dX8_side_20 : decode cX8_side 20 = .ok (.new 170, 3) := by decide +kernel
theorem dX8_side_23 : decode cX8_side 23 = .ok (.dup, 1) := by decide +kernel
theorem dX8_side_24 : decode cX8_side 24 = .ok (.invokespecial 172, 3) := by decide +kernel
theorem dX8_side_27 : decode cX8_side 27 = .ok (.athrow, 1) := by decide +kernel
theorem dX8_side_28 : decode cX8_side 28 = .ok (.aload_n 0, 1) := by decide +kernel
theorem dX8_side_29 : decode cX8_side 29 = .ok (.getfield 70, 3) := by decide +kernel
theorem dX8_side_32 : decode cX8_side 32 = .ok (.iload_n 1, 1) := by decide +kernel
theorem dX8_side_33 : decode cX8_side 33 = .ok (.iload_n 2, 1) := by decide +kernel
theorem dX8_side_34 : decode cX8_side 34 = .ok (.invokevirtual 173, 3) := by decide +kernel
theorem dX8_side_37 : decode cX8_side 37 = .ok (.ireturn, 1) := by decide +kernel
theorem dX8_pairings_0 : decode cX8_pairings 0 = .ok (.aload_n 0, 1) := by decide +kernel
theorem dX8_pairings_1 : decode cX8_pairings 1 = .ok (.getfield 102, 3) := by decide +kernel
theorem dX8_pairings_4 : decode cX8_pairings 4 = .ok (.ifCond .eq 13, 3) := by decide +kernel
theorem dX8_pairings_7 : decode cX8_pairings 7 = .ok (.aload_n 0, 1) := by decide +kernel
theorem dX8_pairings_8 : decode cX8_pairings 8 = .ok (.getfield 70, 3) := by decide +kernel
theorem dX8_pairings_11 : decode cX8_pairings 11 = .ok (.invokevirtual 176, 3) := by decide +kernel
theorem dX8_pairings_14 : decode cX8_pairings 14 = .ok (.goto 4, 3) := by decide +kernel
theorem dX8_pairings_17 : decode cX8_pairings 17 = .ok (.iconst (-1), 1) := by decide +kernel
theorem dX8_pairings_18 : decode cX8_pairings 18 = .ok (.ireturn, 1) := by decide +kernel
theorem dX8_same_0 : decode cX8_same 0 = .ok (.aload_n 0, 1) := by decide +kernel
theorem dX8_same_1 : decode cX8_same 1 = .ok (.iload_n 1, 1) := by decide +kernel
theorem dX8_same_2 : decode cX8_same 2 = .ok (.invokevirtual 153, 3) := by decide +kernel
theorem dX8_same_5 : decode cX8_same 5 = .ok (.ifCond .ne 5, 3) := by decide +kernel
theorem dX8_same_8 : decode cX8_same 8 = .ok (.iconst (-1), 1) := by decide +kernel
theorem dX8_same_9 : decode cX8_same 9 = .ok (.ireturn, 1) := by decide +kernel
theorem dX8_same_10 : decode cX8_same 10 = .ok (.aload_n 0, 1) := by decide +kernel
theorem dX8_same_11 : decode cX8_same 11 = .ok (.getfield 70, 3) := by decide +kernel
theorem dX8_same_14 : decode cX8_same 14 = .ok (.iload_n 1, 1) := by decide +kernel
theorem dX8_same_15 : decode cX8_same 15 = .ok (.invokevirtual 180, 3) := by decide +kernel
theorem dX8_same_18 : decode cX8_same 18 = .ok (.istore 8, 2) := by decide +kernel
theorem dX8_same_20 : decode cX8_same 20 = .ok (.iload_n 2, 1) := by decide +kernel
theorem dX8_same_21 : decode cX8_same 21 = .ok (.iconst 0, 1) := by decide +kernel
theorem dX8_same_22 : decode cX8_same 22 = .ok (.iload 8, 2) := by decide +kernel
theorem dX8_same_24 : decode cX8_same 24 = .ok (.lconst 0, 1) := by decide +kernel
theorem dX8_same_25 : decode cX8_same 25 = .ok (.invokestatic 183, 3) := by decide +kernel
theorem dX8_same_28 : decode cX8_same 28 = .ok (.lstore 9, 2) := by decide +kernel
theorem dX8_same_30 : decode cX8_same 30 = .ok (.iload_n 3, 1) := by decide +kernel
theorem dX8_same_31 : decode cX8_same 31 = .ok (.iconst 2, 1) := by decide +kernel
theorem dX8_same_32 : decode cX8_same 32 = .ok (.iload 8, 2) := by decide +kernel
theorem dX8_same_34 : decode cX8_same 34 = .ok (.lload 9, 2) := by decide +kernel
theorem dX8_same_36 : decode cX8_same 36 = .ok (.invokestatic 183, 3) := by decide +kernel
theorem dX8_same_39 : decode cX8_same 39 = .ok (.lstore 9, 2) := by decide +kernel
theorem dX8_same_41 : decode cX8_same 41 = .ok (.iload 4, 2) := by decide +kernel
theorem dX8_same_43 : decode cX8_same 43 = .ok (.iconst 4, 1) := by decide +kernel
theorem dX8_same_44 : decode cX8_same 44 = .ok (.iload 8, 2) := by decide +kernel
theorem dX8_same_46 : decode cX8_same 46 = .ok (.lload 9, 2) := by decide +kernel
theorem dX8_same_48 : decode cX8_same 48 = .ok (.invokestatic 183, 3) := by decide +kernel
theorem dX8_same_51 : decode cX8_same 51 = .ok (.lstore 9, 2) := by decide +kernel
theorem dX8_same_53 : decode cX8_same 53 = .ok (.iload 5, 2) := by decide +kernel
theorem dX8_same_55 : decode cX8_same 55 = .ok (.bipush 6, 2) := by decide +kernel
theorem dX8_same_57 : decode cX8_same 57 = .ok (.iload 8, 2) := by decide +kernel
theorem dX8_same_59 : decode cX8_same 59 = .ok (.lload 9, 2) := by decide +kernel
theorem dX8_same_61 : decode cX8_same 61 = .ok (.invokestatic 183, 3) := by decide +kernel
theorem dX8_same_64 : decode cX8_same 64 = .ok (.lstore 9, 2) := by decide +kernel
theorem dX8_same_66 : decode cX8_same 66 = .ok (.iload 6, 2) := by decide +kernel
theorem dX8_same_68 : decode cX8_same 68 = .ok (.bipush 8, 2) := by decide +kernel
theorem dX8_same_70 : decode cX8_same 70 = .ok (.iload 8, 2) := by decide +kernel
theorem dX8_same_72 : decode cX8_same 72 = .ok (.lload 9, 2) := by decide +kernel
theorem dX8_same_74 : decode cX8_same 74 = .ok (.invokestatic 183, 3) := by decide +kernel
theorem dX8_same_77 : decode cX8_same 77 = .ok (.lstore 9, 2) := by decide +kernel
theorem dX8_same_79 : decode cX8_same 79 = .ok (.iload 7, 2) := by decide +kernel
theorem dX8_same_81 : decode cX8_same 81 = .ok (.bipush 10, 2) := by decide +kernel
theorem dX8_same_83 : decode cX8_same 83 = .ok (.iload 8, 2) := by decide +kernel
theorem dX8_same_85 : decode cX8_same 85 = .ok (.lload 9, 2) := by decide +kernel
theorem dX8_same_87 : decode cX8_same 87 = .ok (.invokestatic 183, 3) := by decide +kernel
theorem dX8_same_90 : decode cX8_same 90 = .ok (.lstore 9, 2) := by decide +kernel
theorem dX8_same_92 : decode cX8_same 92 = .ok (.lload 9, 2) := by decide +kernel
theorem dX8_same_94 : decode cX8_same 94 = .ok (.lconst 0, 1) := by decide +kernel
theorem dX8_same_95 : decode cX8_same 95 = .ok (.lcmp, 1) := by decide +kernel
theorem dX8_same_96 : decode cX8_same 96 = .ok (.ifCond .ge 6, 3) := by decide +kernel
theorem dX8_same_99 : decode cX8_same 99 = .ok (.bipush (-2), 2) := by decide +kernel
theorem dX8_same_101 : decode cX8_same 101 = .ok (.ireturn, 1) := by decide +kernel
theorem dX8_same_102 : decode cX8_same 102 = .ok (.aload_n 0, 1) := by decide +kernel
theorem dX8_same_103 : decode cX8_same 103 = .ok (.getfield 19, 3) := by decide +kernel
theorem dX8_same_106 : decode cX8_same 106 = .ok (.aload_n 0, 1) := by decide +kernel
theorem dX8_same_107 : decode cX8_same 107 = .ok (.getfield 63, 3) := by decide +kernel
theorem dX8_same_110 : decode cX8_same 110 = .ok (.aload_n 0, 1) := by decide +kernel
theorem dX8_same_111 : decode cX8_same 111 = .ok (.getfield 33, 3) := by decide +kernel
theorem dX8_same_114 : decode cX8_same 114 = .ok (.aload_n 0, 1) := by decide +kernel
theorem dX8_same_115 : decode cX8_same 115 = .ok (.getfield 70, 3) := by decide +kernel
theorem dX8_same_118 : decode cX8_same 118 = .ok (.getfield 187, 3) := by decide +kernel
theorem dX8_same_121 : decode cX8_same 121 = .ok (.aload_n 0, 1) := by decide +kernel
theorem dX8_same_122 : decode cX8_same 122 = .ok (.getfield 70, 3) := by decide +kernel
theorem dX8_same_125 : decode cX8_same 125 = .ok (.iload_n 1, 1) := by decide +kernel
theorem dX8_same_126 : decode cX8_same 126 = .ok (.invokevirtual 190, 3) := by decide +kernel
theorem dX8_same_129 : decode cX8_same 129 = .ok (.lload 9, 2) := by decide +kernel
theorem dX8_same_131 : decode cX8_same 131 = .ok (.invokevirtual 193, 3) := by decide +kernel
theorem dX8_same_134 : decode cX8_same 134 = .ok (.lstore 11, 2) := by decide +kernel
theorem dX8_same_136 : decode cX8_same 136 = .ok (.lload 11, 2) := by decide +kernel
theorem dX8_same_138 : decode cX8_same 138 = .ok (.lconst 0, 1) := by decide +kernel
theorem dX8_same_139 : decode cX8_same 139 = .ok (.lcmp, 1) := by decide +kernel
theorem dX8_same_140 : decode cX8_same 140 = .ok (.ifCond .ge 8, 3) := by decide +kernel
theorem dX8_same_143 : decode cX8_same 143 = .ok (.bipush (-2), 2) := by decide +kernel
theorem dX8_same_145 : decode cX8_same 145 = .ok (.goto 20, 3) := by decide +kernel
theorem dX8_same_148 : decode cX8_same 148 = .ok (.aload_n 0, 1) := by decide +kernel
theorem dX8_same_149 : decode cX8_same 149 = .ok (.getfield 70, 3) := by decide +kernel
theorem dX8_same_152 : decode cX8_same 152 = .ok (.aload_n 0, 1) := by decide +kernel
theorem dX8_same_153 : decode cX8_same 153 = .ok (.getfield 70, 3) := by decide +kernel
theorem dX8_same_156 : decode cX8_same 156 = .ok (.iload_n 1, 1) := by decide +kernel
theorem dX8_same_157 : decode cX8_same 157 = .ok (.invokevirtual 197, 3) := by decide +kernel
theorem dX8_same_160 : decode cX8_same 160 = .ok (.lload 11, 2) := by decide +kernel
theorem dX8_same_162 : decode cX8_same 162 = .ok (.invokevirtual 200, 3) := by decide +kernel
theorem dX8_same_165 : decode cX8_same 165 = .ok (.ireturn, 1) := by decide +kernel
theorem dX8_sum_0 : decode cX8_sum 0 = .ok (.aload_n 0, 1) := by decide +kernel
theorem dX8_sum_1 : decode cX8_sum 1 = .ok (.iload_n 1, 1) := by decide +kernel
theorem dX8_sum_2 : decode cX8_sum 2 = .ok (.iload_n 2, 1) := by decide +kernel
theorem dX8_sum_3 : decode cX8_sum 3 = .ok (.iload_n 3, 1) := by decide +kernel
theorem dX8_sum_4 : decode cX8_sum 4 = .ok (.invokevirtual 204, 3) := by decide +kernel
theorem dX8_sum_7 : decode cX8_sum 7 = .ok (.ifCond .ne 7, 3) := by decide +kernel
theorem dX8_sum_10 : decode cX8_sum 10 = .ok (.ldc2_w 208, 3) := by decide +kernel
theorem dX8_sum_13 : decode cX8_sum 13 = .ok (.lreturn, 1) := by decide +kernel
theorem dX8_sum_14 : decode cX8_sum 14 = .ok (.aload_n 0, 1) := by decide +kernel
theorem dX8_sum_15 : decode cX8_sum 15 = .ok (.iload_n 1, 1) := by decide +kernel
theorem dX8_sum_16 : decode cX8_sum 16 = .ok (.iload_n 2, 1) := by decide +kernel
theorem dX8_sum_17 : decode cX8_sum 17 = .ok (.iload_n 3, 1) := by decide +kernel
theorem dX8_sum_18 : decode cX8_sum 18 = .ok (.invokestatic 210, 3) := by decide +kernel
theorem dX8_sum_21 : decode cX8_sum 21 = .ok (.iconst 0, 1) := by decide +kernel
theorem dX8_sum_22 : decode cX8_sum 22 = .ok (.iload 4, 2) := by decide +kernel
theorem dX8_sum_24 : decode cX8_sum 24 = .ok (.invokevirtual 214, 3) := by decide +kernel
theorem dX8_sum_27 : decode cX8_sum 27 = .ok (.lreturn, 1) := by decide +kernel
theorem dX8_byPairings_0 : decode cX8_byPairings 0 = .ok (.aload_n 0, 1) := by decide +kernel
theorem dX8_byPairings_1 : decode cX8_byPairings 1 = .ok (.iload_n 1, 1) := by decide +kernel
theorem dX8_byPairings_2 : decode cX8_byPairings 2 = .ok (.iload_n 2, 1) := by decide +kernel
theorem dX8_byPairings_3 : decode cX8_byPairings 3 = .ok (.iload_n 3, 1) := by decide +kernel
theorem dX8_byPairings_4 : decode cX8_byPairings 4 = .ok (.invokevirtual 204, 3) := by decide +kernel
theorem dX8_byPairings_7 : decode cX8_byPairings 7 = .ok (.ifCond .ne 7, 3) := by decide +kernel
theorem dX8_byPairings_10 : decode cX8_byPairings 10 = .ok (.ldc2_w 208, 3) := by decide +kernel
theorem dX8_byPairings_13 : decode cX8_byPairings 13 = .ok (.lreturn, 1) := by decide +kernel
theorem dX8_byPairings_14 : decode cX8_byPairings 14 = .ok (.aload_n 0, 1) := by decide +kernel
theorem dX8_byPairings_15 : decode cX8_byPairings 15 = .ok (.getfield 19, 3) := by decide +kernel
theorem dX8_byPairings_18 : decode cX8_byPairings 18 = .ok (.aload_n 0, 1) := by decide +kernel
theorem dX8_byPairings_19 : decode cX8_byPairings 19 = .ok (.getfield 63, 3) := by decide +kernel
theorem dX8_byPairings_22 : decode cX8_byPairings 22 = .ok (.aload_n 0, 1) := by decide +kernel
theorem dX8_byPairings_23 : decode cX8_byPairings 23 = .ok (.getfield 33, 3) := by decide +kernel
theorem dX8_byPairings_26 : decode cX8_byPairings 26 = .ok (.aload_n 0, 1) := by decide +kernel
theorem dX8_byPairings_27 : decode cX8_byPairings 27 = .ok (.getfield 70, 3) := by decide +kernel
theorem dX8_byPairings_30 : decode cX8_byPairings 30 = .ok (.iload_n 1, 1) := by decide +kernel
theorem dX8_byPairings_31 : decode cX8_byPairings 31 = .ok (.iload_n 2, 1) := by decide +kernel
theorem dX8_byPairings_32 : decode cX8_byPairings 32 = .ok (.iload_n 3, 1) := by decide +kernel
theorem dX8_byPairings_33 : decode cX8_byPairings 33 = .ok (.invokestatic 210, 3) := by decide +kernel
theorem dX8_byPairings_36 : decode cX8_byPairings 36 = .ok (.invokevirtual 218, 3) := by decide +kernel
theorem dX8_byPairings_39 : decode cX8_byPairings 39 = .ok (.aload_n 0, 1) := by decide +kernel
theorem dX8_byPairings_40 : decode cX8_byPairings 40 = .ok (.iload_n 1, 1) := by decide +kernel
theorem dX8_byPairings_41 : decode cX8_byPairings 41 = .ok (.iload_n 2, 1) := by decide +kernel
theorem dX8_byPairings_42 : decode cX8_byPairings 42 = .ok (.iload_n 3, 1) := by decide +kernel
theorem dX8_byPairings_43 : decode cX8_byPairings 43 = .ok (.invokestatic 210, 3) := by decide +kernel
theorem dX8_byPairings_46 : decode cX8_byPairings 46 = .ok (.iconst 1, 1) := by decide +kernel
theorem dX8_byPairings_47 : decode cX8_byPairings 47 = .ok (.iload 4, 2) := by decide +kernel
theorem dX8_byPairings_49 : decode cX8_byPairings 49 = .ok (.invokevirtual 214, 3) := by decide +kernel
theorem dX8_byPairings_52 : decode cX8_byPairings 52 = .ok (.lreturn, 1) := by decide +kernel
theorem dX8_number_0 : decode cX8_number 0 = .ok (.iload_n 1, 1) := by decide +kernel
theorem dX8_number_1 : decode cX8_number 1 = .ok (.ifCond .lt 14, 3) := by decide +kernel
theorem dX8_number_4 : decode cX8_number 4 = .ok (.iload_n 1, 1) := by decide +kernel
theorem dX8_number_5 : decode cX8_number 5 = .ok (.aload_n 0, 1) := by decide +kernel
theorem dX8_number_6 : decode cX8_number 6 = .ok (.getfield 33, 3) := by decide +kernel
theorem dX8_number_9 : decode cX8_number 9 = .ok (.getfield 222, 3) := by decide +kernel
theorem dX8_number_12 : decode cX8_number 12 = .ok (.if_icmp .lt 9, 3) := by decide +kernel
theorem dX8_number_15 : decode cX8_number 15 = .ok (.aload_n 0, 1) := by decide +kernel
theorem dX8_number_16 : decode cX8_number 16 = .ok (.iconst 1, 1) := by decide +kernel
theorem dX8_number_17 : decode cX8_number 17 = .ok (.invokevirtual 223, 3) := by decide +kernel
theorem dX8_number_20 : decode cX8_number 20 = .ok (.ireturn, 1) := by decide +kernel
theorem dX8_number_21 : decode cX8_number 21 = .ok (.iload_n 2, 1) := by decide +kernel
theorem dX8_number_22 : decode cX8_number 22 = .ok (.sipush (-999), 3) := by decide +kernel
theorem dX8_number_25 : decode cX8_number 25 = .ok (.if_icmp .lt 10, 3) := by decide +kernel
theorem dX8_number_28 : decode cX8_number 28 = .ok (.iload_n 2, 1) := by decide +kernel
theorem dX8_number_29 : decode cX8_number 29 = .ok (.sipush 999, 3) := by decide +kernel
theorem dX8_number_32 : decode cX8_number 32 = .ok (.if_icmp .le 9, 3) := by decide +kernel
theorem dX8_number_35 : decode cX8_number 35 = .ok (.aload_n 0, 1) := by decide +kernel
theorem dX8_number_36 : decode cX8_number 36 = .ok (.iconst 2, 1) := by decide +kernel
theorem dX8_number_37 : decode cX8_number 37 = .ok (.invokevirtual 223, 3) := by decide +kernel
theorem dX8_number_40 : decode cX8_number 40 = .ok (.ireturn, 1) := by decide +kernel
theorem dX8_number_41 : decode cX8_number 41 = .ok (.aload_n 0, 1) := by decide +kernel
theorem dX8_number_42 : decode cX8_number 42 = .ok (.getfield 33, 3) := by decide +kernel
theorem dX8_number_45 : decode cX8_number 45 = .ok (.getfield 226, 3) := by decide +kernel
theorem dX8_number_48 : decode cX8_number 48 = .ok (.iload_n 1, 1) := by decide +kernel
theorem dX8_number_49 : decode cX8_number 49 = .ok (.iload_n 2, 1) := by decide +kernel
theorem dX8_number_50 : decode cX8_number 50 = .ok (.iastore, 1) := by decide +kernel
theorem dX8_number_51 : decode cX8_number 51 = .ok (.aload_n 0, 1) := by decide +kernel
theorem dX8_number_52 : decode cX8_number 52 = .ok (.iconst 0, 1) := by decide +kernel
theorem dX8_number_53 : decode cX8_number 53 = .ok (.invokevirtual 223, 3) := by decide +kernel
theorem dX8_number_56 : decode cX8_number 56 = .ok (.ireturn, 1) := by decide +kernel
theorem dX8_letter_0 : decode cX8_letter 0 = .ok (.aload_n 0, 1) := by decide +kernel
theorem dX8_letter_1 : decode cX8_letter 1 = .ok (.getfield 63, 3) := by decide +kernel
theorem dX8_letter_4 : decode cX8_letter 4 = .ok (.invokevirtual 128, 3) := by decide +kernel
theorem dX8_letter_7 : decode cX8_letter 7 = .ok (.ifCond .eq 12, 3) := by decide +kernel
theorem dX8_letter_10 : decode cX8_letter 10 = .ok (.iload_n 1, 1) := by decide +kernel
theorem dX8_letter_11 : decode cX8_letter 11 = .ok (.ifCond .lt 8, 3) := by decide +kernel
theorem dX8_letter_14 : decode cX8_letter 14 = .ok (.iload_n 1, 1) := by decide +kernel
theorem dX8_letter_15 : decode cX8_letter 15 = .ok (.iconst 3, 1) := by decide +kernel
theorem dX8_letter_16 : decode cX8_letter 16 = .ok (.if_icmp .lt 9, 3) := by decide +kernel
theorem dX8_letter_19 : decode cX8_letter 19 = .ok (.aload_n 0, 1) := by decide +kernel
theorem dX8_letter_20 : decode cX8_letter 20 = .ok (.iconst 1, 1) := by decide +kernel
theorem dX8_letter_21 : decode cX8_letter 21 = .ok (.invokevirtual 223, 3) := by decide +kernel
theorem dX8_letter_24 : decode cX8_letter 24 = .ok (.ireturn, 1) := by decide +kernel
theorem dX8_letter_25 : decode cX8_letter 25 = .ok (.iload_n 2, 1) := by decide +kernel
theorem dX8_letter_26 : decode cX8_letter 26 = .ok (.bipush (-99), 2) := by decide +kernel
theorem dX8_letter_28 : decode cX8_letter 28 = .ok (.if_icmp .lt 9, 3) := by decide +kernel
theorem dX8_letter_31 : decode cX8_letter 31 = .ok (.iload_n 2, 1) := by decide +kernel
theorem dX8_letter_32 : decode cX8_letter 32 = .ok (.bipush 99, 2) := by decide +kernel
theorem dX8_letter_34 : decode cX8_letter 34 = .ok (.if_icmp .le 9, 3) := by decide +kernel
theorem dX8_letter_37 : decode cX8_letter 37 = .ok (.aload_n 0, 1) := by decide +kernel
theorem dX8_letter_38 : decode cX8_letter 38 = .ok (.iconst 2, 1) := by decide +kernel
theorem dX8_letter_39 : decode cX8_letter 39 = .ok (.invokevirtual 223, 3) := by decide +kernel
theorem dX8_letter_42 : decode cX8_letter 42 = .ok (.ireturn, 1) := by decide +kernel
theorem dX8_letter_43 : decode cX8_letter 43 = .ok (.aload_n 0, 1) := by decide +kernel
theorem dX8_letter_44 : decode cX8_letter 44 = .ok (.getfield 53, 3) := by decide +kernel
theorem dX8_letter_47 : decode cX8_letter 47 = .ok (.iload_n 1, 1) := by decide +kernel
theorem dX8_letter_48 : decode cX8_letter 48 = .ok (.iload_n 2, 1) := by decide +kernel
theorem dX8_letter_49 : decode cX8_letter 49 = .ok (.iastore, 1) := by decide +kernel
theorem dX8_letter_50 : decode cX8_letter 50 = .ok (.aload_n 0, 1) := by decide +kernel
theorem dX8_letter_51 : decode cX8_letter 51 = .ok (.iconst 0, 1) := by decide +kernel
theorem dX8_letter_52 : decode cX8_letter 52 = .ok (.invokevirtual 223, 3) := by decide +kernel
theorem dX8_letter_55 : decode cX8_letter 55 = .ok (.ireturn, 1) := by decide +kernel
theorem dX8_at_0 : decode cX8_at 0 = .ok (.aload_n 0, 1) := by decide +kernel
theorem dX8_at_1 : decode cX8_at 1 = .ok (.iload_n 1, 1) := by decide +kernel
theorem dX8_at_2 : decode cX8_at 2 = .ok (.invokevirtual 136, 3) := by decide +kernel
theorem dX8_at_5 : decode cX8_at 5 = .ok (.istore_n 2, 1) := by decide +kernel
theorem dX8_at_6 : decode cX8_at 6 = .ok (.iload_n 2, 1) := by decide +kernel
theorem dX8_at_7 : decode cX8_at 7 = .ok (.ifCond .ne 11, 3) := by decide +kernel
theorem dX8_at_10 : decode cX8_at 10 = .ok (.aload_n 0, 1) := by decide +kernel
theorem dX8_at_11 : decode cX8_at 11 = .ok (.iload_n 1, 1) := by decide +kernel
theorem dX8_at_12 : decode cX8_at 12 = .ok (.iconst 0, 1) := by decide +kernel
theorem dX8_at_13 : decode cX8_at 13 = .ok (.iconst (-1), 1) := by decide +kernel
theorem dX8_at_14 : decode cX8_at 14 = .ok (.invokevirtual 229, 3) := by decide +kernel
theorem dX8_at_17 : decode cX8_at 17 = .ok (.istore_n 2, 1) := by decide +kernel
theorem dX8_at_18 : decode cX8_at 18 = .ok (.aload_n 0, 1) := by decide +kernel
theorem dX8_at_19 : decode cX8_at 19 = .ok (.iload_n 2, 1) := by decide +kernel
theorem dX8_at_20 : decode cX8_at 20 = .ok (.invokevirtual 223, 3) := by decide +kernel
theorem dX8_at_23 : decode cX8_at 23 = .ok (.ireturn, 1) := by decide +kernel
theorem dX8_parted_0 : decode cX8_parted 0 = .ok (.aload_n 0, 1) := by decide +kernel
theorem dX8_parted_1 : decode cX8_parted 1 = .ok (.iload_n 1, 1) := by decide +kernel
theorem dX8_parted_2 : decode cX8_parted 2 = .ok (.iload_n 2, 1) := by decide +kernel
theorem dX8_parted_3 : decode cX8_parted 3 = .ok (.iload_n 3, 1) := by decide +kernel
theorem dX8_parted_4 : decode cX8_parted 4 = .ok (.invokevirtual 232, 3) := by decide +kernel
theorem dX8_parted_7 : decode cX8_parted 7 = .ok (.istore 4, 2) := by decide +kernel
theorem dX8_parted_9 : decode cX8_parted 9 = .ok (.iload 4, 2) := by decide +kernel
theorem dX8_parted_11 : decode cX8_parted 11 = .ok (.ifCond .ne 12, 3) := by decide +kernel
theorem dX8_parted_14 : decode cX8_parted 14 = .ok (.aload_n 0, 1) := by decide +kernel
theorem dX8_parted_15 : decode cX8_parted 15 = .ok (.iload_n 1, 1) := by decide +kernel
theorem dX8_parted_16 : decode cX8_parted 16 = .ok (.iload_n 2, 1) := by decide +kernel
theorem dX8_parted_17 : decode cX8_parted 17 = .ok (.iload_n 3, 1) := by decide +kernel
theorem dX8_parted_18 : decode cX8_parted 18 = .ok (.invokevirtual 235, 3) := by decide +kernel
theorem dX8_parted_21 : decode cX8_parted 21 = .ok (.istore 4, 2) := by decide +kernel
theorem dX8_parted_23 : decode cX8_parted 23 = .ok (.aload_n 0, 1) := by decide +kernel
theorem dX8_parted_24 : decode cX8_parted 24 = .ok (.iload 4, 2) := by decide +kernel
theorem dX8_parted_26 : decode cX8_parted 26 = .ok (.invokevirtual 223, 3) := by decide +kernel
theorem dX8_parted_29 : decode cX8_parted 29 = .ok (.ireturn, 1) := by decide +kernel
theorem dX8_whole_0 : decode cX8_whole 0 = .ok (.aload_n 0, 1) := by decide +kernel
theorem dX8_whole_1 : decode cX8_whole 1 = .ok (.iload_n 1, 1) := by decide +kernel
theorem dX8_whole_2 : decode cX8_whole 2 = .ok (.iload_n 2, 1) := by decide +kernel
theorem dX8_whole_3 : decode cX8_whole 3 = .ok (.iload_n 3, 1) := by decide +kernel
theorem dX8_whole_4 : decode cX8_whole 4 = .ok (.invokevirtual 232, 3) := by decide +kernel
theorem dX8_whole_7 : decode cX8_whole 7 = .ok (.istore 4, 2) := by decide +kernel
theorem dX8_whole_9 : decode cX8_whole 9 = .ok (.iload 4, 2) := by decide +kernel
theorem dX8_whole_11 : decode cX8_whole 11 = .ok (.ifCond .ne 20, 3) := by decide +kernel
theorem dX8_whole_14 : decode cX8_whole 14 = .ok (.aload_n 0, 1) := by decide +kernel
theorem dX8_whole_15 : decode cX8_whole 15 = .ok (.iload_n 3, 1) := by decide +kernel
theorem dX8_whole_16 : decode cX8_whole 16 = .ok (.iload_n 1, 1) := by decide +kernel
theorem dX8_whole_17 : decode cX8_whole 17 = .ok (.aload_n 0, 1) := by decide +kernel
theorem dX8_whole_18 : decode cX8_whole 18 = .ok (.getfield 63, 3) := by decide +kernel
theorem dX8_whole_21 : decode cX8_whole 21 = .ok (.iload_n 2, 1) := by decide +kernel
theorem dX8_whole_22 : decode cX8_whole 22 = .ok (.iconst 0, 1) := by decide +kernel
theorem dX8_whole_23 : decode cX8_whole 23 = .ok (.invokevirtual 118, 3) := by decide +kernel
theorem dX8_whole_26 : decode cX8_whole 26 = .ok (.invokevirtual 229, 3) := by decide +kernel
theorem dX8_whole_29 : decode cX8_whole 29 = .ok (.istore 4, 2) := by decide +kernel
theorem dX8_whole_31 : decode cX8_whole 31 = .ok (.aload_n 0, 1) := by decide +kernel
theorem dX8_whole_32 : decode cX8_whole 32 = .ok (.iload 4, 2) := by decide +kernel
theorem dX8_whole_34 : decode cX8_whole 34 = .ok (.invokevirtual 223, 3) := by decide +kernel
theorem dX8_whole_37 : decode cX8_whole 37 = .ok (.ireturn, 1) := by decide +kernel
theorem dX8_worth_0 : decode cX8_worth 0 = .ok (.aload_n 0, 1) := by decide +kernel
theorem dX8_worth_1 : decode cX8_worth 1 = .ok (.getfield 238, 3) := by decide +kernel
theorem dX8_worth_4 : decode cX8_worth 4 = .ok (.ifCond .ne 7, 3) := by decide +kernel
theorem dX8_worth_7 : decode cX8_worth 7 = .ok (.ldc2_w 208, 3) := by decide +kernel
theorem dX8_worth_10 : decode cX8_worth 10 = .ok (.lreturn, 1) := by decide +kernel
theorem dX8_worth_11 : decode cX8_worth 11 = .ok (.iload_n 1, 1) := by decide +kernel
theorem dX8_worth_12 : decode cX8_worth 12 = .ok (.ifCond .eq 13, 3) := by decide +kernel
theorem dX8_worth_15 : decode cX8_worth 15 = .ok (.aload_n 0, 1) := by decide +kernel
theorem dX8_worth_16 : decode cX8_worth 16 = .ok (.getfield 74, 3) := by decide +kernel
theorem dX8_worth_19 : decode cX8_worth 19 = .ok (.getfield 241, 3) := by decide +kernel
theorem dX8_worth_22 : decode cX8_worth 22 = .ok (.goto 10, 3) := by decide +kernel
theorem dX8_worth_25 : decode cX8_worth 25 = .ok (.aload_n 0, 1) := by decide +kernel
theorem dX8_worth_26 : decode cX8_worth 26 = .ok (.getfield 74, 3) := by decide +kernel
theorem dX8_worth_29 : decode cX8_worth 29 = .ok (.getfield 245, 3) := by decide +kernel
theorem dX8_worth_32 : decode cX8_worth 32 = .ok (.lreturn, 1) := by decide +kernel
theorem dX8_rest_0 : decode cX8_rest 0 = .ok (.aload_n 0, 1) := by decide +kernel
theorem dX8_rest_1 : decode cX8_rest 1 = .ok (.getfield 238, 3) := by decide +kernel
theorem dX8_rest_4 : decode cX8_rest 4 = .ok (.ifCond .eq 14, 3) := by decide +kernel
theorem dX8_rest_7 : decode cX8_rest 7 = .ok (.aload_n 0, 1) := by decide +kernel
theorem dX8_rest_8 : decode cX8_rest 8 = .ok (.getfield 74, 3) := by decide +kernel
theorem dX8_rest_11 : decode cX8_rest 11 = .ok (.iload_n 1, 1) := by decide +kernel
theorem dX8_rest_12 : decode cX8_rest 12 = .ok (.invokevirtual 248, 3) := by decide +kernel
theorem dX8_rest_15 : decode cX8_rest 15 = .ok (.goto 4, 3) := by decide +kernel
theorem dX8_rest_18 : decode cX8_rest 18 = .ok (.iconst (-1), 1) := by decide +kernel
theorem dX8_rest_19 : decode cX8_rest 19 = .ok (.ireturn, 1) := by decide +kernel
theorem dX8_pole_0 : decode cX8_pole 0 = .ok (.aload_n 0, 1) := by decide +kernel
theorem dX8_pole_1 : decode cX8_pole 1 = .ok (.getfield 106, 3) := by decide +kernel
theorem dX8_pole_4 : decode cX8_pole 4 = .ok (.iconst 5, 1) := by decide +kernel
theorem dX8_pole_5 : decode cX8_pole 5 = .ok (.if_icmp .ne 10, 3) := by decide +kernel
theorem dX8_pole_8 : decode cX8_pole 8 = .ok (.aload_n 0, 1) := by decide +kernel
theorem dX8_pole_9 : decode cX8_pole 9 = .ok (.getfield 251, 3) := by decide +kernel
theorem dX8_pole_12 : decode cX8_pole 12 = .ok (.goto 4, 3) := by decide +kernel
theorem dX8_pole_15 : decode cX8_pole 15 = .ok (.iconst (-1), 1) := by decide +kernel
theorem dX8_pole_16 : decode cX8_pole 16 = .ok (.ireturn, 1) := by decide +kernel
theorem dX8_count_0 : decode cX8_count 0 = .ok (.iload_n 1, 1) := by decide +kernel
theorem dX8_count_1 : decode cX8_count 1 = .ok (.tableswitch 155 0 7 #[47, 55, 63, 71, 90, 109, 128, 147], 47) := by decide +kernel
theorem dX8_count_48 : decode cX8_count 48 = .ok (.aload_n 0, 1) := by decide +kernel
theorem dX8_count_49 : decode cX8_count 49 = .ok (.getfield 63, 3) := by decide +kernel
theorem dX8_count_52 : decode cX8_count 52 = .ok (.getfield 109, 3) := by decide +kernel
theorem dX8_count_55 : decode cX8_count 55 = .ok (.ireturn, 1) := by decide +kernel
theorem dX8_count_56 : decode cX8_count 56 = .ok (.aload_n 0, 1) := by decide +kernel
theorem dX8_count_57 : decode cX8_count 57 = .ok (.getfield 63, 3) := by decide +kernel
theorem dX8_count_60 : decode cX8_count 60 = .ok (.getfield 254, 3) := by decide +kernel
theorem dX8_count_63 : decode cX8_count 63 = .ok (.ireturn, 1) := by decide +kernel
theorem dX8_count_64 : decode cX8_count 64 = .ok (.aload_n 0, 1) := by decide +kernel
theorem dX8_count_65 : decode cX8_count 65 = .ok (.getfield 33, 3) := by decide +kernel
theorem dX8_count_68 : decode cX8_count 68 = .ok (.getfield 222, 3) := by decide +kernel
theorem dX8_count_71 : decode cX8_count 71 = .ok (.ireturn, 1) := by decide +kernel
theorem dX8_count_72 : decode cX8_count 72 = .ok (.aload_n 0, 1) := by decide +kernel
theorem dX8_count_73 : decode cX8_count 73 = .ok (.getfield 102, 3) := by decide +kernel
theorem dX8_count_76 : decode cX8_count 76 = .ok (.ifCond .eq 13, 3) := by decide +kernel
theorem dX8_count_79 : decode cX8_count 79 = .ok (.aload_n 0, 1) := by decide +kernel
theorem dX8_count_80 : decode cX8_count 80 = .ok (.getfield 70, 3) := by decide +kernel
theorem dX8_count_83 : decode cX8_count 83 = .ok (.getfield 150, 3) := by decide +kernel
theorem dX8_count_86 : decode cX8_count 86 = .ok (.goto 4, 3) := by decide +kernel
theorem dX8_count_89 : decode cX8_count 89 = .ok (.iconst 0, 1) := by decide +kernel
theorem dX8_count_90 : decode cX8_count 90 = .ok (.ireturn, 1) := by decide +kernel
theorem dX8_count_91 : decode cX8_count 91 = .ok (.aload_n 0, 1) := by decide +kernel
theorem dX8_count_92 : decode cX8_count 92 = .ok (.getfield 102, 3) := by decide +kernel
theorem dX8_count_95 : decode cX8_count 95 = .ok (.ifCond .eq 13, 3) := by decide +kernel
theorem dX8_count_98 : decode cX8_count 98 = .ok (.aload_n 0, 1) := by decide +kernel
theorem dX8_count_99 : decode cX8_count 99 = .ok (.getfield 70, 3) := by decide +kernel
theorem dX8_count_102 : decode cX8_count 102 = .ok (.getfield 187, 3) := by decide +kernel
theorem dX8_count_105 : decode cX8_count 105 = .ok (.goto 4, 3) := by decide +kernel
theorem dX8_count_108 : decode cX8_count 108 = .ok (.iconst 0, 1) := by decide +kernel
theorem dX8_count_109 : decode cX8_count 109 = .ok (.ireturn, 1) := by decide +kernel
theorem dX8_count_110 : decode cX8_count 110 = .ok (.aload_n 0, 1) := by decide +kernel
theorem dX8_count_111 : decode cX8_count 111 = .ok (.getfield 102, 3) := by decide +kernel
theorem dX8_count_114 : decode cX8_count 114 = .ok (.ifCond .eq 13, 3) := by decide +kernel
theorem dX8_count_117 : decode cX8_count 117 = .ok (.aload_n 0, 1) := by decide +kernel
theorem dX8_count_118 : decode cX8_count 118 = .ok (.getfield 70, 3) := by decide +kernel
theorem dX8_count_121 : decode cX8_count 121 = .ok (.invokevirtual 257, 3) := by decide +kernel
theorem dX8_count_124 : decode cX8_count 124 = .ok (.goto 4, 3) := by decide +kernel
theorem dX8_count_127 : decode cX8_count 127 = .ok (.iconst 0, 1) := by decide +kernel
theorem dX8_count_128 : decode cX8_count 128 = .ok (.ireturn, 1) := by decide +kernel
theorem dX8_count_129 : decode cX8_count 129 = .ok (.aload_n 0, 1) := by decide +kernel
theorem dX8_count_130 : decode cX8_count 130 = .ok (.getfield 102, 3) := by decide +kernel
theorem dX8_count_133 : decode cX8_count 133 = .ok (.ifCond .eq 13, 3) := by decide +kernel
theorem dX8_count_136 : decode cX8_count 136 = .ok (.aload_n 0, 1) := by decide +kernel
theorem dX8_count_137 : decode cX8_count 137 = .ok (.getfield 70, 3) := by decide +kernel
theorem dX8_count_140 : decode cX8_count 140 = .ok (.invokevirtual 260, 3) := by decide +kernel
theorem dX8_count_143 : decode cX8_count 143 = .ok (.goto 4, 3) := by decide +kernel
theorem dX8_count_146 : decode cX8_count 146 = .ok (.iconst 0, 1) := by decide +kernel
theorem dX8_count_147 : decode cX8_count 147 = .ok (.ireturn, 1) := by decide +kernel
theorem dX8_count_148 : decode cX8_count 148 = .ok (.aload_n 0, 1) := by decide +kernel
theorem dX8_count_149 : decode cX8_count 149 = .ok (.getfield 10, 3) := by decide +kernel
theorem dX8_count_152 : decode cX8_count 152 = .ok (.getfield 84, 3) := by decide +kernel
theorem dX8_count_155 : decode cX8_count 155 = .ok (.ireturn, 1) := by decide +kernel
theorem dX8_count_156 : decode cX8_count 156 = .ok (.iconst (-1), 1) := by decide +kernel
theorem dX8_count_157 : decode cX8_count 157 = .ok (.ireturn, 1) := by decide +kernel
theorem dX8_trouble_0 : decode cX8_trouble 0 = .ok (.aload_n 0, 1) := by decide +kernel
theorem dX8_trouble_1 : decode cX8_trouble 1 = .ok (.getfield 106, 3) := by decide +kernel
theorem dX8_trouble_4 : decode cX8_trouble 4 = .ok (.ireturn, 1) := by decide +kernel
theorem dX8_refused_0 : decode cX8_refused 0 = .ok (.aload_n 0, 1) := by decide +kernel
theorem dX8_refused_1 : decode cX8_refused 1 = .ok (.iload_n 1, 1) := by decide +kernel
theorem dX8_refused_2 : decode cX8_refused 2 = .ok (.putfield 106, 3) := by decide +kernel
theorem dX8_refused_5 : decode cX8_refused 5 = .ok (.iconst (-1), 1) := by decide +kernel
theorem dX8_refused_6 : decode cX8_refused 6 = .ok (.ireturn, 1) := by decide +kernel
theorem dX8_allowed_0 : decode cX8_allowed 0 = .ok (.aload_n 0, 1) := by decide +kernel
theorem dX8_allowed_1 : decode cX8_allowed 1 = .ok (.iload_n 1, 1) := by decide +kernel
theorem dX8_allowed_2 : decode cX8_allowed 2 = .ok (.putfield 106, 3) := by decide +kernel
theorem dX8_allowed_5 : decode cX8_allowed 5 = .ok (.iload_n 1, 1) := by decide +kernel
theorem dX8_allowed_6 : decode cX8_allowed 6 = .ok (.ifCond .ne 7, 3) := by decide +kernel
theorem dX8_allowed_9 : decode cX8_allowed 9 = .ok (.iconst 1, 1) := by decide +kernel
theorem dX8_allowed_10 : decode cX8_allowed 10 = .ok (.goto 4, 3) := by decide +kernel
theorem dX8_allowed_13 : decode cX8_allowed 13 = .ok (.iconst 0, 1) := by decide +kernel
theorem dX8_allowed_14 : decode cX8_allowed 14 = .ok (.ireturn, 1) := by decide +kernel
theorem dX8_isListed_0 : decode cX8_isListed 0 = .ok (.aload_n 0, 1) := by decide +kernel
theorem dX8_isListed_1 : decode cX8_isListed 1 = .ok (.getfield 102, 3) := by decide +kernel
theorem dX8_isListed_4 : decode cX8_isListed 4 = .ok (.ifCond .eq 22, 3) := by decide +kernel
theorem dX8_isListed_7 : decode cX8_isListed 7 = .ok (.iload_n 1, 1) := by decide +kernel
theorem dX8_isListed_8 : decode cX8_isListed 8 = .ok (.ifCond .lt 18, 3) := by decide +kernel
theorem dX8_isListed_11 : decode cX8_isListed 11 = .ok (.iload_n 1, 1) := by decide +kernel
theorem dX8_isListed_12 : decode cX8_isListed 12 = .ok (.aload_n 0, 1) := by decide +kernel
theorem dX8_isListed_13 : decode cX8_isListed 13 = .ok (.getfield 70, 3) := by decide +kernel
theorem dX8_isListed_16 : decode cX8_isListed 16 = .ok (.getfield 150, 3) := by decide +kernel
theorem dX8_isListed_19 : decode cX8_isListed 19 = .ok (.if_icmp .ge 7, 3) := by decide +kernel
theorem dX8_isListed_22 : decode cX8_isListed 22 = .ok (.iconst 1, 1) := by decide +kernel
theorem dX8_isListed_23 : decode cX8_isListed 23 = .ok (.goto 4, 3) := by decide +kernel
theorem dX8_isListed_26 : decode cX8_isListed 26 = .ok (.iconst 0, 1) := by decide +kernel
theorem dX8_isListed_27 : decode cX8_isListed 27 = .ok (.ireturn, 1) := by decide +kernel
theorem dX8_orderRefusal_0 : decode cX8_orderRefusal 0 = .ok (.aload_n 0, 1) := by decide +kernel
theorem dX8_orderRefusal_1 : decode cX8_orderRefusal 1 = .ok (.getfield 33, 3) := by decide +kernel
theorem dX8_orderRefusal_4 : decode cX8_orderRefusal 4 = .ok (.getfield 222, 3) := by decide +kernel
theorem dX8_orderRefusal_7 : decode cX8_orderRefusal 7 = .ok (.ifCond .ne 5, 3) := by decide +kernel
theorem dX8_orderRefusal_10 : decode cX8_orderRefusal 10 = .ok (.iconst 1, 1) := by decide +kernel
theorem dX8_orderRefusal_11 : decode cX8_orderRefusal 11 = .ok (.ireturn, 1) := by decide +kernel
theorem dX8_orderRefusal_12 : decode cX8_orderRefusal 12 = .ok (.iload_n 1, 1) := by decide +kernel
theorem dX8_orderRefusal_13 : decode cX8_orderRefusal 13 = .ok (.iconst 1, 1) := by decide +kernel
theorem dX8_orderRefusal_14 : decode cX8_orderRefusal 14 = .ok (.if_icmp .lt 8, 3) := by decide +kernel
theorem dX8_orderRefusal_17 : decode cX8_orderRefusal 17 = .ok (.iload_n 1, 1) := by decide +kernel
theorem dX8_orderRefusal_18 : decode cX8_orderRefusal 18 = .ok (.iconst 3, 1) := by decide +kernel
theorem dX8_orderRefusal_19 : decode cX8_orderRefusal 19 = .ok (.if_icmp .le 7, 3) := by decide +kernel
theorem dX8_orderRefusal_22 : decode cX8_orderRefusal 22 = .ok (.iconst 2, 1) := by decide +kernel
theorem dX8_orderRefusal_23 : decode cX8_orderRefusal 23 = .ok (.goto 4, 3) := by decide +kernel
theorem dX8_orderRefusal_26 : decode cX8_orderRefusal 26 = .ok (.iconst 0, 1) := by decide +kernel
theorem dX8_orderRefusal_27 : decode cX8_orderRefusal 27 = .ok (.ireturn, 1) := by decide +kernel
theorem dX8_cutRefusal_0 : decode cX8_cutRefusal 0 = .ok (.aload_n 0, 1) := by decide +kernel
theorem dX8_cutRefusal_1 : decode cX8_cutRefusal 1 = .ok (.getfield 33, 3) := by decide +kernel
theorem dX8_cutRefusal_4 : decode cX8_cutRefusal 4 = .ok (.getfield 222, 3) := by decide +kernel
theorem dX8_cutRefusal_7 : decode cX8_cutRefusal 7 = .ok (.ifCond .eq 25, 3) := by decide +kernel
theorem dX8_cutRefusal_10 : decode cX8_cutRefusal 10 = .ok (.aload_n 0, 1) := by decide +kernel
theorem dX8_cutRefusal_11 : decode cX8_cutRefusal 11 = .ok (.getfield 33, 3) := by decide +kernel
theorem dX8_cutRefusal_14 : decode cX8_cutRefusal 14 = .ok (.iload_n 1, 1) := by decide +kernel
theorem dX8_cutRefusal_15 : decode cX8_cutRefusal 15 = .ok (.invokevirtual 263, 3) := by decide +kernel
theorem dX8_cutRefusal_18 : decode cX8_cutRefusal 18 = .ok (.ifCond .eq 14, 3) := by decide +kernel
theorem dX8_cutRefusal_21 : decode cX8_cutRefusal 21 = .ok (.aload_n 0, 1) := by decide +kernel
theorem dX8_cutRefusal_22 : decode cX8_cutRefusal 22 = .ok (.getfield 63, 3) := by decide +kernel
theorem dX8_cutRefusal_25 : decode cX8_cutRefusal 25 = .ok (.iload_n 2, 1) := by decide +kernel
theorem dX8_cutRefusal_26 : decode cX8_cutRefusal 26 = .ok (.invokevirtual 125, 3) := by decide +kernel
theorem dX8_cutRefusal_29 : decode cX8_cutRefusal 29 = .ok (.ifCond .ne 5, 3) := by decide +kernel
theorem dX8_cutRefusal_32 : decode cX8_cutRefusal 32 = .ok (.iconst 1, 1) := by decide +kernel
theorem dX8_cutRefusal_33 : decode cX8_cutRefusal 33 = .ok (.ireturn, 1) := by decide +kernel
theorem dX8_cutRefusal_34 : decode cX8_cutRefusal 34 = .ok (.iload_n 3, 1) := by decide +kernel
theorem dX8_cutRefusal_35 : decode cX8_cutRefusal 35 = .ok (.iconst 2, 1) := by decide +kernel
theorem dX8_cutRefusal_36 : decode cX8_cutRefusal 36 = .ok (.if_icmp .lt 8, 3) := by decide +kernel
theorem dX8_cutRefusal_39 : decode cX8_cutRefusal 39 = .ok (.iload_n 3, 1) := by decide +kernel
theorem dX8_cutRefusal_40 : decode cX8_cutRefusal 40 = .ok (.iconst 3, 1) := by decide +kernel
theorem dX8_cutRefusal_41 : decode cX8_cutRefusal 41 = .ok (.if_icmp .le 7, 3) := by decide +kernel
theorem dX8_cutRefusal_44 : decode cX8_cutRefusal 44 = .ok (.iconst 2, 1) := by decide +kernel
theorem dX8_cutRefusal_45 : decode cX8_cutRefusal 45 = .ok (.goto 4, 3) := by decide +kernel
theorem dX8_cutRefusal_48 : decode cX8_cutRefusal 48 = .ok (.iconst 0, 1) := by decide +kernel
theorem dX8_cutRefusal_49 : decode cX8_cutRefusal 49 = .ok (.ireturn, 1) := by decide +kernel
theorem dX8_hasPowers_0 : decode cX8_hasPowers 0 = .ok (.aload_n 0, 1) := by decide +kernel
theorem dX8_hasPowers_1 : decode cX8_hasPowers 1 = .ok (.getfield 102, 3) := by decide +kernel
theorem dX8_hasPowers_4 : decode cX8_hasPowers 4 = .ok (.ifCond .eq 39, 3) := by decide +kernel
theorem dX8_hasPowers_7 : decode cX8_hasPowers 7 = .ok (.iload_n 1, 1) := by decide +kernel
theorem dX8_hasPowers_8 : decode cX8_hasPowers 8 = .ok (.ifCond .lt 35, 3) := by decide +kernel
theorem dX8_hasPowers_11 : decode cX8_hasPowers 11 = .ok (.iload_n 2, 1) := by decide +kernel
theorem dX8_hasPowers_12 : decode cX8_hasPowers 12 = .ok (.ifCond .lt 31, 3) := by decide +kernel
theorem dX8_hasPowers_15 : decode cX8_hasPowers 15 = .ok (.iload_n 3, 1) := by decide +kernel
theorem dX8_hasPowers_16 : decode cX8_hasPowers 16 = .ok (.ifCond .lt 27, 3) := by decide +kernel
theorem dX8_hasPowers_19 : decode cX8_hasPowers 19 = .ok (.iload_n 1, 1) := by decide +kernel
theorem dX8_hasPowers_20 : decode cX8_hasPowers 20 = .ok (.i2l, 1) := by decide +kernel
theorem dX8_hasPowers_21 : decode cX8_hasPowers 21 = .ok (.iload_n 2, 1) := by decide +kernel
theorem dX8_hasPowers_22 : decode cX8_hasPowers 22 = .ok (.i2l, 1) := by decide +kernel
theorem dX8_hasPowers_23 : decode cX8_hasPowers 23 = .ok (.ladd, 1) := by decide +kernel
theorem dX8_hasPowers_24 : decode cX8_hasPowers 24 = .ok (.iload_n 3, 1) := by decide +kernel
theorem dX8_hasPowers_25 : decode cX8_hasPowers 25 = .ok (.i2l, 1) := by decide +kernel
theorem dX8_hasPowers_26 : decode cX8_hasPowers 26 = .ok (.ladd, 1) := by decide +kernel
theorem dX8_hasPowers_27 : decode cX8_hasPowers 27 = .ok (.aload_n 0, 1) := by decide +kernel
theorem dX8_hasPowers_28 : decode cX8_hasPowers 28 = .ok (.getfield 70, 3) := by decide +kernel
theorem dX8_hasPowers_31 : decode cX8_hasPowers 31 = .ok (.getfield 187, 3) := by decide +kernel
theorem dX8_hasPowers_34 : decode cX8_hasPowers 34 = .ok (.i2l, 1) := by decide +kernel
theorem dX8_hasPowers_35 : decode cX8_hasPowers 35 = .ok (.lcmp, 1) := by decide +kernel
theorem dX8_hasPowers_36 : decode cX8_hasPowers 36 = .ok (.ifCond .ne 7, 3) := by decide +kernel
theorem dX8_hasPowers_39 : decode cX8_hasPowers 39 = .ok (.iconst 1, 1) := by decide +kernel
theorem dX8_hasPowers_40 : decode cX8_hasPowers 40 = .ok (.goto 4, 3) := by decide +kernel
theorem dX8_hasPowers_43 : decode cX8_hasPowers 43 = .ok (.iconst 0, 1) := by decide +kernel
theorem dX8_hasPowers_44 : decode cX8_hasPowers 44 = .ok (.ireturn, 1) := by decide +kernel
theorem dX8_exactly_0 : decode cX8_exactly 0 = .ok (.aload_n 0, 1) := by decide +kernel
theorem dX8_exactly_1 : decode cX8_exactly 1 = .ok (.getfield 26, 3) := by decide +kernel
theorem dX8_exactly_4 : decode cX8_exactly 4 = .ok (.invokevirtual 266, 3) := by decide +kernel
theorem dX8_exactly_7 : decode cX8_exactly 7 = .ok (.iconst 0, 1) := by decide +kernel
theorem dX8_exactly_8 : decode cX8_exactly 8 = .ok (.istore 4, 2) := by decide +kernel
theorem dX8_exactly_10 : decode cX8_exactly 10 = .ok (.iload 4, 2) := by decide +kernel
theorem dX8_exactly_12 : decode cX8_exactly 12 = .ok (.aload_n 0, 1) := by decide +kernel
theorem dX8_exactly_13 : decode cX8_exactly 13 = .ok (.getfield 70, 3) := by decide +kernel
theorem dX8_exactly_16 : decode cX8_exactly 16 = .ok (.getfield 267, 3) := by decide +kernel
theorem dX8_exactly_19 : decode cX8_exactly 19 = .ok (.if_icmp .ge 39, 3) := by decide +kernel
theorem dX8_exactly_22 : decode cX8_exactly 22 = .ok (.aload_n 0, 1) := by decide +kernel
theorem dX8_exactly_23 : decode cX8_exactly 23 = .ok (.getfield 70, 3) := by decide +kernel
theorem dX8_exactly_26 : decode cX8_exactly 26 = .ok (.getfield 270, 3) := by decide +kernel
theorem dX8_exactly_29 : decode cX8_exactly 29 = .ok (.iload 4, 2) := by decide +kernel
theorem dX8_exactly_31 : decode cX8_exactly 31 = .ok (.iaload, 1) := by decide +kernel
theorem dX8_exactly_32 : decode cX8_exactly 32 = .ok (.iload_n 1, 1) := by decide +kernel
theorem dX8_exactly_33 : decode cX8_exactly 33 = .ok (.if_icmp .ne 19, 3) := by decide +kernel
theorem dX8_exactly_36 : decode cX8_exactly 36 = .ok (.aload_n 0, 1) := by decide +kernel
theorem dX8_exactly_37 : decode cX8_exactly 37 = .ok (.getfield 26, 3) := by decide +kernel
theorem dX8_exactly_40 : decode cX8_exactly 40 = .ok (.aload_n 0, 1) := by decide +kernel
theorem dX8_exactly_41 : decode cX8_exactly 41 = .ok (.getfield 70, 3) := by decide +kernel
theorem dX8_exactly_44 : decode cX8_exactly 44 = .ok (.iload 4, 2) := by decide +kernel
theorem dX8_exactly_46 : decode cX8_exactly 46 = .ok (.invokevirtual 273, 3) := by decide +kernel
theorem dX8_exactly_49 : decode cX8_exactly 49 = .ok (.invokevirtual 277, 3) := by decide +kernel
theorem dX8_exactly_52 : decode cX8_exactly 52 = .ok (.iinc 4 1, 3) := by decide +kernel
theorem dX8_exactly_55 : decode cX8_exactly 55 = .ok (.goto (-45), 3) := by decide +kernel
theorem dX8_exactly_58 : decode cX8_exactly 58 = .ok (.iconst 0, 1) := by decide +kernel
theorem dX8_exactly_59 : decode cX8_exactly 59 = .ok (.istore 4, 2) := by decide +kernel
theorem dX8_exactly_61 : decode cX8_exactly 61 = .ok (.iload 4, 2) := by decide +kernel
theorem dX8_exactly_63 : decode cX8_exactly 63 = .ok (.aload_n 0, 1) := by decide +kernel
theorem dX8_exactly_64 : decode cX8_exactly 64 = .ok (.getfield 70, 3) := by decide +kernel
theorem dX8_exactly_67 : decode cX8_exactly 67 = .ok (.getfield 267, 3) := by decide +kernel
theorem dX8_exactly_70 : decode cX8_exactly 70 = .ok (.if_icmp .ge 82, 3) := by decide +kernel
theorem dX8_exactly_73 : decode cX8_exactly 73 = .ok (.aload_n 0, 1) := by decide +kernel
theorem dX8_exactly_74 : decode cX8_exactly 74 = .ok (.getfield 70, 3) := by decide +kernel
theorem dX8_exactly_77 : decode cX8_exactly 77 = .ok (.getfield 270, 3) := by decide +kernel
theorem dX8_exactly_80 : decode cX8_exactly 80 = .ok (.iload 4, 2) := by decide +kernel
theorem dX8_exactly_82 : decode cX8_exactly 82 = .ok (.iaload, 1) := by decide +kernel
theorem dX8_exactly_83 : decode cX8_exactly 83 = .ok (.iload_n 1, 1) := by decide +kernel
theorem dX8_exactly_84 : decode cX8_exactly 84 = .ok (.if_icmp .ne 62, 3) := by decide +kernel
theorem dX8_exactly_87 : decode cX8_exactly 87 = .ok (.iload_n 2, 1) := by decide +kernel
theorem dX8_exactly_88 : decode cX8_exactly 88 = .ok (.ifCond .eq 17, 3) := by decide +kernel
theorem dX8_exactly_91 : decode cX8_exactly 91 = .ok (.aload_n 0, 1) := by decide +kernel
theorem dX8_exactly_92 : decode cX8_exactly 92 = .ok (.getfield 70, 3) := by decide +kernel
theorem dX8_exactly_95 : decode cX8_exactly 95 = .ok (.getfield 281, 3) := by decide +kernel
theorem dX8_exactly_98 : decode cX8_exactly 98 = .ok (.iload 4, 2) := by decide +kernel
theorem dX8_exactly_100 : decode cX8_exactly 100 = .ok (.iaload, 1) := by decide +kernel
theorem dX8_exactly_101 : decode cX8_exactly 101 = .ok (.i2l, 1) := by decide +kernel
theorem dX8_exactly_102 : decode cX8_exactly 102 = .ok (.goto 12, 3) := by decide +kernel
theorem dX8_exactly_105 : decode cX8_exactly 105 = .ok (.aload_n 0, 1) := by decide +kernel
theorem dX8_exactly_106 : decode cX8_exactly 106 = .ok (.getfield 70, 3) := by decide +kernel
theorem dX8_exactly_109 : decode cX8_exactly 109 = .ok (.iload 4, 2) := by decide +kernel
theorem dX8_exactly_111 : decode cX8_exactly 111 = .ok (.invokevirtual 284, 3) := by decide +kernel
theorem dX8_exactly_114 : decode cX8_exactly 114 = .ok (.lstore 5, 2) := by decide +kernel
theorem dX8_exactly_116 : decode cX8_exactly 116 = .ok (.aload_n 0, 1) := by decide +kernel
theorem dX8_exactly_117 : decode cX8_exactly 117 = .ok (.getfield 26, 3) := by decide +kernel
theorem dX8_exactly_120 : decode cX8_exactly 120 = .ok (.lload 5, 2) := by decide +kernel
theorem dX8_exactly_122 : decode cX8_exactly 122 = .ok (.aload_n 0, 1) := by decide +kernel
theorem dX8_exactly_123 : decode cX8_exactly 123 = .ok (.getfield 70, 3) := by decide +kernel
theorem dX8_exactly_126 : decode cX8_exactly 126 = .ok (.getfield 287, 3) := by decide +kernel
theorem dX8_exactly_129 : decode cX8_exactly 129 = .ok (.iload 4, 2) := by decide +kernel
theorem dX8_exactly_131 : decode cX8_exactly 131 = .ok (.iaload, 1) := by decide +kernel
theorem dX8_exactly_132 : decode cX8_exactly 132 = .ok (.i2l, 1) := by decide +kernel
theorem dX8_exactly_133 : decode cX8_exactly 133 = .ok (.lmul, 1) := by decide +kernel
theorem dX8_exactly_134 : decode cX8_exactly 134 = .ok (.aload_n 0, 1) := by decide +kernel
theorem dX8_exactly_135 : decode cX8_exactly 135 = .ok (.getfield 70, 3) := by decide +kernel
theorem dX8_exactly_138 : decode cX8_exactly 138 = .ok (.iload 4, 2) := by decide +kernel
theorem dX8_exactly_140 : decode cX8_exactly 140 = .ok (.invokevirtual 273, 3) := by decide +kernel
theorem dX8_exactly_143 : decode cX8_exactly 143 = .ok (.invokevirtual 290, 3) := by decide +kernel
theorem dX8_exactly_146 : decode cX8_exactly 146 = .ok (.iinc 4 1, 3) := by decide +kernel
theorem dX8_exactly_149 : decode cX8_exactly 149 = .ok (.goto (-88), 3) := by decide +kernel
theorem dX8_exactly_152 : decode cX8_exactly 152 = .ok (.aload_n 0, 1) := by decide +kernel
theorem dX8_exactly_153 : decode cX8_exactly 153 = .ok (.getfield 26, 3) := by decide +kernel
theorem dX8_exactly_156 : decode cX8_exactly 156 = .ok (.invokevirtual 293, 3) := by decide +kernel
theorem dX8_exactly_159 : decode cX8_exactly 159 = .ok (.aload_n 0, 1) := by decide +kernel
theorem dX8_exactly_160 : decode cX8_exactly 160 = .ok (.getfield 26, 3) := by decide +kernel
theorem dX8_exactly_163 : decode cX8_exactly 163 = .ok (.getfield 296, 3) := by decide +kernel
theorem dX8_exactly_166 : decode cX8_exactly 166 = .ok (.ifCond .ne 7, 3) := by decide +kernel
theorem dX8_exactly_169 : decode cX8_exactly 169 = .ok (.ldc2_w 208, 3) := by decide +kernel
theorem dX8_exactly_172 : decode cX8_exactly 172 = .ok (.lreturn, 1) := by decide +kernel
theorem dX8_exactly_173 : decode cX8_exactly 173 = .ok (.iload_n 3, 1) := by decide +kernel
theorem dX8_exactly_174 : decode cX8_exactly 174 = .ok (.ifCond .eq 13, 3) := by decide +kernel
theorem dX8_exactly_177 : decode cX8_exactly 177 = .ok (.aload_n 0, 1) := by decide +kernel
theorem dX8_exactly_178 : decode cX8_exactly 178 = .ok (.getfield 26, 3) := by decide +kernel
theorem dX8_exactly_181 : decode cX8_exactly 181 = .ok (.getfield 299, 3) := by decide +kernel
theorem dX8_exactly_184 : decode cX8_exactly 184 = .ok (.goto 10, 3) := by decide +kernel
theorem dX8_exactly_187 : decode cX8_exactly 187 = .ok (.aload_n 0, 1) := by decide +kernel
theorem dX8_exactly_188 : decode cX8_exactly 188 = .ok (.getfield 26, 3) := by decide +kernel
theorem dX8_exactly_191 : decode cX8_exactly 191 = .ok (.getfield 300, 3) := by decide +kernel
theorem dX8_exactly_194 : decode cX8_exactly 194 = .ok (.lreturn, 1) := by decide +kernel
theorem dX8_reckonWhole_0 : decode cX8_reckonWhole 0 = .ok (.aload_n 0, 1) := by decide +kernel
theorem dX8_reckonWhole_1 : decode cX8_reckonWhole 1 = .ok (.getfield 33, 3) := by decide +kernel
theorem dX8_reckonWhole_4 : decode cX8_reckonWhole 4 = .ok (.aload_n 0, 1) := by decide +kernel
theorem dX8_reckonWhole_5 : decode cX8_reckonWhole 5 = .ok (.getfield 63, 3) := by decide +kernel
theorem dX8_reckonWhole_8 : decode cX8_reckonWhole 8 = .ok (.invokevirtual 139, 3) := by decide +kernel
theorem dX8_reckonWhole_11 : decode cX8_reckonWhole 11 = .ok (.ifCond .ne 6, 3) := by decide +kernel
theorem dX8_reckonWhole_14 : decode cX8_reckonWhole 14 = .ok (.bipush 7, 2) := by decide +kernel
theorem dX8_reckonWhole_16 : decode cX8_reckonWhole 16 = .ok (.ireturn, 1) := by decide +kernel
theorem dX8_reckonWhole_17 : decode cX8_reckonWhole 17 = .ok (.aload_n 0, 1) := by decide +kernel
theorem dX8_reckonWhole_18 : decode cX8_reckonWhole 18 = .ok (.getfield 33, 3) := by decide +kernel
theorem dX8_reckonWhole_21 : decode cX8_reckonWhole 21 = .ok (.invokevirtual 301, 3) := by decide +kernel
theorem dX8_reckonWhole_24 : decode cX8_reckonWhole 24 = .ok (.ifCond .eq 6, 3) := by decide +kernel
theorem dX8_reckonWhole_27 : decode cX8_reckonWhole 27 = .ok (.bipush 8, 2) := by decide +kernel
theorem dX8_reckonWhole_29 : decode cX8_reckonWhole 29 = .ok (.ireturn, 1) := by decide +kernel
theorem dX8_reckonWhole_30 : decode cX8_reckonWhole 30 = .ok (.aload_n 0, 1) := by decide +kernel
theorem dX8_reckonWhole_31 : decode cX8_reckonWhole 31 = .ok (.getfield 102, 3) := by decide +kernel
theorem dX8_reckonWhole_34 : decode cX8_reckonWhole 34 = .ok (.ifCond .eq 18, 3) := by decide +kernel
theorem dX8_reckonWhole_37 : decode cX8_reckonWhole 37 = .ok (.aload_n 0, 1) := by decide +kernel
theorem dX8_reckonWhole_38 : decode cX8_reckonWhole 38 = .ok (.getfield 70, 3) := by decide +kernel
theorem dX8_reckonWhole_41 : decode cX8_reckonWhole 41 = .ok (.getfield 187, 3) := by decide +kernel
theorem dX8_reckonWhole_44 : decode cX8_reckonWhole 44 = .ok (.iload_n 1, 1) := by decide +kernel
theorem dX8_reckonWhole_45 : decode cX8_reckonWhole 45 = .ok (.if_icmp .ne 7, 3) := by decide +kernel
theorem dX8_reckonWhole_48 : decode cX8_reckonWhole 48 = .ok (.iconst 1, 1) := by decide +kernel
theorem dX8_reckonWhole_49 : decode cX8_reckonWhole 49 = .ok (.goto 4, 3) := by decide +kernel
theorem dX8_reckonWhole_52 : decode cX8_reckonWhole 52 = .ok (.iconst 0, 1) := by decide +kernel
theorem dX8_reckonWhole_53 : decode cX8_reckonWhole 53 = .ok (.istore 4, 2) := by decide +kernel
theorem dX8_reckonWhole_55 : decode cX8_reckonWhole 55 = .ok (.iload 4, 2) := by decide +kernel
theorem dX8_reckonWhole_57 : decode cX8_reckonWhole 57 = .ok (.ifCond .ne 24, 3) := by decide +kernel
theorem dX8_reckonWhole_60 : decode cX8_reckonWhole 60 = .ok (.aload_n 0, 1) := by decide +kernel
theorem dX8_reckonWhole_61 : decode cX8_reckonWhole 61 = .ok (.getfield 19, 3) := by decide +kernel
theorem dX8_reckonWhole_64 : decode cX8_reckonWhole 64 = .ok (.aload_n 0, 1) := by decide +kernel
theorem dX8_reckonWhole_65 : decode cX8_reckonWhole 65 = .ok (.getfield 63, 3) := by decide +kernel
theorem dX8_reckonWhole_68 : decode cX8_reckonWhole 68 = .ok (.aload_n 0, 1) := by decide +kernel
theorem dX8_reckonWhole_69 : decode cX8_reckonWhole 69 = .ok (.getfield 33, 3) := by decide +kernel
theorem dX8_reckonWhole_72 : decode cX8_reckonWhole 72 = .ok (.iload_n 1, 1) := by decide +kernel
theorem dX8_reckonWhole_73 : decode cX8_reckonWhole 73 = .ok (.invokevirtual 143, 3) := by decide +kernel
theorem dX8_reckonWhole_76 : decode cX8_reckonWhole 76 = .ok (.ifCond .ne 5, 3) := by decide +kernel
theorem dX8_reckonWhole_79 : decode cX8_reckonWhole 79 = .ok (.iconst 3, 1) := by decide +kernel
theorem dX8_reckonWhole_80 : decode cX8_reckonWhole 80 = .ok (.ireturn, 1) := by decide +kernel
theorem dX8_reckonWhole_81 : decode cX8_reckonWhole 81 = .ok (.aload_n 0, 1) := by decide +kernel
theorem dX8_reckonWhole_82 : decode cX8_reckonWhole 82 = .ok (.getfield 77, 3) := by decide +kernel
theorem dX8_reckonWhole_85 : decode cX8_reckonWhole 85 = .ok (.invokevirtual 304, 3) := by decide +kernel
theorem dX8_reckonWhole_88 : decode cX8_reckonWhole 88 = .ok (.aload_n 0, 1) := by decide +kernel
theorem dX8_reckonWhole_89 : decode cX8_reckonWhole 89 = .ok (.getfield 77, 3) := by decide +kernel
theorem dX8_reckonWhole_92 : decode cX8_reckonWhole 92 = .ok (.iload 4, 2) := by decide +kernel
theorem dX8_reckonWhole_94 : decode cX8_reckonWhole 94 = .ok (.ifCond .eq 10, 3) := by decide +kernel
theorem dX8_reckonWhole_97 : decode cX8_reckonWhole 97 = .ok (.aload_n 0, 1) := by decide +kernel
theorem dX8_reckonWhole_98 : decode cX8_reckonWhole 98 = .ok (.getfield 70, 3) := by decide +kernel
theorem dX8_reckonWhole_101 : decode cX8_reckonWhole 101 = .ok (.goto 10, 3) := by decide +kernel
theorem dX8_reckonWhole_104 : decode cX8_reckonWhole 104 = .ok (.aload_n 0, 1) := by decide +kernel
theorem dX8_reckonWhole_105 : decode cX8_reckonWhole 105 = .ok (.getfield 19, 3) := by decide +kernel
theorem dX8_reckonWhole_108 : decode cX8_reckonWhole 108 = .ok (.getfield 147, 3) := by decide +kernel
theorem dX8_reckonWhole_111 : decode cX8_reckonWhole 111 = .ok (.aload_n 0, 1) := by decide +kernel
theorem dX8_reckonWhole_112 : decode cX8_reckonWhole 112 = .ok (.getfield 63, 3) := by decide +kernel
theorem dX8_reckonWhole_115 : decode cX8_reckonWhole 115 = .ok (.aload_n 0, 1) := by decide +kernel
theorem dX8_reckonWhole_116 : decode cX8_reckonWhole 116 = .ok (.getfield 33, 3) := by decide +kernel
theorem dX8_reckonWhole_119 : decode cX8_reckonWhole 119 = .ok (.aload_n 0, 1) := by decide +kernel
theorem dX8_reckonWhole_120 : decode cX8_reckonWhole 120 = .ok (.getfield 53, 3) := by decide +kernel
theorem dX8_reckonWhole_123 : decode cX8_reckonWhole 123 = .ok (.iload_n 2, 1) := by decide +kernel
theorem dX8_reckonWhole_124 : decode cX8_reckonWhole 124 = .ok (.iload_n 3, 1) := by decide +kernel
theorem dX8_reckonWhole_125 : decode cX8_reckonWhole 125 = .ok (.invokevirtual 305, 3) := by decide +kernel
theorem dX8_reckonWhole_128 : decode cX8_reckonWhole 128 = .ok (.aload_n 0, 1) := by decide +kernel
theorem dX8_reckonWhole_129 : decode cX8_reckonWhole 129 = .ok (.invokevirtual 309, 3) := by decide +kernel
theorem dX8_reckonWhole_132 : decode cX8_reckonWhole 132 = .ok (.ireturn, 1) := by decide +kernel
theorem dX8_reckonParts_0 : decode cX8_reckonParts 0 = .ok (.aload_n 0, 1) := by decide +kernel
theorem dX8_reckonParts_1 : decode cX8_reckonParts 1 = .ok (.iload_n 1, 1) := by decide +kernel
theorem dX8_reckonParts_2 : decode cX8_reckonParts 2 = .ok (.iload_n 2, 1) := by decide +kernel
theorem dX8_reckonParts_3 : decode cX8_reckonParts 3 = .ok (.invokevirtual 312, 3) := by decide +kernel
theorem dX8_reckonParts_6 : decode cX8_reckonParts 6 = .ok (.aload_n 0, 1) := by decide +kernel
theorem dX8_reckonParts_7 : decode cX8_reckonParts 7 = .ok (.getfield 33, 3) := by decide +kernel
theorem dX8_reckonParts_10 : decode cX8_reckonParts 10 = .ok (.aload_n 0, 1) := by decide +kernel
theorem dX8_reckonParts_11 : decode cX8_reckonParts 11 = .ok (.getfield 63, 3) := by decide +kernel
theorem dX8_reckonParts_14 : decode cX8_reckonParts 14 = .ok (.invokevirtual 139, 3) := by decide +kernel
theorem dX8_reckonParts_17 : decode cX8_reckonParts 17 = .ok (.ifCond .eq 31, 3) := by decide +kernel
theorem dX8_reckonParts_20 : decode cX8_reckonParts 20 = .ok (.aload_n 0, 1) := by decide +kernel
theorem dX8_reckonParts_21 : decode cX8_reckonParts 21 = .ok (.getfield 37, 3) := by decide +kernel
theorem dX8_reckonParts_24 : decode cX8_reckonParts 24 = .ok (.aload_n 0, 1) := by decide +kernel
theorem dX8_reckonParts_25 : decode cX8_reckonParts 25 = .ok (.getfield 63, 3) := by decide +kernel
theorem dX8_reckonParts_28 : decode cX8_reckonParts 28 = .ok (.invokevirtual 139, 3) := by decide +kernel
theorem dX8_reckonParts_31 : decode cX8_reckonParts 31 = .ok (.ifCond .eq 17, 3) := by decide +kernel
theorem dX8_reckonParts_34 : decode cX8_reckonParts 34 = .ok (.aload_n 0, 1) := by decide +kernel
theorem dX8_reckonParts_35 : decode cX8_reckonParts 35 = .ok (.getfield 40, 3) := by decide +kernel
theorem dX8_reckonParts_38 : decode cX8_reckonParts 38 = .ok (.aload_n 0, 1) := by decide +kernel
theorem dX8_reckonParts_39 : decode cX8_reckonParts 39 = .ok (.getfield 63, 3) := by decide +kernel
theorem dX8_reckonParts_42 : decode cX8_reckonParts 42 = .ok (.invokevirtual 139, 3) := by decide +kernel
theorem dX8_reckonParts_45 : decode cX8_reckonParts 45 = .ok (.ifCond .ne 6, 3) := by decide +kernel
theorem dX8_reckonParts_48 : decode cX8_reckonParts 48 = .ok (.bipush 7, 2) := by decide +kernel
theorem dX8_reckonParts_50 : decode cX8_reckonParts 50 = .ok (.ireturn, 1) := by decide +kernel
theorem dX8_reckonParts_51 : decode cX8_reckonParts 51 = .ok (.aload_n 0, 1) := by decide +kernel
theorem dX8_reckonParts_52 : decode cX8_reckonParts 52 = .ok (.getfield 33, 3) := by decide +kernel
theorem dX8_reckonParts_55 : decode cX8_reckonParts 55 = .ok (.invokevirtual 301, 3) := by decide +kernel
theorem dX8_reckonParts_58 : decode cX8_reckonParts 58 = .ok (.ifCond .eq 6, 3) := by decide +kernel
theorem dX8_reckonParts_61 : decode cX8_reckonParts 61 = .ok (.bipush 8, 2) := by decide +kernel
theorem dX8_reckonParts_63 : decode cX8_reckonParts 63 = .ok (.ireturn, 1) := by decide +kernel
theorem dX8_reckonParts_64 : decode cX8_reckonParts 64 = .ok (.aload_n 0, 1) := by decide +kernel
theorem dX8_reckonParts_65 : decode cX8_reckonParts 65 = .ok (.getfield 77, 3) := by decide +kernel
theorem dX8_reckonParts_68 : decode cX8_reckonParts 68 = .ok (.invokevirtual 304, 3) := by decide +kernel
theorem dX8_reckonParts_71 : decode cX8_reckonParts 71 = .ok (.iconst 1, 1) := by decide +kernel
theorem dX8_reckonParts_72 : decode cX8_reckonParts 72 = .ok (.istore 4, 2) := by decide +kernel
theorem dX8_reckonParts_74 : decode cX8_reckonParts 74 = .ok (.iload 4, 2) := by decide +kernel
theorem dX8_reckonParts_76 : decode cX8_reckonParts 76 = .ok (.iload_n 3, 1) := by decide +kernel
theorem dX8_reckonParts_77 : decode cX8_reckonParts 77 = .ok (.if_icmp .ge 140, 3) := by decide +kernel
theorem dX8_reckonParts_80 : decode cX8_reckonParts 80 = .ok (.aload_n 0, 1) := by decide +kernel
theorem dX8_reckonParts_81 : decode cX8_reckonParts 81 = .ok (.getfield 19, 3) := by decide +kernel
theorem dX8_reckonParts_84 : decode cX8_reckonParts 84 = .ok (.aload_n 0, 1) := by decide +kernel
theorem dX8_reckonParts_85 : decode cX8_reckonParts 85 = .ok (.getfield 63, 3) := by decide +kernel
theorem dX8_reckonParts_88 : decode cX8_reckonParts 88 = .ok (.aload_n 0, 1) := by decide +kernel
theorem dX8_reckonParts_89 : decode cX8_reckonParts 89 = .ok (.getfield 37, 3) := by decide +kernel
theorem dX8_reckonParts_92 : decode cX8_reckonParts 92 = .ok (.iload 4, 2) := by decide +kernel
theorem dX8_reckonParts_94 : decode cX8_reckonParts 94 = .ok (.invokevirtual 143, 3) := by decide +kernel
theorem dX8_reckonParts_97 : decode cX8_reckonParts 97 = .ok (.ifCond .ne 5, 3) := by decide +kernel
theorem dX8_reckonParts_100 : decode cX8_reckonParts 100 = .ok (.iconst 3, 1) := by decide +kernel
theorem dX8_reckonParts_101 : decode cX8_reckonParts 101 = .ok (.ireturn, 1) := by decide +kernel
theorem dX8_reckonParts_102 : decode cX8_reckonParts 102 = .ok (.aload_n 0, 1) := by decide +kernel
theorem dX8_reckonParts_103 : decode cX8_reckonParts 103 = .ok (.getfield 46, 3) := by decide +kernel
theorem dX8_reckonParts_106 : decode cX8_reckonParts 106 = .ok (.invokevirtual 304, 3) := by decide +kernel
theorem dX8_reckonParts_109 : decode cX8_reckonParts 109 = .ok (.aload_n 0, 1) := by decide +kernel
theorem dX8_reckonParts_110 : decode cX8_reckonParts 110 = .ok (.getfield 46, 3) := by decide +kernel
theorem dX8_reckonParts_113 : decode cX8_reckonParts 113 = .ok (.aload_n 0, 1) := by decide +kernel
theorem dX8_reckonParts_114 : decode cX8_reckonParts 114 = .ok (.getfield 19, 3) := by decide +kernel
theorem dX8_reckonParts_117 : decode cX8_reckonParts 117 = .ok (.getfield 147, 3) := by decide +kernel
theorem dX8_reckonParts_120 : decode cX8_reckonParts 120 = .ok (.aload_n 0, 1) := by decide +kernel
theorem dX8_reckonParts_121 : decode cX8_reckonParts 121 = .ok (.getfield 63, 3) := by decide +kernel
theorem dX8_reckonParts_124 : decode cX8_reckonParts 124 = .ok (.aload_n 0, 1) := by decide +kernel
theorem dX8_reckonParts_125 : decode cX8_reckonParts 125 = .ok (.getfield 37, 3) := by decide +kernel
theorem dX8_reckonParts_128 : decode cX8_reckonParts 128 = .ok (.aload_n 0, 1) := by decide +kernel
theorem dX8_reckonParts_129 : decode cX8_reckonParts 129 = .ok (.getfield 53, 3) := by decide +kernel
theorem dX8_reckonParts_132 : decode cX8_reckonParts 132 = .ok (.iconst 0, 1) := by decide +kernel
theorem dX8_reckonParts_133 : decode cX8_reckonParts 133 = .ok (.iconst (-1), 1) := by decide +kernel
theorem dX8_reckonParts_134 : decode cX8_reckonParts 134 = .ok (.invokevirtual 305, 3) := by decide +kernel
theorem dX8_reckonParts_137 : decode cX8_reckonParts 137 = .ok (.aload_n 0, 1) := by decide +kernel
theorem dX8_reckonParts_138 : decode cX8_reckonParts 138 = .ok (.getfield 19, 3) := by decide +kernel
theorem dX8_reckonParts_141 : decode cX8_reckonParts 141 = .ok (.aload_n 0, 1) := by decide +kernel
theorem dX8_reckonParts_142 : decode cX8_reckonParts 142 = .ok (.getfield 63, 3) := by decide +kernel
theorem dX8_reckonParts_145 : decode cX8_reckonParts 145 = .ok (.aload_n 0, 1) := by decide +kernel
theorem dX8_reckonParts_146 : decode cX8_reckonParts 146 = .ok (.getfield 40, 3) := by decide +kernel
theorem dX8_reckonParts_149 : decode cX8_reckonParts 149 = .ok (.iload_n 3, 1) := by decide +kernel
theorem dX8_reckonParts_150 : decode cX8_reckonParts 150 = .ok (.iload 4, 2) := by decide +kernel
theorem dX8_reckonParts_152 : decode cX8_reckonParts 152 = .ok (.isub, 1) := by decide +kernel
theorem dX8_reckonParts_153 : decode cX8_reckonParts 153 = .ok (.invokevirtual 143, 3) := by decide +kernel
theorem dX8_reckonParts_156 : decode cX8_reckonParts 156 = .ok (.ifCond .ne 5, 3) := by decide +kernel
theorem dX8_reckonParts_159 : decode cX8_reckonParts 159 = .ok (.iconst 3, 1) := by decide +kernel
theorem dX8_reckonParts_160 : decode cX8_reckonParts 160 = .ok (.ireturn, 1) := by decide +kernel
theorem dX8_reckonParts_161 : decode cX8_reckonParts 161 = .ok (.aload_n 0, 1) := by decide +kernel
theorem dX8_reckonParts_162 : decode cX8_reckonParts 162 = .ok (.getfield 50, 3) := by decide +kernel
theorem dX8_reckonParts_165 : decode cX8_reckonParts 165 = .ok (.invokevirtual 304, 3) := by decide +kernel
theorem dX8_reckonParts_168 : decode cX8_reckonParts 168 = .ok (.aload_n 0, 1) := by decide +kernel
theorem dX8_reckonParts_169 : decode cX8_reckonParts 169 = .ok (.getfield 50, 3) := by decide +kernel
theorem dX8_reckonParts_172 : decode cX8_reckonParts 172 = .ok (.aload_n 0, 1) := by decide +kernel
theorem dX8_reckonParts_173 : decode cX8_reckonParts 173 = .ok (.getfield 19, 3) := by decide +kernel
theorem dX8_reckonParts_176 : decode cX8_reckonParts 176 = .ok (.getfield 147, 3) := by decide +kernel
theorem dX8_reckonParts_179 : decode cX8_reckonParts 179 = .ok (.aload_n 0, 1) := by decide +kernel
theorem dX8_reckonParts_180 : decode cX8_reckonParts 180 = .ok (.getfield 63, 3) := by decide +kernel
theorem dX8_reckonParts_183 : decode cX8_reckonParts 183 = .ok (.aload_n 0, 1) := by decide +kernel
theorem dX8_reckonParts_184 : decode cX8_reckonParts 184 = .ok (.getfield 40, 3) := by decide +kernel
theorem dX8_reckonParts_187 : decode cX8_reckonParts 187 = .ok (.aload_n 0, 1) := by decide +kernel
theorem dX8_reckonParts_188 : decode cX8_reckonParts 188 = .ok (.getfield 53, 3) := by decide +kernel
theorem dX8_reckonParts_191 : decode cX8_reckonParts 191 = .ok (.iconst 0, 1) := by decide +kernel
theorem dX8_reckonParts_192 : decode cX8_reckonParts 192 = .ok (.iconst (-1), 1) := by decide +kernel
theorem dX8_reckonParts_193 : decode cX8_reckonParts 193 = .ok (.invokevirtual 305, 3) := by decide +kernel
theorem dX8_reckonParts_196 : decode cX8_reckonParts 196 = .ok (.aload_n 0, 1) := by decide +kernel
theorem dX8_reckonParts_197 : decode cX8_reckonParts 197 = .ok (.getfield 77, 3) := by decide +kernel
theorem dX8_reckonParts_200 : decode cX8_reckonParts 200 = .ok (.aload_n 0, 1) := by decide +kernel
theorem dX8_reckonParts_201 : decode cX8_reckonParts 201 = .ok (.getfield 46, 3) := by decide +kernel
theorem dX8_reckonParts_204 : decode cX8_reckonParts 204 = .ok (.aload_n 0, 1) := by decide +kernel
theorem dX8_reckonParts_205 : decode cX8_reckonParts 205 = .ok (.getfield 50, 3) := by decide +kernel
theorem dX8_reckonParts_208 : decode cX8_reckonParts 208 = .ok (.invokevirtual 315, 3) := by decide +kernel
theorem dX8_reckonParts_211 : decode cX8_reckonParts 211 = .ok (.iinc 4 1, 3) := by decide +kernel
theorem dX8_reckonParts_214 : decode cX8_reckonParts 214 = .ok (.goto (-140), 3) := by decide +kernel
theorem dX8_reckonParts_217 : decode cX8_reckonParts 217 = .ok (.aload_n 0, 1) := by decide +kernel
theorem dX8_reckonParts_218 : decode cX8_reckonParts 218 = .ok (.invokevirtual 309, 3) := by decide +kernel
theorem dX8_reckonParts_221 : decode cX8_reckonParts 221 = .ok (.ireturn, 1) := by decide +kernel
theorem dX8_splitEnds_0 : decode cX8_splitEnds 0 = .ok (.aload_n 0, 1) := by decide +kernel
theorem dX8_splitEnds_1 : decode cX8_splitEnds 1 = .ok (.getfield 37, 3) := by decide +kernel
theorem dX8_splitEnds_4 : decode cX8_splitEnds 4 = .ok (.invokevirtual 99, 3) := by decide +kernel
theorem dX8_splitEnds_7 : decode cX8_splitEnds 7 = .ok (.aload_n 0, 1) := by decide +kernel
theorem dX8_splitEnds_8 : decode cX8_splitEnds 8 = .ok (.getfield 40, 3) := by decide +kernel
theorem dX8_splitEnds_11 : decode cX8_splitEnds 11 = .ok (.invokevirtual 99, 3) := by decide +kernel
theorem dX8_splitEnds_14 : decode cX8_splitEnds 14 = .ok (.iconst 0, 1) := by decide +kernel
theorem dX8_splitEnds_15 : decode cX8_splitEnds 15 = .ok (.istore_n 3, 1) := by decide +kernel
theorem dX8_splitEnds_16 : decode cX8_splitEnds 16 = .ok (.iload_n 3, 1) := by decide +kernel
theorem dX8_splitEnds_17 : decode cX8_splitEnds 17 = .ok (.aload_n 0, 1) := by decide +kernel
theorem dX8_splitEnds_18 : decode cX8_splitEnds 18 = .ok (.getfield 33, 3) := by decide +kernel
theorem dX8_splitEnds_21 : decode cX8_splitEnds 21 = .ok (.getfield 222, 3) := by decide +kernel
theorem dX8_splitEnds_24 : decode cX8_splitEnds 24 = .ok (.if_icmp .ge 53, 3) := by decide +kernel
theorem dX8_splitEnds_27 : decode cX8_splitEnds 27 = .ok (.iload_n 1, 1) := by decide +kernel
theorem dX8_splitEnds_28 : decode cX8_splitEnds 28 = .ok (.iload_n 3, 1) := by decide +kernel
theorem dX8_splitEnds_29 : decode cX8_splitEnds 29 = .ok (.ishr, 1) := by decide +kernel
theorem dX8_splitEnds_30 : decode cX8_splitEnds 30 = .ok (.iconst 1, 1) := by decide +kernel
theorem dX8_splitEnds_31 : decode cX8_splitEnds 31 = .ok (.iand, 1) := by decide +kernel
theorem dX8_splitEnds_32 : decode cX8_splitEnds 32 = .ok (.ifCond .eq 10, 3) := by decide +kernel
theorem dX8_splitEnds_35 : decode cX8_splitEnds 35 = .ok (.aload_n 0, 1) := by decide +kernel
theorem dX8_splitEnds_36 : decode cX8_splitEnds 36 = .ok (.getfield 37, 3) := by decide +kernel
theorem dX8_splitEnds_39 : decode cX8_splitEnds 39 = .ok (.goto 7, 3) := by decide +kernel
theorem dX8_splitEnds_42 : decode cX8_splitEnds 42 = .ok (.aload_n 0, 1) := by decide +kernel
theorem dX8_splitEnds_43 : decode cX8_splitEnds 43 = .ok (.getfield 40, 3) := by decide +kernel
theorem dX8_splitEnds_46 : decode cX8_splitEnds 46 = .ok (.astore 4, 2) := by decide +kernel
theorem dX8_splitEnds_48 : decode cX8_splitEnds 48 = .ok (.aload 4, 2) := by decide +kernel
theorem dX8_splitEnds_50 : decode cX8_splitEnds 50 = .ok (.aload_n 0, 1) := by decide +kernel
theorem dX8_splitEnds_51 : decode cX8_splitEnds 51 = .ok (.getfield 33, 3) := by decide +kernel
theorem dX8_splitEnds_54 : decode cX8_splitEnds 54 = .ok (.getfield 319, 3) := by decide +kernel
theorem dX8_splitEnds_57 : decode cX8_splitEnds 57 = .ok (.iload_n 3, 1) := by decide +kernel
theorem dX8_splitEnds_58 : decode cX8_splitEnds 58 = .ok (.iaload, 1) := by decide +kernel
theorem dX8_splitEnds_59 : decode cX8_splitEnds 59 = .ok (.aload_n 0, 1) := by decide +kernel
theorem dX8_splitEnds_60 : decode cX8_splitEnds 60 = .ok (.getfield 33, 3) := by decide +kernel
theorem dX8_splitEnds_63 : decode cX8_splitEnds 63 = .ok (.getfield 226, 3) := by decide +kernel
theorem dX8_splitEnds_66 : decode cX8_splitEnds 66 = .ok (.iload_n 3, 1) := by decide +kernel
theorem dX8_splitEnds_67 : decode cX8_splitEnds 67 = .ok (.iaload, 1) := by decide +kernel
theorem dX8_splitEnds_68 : decode cX8_splitEnds 68 = .ok (.invokevirtual 132, 3) := by decide +kernel
theorem dX8_splitEnds_71 : decode cX8_splitEnds 71 = .ok (.iinc 3 1, 3) := by decide +kernel
theorem dX8_splitEnds_74 : decode cX8_splitEnds 74 = .ok (.goto (-58), 3) := by decide +kernel
theorem dX8_splitEnds_77 : decode cX8_splitEnds 77 = .ok (.aload_n 0, 1) := by decide +kernel
theorem dX8_splitEnds_78 : decode cX8_splitEnds 78 = .ok (.getfield 37, 3) := by decide +kernel
theorem dX8_splitEnds_81 : decode cX8_splitEnds 81 = .ok (.iload_n 2, 1) := by decide +kernel
theorem dX8_splitEnds_82 : decode cX8_splitEnds 82 = .ok (.aload_n 0, 1) := by decide +kernel
theorem dX8_splitEnds_83 : decode cX8_splitEnds 83 = .ok (.getfield 37, 3) := by decide +kernel
theorem dX8_splitEnds_86 : decode cX8_splitEnds 86 = .ok (.invokevirtual 301, 3) := by decide +kernel
theorem dX8_splitEnds_89 : decode cX8_splitEnds 89 = .ok (.ineg, 1) := by decide +kernel
theorem dX8_splitEnds_90 : decode cX8_splitEnds 90 = .ok (.invokevirtual 132, 3) := by decide +kernel
theorem dX8_splitEnds_93 : decode cX8_splitEnds 93 = .ok (.aload_n 0, 1) := by decide +kernel
theorem dX8_splitEnds_94 : decode cX8_splitEnds 94 = .ok (.getfield 40, 3) := by decide +kernel
theorem dX8_splitEnds_97 : decode cX8_splitEnds 97 = .ok (.aload_n 0, 1) := by decide +kernel
theorem dX8_splitEnds_98 : decode cX8_splitEnds 98 = .ok (.getfield 63, 3) := by decide +kernel
theorem dX8_splitEnds_101 : decode cX8_splitEnds 101 = .ok (.iload_n 2, 1) := by decide +kernel
theorem dX8_splitEnds_102 : decode cX8_splitEnds 102 = .ok (.iconst 0, 1) := by decide +kernel
theorem dX8_splitEnds_103 : decode cX8_splitEnds 103 = .ok (.invokevirtual 118, 3) := by decide +kernel
theorem dX8_splitEnds_106 : decode cX8_splitEnds 106 = .ok (.aload_n 0, 1) := by decide +kernel
theorem dX8_splitEnds_107 : decode cX8_splitEnds 107 = .ok (.getfield 40, 3) := by decide +kernel
theorem dX8_splitEnds_110 : decode cX8_splitEnds 110 = .ok (.invokevirtual 301, 3) := by decide +kernel
theorem dX8_splitEnds_113 : decode cX8_splitEnds 113 = .ok (.ineg, 1) := by decide +kernel
theorem dX8_splitEnds_114 : decode cX8_splitEnds 114 = .ok (.invokevirtual 132, 3) := by decide +kernel
theorem dX8_splitEnds_117 : decode cX8_splitEnds 117 = .ok (.return_, 1) := by decide +kernel
theorem dX8_settle_0 : decode cX8_settle 0 = .ok (.aload_n 0, 1) := by decide +kernel
theorem dX8_settle_1 : decode cX8_settle 1 = .ok (.getfield 77, 3) := by decide +kernel
theorem dX8_settle_4 : decode cX8_settle 4 = .ok (.getfield 321, 3) := by decide +kernel
theorem dX8_settle_7 : decode cX8_settle 7 = .ok (.iconst (-1), 1) := by decide +kernel
theorem dX8_settle_8 : decode cX8_settle 8 = .ok (.if_icmp .eq 16, 3) := by decide +kernel
theorem dX8_settle_11 : decode cX8_settle 11 = .ok (.aload_n 0, 1) := by decide +kernel
theorem dX8_settle_12 : decode cX8_settle 12 = .ok (.aload_n 0, 1) := by decide +kernel
theorem dX8_settle_13 : decode cX8_settle 13 = .ok (.getfield 77, 3) := by decide +kernel
theorem dX8_settle_16 : decode cX8_settle 16 = .ok (.getfield 321, 3) := by decide +kernel
theorem dX8_settle_19 : decode cX8_settle 19 = .ok (.putfield 251, 3) := by decide +kernel
theorem dX8_settle_22 : decode cX8_settle 22 = .ok (.iconst 5, 1) := by decide +kernel
theorem dX8_settle_23 : decode cX8_settle 23 = .ok (.ireturn, 1) := by decide +kernel
theorem dX8_settle_24 : decode cX8_settle 24 = .ok (.aload_n 0, 1) := by decide +kernel
theorem dX8_settle_25 : decode cX8_settle 25 = .ok (.getfield 77, 3) := by decide +kernel
theorem dX8_settle_28 : decode cX8_settle 28 = .ok (.invokevirtual 324, 3) := by decide +kernel
theorem dX8_settle_31 : decode cX8_settle 31 = .ok (.ifCond .ne 6, 3) := by decide +kernel
theorem dX8_settle_34 : decode cX8_settle 34 = .ok (.bipush 6, 2) := by decide +kernel
theorem dX8_settle_36 : decode cX8_settle 36 = .ok (.ireturn, 1) := by decide +kernel
theorem dX8_settle_37 : decode cX8_settle 37 = .ok (.aload_n 0, 1) := by decide +kernel
theorem dX8_settle_38 : decode cX8_settle 38 = .ok (.getfield 74, 3) := by decide +kernel
theorem dX8_settle_41 : decode cX8_settle 41 = .ok (.astore_n 1, 1) := by decide +kernel
theorem dX8_settle_42 : decode cX8_settle 42 = .ok (.aload_n 0, 1) := by decide +kernel
theorem dX8_settle_43 : decode cX8_settle 43 = .ok (.aload_n 0, 1) := by decide +kernel
theorem dX8_settle_44 : decode cX8_settle 44 = .ok (.getfield 77, 3) := by decide +kernel
theorem dX8_settle_47 : decode cX8_settle 47 = .ok (.putfield 74, 3) := by decide +kernel
theorem dX8_settle_50 : decode cX8_settle 50 = .ok (.aload_n 0, 1) := by decide +kernel
theorem dX8_settle_51 : decode cX8_settle 51 = .ok (.aload_n 1, 1) := by decide +kernel
theorem dX8_settle_52 : decode cX8_settle 52 = .ok (.putfield 77, 3) := by decide +kernel
theorem dX8_settle_55 : decode cX8_settle 55 = .ok (.aload_n 0, 1) := by decide +kernel
theorem dX8_settle_56 : decode cX8_settle 56 = .ok (.iconst 1, 1) := by decide +kernel
theorem dX8_settle_57 : decode cX8_settle 57 = .ok (.putfield 238, 3) := by decide +kernel
theorem dX8_settle_60 : decode cX8_settle 60 = .ok (.iconst 0, 1) := by decide +kernel
theorem dX8_settle_61 : decode cX8_settle 61 = .ok (.ireturn, 1) := by decide +kernel
theorem dX8_packPair_0 : decode cX8_packPair 0 = .ok (.iload_n 1, 1) := by decide +kernel
theorem dX8_packPair_1 : decode cX8_packPair 1 = .ok (.iload_n 2, 1) := by decide +kernel
theorem dX8_packPair_2 : decode cX8_packPair 2 = .ok (.if_icmp .ge 9, 3) := by decide +kernel
theorem dX8_packPair_5 : decode cX8_packPair 5 = .ok (.lload_n 3, 1) := by decide +kernel
theorem dX8_packPair_6 : decode cX8_packPair 6 = .ok (.lconst 0, 1) := by decide +kernel
theorem dX8_packPair_7 : decode cX8_packPair 7 = .ok (.lcmp, 1) := by decide +kernel
theorem dX8_packPair_8 : decode cX8_packPair 8 = .ok (.ifCond .ge 5, 3) := by decide +kernel
theorem dX8_packPair_11 : decode cX8_packPair 11 = .ok (.lload_n 3, 1) := by decide +kernel
theorem dX8_packPair_12 : decode cX8_packPair 12 = .ok (.lreturn, 1) := by decide +kernel
theorem dX8_packPair_13 : decode cX8_packPair 13 = .ok (.iload_n 0, 1) := by decide +kernel
theorem dX8_packPair_14 : decode cX8_packPair 14 = .ok (.bipush 100, 2) := by decide +kernel
theorem dX8_packPair_16 : decode cX8_packPair 16 = .ok (.invokestatic 327, 3) := by decide +kernel
theorem dX8_packPair_19 : decode cX8_packPair 19 = .ok (.istore 5, 2) := by decide +kernel
theorem dX8_packPair_21 : decode cX8_packPair 21 = .ok (.iload_n 0, 1) := by decide +kernel
theorem dX8_packPair_22 : decode cX8_packPair 22 = .ok (.bipush 100, 2) := by decide +kernel
theorem dX8_packPair_24 : decode cX8_packPair 24 = .ok (.invokestatic 332, 3) := by decide +kernel
theorem dX8_packPair_27 : decode cX8_packPair 27 = .ok (.istore 6, 2) := by decide +kernel
theorem dX8_packPair_29 : decode cX8_packPair 29 = .ok (.iload 5, 2) := by decide +kernel
theorem dX8_packPair_31 : decode cX8_packPair 31 = .ok (.ifCond .lt 15, 3) := by decide +kernel
theorem dX8_packPair_34 : decode cX8_packPair 34 = .ok (.iload 5, 2) := by decide +kernel
theorem dX8_packPair_36 : decode cX8_packPair 36 = .ok (.iload_n 2, 1) := by decide +kernel
theorem dX8_packPair_37 : decode cX8_packPair 37 = .ok (.if_icmp .ge 9, 3) := by decide +kernel
theorem dX8_packPair_40 : decode cX8_packPair 40 = .ok (.iload 6, 2) := by decide +kernel
theorem dX8_packPair_42 : decode cX8_packPair 42 = .ok (.iload_n 2, 1) := by decide +kernel
theorem dX8_packPair_43 : decode cX8_packPair 43 = .ok (.if_icmp .lt 7, 3) := by decide +kernel
theorem dX8_packPair_46 : decode cX8_packPair 46 = .ok (.ldc2_w 335, 3) := by decide +kernel
theorem dX8_packPair_49 : decode cX8_packPair 49 = .ok (.lreturn, 1) := by decide +kernel
theorem dX8_packPair_50 : decode cX8_packPair 50 = .ok (.lload_n 3, 1) := by decide +kernel
theorem dX8_packPair_51 : decode cX8_packPair 51 = .ok (.iload_n 1, 1) := by decide +kernel
theorem dX8_packPair_52 : decode cX8_packPair 52 = .ok (.iload 5, 2) := by decide +kernel
theorem dX8_packPair_54 : decode cX8_packPair 54 = .ok (.invokestatic 337, 3) := by decide +kernel
theorem dX8_packPair_57 : decode cX8_packPair 57 = .ok (.lor, 1) := by decide +kernel
theorem dX8_packPair_58 : decode cX8_packPair 58 = .ok (.iload_n 1, 1) := by decide +kernel
theorem dX8_packPair_59 : decode cX8_packPair 59 = .ok (.iconst 1, 1) := by decide +kernel
theorem dX8_packPair_60 : decode cX8_packPair 60 = .ok (.iadd, 1) := by decide +kernel
theorem dX8_packPair_61 : decode cX8_packPair 61 = .ok (.iload 6, 2) := by decide +kernel
theorem dX8_packPair_63 : decode cX8_packPair 63 = .ok (.invokestatic 337, 3) := by decide +kernel
theorem dX8_packPair_66 : decode cX8_packPair 66 = .ok (.lor, 1) := by decide +kernel
theorem dX8_packPair_67 : decode cX8_packPair 67 = .ok (.lreturn, 1) := by decide +kernel
theorem dX8_powersCode_0 : decode cX8_powersCode 0 = .ok (.iload_n 0, 1) := by decide +kernel
theorem dX8_powersCode_1 : decode cX8_powersCode 1 = .ok (.iconst 4, 1) := by decide +kernel
theorem dX8_powersCode_2 : decode cX8_powersCode 2 = .ok (.ishl, 1) := by decide +kernel
theorem dX8_powersCode_3 : decode cX8_powersCode 3 = .ok (.iload_n 1, 1) := by decide +kernel
theorem dX8_powersCode_4 : decode cX8_powersCode 4 = .ok (.iconst 2, 1) := by decide +kernel
theorem dX8_powersCode_5 : decode cX8_powersCode 5 = .ok (.ishl, 1) := by decide +kernel
theorem dX8_powersCode_6 : decode cX8_powersCode 6 = .ok (.iadd, 1) := by decide +kernel
theorem dX8_powersCode_7 : decode cX8_powersCode 7 = .ok (.iload_n 2, 1) := by decide +kernel
theorem dX8_powersCode_8 : decode cX8_powersCode 8 = .ok (.iadd, 1) := by decide +kernel
theorem dX8_powersCode_9 : decode cX8_powersCode 9 = .ok (.ireturn, 1) := by decide +kernel

