theorem dX10_init_0 : decode cX10_init 0 = .ok (.aload_n 0, 1) := by decide +kernel
theorem dX10_init_1 : decode cX10_init 1 = .ok (.invokespecial 1, 3) := by decide +kernel
theorem dX10_init_4 : decode cX10_init 4 = .ok (.aload_n 0, 1) := by decide +kernel
theorem dX10_init_5 : decode cX10_init 5 = .ok (.sipush 2048, 3) := by decide +kernel
theorem dX10_init_8 : decode cX10_init 8 = .ok (.newarray .int, 2) := by decide +kernel
theorem dX10_init_10 : decode cX10_init 10 = .ok (.putfield 7, 3) := by decide +kernel
theorem dX10_init_13 : decode cX10_init 13 = .ok (.aload_n 0, 1) := by decide +kernel
theorem dX10_init_14 : decode cX10_init 14 = .ok (.sipush 2048, 3) := by decide +kernel
theorem dX10_init_17 : decode cX10_init 17 = .ok (.newarray .int, 2) := by decide +kernel
theorem dX10_init_19 : decode cX10_init 19 = .ok (.putfield 13, 3) := by decide +kernel
theorem dX10_init_22 : decode cX10_init 22 = .ok (.aload_n 0, 1) := by decide +kernel
theorem dX10_init_23 : decode cX10_init 23 = .ok (.sipush 2048, 3) := by decide +kernel
theorem dX10_init_26 : decode cX10_init 26 = .ok (.newarray .int, 2) := by decide +kernel
theorem dX10_init_28 : decode cX10_init 28 = .ok (.putfield 16, 3) := by decide +kernel
theorem dX10_init_31 : decode cX10_init 31 = .ok (.aload_n 0, 1) := by decide +kernel
theorem dX10_init_32 : decode cX10_init 32 = .ok (.sipush 2048, 3) := by decide +kernel
theorem dX10_init_35 : decode cX10_init 35 = .ok (.newarray .int, 2) := by decide +kernel
theorem dX10_init_37 : decode cX10_init 37 = .ok (.putfield 19, 3) := by decide +kernel
theorem dX10_init_40 : decode cX10_init 40 = .ok (.aload_n 0, 1) := by decide +kernel
theorem dX10_init_41 : decode cX10_init 41 = .ok (.sipush 2048, 3) := by decide +kernel
theorem dX10_init_44 : decode cX10_init 44 = .ok (.newarray .int, 2) := by decide +kernel
theorem dX10_init_46 : decode cX10_init 46 = .ok (.putfield 22, 3) := by decide +kernel
theorem dX10_init_49 : decode cX10_init 49 = .ok (.aload_n 0, 1) := by decide +kernel
theorem dX10_init_50 : decode cX10_init 50 = .ok (.sipush 2048, 3) := by decide +kernel
theorem dX10_init_53 : decode cX10_init 53 = .ok (.newarray .int, 2) := by decide +kernel
theorem dX10_init_55 : decode cX10_init 55 = .ok (.putfield 25, 3) := by decide +kernel
theorem dX10_init_58 : decode cX10_init 58 = .ok (.aload_n 0, 1) := by decide +kernel
theorem dX10_init_59 : decode cX10_init 59 = .ok (.sipush 2048, 3) := by decide +kernel
theorem dX10_init_62 : decode cX10_init 62 = .ok (.newarray .int, 2) := by decide +kernel
theorem dX10_init_64 : decode cX10_init 64 = .ok (.putfield 28, 3) := by decide +kernel
theorem dX10_init_67 : decode cX10_init 67 = .ok (.aload_n 0, 1) := by decide +kernel
theorem dX10_init_68 : decode cX10_init 68 = .ok (.sipush 4096, 3) := by decide +kernel
theorem dX10_init_71 : decode cX10_init 71 = .ok (.newarray .int, 2) := by decide +kernel
theorem dX10_init_73 : decode cX10_init 73 = .ok (.putfield 31, 3) := by decide +kernel
theorem dX10_init_76 : decode cX10_init 76 = .ok (.aload_n 0, 1) := by decide +kernel
theorem dX10_init_77 : decode cX10_init 77 = .ok (.sipush 4096, 3) := by decide +kernel
theorem dX10_init_80 : decode cX10_init 80 = .ok (.newarray .int, 2) := by decide +kernel
theorem dX10_init_82 : decode cX10_init 82 = .ok (.putfield 34, 3) := by decide +kernel
theorem dX10_init_85 : decode cX10_init 85 = .ok (.aload_n 0, 1) := by decide +kernel
theorem dX10_init_86 : decode cX10_init 86 = .ok (.sipush 4096, 3) := by decide +kernel
theorem dX10_init_89 : decode cX10_init 89 = .ok (.newarray .int, 2) := by decide +kernel
theorem dX10_init_91 : decode cX10_init 91 = .ok (.putfield 37, 3) := by decide +kernel
theorem dX10_init_94 : decode cX10_init 94 = .ok (.aload_n 0, 1) := by decide +kernel
theorem dX10_init_95 : decode cX10_init 95 = .ok (.sipush 4096, 3) := by decide +kernel
theorem dX10_init_98 : decode cX10_init 98 = .ok (.newarray .int, 2) := by decide +kernel
theorem dX10_init_100 : decode cX10_init 100 = .ok (.putfield 40, 3) := by decide +kernel
theorem dX10_init_103 : decode cX10_init 103 = .ok (.aload_n 0, 1) := by decide +kernel
theorem dX10_init_104 : decode cX10_init 104 = .ok (.bipush 50, 2) := by decide +kernel
theorem dX10_init_106 : decode cX10_init 106 = .ok (.newarray .int, 2) := by decide +kernel
theorem dX10_init_108 : decode cX10_init 108 = .ok (.putfield 43, 3) := by decide +kernel
theorem dX10_init_111 : decode cX10_init 111 = .ok (.aload_n 0, 1) := by decide +kernel
theorem dX10_init_112 : decode cX10_init 112 = .ok (.bipush 7, 2) := by decide +kernel
theorem dX10_init_114 : decode cX10_init 114 = .ok (.newarray .int, 2) := by decide +kernel
theorem dX10_init_116 : decode cX10_init 116 = .ok (.dup, 1) := by decide +kernel
theorem dX10_init_117 : decode cX10_init 117 = .ok (.iconst 0, 1) := by decide +kernel
theorem dX10_init_118 : decode cX10_init 118 = .ok (.iconst (-1), 1) := by decide +kernel
theorem dX10_init_119 : decode cX10_init 119 = .ok (.iastore, 1) := by decide +kernel
theorem dX10_init_120 : decode cX10_init 120 = .ok (.dup, 1) := by decide +kernel
theorem dX10_init_121 : decode cX10_init 121 = .ok (.iconst 1, 1) := by decide +kernel
theorem dX10_init_122 : decode cX10_init 122 = .ok (.iconst (-1), 1) := by decide +kernel
theorem dX10_init_123 : decode cX10_init 123 = .ok (.iastore, 1) := by decide +kernel
theorem dX10_init_124 : decode cX10_init 124 = .ok (.dup, 1) := by decide +kernel
theorem dX10_init_125 : decode cX10_init 125 = .ok (.iconst 2, 1) := by decide +kernel
theorem dX10_init_126 : decode cX10_init 126 = .ok (.iconst (-1), 1) := by decide +kernel
theorem dX10_init_127 : decode cX10_init 127 = .ok (.iastore, 1) := by decide +kernel
theorem dX10_init_128 : decode cX10_init 128 = .ok (.dup, 1) := by decide +kernel
theorem dX10_init_129 : decode cX10_init 129 = .ok (.iconst 3, 1) := by decide +kernel
theorem dX10_init_130 : decode cX10_init 130 = .ok (.iconst (-1), 1) := by decide +kernel
theorem dX10_init_131 : decode cX10_init 131 = .ok (.iastore, 1) := by decide +kernel
theorem dX10_init_132 : decode cX10_init 132 = .ok (.dup, 1) := by decide +kernel
theorem dX10_init_133 : decode cX10_init 133 = .ok (.iconst 4, 1) := by decide +kernel
theorem dX10_init_134 : decode cX10_init 134 = .ok (.iconst (-1), 1) := by decide +kernel
theorem dX10_init_135 : decode cX10_init 135 = .ok (.iastore, 1) := by decide +kernel
theorem dX10_init_136 : decode cX10_init 136 = .ok (.dup, 1) := by decide +kernel
theorem dX10_init_137 : decode cX10_init 137 = .ok (.iconst 5, 1) := by decide +kernel
theorem dX10_init_138 : decode cX10_init 138 = .ok (.iconst (-1), 1) := by decide +kernel
theorem dX10_init_139 : decode cX10_init 139 = .ok (.iastore, 1) := by decide +kernel
theorem dX10_init_140 : decode cX10_init 140 = .ok (.dup, 1) := by decide +kernel
theorem dX10_init_141 : decode cX10_init 141 = .ok (.bipush 6, 2) := by decide +kernel
theorem dX10_init_143 : decode cX10_init 143 = .ok (.iconst (-1), 1) := by decide +kernel
theorem dX10_init_144 : decode cX10_init 144 = .ok (.iastore, 1) := by decide +kernel
theorem dX10_init_145 : decode cX10_init 145 = .ok (.putfield 46, 3) := by decide +kernel
theorem dX10_init_148 : decode cX10_init 148 = .ok (.aload_n 0, 1) := by decide +kernel
theorem dX10_init_149 : decode cX10_init 149 = .ok (.sipush 4096, 3) := by decide +kernel
theorem dX10_init_152 : decode cX10_init 152 = .ok (.newarray .int, 2) := by decide +kernel
theorem dX10_init_154 : decode cX10_init 154 = .ok (.putfield 49, 3) := by decide +kernel
theorem dX10_init_157 : decode cX10_init 157 = .ok (.return_, 1) := by decide +kernel
theorem dX10_thrown_0 : decode cX10_thrown 0 = .ok (.aload_n 0, 1) := by decide +kernel
theorem dX10_thrown_1 : decode cX10_thrown 1 = .ok (.getfield 52, 3) := by decide +kernel
theorem dX10_thrown_4 : decode cX10_thrown 4 = .ok (.ireturn, 1) := by decide +kernel
theorem dX10_fail_0 : decode cX10_fail 0 = .ok (.aload_n 0, 1) := by decide +kernel
theorem dX10_fail_1 : decode cX10_fail 1 = .ok (.iload_n 1, 1) := by decide +kernel
theorem dX10_fail_2 : decode cX10_fail 2 = .ok (.putfield 52, 3) := by decide +kernel
theorem dX10_fail_5 : decode cX10_fail 5 = .ok (.iconst 0, 1) := by decide +kernel
theorem dX10_fail_6 : decode cX10_fail 6 = .ok (.ireturn, 1) := by decide +kernel
theorem dX10_within_0 : decode cX10_within 0 = .ok (.iload_n 0, 1) := by decide +kernel
theorem dX10_within_1 : decode cX10_within 1 = .ok (.iload_n 1, 1) := by decide +kernel
theorem dX10_within_2 : decode cX10_within 2 = .ok (.if_icmp .lt 12, 3) := by decide +kernel
theorem dX10_within_5 : decode cX10_within 5 = .ok (.iload_n 0, 1) := by decide +kernel
theorem dX10_within_6 : decode cX10_within 6 = .ok (.iload_n 2, 1) := by decide +kernel
theorem dX10_within_7 : decode cX10_within 7 = .ok (.if_icmp .gt 7, 3) := by decide +kernel
theorem dX10_within_10 : decode cX10_within 10 = .ok (.iconst 1, 1) := by decide +kernel
theorem dX10_within_11 : decode cX10_within 11 = .ok (.goto 4, 3) := by decide +kernel
theorem dX10_within_14 : decode cX10_within 14 = .ok (.iconst 0, 1) := by decide +kernel
theorem dX10_within_15 : decode cX10_within 15 = .ok (.ireturn, 1) := by decide +kernel
theorem dX10_noPlace_0 : decode cX10_noPlace 0 = .ok (.iconst 0, 1) := by decide +kernel
theorem dX10_noPlace_1 : decode cX10_noPlace 1 = .ok (.istore_n 1, 1) := by decide +kernel
theorem dX10_noPlace_2 : decode cX10_noPlace 2 = .ok (.iload_n 1, 1) := by decide +kernel
theorem dX10_noPlace_3 : decode cX10_noPlace 3 = .ok (.bipush 7, 2) := by decide +kernel
theorem dX10_noPlace_5 : decode cX10_noPlace 5 = .ok (.if_icmp .ge 16, 3) := by decide +kernel
theorem dX10_noPlace_8 : decode cX10_noPlace 8 = .ok (.aload_n 0, 1) := by decide +kernel
theorem dX10_noPlace_9 : decode cX10_noPlace 9 = .ok (.getfield 46, 3) := by decide +kernel
theorem dX10_noPlace_12 : decode cX10_noPlace 12 = .ok (.iload_n 1, 1) := by decide +kernel
theorem dX10_noPlace_13 : decode cX10_noPlace 13 = .ok (.iconst (-1), 1) := by decide +kernel
theorem dX10_noPlace_14 : decode cX10_noPlace 14 = .ok (.iastore, 1) := by decide +kernel
theorem dX10_noPlace_15 : decode cX10_noPlace 15 = .ok (.iinc 1 1, 3) := by decide +kernel
theorem dX10_noPlace_18 : decode cX10_noPlace 18 = .ok (.goto (-16), 3) := by decide +kernel
theorem dX10_noPlace_21 : decode cX10_noPlace 21 = .ok (.return_, 1) := by decide +kernel
theorem dX10_clear_0 : decode cX10_clear 0 = .ok (.aload_n 0, 1) := by decide +kernel
theorem dX10_clear_1 : decode cX10_clear 1 = .ok (.iconst 0, 1) := by decide +kernel
theorem dX10_clear_2 : decode cX10_clear 2 = .ok (.putfield 52, 3) := by decide +kernel
theorem dX10_clear_5 : decode cX10_clear 5 = .ok (.aload_n 0, 1) := by decide +kernel
theorem dX10_clear_6 : decode cX10_clear 6 = .ok (.getfield 56, 3) := by decide +kernel
theorem dX10_clear_9 : decode cX10_clear 9 = .ok (.istore_n 1, 1) := by decide +kernel
theorem dX10_clear_10 : decode cX10_clear 10 = .ok (.aload_n 0, 1) := by decide +kernel
theorem dX10_clear_11 : decode cX10_clear 11 = .ok (.iconst 0, 1) := by decide +kernel
theorem dX10_clear_12 : decode cX10_clear 12 = .ok (.putfield 59, 3) := by decide +kernel
theorem dX10_clear_15 : decode cX10_clear 15 = .ok (.aload_n 0, 1) := by decide +kernel
theorem dX10_clear_16 : decode cX10_clear 16 = .ok (.iconst 0, 1) := by decide +kernel
theorem dX10_clear_17 : decode cX10_clear 17 = .ok (.putfield 56, 3) := by decide +kernel
theorem dX10_clear_20 : decode cX10_clear 20 = .ok (.aload_n 0, 1) := by decide +kernel
theorem dX10_clear_21 : decode cX10_clear 21 = .ok (.iconst 0, 1) := by decide +kernel
theorem dX10_clear_22 : decode cX10_clear 22 = .ok (.putfield 62, 3) := by decide +kernel
theorem dX10_clear_25 : decode cX10_clear 25 = .ok (.aload_n 0, 1) := by decide +kernel
theorem dX10_clear_26 : decode cX10_clear 26 = .ok (.iconst 0, 1) := by decide +kernel
theorem dX10_clear_27 : decode cX10_clear 27 = .ok (.putfield 65, 3) := by decide +kernel
theorem dX10_clear_30 : decode cX10_clear 30 = .ok (.aload_n 0, 1) := by decide +kernel
theorem dX10_clear_31 : decode cX10_clear 31 = .ok (.iconst 0, 1) := by decide +kernel
theorem dX10_clear_32 : decode cX10_clear 32 = .ok (.putfield 68, 3) := by decide +kernel
theorem dX10_clear_35 : decode cX10_clear 35 = .ok (.aload_n 0, 1) := by decide +kernel
theorem dX10_clear_36 : decode cX10_clear 36 = .ok (.invokevirtual 71, 3) := by decide +kernel
theorem dX10_clear_39 : decode cX10_clear 39 = .ok (.iload_n 1, 1) := by decide +kernel
theorem dX10_clear_40 : decode cX10_clear 40 = .ok (.ireturn, 1) := by decide +kernel
theorem dX10_top_0 : decode cX10_top 0 = .ok (.aload_n 0, 1) := by decide +kernel
theorem dX10_top_1 : decode cX10_top 1 = .ok (.getfield 68, 3) := by decide +kernel
theorem dX10_top_4 : decode cX10_top 4 = .ok (.ifCond .le 17, 3) := by decide +kernel
theorem dX10_top_7 : decode cX10_top 7 = .ok (.aload_n 0, 1) := by decide +kernel
theorem dX10_top_8 : decode cX10_top 8 = .ok (.getfield 43, 3) := by decide +kernel
theorem dX10_top_11 : decode cX10_top 11 = .ok (.aload_n 0, 1) := by decide +kernel
theorem dX10_top_12 : decode cX10_top 12 = .ok (.getfield 68, 3) := by decide +kernel
theorem dX10_top_15 : decode cX10_top 15 = .ok (.iconst 1, 1) := by decide +kernel
theorem dX10_top_16 : decode cX10_top 16 = .ok (.isub, 1) := by decide +kernel
theorem dX10_top_17 : decode cX10_top 17 = .ok (.iaload, 1) := by decide +kernel
theorem dX10_top_18 : decode cX10_top 18 = .ok (.goto 4, 3) := by decide +kernel
theorem dX10_top_21 : decode cX10_top 21 = .ok (.iconst (-1), 1) := by decide +kernel
theorem dX10_top_22 : decode cX10_top 22 = .ok (.ireturn, 1) := by decide +kernel
theorem dX10_takes_0 : decode cX10_takes 0 = .ok (.aload_n 0, 1) := by decide +kernel
theorem dX10_takes_1 : decode cX10_takes 1 = .ok (.getfield 68, 3) := by decide +kernel
theorem dX10_takes_4 : decode cX10_takes 4 = .ok (.ifCond .ne 16, 3) := by decide +kernel
theorem dX10_takes_7 : decode cX10_takes 7 = .ok (.aload_n 0, 1) := by decide +kernel
theorem dX10_takes_8 : decode cX10_takes 8 = .ok (.getfield 59, 3) := by decide +kernel
theorem dX10_takes_11 : decode cX10_takes 11 = .ok (.ifCond .ne 7, 3) := by decide +kernel
theorem dX10_takes_14 : decode cX10_takes 14 = .ok (.iconst 1, 1) := by decide +kernel
theorem dX10_takes_15 : decode cX10_takes 15 = .ok (.goto 4, 3) := by decide +kernel
theorem dX10_takes_18 : decode cX10_takes 18 = .ok (.iconst 0, 1) := by decide +kernel
theorem dX10_takes_19 : decode cX10_takes 19 = .ok (.ireturn, 1) := by decide +kernel
theorem dX10_takes_20 : decode cX10_takes 20 = .ok (.aload_n 0, 1) := by decide +kernel
theorem dX10_takes_21 : decode cX10_takes 21 = .ok (.getfield 7, 3) := by decide +kernel
theorem dX10_takes_24 : decode cX10_takes 24 = .ok (.aload_n 0, 1) := by decide +kernel
theorem dX10_takes_25 : decode cX10_takes 25 = .ok (.invokevirtual 74, 3) := by decide +kernel
theorem dX10_takes_28 : decode cX10_takes 28 = .ok (.iaload, 1) := by decide +kernel
theorem dX10_takes_29 : decode cX10_takes 29 = .ok (.istore_n 2, 1) := by decide +kernel
theorem dX10_takes_30 : decode cX10_takes 30 = .ok (.aload_n 0, 1) := by decide +kernel
theorem dX10_takes_31 : decode cX10_takes 31 = .ok (.getfield 68, 3) := by decide +kernel
theorem dX10_takes_34 : decode cX10_takes 34 = .ok (.bipush 50, 2) := by decide +kernel
theorem dX10_takes_36 : decode cX10_takes 36 = .ok (.if_icmp .ge 25, 3) := by decide +kernel
theorem dX10_takes_39 : decode cX10_takes 39 = .ok (.iload_n 2, 1) := by decide +kernel
theorem dX10_takes_40 : decode cX10_takes 40 = .ok (.bipush 7, 2) := by decide +kernel
theorem dX10_takes_42 : decode cX10_takes 42 = .ok (.if_icmp .eq 15, 3) := by decide +kernel
theorem dX10_takes_45 : decode cX10_takes 45 = .ok (.iload_n 2, 1) := by decide +kernel
theorem dX10_takes_46 : decode cX10_takes 46 = .ok (.iconst 3, 1) := by decide +kernel
theorem dX10_takes_47 : decode cX10_takes 47 = .ok (.if_icmp .le 14, 3) := by decide +kernel
theorem dX10_takes_50 : decode cX10_takes 50 = .ok (.iload_n 1, 1) := by decide +kernel
theorem dX10_takes_51 : decode cX10_takes 51 = .ok (.iload_n 2, 1) := by decide +kernel
theorem dX10_takes_52 : decode cX10_takes 52 = .ok (.iconst 3, 1) := by decide +kernel
theorem dX10_takes_53 : decode cX10_takes 53 = .ok (.isub, 1) := by decide +kernel
theorem dX10_takes_54 : decode cX10_takes 54 = .ok (.if_icmp .ne 7, 3) := by decide +kernel
theorem dX10_takes_57 : decode cX10_takes 57 = .ok (.iconst 1, 1) := by decide +kernel
theorem dX10_takes_58 : decode cX10_takes 58 = .ok (.goto 4, 3) := by decide +kernel
theorem dX10_takes_61 : decode cX10_takes 61 = .ok (.iconst 0, 1) := by decide +kernel
theorem dX10_takes_62 : decode cX10_takes 62 = .ok (.ireturn, 1) := by decide +kernel
theorem dX10_open_0 : decode cX10_open 0 = .ok (.aload_n 0, 1) := by decide +kernel
theorem dX10_open_1 : decode cX10_open 1 = .ok (.iconst 0, 1) := by decide +kernel
theorem dX10_open_2 : decode cX10_open 2 = .ok (.putfield 52, 3) := by decide +kernel
theorem dX10_open_5 : decode cX10_open 5 = .ok (.iload_n 1, 1) := by decide +kernel
theorem dX10_open_6 : decode cX10_open 6 = .ok (.iconst 1, 1) := by decide +kernel
theorem dX10_open_7 : decode cX10_open 7 = .ok (.bipush 7, 2) := by decide +kernel
theorem dX10_open_9 : decode cX10_open 9 = .ok (.invokestatic 78, 3) := by decide +kernel
theorem dX10_open_12 : decode cX10_open 12 = .ok (.ifCond .ne 9, 3) := by decide +kernel
theorem dX10_open_15 : decode cX10_open 15 = .ok (.aload_n 0, 1) := by decide +kernel
theorem dX10_open_16 : decode cX10_open 16 = .ok (.iconst 1, 1) := by decide +kernel
theorem dX10_open_17 : decode cX10_open 17 = .ok (.invokevirtual 82, 3) := by decide +kernel
theorem dX10_open_20 : decode cX10_open 20 = .ok (.ireturn, 1) := by decide +kernel
theorem dX10_open_21 : decode cX10_open 21 = .ok (.aload_n 0, 1) := by decide +kernel
theorem dX10_open_22 : decode cX10_open 22 = .ok (.iload_n 1, 1) := by decide +kernel
theorem dX10_open_23 : decode cX10_open 23 = .ok (.invokevirtual 86, 3) := by decide +kernel
theorem dX10_open_26 : decode cX10_open 26 = .ok (.ifCond .ne 9, 3) := by decide +kernel
theorem dX10_open_29 : decode cX10_open 29 = .ok (.aload_n 0, 1) := by decide +kernel
theorem dX10_open_30 : decode cX10_open 30 = .ok (.iconst 2, 1) := by decide +kernel
theorem dX10_open_31 : decode cX10_open 31 = .ok (.invokevirtual 82, 3) := by decide +kernel
theorem dX10_open_34 : decode cX10_open 34 = .ok (.ireturn, 1) := by decide +kernel
theorem dX10_open_35 : decode cX10_open 35 = .ok (.aload_n 0, 1) := by decide +kernel
theorem dX10_open_36 : decode cX10_open 36 = .ok (.getfield 56, 3) := by decide +kernel
theorem dX10_open_39 : decode cX10_open 39 = .ok (.iconst 2, 1) := by decide +kernel
theorem dX10_open_40 : decode cX10_open 40 = .ok (.iadd, 1) := by decide +kernel
theorem dX10_open_41 : decode cX10_open 41 = .ok (.sipush 4096, 3) := by decide +kernel
theorem dX10_open_44 : decode cX10_open 44 = .ok (.if_icmp .le 9, 3) := by decide +kernel
theorem dX10_open_47 : decode cX10_open 47 = .ok (.aload_n 0, 1) := by decide +kernel
theorem dX10_open_48 : decode cX10_open 48 = .ok (.iconst 3, 1) := by decide +kernel
theorem dX10_open_49 : decode cX10_open 49 = .ok (.invokevirtual 82, 3) := by decide +kernel
theorem dX10_open_52 : decode cX10_open 52 = .ok (.ireturn, 1) := by decide +kernel
theorem dX10_open_53 : decode cX10_open 53 = .ok (.aload_n 0, 1) := by decide +kernel
theorem dX10_open_54 : decode cX10_open 54 = .ok (.dup, 1) := by decide +kernel
theorem dX10_open_55 : decode cX10_open 55 = .ok (.getfield 56, 3) := by decide +kernel
theorem dX10_open_58 : decode cX10_open 58 = .ok (.iconst 2, 1) := by decide +kernel
theorem dX10_open_59 : decode cX10_open 59 = .ok (.iadd, 1) := by decide +kernel
theorem dX10_open_60 : decode cX10_open 60 = .ok (.putfield 56, 3) := by decide +kernel
theorem dX10_open_63 : decode cX10_open 63 = .ok (.aload_n 0, 1) := by decide +kernel
theorem dX10_open_64 : decode cX10_open 64 = .ok (.getfield 59, 3) := by decide +kernel
theorem dX10_open_67 : decode cX10_open 67 = .ok (.istore_n 2, 1) := by decide +kernel
theorem dX10_open_68 : decode cX10_open 68 = .ok (.aload_n 0, 1) := by decide +kernel
theorem dX10_open_69 : decode cX10_open 69 = .ok (.dup, 1) := by decide +kernel
theorem dX10_open_70 : decode cX10_open 70 = .ok (.getfield 59, 3) := by decide +kernel
theorem dX10_open_73 : decode cX10_open 73 = .ok (.iconst 1, 1) := by decide +kernel
theorem dX10_open_74 : decode cX10_open 74 = .ok (.iadd, 1) := by decide +kernel
theorem dX10_open_75 : decode cX10_open 75 = .ok (.putfield 59, 3) := by decide +kernel
theorem dX10_open_78 : decode cX10_open 78 = .ok (.aload_n 0, 1) := by decide +kernel
theorem dX10_open_79 : decode cX10_open 79 = .ok (.getfield 7, 3) := by decide +kernel
theorem dX10_open_82 : decode cX10_open 82 = .ok (.iload_n 2, 1) := by decide +kernel
theorem dX10_open_83 : decode cX10_open 83 = .ok (.iload_n 1, 1) := by decide +kernel
theorem dX10_open_84 : decode cX10_open 84 = .ok (.iastore, 1) := by decide +kernel
theorem dX10_open_85 : decode cX10_open 85 = .ok (.aload_n 0, 1) := by decide +kernel
theorem dX10_open_86 : decode cX10_open 86 = .ok (.getfield 13, 3) := by decide +kernel
theorem dX10_open_89 : decode cX10_open 89 = .ok (.iload_n 2, 1) := by decide +kernel
theorem dX10_open_90 : decode cX10_open 90 = .ok (.aload_n 0, 1) := by decide +kernel
theorem dX10_open_91 : decode cX10_open 91 = .ok (.invokevirtual 74, 3) := by decide +kernel
theorem dX10_open_94 : decode cX10_open 94 = .ok (.iastore, 1) := by decide +kernel
theorem dX10_open_95 : decode cX10_open 95 = .ok (.aload_n 0, 1) := by decide +kernel
theorem dX10_open_96 : decode cX10_open 96 = .ok (.getfield 16, 3) := by decide +kernel
theorem dX10_open_99 : decode cX10_open 99 = .ok (.iload_n 2, 1) := by decide +kernel
theorem dX10_open_100 : decode cX10_open 100 = .ok (.iconst 0, 1) := by decide +kernel
theorem dX10_open_101 : decode cX10_open 101 = .ok (.iastore, 1) := by decide +kernel
theorem dX10_open_102 : decode cX10_open 102 = .ok (.iconst 0, 1) := by decide +kernel
theorem dX10_open_103 : decode cX10_open 103 = .ok (.istore_n 3, 1) := by decide +kernel
theorem dX10_open_104 : decode cX10_open 104 = .ok (.iload_n 3, 1) := by decide +kernel
theorem dX10_open_105 : decode cX10_open 105 = .ok (.iload_n 2, 1) := by decide +kernel
theorem dX10_open_106 : decode cX10_open 106 = .ok (.if_icmp .ge 43, 3) := by decide +kernel
theorem dX10_open_109 : decode cX10_open 109 = .ok (.aload_n 0, 1) := by decide +kernel
theorem dX10_open_110 : decode cX10_open 110 = .ok (.getfield 16, 3) := by decide +kernel
theorem dX10_open_113 : decode cX10_open 113 = .ok (.iload_n 2, 1) := by decide +kernel
theorem dX10_open_114 : decode cX10_open 114 = .ok (.dup2, 1) := by decide +kernel
theorem dX10_open_115 : decode cX10_open 115 = .ok (.iaload, 1) := by decide +kernel
theorem dX10_open_116 : decode cX10_open 116 = .ok (.aload_n 0, 1) := by decide +kernel
theorem dX10_open_117 : decode cX10_open 117 = .ok (.getfield 13, 3) := by decide +kernel
theorem dX10_open_120 : decode cX10_open 120 = .ok (.iload_n 3, 1) := by decide +kernel
theorem dX10_open_121 : decode cX10_open 121 = .ok (.iaload, 1) := by decide +kernel
theorem dX10_open_122 : decode cX10_open 122 = .ok (.aload_n 0, 1) := by decide +kernel
theorem dX10_open_123 : decode cX10_open 123 = .ok (.invokevirtual 74, 3) := by decide +kernel
theorem dX10_open_126 : decode cX10_open 126 = .ok (.if_icmp .ne 14, 3) := by decide +kernel
theorem dX10_open_129 : decode cX10_open 129 = .ok (.aload_n 0, 1) := by decide +kernel
theorem dX10_open_130 : decode cX10_open 130 = .ok (.invokevirtual 74, 3) := by decide +kernel
theorem dX10_open_133 : decode cX10_open 133 = .ok (.ifCond .lt 7, 3) := by decide +kernel
theorem dX10_open_136 : decode cX10_open 136 = .ok (.iconst 1, 1) := by decide +kernel
theorem dX10_open_137 : decode cX10_open 137 = .ok (.goto 4, 3) := by decide +kernel
theorem dX10_open_140 : decode cX10_open 140 = .ok (.iconst 0, 1) := by decide +kernel
theorem dX10_open_141 : decode cX10_open 141 = .ok (.iadd, 1) := by decide +kernel
theorem dX10_open_142 : decode cX10_open 142 = .ok (.iastore, 1) := by decide +kernel
theorem dX10_open_143 : decode cX10_open 143 = .ok (.iinc 3 1, 3) := by decide +kernel
theorem dX10_open_146 : decode cX10_open 146 = .ok (.goto (-42), 3) := by decide +kernel
theorem dX10_open_149 : decode cX10_open 149 = .ok (.aload_n 0, 1) := by decide +kernel
theorem dX10_open_150 : decode cX10_open 150 = .ok (.getfield 19, 3) := by decide +kernel
theorem dX10_open_153 : decode cX10_open 153 = .ok (.iload_n 2, 1) := by decide +kernel
theorem dX10_open_154 : decode cX10_open 154 = .ok (.aload_n 0, 1) := by decide +kernel
theorem dX10_open_155 : decode cX10_open 155 = .ok (.getfield 62, 3) := by decide +kernel
theorem dX10_open_158 : decode cX10_open 158 = .ok (.iastore, 1) := by decide +kernel
theorem dX10_open_159 : decode cX10_open 159 = .ok (.aload_n 0, 1) := by decide +kernel
theorem dX10_open_160 : decode cX10_open 160 = .ok (.getfield 22, 3) := by decide +kernel
theorem dX10_open_163 : decode cX10_open 163 = .ok (.iload_n 2, 1) := by decide +kernel
theorem dX10_open_164 : decode cX10_open 164 = .ok (.iconst 0, 1) := by decide +kernel
theorem dX10_open_165 : decode cX10_open 165 = .ok (.iastore, 1) := by decide +kernel
theorem dX10_open_166 : decode cX10_open 166 = .ok (.aload_n 0, 1) := by decide +kernel
theorem dX10_open_167 : decode cX10_open 167 = .ok (.getfield 25, 3) := by decide +kernel
theorem dX10_open_170 : decode cX10_open 170 = .ok (.iload_n 2, 1) := by decide +kernel
theorem dX10_open_171 : decode cX10_open 171 = .ok (.aload_n 0, 1) := by decide +kernel
theorem dX10_open_172 : decode cX10_open 172 = .ok (.getfield 65, 3) := by decide +kernel
theorem dX10_open_175 : decode cX10_open 175 = .ok (.iastore, 1) := by decide +kernel
theorem dX10_open_176 : decode cX10_open 176 = .ok (.aload_n 0, 1) := by decide +kernel
theorem dX10_open_177 : decode cX10_open 177 = .ok (.getfield 28, 3) := by decide +kernel
theorem dX10_open_180 : decode cX10_open 180 = .ok (.iload_n 2, 1) := by decide +kernel
theorem dX10_open_181 : decode cX10_open 181 = .ok (.iconst 0, 1) := by decide +kernel
theorem dX10_open_182 : decode cX10_open 182 = .ok (.iastore, 1) := by decide +kernel
theorem dX10_open_183 : decode cX10_open 183 = .ok (.aload_n 0, 1) := by decide +kernel
theorem dX10_open_184 : decode cX10_open 184 = .ok (.getfield 43, 3) := by decide +kernel
theorem dX10_open_187 : decode cX10_open 187 = .ok (.aload_n 0, 1) := by decide +kernel
theorem dX10_open_188 : decode cX10_open 188 = .ok (.getfield 68, 3) := by decide +kernel
theorem dX10_open_191 : decode cX10_open 191 = .ok (.iload_n 2, 1) := by decide +kernel
theorem dX10_open_192 : decode cX10_open 192 = .ok (.iastore, 1) := by decide +kernel
theorem dX10_open_193 : decode cX10_open 193 = .ok (.aload_n 0, 1) := by decide +kernel
theorem dX10_open_194 : decode cX10_open 194 = .ok (.dup, 1) := by decide +kernel
theorem dX10_open_195 : decode cX10_open 195 = .ok (.getfield 68, 3) := by decide +kernel
theorem dX10_open_198 : decode cX10_open 198 = .ok (.iconst 1, 1) := by decide +kernel
theorem dX10_open_199 : decode cX10_open 199 = .ok (.iadd, 1) := by decide +kernel
theorem dX10_open_200 : decode cX10_open 200 = .ok (.putfield 68, 3) := by decide +kernel
theorem dX10_open_203 : decode cX10_open 203 = .ok (.aload_n 0, 1) := by decide +kernel
theorem dX10_open_204 : decode cX10_open 204 = .ok (.getfield 68, 3) := by decide +kernel
theorem dX10_open_207 : decode cX10_open 207 = .ok (.ireturn, 1) := by decide +kernel
theorem dX10_ring_0 : decode cX10_ring 0 = .ok (.aload_n 0, 1) := by decide +kernel
theorem dX10_ring_1 : decode cX10_ring 1 = .ok (.iconst 0, 1) := by decide +kernel
theorem dX10_ring_2 : decode cX10_ring 2 = .ok (.putfield 52, 3) := by decide +kernel
theorem dX10_ring_5 : decode cX10_ring 5 = .ok (.aload_n 0, 1) := by decide +kernel
theorem dX10_ring_6 : decode cX10_ring 6 = .ok (.getfield 68, 3) := by decide +kernel
theorem dX10_ring_9 : decode cX10_ring 9 = .ok (.ifCond .eq 16, 3) := by decide +kernel
theorem dX10_ring_12 : decode cX10_ring 12 = .ok (.aload_n 0, 1) := by decide +kernel
theorem dX10_ring_13 : decode cX10_ring 13 = .ok (.getfield 7, 3) := by decide +kernel
theorem dX10_ring_16 : decode cX10_ring 16 = .ok (.aload_n 0, 1) := by decide +kernel
theorem dX10_ring_17 : decode cX10_ring 17 = .ok (.invokevirtual 74, 3) := by decide +kernel
theorem dX10_ring_20 : decode cX10_ring 20 = .ok (.iaload, 1) := by decide +kernel
theorem dX10_ring_21 : decode cX10_ring 21 = .ok (.iconst 3, 1) := by decide +kernel
theorem dX10_ring_22 : decode cX10_ring 22 = .ok (.if_icmp .eq 11, 3) := by decide +kernel
theorem dX10_ring_25 : decode cX10_ring 25 = .ok (.aload_n 0, 1) := by decide +kernel
theorem dX10_ring_26 : decode cX10_ring 26 = .ok (.iconst 1, 1) := by decide +kernel
theorem dX10_ring_27 : decode cX10_ring 27 = .ok (.putfield 52, 3) := by decide +kernel
theorem dX10_ring_30 : decode cX10_ring 30 = .ok (.goto 79, 3) := by decide +kernel
theorem dX10_ring_33 : decode cX10_ring 33 = .ok (.aload_n 0, 1) := by decide +kernel
theorem dX10_ring_34 : decode cX10_ring 34 = .ok (.getfield 56, 3) := by decide +kernel
theorem dX10_ring_37 : decode cX10_ring 37 = .ok (.iconst 1, 1) := by decide +kernel
theorem dX10_ring_38 : decode cX10_ring 38 = .ok (.iadd, 1) := by decide +kernel
theorem dX10_ring_39 : decode cX10_ring 39 = .ok (.sipush 4096, 3) := by decide +kernel
theorem dX10_ring_42 : decode cX10_ring 42 = .ok (.if_icmp .le 11, 3) := by decide +kernel
theorem dX10_ring_45 : decode cX10_ring 45 = .ok (.aload_n 0, 1) := by decide +kernel
theorem dX10_ring_46 : decode cX10_ring 46 = .ok (.iconst 2, 1) := by decide +kernel
theorem dX10_ring_47 : decode cX10_ring 47 = .ok (.putfield 52, 3) := by decide +kernel
theorem dX10_ring_50 : decode cX10_ring 50 = .ok (.goto 59, 3) := by decide +kernel
theorem dX10_ring_53 : decode cX10_ring 53 = .ok (.aload_n 0, 1) := by decide +kernel
theorem dX10_ring_54 : decode cX10_ring 54 = .ok (.dup, 1) := by decide +kernel
theorem dX10_ring_55 : decode cX10_ring 55 = .ok (.getfield 56, 3) := by decide +kernel
theorem dX10_ring_58 : decode cX10_ring 58 = .ok (.iconst 1, 1) := by decide +kernel
theorem dX10_ring_59 : decode cX10_ring 59 = .ok (.iadd, 1) := by decide +kernel
theorem dX10_ring_60 : decode cX10_ring 60 = .ok (.putfield 56, 3) := by decide +kernel
theorem dX10_ring_63 : decode cX10_ring 63 = .ok (.aload_n 0, 1) := by decide +kernel
theorem dX10_ring_64 : decode cX10_ring 64 = .ok (.getfield 31, 3) := by decide +kernel
theorem dX10_ring_67 : decode cX10_ring 67 = .ok (.aload_n 0, 1) := by decide +kernel
theorem dX10_ring_68 : decode cX10_ring 68 = .ok (.getfield 65, 3) := by decide +kernel
theorem dX10_ring_71 : decode cX10_ring 71 = .ok (.aload_n 0, 1) := by decide +kernel
theorem dX10_ring_72 : decode cX10_ring 72 = .ok (.getfield 62, 3) := by decide +kernel
theorem dX10_ring_75 : decode cX10_ring 75 = .ok (.iastore, 1) := by decide +kernel
theorem dX10_ring_76 : decode cX10_ring 76 = .ok (.aload_n 0, 1) := by decide +kernel
theorem dX10_ring_77 : decode cX10_ring 77 = .ok (.getfield 34, 3) := by decide +kernel
theorem dX10_ring_80 : decode cX10_ring 80 = .ok (.aload_n 0, 1) := by decide +kernel
theorem dX10_ring_81 : decode cX10_ring 81 = .ok (.getfield 65, 3) := by decide +kernel
theorem dX10_ring_84 : decode cX10_ring 84 = .ok (.iconst 0, 1) := by decide +kernel
theorem dX10_ring_85 : decode cX10_ring 85 = .ok (.iastore, 1) := by decide +kernel
theorem dX10_ring_86 : decode cX10_ring 86 = .ok (.aload_n 0, 1) := by decide +kernel
theorem dX10_ring_87 : decode cX10_ring 87 = .ok (.dup, 1) := by decide +kernel
theorem dX10_ring_88 : decode cX10_ring 88 = .ok (.getfield 65, 3) := by decide +kernel
theorem dX10_ring_91 : decode cX10_ring 91 = .ok (.iconst 1, 1) := by decide +kernel
theorem dX10_ring_92 : decode cX10_ring 92 = .ok (.iadd, 1) := by decide +kernel
theorem dX10_ring_93 : decode cX10_ring 93 = .ok (.putfield 65, 3) := by decide +kernel
theorem dX10_ring_96 : decode cX10_ring 96 = .ok (.aload_n 0, 1) := by decide +kernel
theorem dX10_ring_97 : decode cX10_ring 97 = .ok (.getfield 28, 3) := by decide +kernel
theorem dX10_ring_100 : decode cX10_ring 100 = .ok (.aload_n 0, 1) := by decide +kernel
theorem dX10_ring_101 : decode cX10_ring 101 = .ok (.invokevirtual 74, 3) := by decide +kernel
theorem dX10_ring_104 : decode cX10_ring 104 = .ok (.dup2, 1) := by decide +kernel
theorem dX10_ring_105 : decode cX10_ring 105 = .ok (.iaload, 1) := by decide +kernel
theorem dX10_ring_106 : decode cX10_ring 106 = .ok (.iconst 1, 1) := by decide +kernel
theorem dX10_ring_107 : decode cX10_ring 107 = .ok (.iadd, 1) := by decide +kernel
theorem dX10_ring_108 : decode cX10_ring 108 = .ok (.iastore, 1) := by decide +kernel
theorem dX10_ring_109 : decode cX10_ring 109 = .ok (.return_, 1) := by decide +kernel
theorem dX10_point_0 : decode cX10_point 0 = .ok (.aload_n 0, 1) := by decide +kernel
theorem dX10_point_1 : decode cX10_point 1 = .ok (.iconst 0, 1) := by decide +kernel
theorem dX10_point_2 : decode cX10_point 2 = .ok (.putfield 52, 3) := by decide +kernel
theorem dX10_point_5 : decode cX10_point 5 = .ok (.iload_n 1, 1) := by decide +kernel
theorem dX10_point_6 : decode cX10_point 6 = .ok (.ldc 90, 2) := by decide +kernel
theorem dX10_point_8 : decode cX10_point 8 = .ok (.ldc 91, 2) := by decide +kernel
theorem dX10_point_10 : decode cX10_point 10 = .ok (.invokestatic 78, 3) := by decide +kernel
theorem dX10_point_13 : decode cX10_point 13 = .ok (.ifCond .eq 14, 3) := by decide +kernel
theorem dX10_point_16 : decode cX10_point 16 = .ok (.iload_n 2, 1) := by decide +kernel
theorem dX10_point_17 : decode cX10_point 17 = .ok (.ldc 90, 2) := by decide +kernel
theorem dX10_point_19 : decode cX10_point 19 = .ok (.ldc 91, 2) := by decide +kernel
theorem dX10_point_21 : decode cX10_point 21 = .ok (.invokestatic 78, 3) := by decide +kernel
theorem dX10_point_24 : decode cX10_point 24 = .ok (.ifCond .ne 9, 3) := by decide +kernel
theorem dX10_point_27 : decode cX10_point 27 = .ok (.aload_n 0, 1) := by decide +kernel
theorem dX10_point_28 : decode cX10_point 28 = .ok (.iconst 1, 1) := by decide +kernel
theorem dX10_point_29 : decode cX10_point 29 = .ok (.invokevirtual 82, 3) := by decide +kernel
theorem dX10_point_32 : decode cX10_point 32 = .ok (.ireturn, 1) := by decide +kernel
theorem dX10_point_33 : decode cX10_point 33 = .ok (.aload_n 0, 1) := by decide +kernel
theorem dX10_point_34 : decode cX10_point 34 = .ok (.invokevirtual 74, 3) := by decide +kernel
theorem dX10_point_37 : decode cX10_point 37 = .ok (.istore_n 3, 1) := by decide +kernel
theorem dX10_point_38 : decode cX10_point 38 = .ok (.iload_n 3, 1) := by decide +kernel
theorem dX10_point_39 : decode cX10_point 39 = .ok (.ifCond .ge 7, 3) := by decide +kernel
theorem dX10_point_42 : decode cX10_point 42 = .ok (.iconst 0, 1) := by decide +kernel
theorem dX10_point_43 : decode cX10_point 43 = .ok (.goto 9, 3) := by decide +kernel
theorem dX10_point_46 : decode cX10_point 46 = .ok (.aload_n 0, 1) := by decide +kernel
theorem dX10_point_47 : decode cX10_point 47 = .ok (.getfield 7, 3) := by decide +kernel
theorem dX10_point_50 : decode cX10_point 50 = .ok (.iload_n 3, 1) := by decide +kernel
theorem dX10_point_51 : decode cX10_point 51 = .ok (.iaload, 1) := by decide +kernel
theorem dX10_point_52 : decode cX10_point 52 = .ok (.istore 4, 2) := by decide +kernel
theorem dX10_point_54 : decode cX10_point 54 = .ok (.iload 4, 2) := by decide +kernel
theorem dX10_point_56 : decode cX10_point 56 = .ok (.iconst 1, 1) := by decide +kernel
theorem dX10_point_57 : decode cX10_point 57 = .ok (.if_icmp .ne 12, 3) := by decide +kernel
theorem dX10_point_60 : decode cX10_point 60 = .ok (.aload_n 0, 1) := by decide +kernel
theorem dX10_point_61 : decode cX10_point 61 = .ok (.getfield 22, 3) := by decide +kernel
theorem dX10_point_64 : decode cX10_point 64 = .ok (.iload_n 3, 1) := by decide +kernel
theorem dX10_point_65 : decode cX10_point 65 = .ok (.iaload, 1) := by decide +kernel
theorem dX10_point_66 : decode cX10_point 66 = .ok (.ifCond .eq 24, 3) := by decide +kernel
theorem dX10_point_69 : decode cX10_point 69 = .ok (.iload 4, 2) := by decide +kernel
theorem dX10_point_71 : decode cX10_point 71 = .ok (.iconst 2, 1) := by decide +kernel
theorem dX10_point_72 : decode cX10_point 72 = .ok (.if_icmp .eq 18, 3) := by decide +kernel
theorem dX10_point_75 : decode cX10_point 75 = .ok (.iload 4, 2) := by decide +kernel
theorem dX10_point_77 : decode cX10_point 77 = .ok (.iconst 3, 1) := by decide +kernel
theorem dX10_point_78 : decode cX10_point 78 = .ok (.if_icmp .ne 16, 3) := by decide +kernel
theorem dX10_point_81 : decode cX10_point 81 = .ok (.aload_n 0, 1) := by decide +kernel
theorem dX10_point_82 : decode cX10_point 82 = .ok (.getfield 28, 3) := by decide +kernel
theorem dX10_point_85 : decode cX10_point 85 = .ok (.iload_n 3, 1) := by decide +kernel
theorem dX10_point_86 : decode cX10_point 86 = .ok (.iaload, 1) := by decide +kernel
theorem dX10_point_87 : decode cX10_point 87 = .ok (.ifCond .le 7, 3) := by decide +kernel
theorem dX10_point_90 : decode cX10_point 90 = .ok (.iconst 1, 1) := by decide +kernel
theorem dX10_point_91 : decode cX10_point 91 = .ok (.goto 4, 3) := by decide +kernel
theorem dX10_point_94 : decode cX10_point 94 = .ok (.iconst 0, 1) := by decide +kernel
theorem dX10_point_95 : decode cX10_point 95 = .ok (.istore 5, 2) := by decide +kernel
theorem dX10_point_97 : decode cX10_point 97 = .ok (.iload 5, 2) := by decide +kernel
theorem dX10_point_99 : decode cX10_point 99 = .ok (.ifCond .ne 9, 3) := by decide +kernel
theorem dX10_point_102 : decode cX10_point 102 = .ok (.aload_n 0, 1) := by decide +kernel
theorem dX10_point_103 : decode cX10_point 103 = .ok (.iconst 2, 1) := by decide +kernel
theorem dX10_point_104 : decode cX10_point 104 = .ok (.invokevirtual 82, 3) := by decide +kernel
theorem dX10_point_107 : decode cX10_point 107 = .ok (.ireturn, 1) := by decide +kernel
theorem dX10_point_108 : decode cX10_point 108 = .ok (.aload_n 0, 1) := by decide +kernel
theorem dX10_point_109 : decode cX10_point 109 = .ok (.getfield 62, 3) := by decide +kernel
theorem dX10_point_112 : decode cX10_point 112 = .ok (.sipush 4096, 3) := by decide +kernel
theorem dX10_point_115 : decode cX10_point 115 = .ok (.if_icmp .ne 9, 3) := by decide +kernel
theorem dX10_point_118 : decode cX10_point 118 = .ok (.aload_n 0, 1) := by decide +kernel
theorem dX10_point_119 : decode cX10_point 119 = .ok (.iconst 3, 1) := by decide +kernel
theorem dX10_point_120 : decode cX10_point 120 = .ok (.invokevirtual 82, 3) := by decide +kernel
theorem dX10_point_123 : decode cX10_point 123 = .ok (.ireturn, 1) := by decide +kernel
theorem dX10_point_124 : decode cX10_point 124 = .ok (.aload_n 0, 1) := by decide +kernel
theorem dX10_point_125 : decode cX10_point 125 = .ok (.getfield 37, 3) := by decide +kernel
theorem dX10_point_128 : decode cX10_point 128 = .ok (.aload_n 0, 1) := by decide +kernel
theorem dX10_point_129 : decode cX10_point 129 = .ok (.getfield 62, 3) := by decide +kernel
theorem dX10_point_132 : decode cX10_point 132 = .ok (.iload_n 1, 1) := by decide +kernel
theorem dX10_point_133 : decode cX10_point 133 = .ok (.iastore, 1) := by decide +kernel
theorem dX10_point_134 : decode cX10_point 134 = .ok (.aload_n 0, 1) := by decide +kernel
theorem dX10_point_135 : decode cX10_point 135 = .ok (.getfield 40, 3) := by decide +kernel
theorem dX10_point_138 : decode cX10_point 138 = .ok (.aload_n 0, 1) := by decide +kernel
theorem dX10_point_139 : decode cX10_point 139 = .ok (.getfield 62, 3) := by decide +kernel
theorem dX10_point_142 : decode cX10_point 142 = .ok (.iload_n 2, 1) := by decide +kernel
theorem dX10_point_143 : decode cX10_point 143 = .ok (.iastore, 1) := by decide +kernel
theorem dX10_point_144 : decode cX10_point 144 = .ok (.aload_n 0, 1) := by decide +kernel
theorem dX10_point_145 : decode cX10_point 145 = .ok (.dup, 1) := by decide +kernel
theorem dX10_point_146 : decode cX10_point 146 = .ok (.getfield 62, 3) := by decide +kernel
theorem dX10_point_149 : decode cX10_point 149 = .ok (.iconst 1, 1) := by decide +kernel
theorem dX10_point_150 : decode cX10_point 150 = .ok (.iadd, 1) := by decide +kernel
theorem dX10_point_151 : decode cX10_point 151 = .ok (.putfield 62, 3) := by decide +kernel
theorem dX10_point_154 : decode cX10_point 154 = .ok (.iload 4, 2) := by decide +kernel
theorem dX10_point_156 : decode cX10_point 156 = .ok (.iconst 3, 1) := by decide +kernel
theorem dX10_point_157 : decode cX10_point 157 = .ok (.if_icmp .ne 21, 3) := by decide +kernel
theorem dX10_point_160 : decode cX10_point 160 = .ok (.aload_n 0, 1) := by decide +kernel
theorem dX10_point_161 : decode cX10_point 161 = .ok (.getfield 34, 3) := by decide +kernel
theorem dX10_point_164 : decode cX10_point 164 = .ok (.aload_n 0, 1) := by decide +kernel
theorem dX10_point_165 : decode cX10_point 165 = .ok (.getfield 65, 3) := by decide +kernel
theorem dX10_point_168 : decode cX10_point 168 = .ok (.iconst 1, 1) := by decide +kernel
theorem dX10_point_169 : decode cX10_point 169 = .ok (.isub, 1) := by decide +kernel
theorem dX10_point_170 : decode cX10_point 170 = .ok (.dup2, 1) := by decide +kernel
theorem dX10_point_171 : decode cX10_point 171 = .ok (.iaload, 1) := by decide +kernel
theorem dX10_point_172 : decode cX10_point 172 = .ok (.iconst 1, 1) := by decide +kernel
theorem dX10_point_173 : decode cX10_point 173 = .ok (.iadd, 1) := by decide +kernel
theorem dX10_point_174 : decode cX10_point 174 = .ok (.iastore, 1) := by decide +kernel
theorem dX10_point_175 : decode cX10_point 175 = .ok (.goto 13, 3) := by decide +kernel
theorem dX10_point_178 : decode cX10_point 178 = .ok (.aload_n 0, 1) := by decide +kernel
theorem dX10_point_179 : decode cX10_point 179 = .ok (.getfield 22, 3) := by decide +kernel
theorem dX10_point_182 : decode cX10_point 182 = .ok (.iload_n 3, 1) := by decide +kernel
theorem dX10_point_183 : decode cX10_point 183 = .ok (.dup2, 1) := by decide +kernel
theorem dX10_point_184 : decode cX10_point 184 = .ok (.iaload, 1) := by decide +kernel
theorem dX10_point_185 : decode cX10_point 185 = .ok (.iconst 1, 1) := by decide +kernel
theorem dX10_point_186 : decode cX10_point 186 = .ok (.iadd, 1) := by decide +kernel
theorem dX10_point_187 : decode cX10_point 187 = .ok (.iastore, 1) := by decide +kernel
theorem dX10_point_188 : decode cX10_point 188 = .ok (.aload_n 0, 1) := by decide +kernel
theorem dX10_point_189 : decode cX10_point 189 = .ok (.getfield 62, 3) := by decide +kernel
theorem dX10_point_192 : decode cX10_point 192 = .ok (.ireturn, 1) := by decide +kernel
theorem dX10_close_0 : decode cX10_close 0 = .ok (.aload_n 0, 1) := by decide +kernel
theorem dX10_close_1 : decode cX10_close 1 = .ok (.iconst 0, 1) := by decide +kernel
theorem dX10_close_2 : decode cX10_close 2 = .ok (.putfield 52, 3) := by decide +kernel
theorem dX10_close_5 : decode cX10_close 5 = .ok (.aload_n 0, 1) := by decide +kernel
theorem dX10_close_6 : decode cX10_close 6 = .ok (.getfield 68, 3) := by decide +kernel
theorem dX10_close_9 : decode cX10_close 9 = .ok (.ifCond .ne 9, 3) := by decide +kernel
theorem dX10_close_12 : decode cX10_close 12 = .ok (.aload_n 0, 1) := by decide +kernel
theorem dX10_close_13 : decode cX10_close 13 = .ok (.iconst 1, 1) := by decide +kernel
theorem dX10_close_14 : decode cX10_close 14 = .ok (.invokevirtual 82, 3) := by decide +kernel
theorem dX10_close_17 : decode cX10_close 17 = .ok (.ireturn, 1) := by decide +kernel
theorem dX10_close_18 : decode cX10_close 18 = .ok (.aload_n 0, 1) := by decide +kernel
theorem dX10_close_19 : decode cX10_close 19 = .ok (.dup, 1) := by decide +kernel
theorem dX10_close_20 : decode cX10_close 20 = .ok (.getfield 68, 3) := by decide +kernel
theorem dX10_close_23 : decode cX10_close 23 = .ok (.iconst 1, 1) := by decide +kernel
theorem dX10_close_24 : decode cX10_close 24 = .ok (.isub, 1) := by decide +kernel
theorem dX10_close_25 : decode cX10_close 25 = .ok (.putfield 68, 3) := by decide +kernel
theorem dX10_close_28 : decode cX10_close 28 = .ok (.aload_n 0, 1) := by decide +kernel
theorem dX10_close_29 : decode cX10_close 29 = .ok (.getfield 68, 3) := by decide +kernel
theorem dX10_close_32 : decode cX10_close 32 = .ok (.ireturn, 1) := by decide +kernel
theorem dX10_place_0 : decode cX10_place 0 = .ok (.aload_n 0, 1) := by decide +kernel
theorem dX10_place_1 : decode cX10_place 1 = .ok (.iconst 0, 1) := by decide +kernel
theorem dX10_place_2 : decode cX10_place 2 = .ok (.putfield 52, 3) := by decide +kernel
theorem dX10_place_5 : decode cX10_place 5 = .ok (.iload_n 1, 1) := by decide +kernel
theorem dX10_place_6 : decode cX10_place 6 = .ok (.iconst 0, 1) := by decide +kernel
theorem dX10_place_7 : decode cX10_place 7 = .ok (.bipush 6, 2) := by decide +kernel
theorem dX10_place_9 : decode cX10_place 9 = .ok (.invokestatic 78, 3) := by decide +kernel
theorem dX10_place_12 : decode cX10_place 12 = .ok (.ifCond .eq 12, 3) := by decide +kernel
theorem dX10_place_15 : decode cX10_place 15 = .ok (.aload_n 0, 1) := by decide +kernel
theorem dX10_place_16 : decode cX10_place 16 = .ok (.getfield 46, 3) := by decide +kernel
theorem dX10_place_19 : decode cX10_place 19 = .ok (.iload_n 1, 1) := by decide +kernel
theorem dX10_place_20 : decode cX10_place 20 = .ok (.iaload, 1) := by decide +kernel
theorem dX10_place_21 : decode cX10_place 21 = .ok (.goto 8, 3) := by decide +kernel
theorem dX10_place_24 : decode cX10_place 24 = .ok (.aload_n 0, 1) := by decide +kernel
theorem dX10_place_25 : decode cX10_place 25 = .ok (.iconst 1, 1) := by decide +kernel
theorem dX10_place_26 : decode cX10_place 26 = .ok (.invokevirtual 82, 3) := by decide +kernel
theorem dX10_place_29 : decode cX10_place 29 = .ok (.ireturn, 1) := by decide +kernel
theorem dX10_sign_0 : decode cX10_sign 0 = .ok (.lload_n 0, 1) := by decide +kernel
theorem dX10_sign_1 : decode cX10_sign 1 = .ok (.lconst 0, 1) := by decide +kernel
theorem dX10_sign_2 : decode cX10_sign 2 = .ok (.lcmp, 1) := by decide +kernel
theorem dX10_sign_3 : decode cX10_sign 3 = .ok (.ifCond .le 7, 3) := by decide +kernel
theorem dX10_sign_6 : decode cX10_sign 6 = .ok (.iconst 1, 1) := by decide +kernel
theorem dX10_sign_7 : decode cX10_sign 7 = .ok (.goto 14, 3) := by decide +kernel
theorem dX10_sign_10 : decode cX10_sign 10 = .ok (.lload_n 0, 1) := by decide +kernel
theorem dX10_sign_11 : decode cX10_sign 11 = .ok (.lconst 0, 1) := by decide +kernel
theorem dX10_sign_12 : decode cX10_sign 12 = .ok (.lcmp, 1) := by decide +kernel
theorem dX10_sign_13 : decode cX10_sign 13 = .ok (.ifCond .ge 7, 3) := by decide +kernel
theorem dX10_sign_16 : decode cX10_sign 16 = .ok (.iconst (-1), 1) := by decide +kernel
theorem dX10_sign_17 : decode cX10_sign 17 = .ok (.goto 4, 3) := by decide +kernel
theorem dX10_sign_20 : decode cX10_sign 20 = .ok (.iconst 0, 1) := by decide +kernel
theorem dX10_sign_21 : decode cX10_sign 21 = .ok (.ireturn, 1) := by decide +kernel
theorem dX10_cross_0 : decode cX10_cross 0 = .ok (.iload_n 0, 1) := by decide +kernel
theorem dX10_cross_1 : decode cX10_cross 1 = .ok (.i2l, 1) := by decide +kernel
theorem dX10_cross_2 : decode cX10_cross 2 = .ok (.iload_n 3, 1) := by decide +kernel
theorem dX10_cross_3 : decode cX10_cross 3 = .ok (.i2l, 1) := by decide +kernel
theorem dX10_cross_4 : decode cX10_cross 4 = .ok (.lmul, 1) := by decide +kernel
theorem dX10_cross_5 : decode cX10_cross 5 = .ok (.iload_n 1, 1) := by decide +kernel
theorem dX10_cross_6 : decode cX10_cross 6 = .ok (.i2l, 1) := by decide +kernel
theorem dX10_cross_7 : decode cX10_cross 7 = .ok (.iload_n 2, 1) := by decide +kernel
theorem dX10_cross_8 : decode cX10_cross 8 = .ok (.i2l, 1) := by decide +kernel
theorem dX10_cross_9 : decode cX10_cross 9 = .ok (.lmul, 1) := by decide +kernel
theorem dX10_cross_10 : decode cX10_cross 10 = .ok (.lsub, 1) := by decide +kernel
theorem dX10_cross_11 : decode cX10_cross 11 = .ok (.invokestatic 92, 3) := by decide +kernel
theorem dX10_cross_14 : decode cX10_cross 14 = .ok (.ireturn, 1) := by decide +kernel
theorem dX10_side_0 : decode cX10_side 0 = .ok (.aload_n 0, 1) := by decide +kernel
theorem dX10_side_1 : decode cX10_side 1 = .ok (.getfield 37, 3) := by decide +kernel
theorem dX10_side_4 : decode cX10_side 4 = .ok (.iload_n 2, 1) := by decide +kernel
theorem dX10_side_5 : decode cX10_side 5 = .ok (.iaload, 1) := by decide +kernel
theorem dX10_side_6 : decode cX10_side 6 = .ok (.i2l, 1) := by decide +kernel
theorem dX10_side_7 : decode cX10_side 7 = .ok (.aload_n 0, 1) := by decide +kernel
theorem dX10_side_8 : decode cX10_side 8 = .ok (.getfield 37, 3) := by decide +kernel
theorem dX10_side_11 : decode cX10_side 11 = .ok (.iload_n 1, 1) := by decide +kernel
theorem dX10_side_12 : decode cX10_side 12 = .ok (.iaload, 1) := by decide +kernel
theorem dX10_side_13 : decode cX10_side 13 = .ok (.i2l, 1) := by decide +kernel
theorem dX10_side_14 : decode cX10_side 14 = .ok (.lsub, 1) := by decide +kernel
theorem dX10_side_15 : decode cX10_side 15 = .ok (.iload 4, 2) := by decide +kernel
theorem dX10_side_17 : decode cX10_side 17 = .ok (.i2l, 1) := by decide +kernel
theorem dX10_side_18 : decode cX10_side 18 = .ok (.aload_n 0, 1) := by decide +kernel
theorem dX10_side_19 : decode cX10_side 19 = .ok (.getfield 40, 3) := by decide +kernel
theorem dX10_side_22 : decode cX10_side 22 = .ok (.iload_n 1, 1) := by decide +kernel
theorem dX10_side_23 : decode cX10_side 23 = .ok (.iaload, 1) := by decide +kernel
theorem dX10_side_24 : decode cX10_side 24 = .ok (.i2l, 1) := by decide +kernel
theorem dX10_side_25 : decode cX10_side 25 = .ok (.lsub, 1) := by decide +kernel
theorem dX10_side_26 : decode cX10_side 26 = .ok (.lmul, 1) := by decide +kernel
theorem dX10_side_27 : decode cX10_side 27 = .ok (.aload_n 0, 1) := by decide +kernel
theorem dX10_side_28 : decode cX10_side 28 = .ok (.getfield 40, 3) := by decide +kernel
theorem dX10_side_31 : decode cX10_side 31 = .ok (.iload_n 2, 1) := by decide +kernel
theorem dX10_side_32 : decode cX10_side 32 = .ok (.iaload, 1) := by decide +kernel
theorem dX10_side_33 : decode cX10_side 33 = .ok (.i2l, 1) := by decide +kernel
theorem dX10_side_34 : decode cX10_side 34 = .ok (.aload_n 0, 1) := by decide +kernel
theorem dX10_side_35 : decode cX10_side 35 = .ok (.getfield 40, 3) := by decide +kernel
theorem dX10_side_38 : decode cX10_side 38 = .ok (.iload_n 1, 1) := by decide +kernel
theorem dX10_side_39 : decode cX10_side 39 = .ok (.iaload, 1) := by decide +kernel
theorem dX10_side_40 : decode cX10_side 40 = .ok (.i2l, 1) := by decide +kernel
theorem dX10_side_41 : decode cX10_side 41 = .ok (.lsub, 1) := by decide +kernel
theorem dX10_side_42 : decode cX10_side 42 = .ok (.iload_n 3, 1) := by decide +kernel
theorem dX10_side_43 : decode cX10_side 43 = .ok (.i2l, 1) := by decide +kernel
theorem dX10_side_44 : decode cX10_side 44 = .ok (.aload_n 0, 1) := by decide +kernel
theorem dX10_side_45 : decode cX10_side 45 = .ok (.getfield 37, 3) := by decide +kernel
theorem dX10_side_48 : decode cX10_side 48 = .ok (.iload_n 1, 1) := by decide +kernel
theorem dX10_side_49 : decode cX10_side 49 = .ok (.iaload, 1) := by decide +kernel
theorem dX10_side_50 : decode cX10_side 50 = .ok (.i2l, 1) := by decide +kernel
theorem dX10_side_51 : decode cX10_side 51 = .ok (.lsub, 1) := by decide +kernel
theorem dX10_side_52 : decode cX10_side 52 = .ok (.lmul, 1) := by decide +kernel
theorem dX10_side_53 : decode cX10_side 53 = .ok (.lsub, 1) := by decide +kernel
theorem dX10_side_54 : decode cX10_side 54 = .ok (.invokestatic 92, 3) := by decide +kernel
theorem dX10_side_57 : decode cX10_side 57 = .ok (.ireturn, 1) := by decide +kernel
theorem dX10_between_0 : decode cX10_between 0 = .ok (.iload_n 1, 1) := by decide +kernel
theorem dX10_between_1 : decode cX10_between 1 = .ok (.iload_n 2, 1) := by decide +kernel
theorem dX10_between_2 : decode cX10_between 2 = .ok (.if_icmp .ge 12, 3) := by decide +kernel
theorem dX10_between_5 : decode cX10_between 5 = .ok (.iload_n 0, 1) := by decide +kernel
theorem dX10_between_6 : decode cX10_between 6 = .ok (.iload_n 1, 1) := by decide +kernel
theorem dX10_between_7 : decode cX10_between 7 = .ok (.iload_n 2, 1) := by decide +kernel
theorem dX10_between_8 : decode cX10_between 8 = .ok (.invokestatic 78, 3) := by decide +kernel
theorem dX10_between_11 : decode cX10_between 11 = .ok (.goto 9, 3) := by decide +kernel
theorem dX10_between_14 : decode cX10_between 14 = .ok (.iload_n 0, 1) := by decide +kernel
theorem dX10_between_15 : decode cX10_between 15 = .ok (.iload_n 2, 1) := by decide +kernel
theorem dX10_between_16 : decode cX10_between 16 = .ok (.iload_n 1, 1) := by decide +kernel
theorem dX10_between_17 : decode cX10_between 17 = .ok (.invokestatic 78, 3) := by decide +kernel
theorem dX10_between_20 : decode cX10_between 20 = .ok (.ireturn, 1) := by decide +kernel
theorem dX10_isOn_0 : decode cX10_isOn 0 = .ok (.aload_n 0, 1) := by decide +kernel
theorem dX10_isOn_1 : decode cX10_isOn 1 = .ok (.iload_n 3, 1) := by decide +kernel
theorem dX10_isOn_2 : decode cX10_isOn 2 = .ok (.iload_n 3, 1) := by decide +kernel
theorem dX10_isOn_3 : decode cX10_isOn 3 = .ok (.iconst 1, 1) := by decide +kernel
theorem dX10_isOn_4 : decode cX10_isOn 4 = .ok (.iadd, 1) := by decide +kernel
theorem dX10_isOn_5 : decode cX10_isOn 5 = .ok (.iload_n 1, 1) := by decide +kernel
theorem dX10_isOn_6 : decode cX10_isOn 6 = .ok (.iload_n 2, 1) := by decide +kernel
theorem dX10_isOn_7 : decode cX10_isOn 7 = .ok (.invokevirtual 96, 3) := by decide +kernel
theorem dX10_isOn_10 : decode cX10_isOn 10 = .ok (.ifCond .ne 49, 3) := by decide +kernel
theorem dX10_isOn_13 : decode cX10_isOn 13 = .ok (.iload_n 1, 1) := by decide +kernel
theorem dX10_isOn_14 : decode cX10_isOn 14 = .ok (.aload_n 0, 1) := by decide +kernel
theorem dX10_isOn_15 : decode cX10_isOn 15 = .ok (.getfield 37, 3) := by decide +kernel
theorem dX10_isOn_18 : decode cX10_isOn 18 = .ok (.iload_n 3, 1) := by decide +kernel
theorem dX10_isOn_19 : decode cX10_isOn 19 = .ok (.iaload, 1) := by decide +kernel
theorem dX10_isOn_20 : decode cX10_isOn 20 = .ok (.aload_n 0, 1) := by decide +kernel
theorem dX10_isOn_21 : decode cX10_isOn 21 = .ok (.getfield 37, 3) := by decide +kernel
theorem dX10_isOn_24 : decode cX10_isOn 24 = .ok (.iload_n 3, 1) := by decide +kernel
theorem dX10_isOn_25 : decode cX10_isOn 25 = .ok (.iconst 1, 1) := by decide +kernel
theorem dX10_isOn_26 : decode cX10_isOn 26 = .ok (.iadd, 1) := by decide +kernel
theorem dX10_isOn_27 : decode cX10_isOn 27 = .ok (.iaload, 1) := by decide +kernel
theorem dX10_isOn_28 : decode cX10_isOn 28 = .ok (.invokestatic 100, 3) := by decide +kernel
theorem dX10_isOn_31 : decode cX10_isOn 31 = .ok (.ifCond .eq 28, 3) := by decide +kernel
theorem dX10_isOn_34 : decode cX10_isOn 34 = .ok (.iload_n 2, 1) := by decide +kernel
theorem dX10_isOn_35 : decode cX10_isOn 35 = .ok (.aload_n 0, 1) := by decide +kernel
theorem dX10_isOn_36 : decode cX10_isOn 36 = .ok (.getfield 40, 3) := by decide +kernel
theorem dX10_isOn_39 : decode cX10_isOn 39 = .ok (.iload_n 3, 1) := by decide +kernel
theorem dX10_isOn_40 : decode cX10_isOn 40 = .ok (.iaload, 1) := by decide +kernel
theorem dX10_isOn_41 : decode cX10_isOn 41 = .ok (.aload_n 0, 1) := by decide +kernel
theorem dX10_isOn_42 : decode cX10_isOn 42 = .ok (.getfield 40, 3) := by decide +kernel
theorem dX10_isOn_45 : decode cX10_isOn 45 = .ok (.iload_n 3, 1) := by decide +kernel
theorem dX10_isOn_46 : decode cX10_isOn 46 = .ok (.iconst 1, 1) := by decide +kernel
theorem dX10_isOn_47 : decode cX10_isOn 47 = .ok (.iadd, 1) := by decide +kernel
theorem dX10_isOn_48 : decode cX10_isOn 48 = .ok (.iaload, 1) := by decide +kernel
theorem dX10_isOn_49 : decode cX10_isOn 49 = .ok (.invokestatic 100, 3) := by decide +kernel
theorem dX10_isOn_52 : decode cX10_isOn 52 = .ok (.ifCond .eq 7, 3) := by decide +kernel
theorem dX10_isOn_55 : decode cX10_isOn 55 = .ok (.iconst 1, 1) := by decide +kernel
theorem dX10_isOn_56 : decode cX10_isOn 56 = .ok (.goto 4, 3) := by decide +kernel
theorem dX10_isOn_59 : decode cX10_isOn 59 = .ok (.iconst 0, 1) := by decide +kernel
theorem dX10_isOn_60 : decode cX10_isOn 60 = .ok (.ireturn, 1) := by decide +kernel
theorem dX10_same_0 : decode cX10_same 0 = .ok (.aload_n 0, 1) := by decide +kernel
theorem dX10_same_1 : decode cX10_same 1 = .ok (.getfield 37, 3) := by decide +kernel
theorem dX10_same_4 : decode cX10_same 4 = .ok (.iload_n 1, 1) := by decide +kernel
theorem dX10_same_5 : decode cX10_same 5 = .ok (.iaload, 1) := by decide +kernel
theorem dX10_same_6 : decode cX10_same 6 = .ok (.aload_n 0, 1) := by decide +kernel
theorem dX10_same_7 : decode cX10_same 7 = .ok (.getfield 37, 3) := by decide +kernel
theorem dX10_same_10 : decode cX10_same 10 = .ok (.iload_n 2, 1) := by decide +kernel
theorem dX10_same_11 : decode cX10_same 11 = .ok (.iaload, 1) := by decide +kernel
theorem dX10_same_12 : decode cX10_same 12 = .ok (.if_icmp .ne 22, 3) := by decide +kernel
theorem dX10_same_15 : decode cX10_same 15 = .ok (.aload_n 0, 1) := by decide +kernel
theorem dX10_same_16 : decode cX10_same 16 = .ok (.getfield 40, 3) := by decide +kernel
theorem dX10_same_19 : decode cX10_same 19 = .ok (.iload_n 1, 1) := by decide +kernel
theorem dX10_same_20 : decode cX10_same 20 = .ok (.iaload, 1) := by decide +kernel
theorem dX10_same_21 : decode cX10_same 21 = .ok (.aload_n 0, 1) := by decide +kernel
theorem dX10_same_22 : decode cX10_same 22 = .ok (.getfield 40, 3) := by decide +kernel
theorem dX10_same_25 : decode cX10_same 25 = .ok (.iload_n 2, 1) := by decide +kernel
theorem dX10_same_26 : decode cX10_same 26 = .ok (.iaload, 1) := by decide +kernel
theorem dX10_same_27 : decode cX10_same 27 = .ok (.if_icmp .ne 7, 3) := by decide +kernel
theorem dX10_same_30 : decode cX10_same 30 = .ok (.iconst 1, 1) := by decide +kernel
theorem dX10_same_31 : decode cX10_same 31 = .ok (.goto 4, 3) := by decide +kernel
theorem dX10_same_34 : decode cX10_same 34 = .ok (.iconst 0, 1) := by decide +kernel
theorem dX10_same_35 : decode cX10_same 35 = .ok (.ireturn, 1) := by decide +kernel
theorem dX10_isSegment_0 : decode cX10_isSegment 0 = .ok (.aload_n 0, 1) := by decide +kernel
theorem dX10_isSegment_1 : decode cX10_isSegment 1 = .ok (.iload_n 1, 1) := by decide +kernel
theorem dX10_isSegment_2 : decode cX10_isSegment 2 = .ok (.iload_n 1, 1) := by decide +kernel
theorem dX10_isSegment_3 : decode cX10_isSegment 3 = .ok (.iconst 1, 1) := by decide +kernel
theorem dX10_isSegment_4 : decode cX10_isSegment 4 = .ok (.iadd, 1) := by decide +kernel
theorem dX10_isSegment_5 : decode cX10_isSegment 5 = .ok (.invokevirtual 103, 3) := by decide +kernel
theorem dX10_isSegment_8 : decode cX10_isSegment 8 = .ok (.ifCond .ne 7, 3) := by decide +kernel
theorem dX10_isSegment_11 : decode cX10_isSegment 11 = .ok (.iconst 1, 1) := by decide +kernel
theorem dX10_isSegment_12 : decode cX10_isSegment 12 = .ok (.goto 4, 3) := by decide +kernel
theorem dX10_isSegment_15 : decode cX10_isSegment 15 = .ok (.iconst 0, 1) := by decide +kernel
theorem dX10_isSegment_16 : decode cX10_isSegment 16 = .ok (.ireturn, 1) := by decide +kernel
theorem dX10_more_0 : decode cX10_more 0 = .ok (.iload_n 1, 1) := by decide +kernel
theorem dX10_more_1 : decode cX10_more 1 = .ok (.iload_n 2, 1) := by decide +kernel
theorem dX10_more_2 : decode cX10_more 2 = .ok (.if_icmp .le 7, 3) := by decide +kernel
theorem dX10_more_5 : decode cX10_more 5 = .ok (.iload_n 1, 1) := by decide +kernel
theorem dX10_more_6 : decode cX10_more 6 = .ok (.goto 4, 3) := by decide +kernel
theorem dX10_more_9 : decode cX10_more 9 = .ok (.iload_n 2, 1) := by decide +kernel
theorem dX10_more_10 : decode cX10_more 10 = .ok (.ireturn, 1) := by decide +kernel
theorem dX10_less_0 : decode cX10_less 0 = .ok (.iload_n 1, 1) := by decide +kernel
theorem dX10_less_1 : decode cX10_less 1 = .ok (.iload_n 2, 1) := by decide +kernel
theorem dX10_less_2 : decode cX10_less 2 = .ok (.if_icmp .ge 7, 3) := by decide +kernel
theorem dX10_less_5 : decode cX10_less 5 = .ok (.iload_n 1, 1) := by decide +kernel
theorem dX10_less_6 : decode cX10_less 6 = .ok (.goto 4, 3) := by decide +kernel
theorem dX10_less_9 : decode cX10_less 9 = .ok (.iload_n 2, 1) := by decide +kernel
theorem dX10_less_10 : decode cX10_less 10 = .ok (.ireturn, 1) := by decide +kernel
theorem dX10_along_0 : decode cX10_along 0 = .ok (.aload_n 0, 1) := by decide +kernel
theorem dX10_along_1 : decode cX10_along 1 = .ok (.aload_n 0, 1) := by decide +kernel
theorem dX10_along_2 : decode cX10_along 2 = .ok (.aload_n 0, 1) := by decide +kernel
theorem dX10_along_3 : decode cX10_along 3 = .ok (.getfield 37, 3) := by decide +kernel
theorem dX10_along_6 : decode cX10_along 6 = .ok (.iload_n 1, 1) := by decide +kernel
theorem dX10_along_7 : decode cX10_along 7 = .ok (.iaload, 1) := by decide +kernel
theorem dX10_along_8 : decode cX10_along 8 = .ok (.aload_n 0, 1) := by decide +kernel
theorem dX10_along_9 : decode cX10_along 9 = .ok (.getfield 37, 3) := by decide +kernel
theorem dX10_along_12 : decode cX10_along 12 = .ok (.iload_n 1, 1) := by decide +kernel
theorem dX10_along_13 : decode cX10_along 13 = .ok (.iconst 1, 1) := by decide +kernel
theorem dX10_along_14 : decode cX10_along 14 = .ok (.iadd, 1) := by decide +kernel
theorem dX10_along_15 : decode cX10_along 15 = .ok (.iaload, 1) := by decide +kernel
theorem dX10_along_16 : decode cX10_along 16 = .ok (.invokevirtual 107, 3) := by decide +kernel
theorem dX10_along_19 : decode cX10_along 19 = .ok (.aload_n 0, 1) := by decide +kernel
theorem dX10_along_20 : decode cX10_along 20 = .ok (.aload_n 0, 1) := by decide +kernel
theorem dX10_along_21 : decode cX10_along 21 = .ok (.getfield 37, 3) := by decide +kernel
theorem dX10_along_24 : decode cX10_along 24 = .ok (.iload_n 2, 1) := by decide +kernel
theorem dX10_along_25 : decode cX10_along 25 = .ok (.iaload, 1) := by decide +kernel
theorem dX10_along_26 : decode cX10_along 26 = .ok (.aload_n 0, 1) := by decide +kernel
theorem dX10_along_27 : decode cX10_along 27 = .ok (.getfield 37, 3) := by decide +kernel
theorem dX10_along_30 : decode cX10_along 30 = .ok (.iload_n 2, 1) := by decide +kernel
theorem dX10_along_31 : decode cX10_along 31 = .ok (.iconst 1, 1) := by decide +kernel
theorem dX10_along_32 : decode cX10_along 32 = .ok (.iadd, 1) := by decide +kernel
theorem dX10_along_33 : decode cX10_along 33 = .ok (.iaload, 1) := by decide +kernel
theorem dX10_along_34 : decode cX10_along 34 = .ok (.invokevirtual 107, 3) := by decide +kernel
theorem dX10_along_37 : decode cX10_along 37 = .ok (.invokevirtual 111, 3) := by decide +kernel
theorem dX10_along_40 : decode cX10_along 40 = .ok (.istore_n 3, 1) := by decide +kernel
theorem dX10_along_41 : decode cX10_along 41 = .ok (.aload_n 0, 1) := by decide +kernel
theorem dX10_along_42 : decode cX10_along 42 = .ok (.aload_n 0, 1) := by decide +kernel
theorem dX10_along_43 : decode cX10_along 43 = .ok (.aload_n 0, 1) := by decide +kernel
theorem dX10_along_44 : decode cX10_along 44 = .ok (.getfield 37, 3) := by decide +kernel
theorem dX10_along_47 : decode cX10_along 47 = .ok (.iload_n 1, 1) := by decide +kernel
theorem dX10_along_48 : decode cX10_along 48 = .ok (.iaload, 1) := by decide +kernel
theorem dX10_along_49 : decode cX10_along 49 = .ok (.aload_n 0, 1) := by decide +kernel
theorem dX10_along_50 : decode cX10_along 50 = .ok (.getfield 37, 3) := by decide +kernel
theorem dX10_along_53 : decode cX10_along 53 = .ok (.iload_n 1, 1) := by decide +kernel
theorem dX10_along_54 : decode cX10_along 54 = .ok (.iconst 1, 1) := by decide +kernel
theorem dX10_along_55 : decode cX10_along 55 = .ok (.iadd, 1) := by decide +kernel
theorem dX10_along_56 : decode cX10_along 56 = .ok (.iaload, 1) := by decide +kernel
theorem dX10_along_57 : decode cX10_along 57 = .ok (.invokevirtual 111, 3) := by decide +kernel
theorem dX10_along_60 : decode cX10_along 60 = .ok (.aload_n 0, 1) := by decide +kernel
theorem dX10_along_61 : decode cX10_along 61 = .ok (.aload_n 0, 1) := by decide +kernel
theorem dX10_along_62 : decode cX10_along 62 = .ok (.getfield 37, 3) := by decide +kernel
theorem dX10_along_65 : decode cX10_along 65 = .ok (.iload_n 2, 1) := by decide +kernel
theorem dX10_along_66 : decode cX10_along 66 = .ok (.iaload, 1) := by decide +kernel
theorem dX10_along_67 : decode cX10_along 67 = .ok (.aload_n 0, 1) := by decide +kernel
theorem dX10_along_68 : decode cX10_along 68 = .ok (.getfield 37, 3) := by decide +kernel
theorem dX10_along_71 : decode cX10_along 71 = .ok (.iload_n 2, 1) := by decide +kernel
theorem dX10_along_72 : decode cX10_along 72 = .ok (.iconst 1, 1) := by decide +kernel
theorem dX10_along_73 : decode cX10_along 73 = .ok (.iadd, 1) := by decide +kernel
theorem dX10_along_74 : decode cX10_along 74 = .ok (.iaload, 1) := by decide +kernel
theorem dX10_along_75 : decode cX10_along 75 = .ok (.invokevirtual 111, 3) := by decide +kernel
theorem dX10_along_78 : decode cX10_along 78 = .ok (.invokevirtual 107, 3) := by decide +kernel
theorem dX10_along_81 : decode cX10_along 81 = .ok (.istore 4, 2) := by decide +kernel
theorem dX10_along_83 : decode cX10_along 83 = .ok (.aload_n 0, 1) := by decide +kernel
theorem dX10_along_84 : decode cX10_along 84 = .ok (.aload_n 0, 1) := by decide +kernel
theorem dX10_along_85 : decode cX10_along 85 = .ok (.aload_n 0, 1) := by decide +kernel
theorem dX10_along_86 : decode cX10_along 86 = .ok (.getfield 40, 3) := by decide +kernel
theorem dX10_along_89 : decode cX10_along 89 = .ok (.iload_n 1, 1) := by decide +kernel
theorem dX10_along_90 : decode cX10_along 90 = .ok (.iaload, 1) := by decide +kernel
theorem dX10_along_91 : decode cX10_along 91 = .ok (.aload_n 0, 1) := by decide +kernel
theorem dX10_along_92 : decode cX10_along 92 = .ok (.getfield 40, 3) := by decide +kernel
theorem dX10_along_95 : decode cX10_along 95 = .ok (.iload_n 1, 1) := by decide +kernel
theorem dX10_along_96 : decode cX10_along 96 = .ok (.iconst 1, 1) := by decide +kernel
theorem dX10_along_97 : decode cX10_along 97 = .ok (.iadd, 1) := by decide +kernel
theorem dX10_along_98 : decode cX10_along 98 = .ok (.iaload, 1) := by decide +kernel
theorem dX10_along_99 : decode cX10_along 99 = .ok (.invokevirtual 107, 3) := by decide +kernel
theorem dX10_along_102 : decode cX10_along 102 = .ok (.aload_n 0, 1) := by decide +kernel
theorem dX10_along_103 : decode cX10_along 103 = .ok (.aload_n 0, 1) := by decide +kernel
theorem dX10_along_104 : decode cX10_along 104 = .ok (.getfield 40, 3) := by decide +kernel
theorem dX10_along_107 : decode cX10_along 107 = .ok (.iload_n 2, 1) := by decide +kernel
theorem dX10_along_108 : decode cX10_along 108 = .ok (.iaload, 1) := by decide +kernel
theorem dX10_along_109 : decode cX10_along 109 = .ok (.aload_n 0, 1) := by decide +kernel
theorem dX10_along_110 : decode cX10_along 110 = .ok (.getfield 40, 3) := by decide +kernel
theorem dX10_along_113 : decode cX10_along 113 = .ok (.iload_n 2, 1) := by decide +kernel
theorem dX10_along_114 : decode cX10_along 114 = .ok (.iconst 1, 1) := by decide +kernel
theorem dX10_along_115 : decode cX10_along 115 = .ok (.iadd, 1) := by decide +kernel
theorem dX10_along_116 : decode cX10_along 116 = .ok (.iaload, 1) := by decide +kernel
theorem dX10_along_117 : decode cX10_along 117 = .ok (.invokevirtual 107, 3) := by decide +kernel
theorem dX10_along_120 : decode cX10_along 120 = .ok (.invokevirtual 111, 3) := by decide +kernel
theorem dX10_along_123 : decode cX10_along 123 = .ok (.istore 5, 2) := by decide +kernel
theorem dX10_along_125 : decode cX10_along 125 = .ok (.aload_n 0, 1) := by decide +kernel
theorem dX10_along_126 : decode cX10_along 126 = .ok (.aload_n 0, 1) := by decide +kernel
theorem dX10_along_127 : decode cX10_along 127 = .ok (.aload_n 0, 1) := by decide +kernel
theorem dX10_along_128 : decode cX10_along 128 = .ok (.getfield 40, 3) := by decide +kernel
theorem dX10_along_131 : decode cX10_along 131 = .ok (.iload_n 1, 1) := by decide +kernel
theorem dX10_along_132 : decode cX10_along 132 = .ok (.iaload, 1) := by decide +kernel
theorem dX10_along_133 : decode cX10_along 133 = .ok (.aload_n 0, 1) := by decide +kernel
theorem dX10_along_134 : decode cX10_along 134 = .ok (.getfield 40, 3) := by decide +kernel
theorem dX10_along_137 : decode cX10_along 137 = .ok (.iload_n 1, 1) := by decide +kernel
theorem dX10_along_138 : decode cX10_along 138 = .ok (.iconst 1, 1) := by decide +kernel
theorem dX10_along_139 : decode cX10_along 139 = .ok (.iadd, 1) := by decide +kernel
theorem dX10_along_140 : decode cX10_along 140 = .ok (.iaload, 1) := by decide +kernel
theorem dX10_along_141 : decode cX10_along 141 = .ok (.invokevirtual 111, 3) := by decide +kernel
theorem dX10_along_144 : decode cX10_along 144 = .ok (.aload_n 0, 1) := by decide +kernel
theorem dX10_along_145 : decode cX10_along 145 = .ok (.aload_n 0, 1) := by decide +kernel
theorem dX10_along_146 : decode cX10_along 146 = .ok (.getfield 40, 3) := by decide +kernel
theorem dX10_along_149 : decode cX10_along 149 = .ok (.iload_n 2, 1) := by decide +kernel
theorem dX10_along_150 : decode cX10_along 150 = .ok (.iaload, 1) := by decide +kernel
theorem dX10_along_151 : decode cX10_along 151 = .ok (.aload_n 0, 1) := by decide +kernel
theorem dX10_along_152 : decode cX10_along 152 = .ok (.getfield 40, 3) := by decide +kernel
theorem dX10_along_155 : decode cX10_along 155 = .ok (.iload_n 2, 1) := by decide +kernel
theorem dX10_along_156 : decode cX10_along 156 = .ok (.iconst 1, 1) := by decide +kernel
theorem dX10_along_157 : decode cX10_along 157 = .ok (.iadd, 1) := by decide +kernel
theorem dX10_along_158 : decode cX10_along 158 = .ok (.iaload, 1) := by decide +kernel
theorem dX10_along_159 : decode cX10_along 159 = .ok (.invokevirtual 111, 3) := by decide +kernel
theorem dX10_along_162 : decode cX10_along 162 = .ok (.invokevirtual 107, 3) := by decide +kernel
theorem dX10_along_165 : decode cX10_along 165 = .ok (.istore 6, 2) := by decide +kernel
theorem dX10_along_167 : decode cX10_along 167 = .ok (.aload_n 0, 1) := by decide +kernel
theorem dX10_along_168 : decode cX10_along 168 = .ok (.iload_n 3, 1) := by decide +kernel
theorem dX10_along_169 : decode cX10_along 169 = .ok (.putfield 114, 3) := by decide +kernel
theorem dX10_along_172 : decode cX10_along 172 = .ok (.aload_n 0, 1) := by decide +kernel
theorem dX10_along_173 : decode cX10_along 173 = .ok (.iload 5, 2) := by decide +kernel
theorem dX10_along_175 : decode cX10_along 175 = .ok (.putfield 117, 3) := by decide +kernel
theorem dX10_along_178 : decode cX10_along 178 = .ok (.iload_n 3, 1) := by decide +kernel
theorem dX10_along_179 : decode cX10_along 179 = .ok (.iload 4, 2) := by decide +kernel
theorem dX10_along_181 : decode cX10_along 181 = .ok (.if_icmp .gt 10, 3) := by decide +kernel
theorem dX10_along_184 : decode cX10_along 184 = .ok (.iload 5, 2) := by decide +kernel
theorem dX10_along_186 : decode cX10_along 186 = .ok (.iload 6, 2) := by decide +kernel
theorem dX10_along_188 : decode cX10_along 188 = .ok (.if_icmp .le 5, 3) := by decide +kernel
theorem dX10_along_191 : decode cX10_along 191 = .ok (.iconst 0, 1) := by decide +kernel
theorem dX10_along_192 : decode cX10_along 192 = .ok (.ireturn, 1) := by decide +kernel
theorem dX10_along_193 : decode cX10_along 193 = .ok (.iload_n 3, 1) := by decide +kernel
theorem dX10_along_194 : decode cX10_along 194 = .ok (.iload 4, 2) := by decide +kernel
theorem dX10_along_196 : decode cX10_along 196 = .ok (.if_icmp .ne 14, 3) := by decide +kernel
theorem dX10_along_199 : decode cX10_along 199 = .ok (.iload 5, 2) := by decide +kernel
theorem dX10_along_201 : decode cX10_along 201 = .ok (.iload 6, 2) := by decide +kernel
theorem dX10_along_203 : decode cX10_along 203 = .ok (.if_icmp .ne 7, 3) := by decide +kernel
theorem dX10_along_206 : decode cX10_along 206 = .ok (.iconst 1, 1) := by decide +kernel
theorem dX10_along_207 : decode cX10_along 207 = .ok (.goto 4, 3) := by decide +kernel
theorem dX10_along_210 : decode cX10_along 210 = .ok (.iconst 2, 1) := by decide +kernel
theorem dX10_along_211 : decode cX10_along 211 = .ok (.ireturn, 1) := by decide +kernel
theorem dX10_meets_0 : decode cX10_meets 0 = .ok (.aload_n 0, 1) := by decide +kernel
theorem dX10_meets_1 : decode cX10_meets 1 = .ok (.aload_n 0, 1) := by decide +kernel
theorem dX10_meets_2 : decode cX10_meets 2 = .ok (.getfield 37, 3) := by decide +kernel
theorem dX10_meets_5 : decode cX10_meets 5 = .ok (.iload_n 1, 1) := by decide +kernel
theorem dX10_meets_6 : decode cX10_meets 6 = .ok (.iaload, 1) := by decide +kernel
theorem dX10_meets_7 : decode cX10_meets 7 = .ok (.aload_n 0, 1) := by decide +kernel
theorem dX10_meets_8 : decode cX10_meets 8 = .ok (.getfield 40, 3) := by decide +kernel
theorem dX10_meets_11 : decode cX10_meets 11 = .ok (.iload_n 1, 1) := by decide +kernel
theorem dX10_meets_12 : decode cX10_meets 12 = .ok (.iaload, 1) := by decide +kernel
theorem dX10_meets_13 : decode cX10_meets 13 = .ok (.iload_n 2, 1) := by decide +kernel
theorem dX10_meets_14 : decode cX10_meets 14 = .ok (.invokevirtual 120, 3) := by decide +kernel
theorem dX10_meets_17 : decode cX10_meets 17 = .ok (.ifCond .ne 5, 3) := by decide +kernel
theorem dX10_meets_20 : decode cX10_meets 20 = .ok (.iconst 0, 1) := by decide +kernel
theorem dX10_meets_21 : decode cX10_meets 21 = .ok (.ireturn, 1) := by decide +kernel
theorem dX10_meets_22 : decode cX10_meets 22 = .ok (.aload_n 0, 1) := by decide +kernel
theorem dX10_meets_23 : decode cX10_meets 23 = .ok (.aload_n 0, 1) := by decide +kernel
theorem dX10_meets_24 : decode cX10_meets 24 = .ok (.getfield 37, 3) := by decide +kernel
theorem dX10_meets_27 : decode cX10_meets 27 = .ok (.iload_n 1, 1) := by decide +kernel
theorem dX10_meets_28 : decode cX10_meets 28 = .ok (.iaload, 1) := by decide +kernel
theorem dX10_meets_29 : decode cX10_meets 29 = .ok (.putfield 114, 3) := by decide +kernel
theorem dX10_meets_32 : decode cX10_meets 32 = .ok (.aload_n 0, 1) := by decide +kernel
theorem dX10_meets_33 : decode cX10_meets 33 = .ok (.aload_n 0, 1) := by decide +kernel
theorem dX10_meets_34 : decode cX10_meets 34 = .ok (.getfield 40, 3) := by decide +kernel
theorem dX10_meets_37 : decode cX10_meets 37 = .ok (.iload_n 1, 1) := by decide +kernel
theorem dX10_meets_38 : decode cX10_meets 38 = .ok (.iaload, 1) := by decide +kernel
theorem dX10_meets_39 : decode cX10_meets 39 = .ok (.putfield 117, 3) := by decide +kernel
theorem dX10_meets_42 : decode cX10_meets 42 = .ok (.iconst 1, 1) := by decide +kernel
theorem dX10_meets_43 : decode cX10_meets 43 = .ok (.ireturn, 1) := by decide +kernel
theorem dX10_meet_0 : decode cX10_meet 0 = .ok (.aload_n 0, 1) := by decide +kernel
theorem dX10_meet_1 : decode cX10_meet 1 = .ok (.iload_n 1, 1) := by decide +kernel
theorem dX10_meet_2 : decode cX10_meet 2 = .ok (.iload_n 1, 1) := by decide +kernel
theorem dX10_meet_3 : decode cX10_meet 3 = .ok (.iconst 1, 1) := by decide +kernel
theorem dX10_meet_4 : decode cX10_meet 4 = .ok (.iadd, 1) := by decide +kernel
theorem dX10_meet_5 : decode cX10_meet 5 = .ok (.aload_n 0, 1) := by decide +kernel
theorem dX10_meet_6 : decode cX10_meet 6 = .ok (.getfield 37, 3) := by decide +kernel
theorem dX10_meet_9 : decode cX10_meet 9 = .ok (.iload_n 2, 1) := by decide +kernel
theorem dX10_meet_10 : decode cX10_meet 10 = .ok (.iaload, 1) := by decide +kernel
theorem dX10_meet_11 : decode cX10_meet 11 = .ok (.aload_n 0, 1) := by decide +kernel
theorem dX10_meet_12 : decode cX10_meet 12 = .ok (.getfield 40, 3) := by decide +kernel
theorem dX10_meet_15 : decode cX10_meet 15 = .ok (.iload_n 2, 1) := by decide +kernel
theorem dX10_meet_16 : decode cX10_meet 16 = .ok (.iaload, 1) := by decide +kernel
theorem dX10_meet_17 : decode cX10_meet 17 = .ok (.invokevirtual 96, 3) := by decide +kernel
theorem dX10_meet_20 : decode cX10_meet 20 = .ok (.istore_n 3, 1) := by decide +kernel
theorem dX10_meet_21 : decode cX10_meet 21 = .ok (.aload_n 0, 1) := by decide +kernel
theorem dX10_meet_22 : decode cX10_meet 22 = .ok (.iload_n 1, 1) := by decide +kernel
theorem dX10_meet_23 : decode cX10_meet 23 = .ok (.iload_n 1, 1) := by decide +kernel
theorem dX10_meet_24 : decode cX10_meet 24 = .ok (.iconst 1, 1) := by decide +kernel
theorem dX10_meet_25 : decode cX10_meet 25 = .ok (.iadd, 1) := by decide +kernel
theorem dX10_meet_26 : decode cX10_meet 26 = .ok (.aload_n 0, 1) := by decide +kernel
theorem dX10_meet_27 : decode cX10_meet 27 = .ok (.getfield 37, 3) := by decide +kernel
theorem dX10_meet_30 : decode cX10_meet 30 = .ok (.iload_n 2, 1) := by decide +kernel
theorem dX10_meet_31 : decode cX10_meet 31 = .ok (.iconst 1, 1) := by decide +kernel
theorem dX10_meet_32 : decode cX10_meet 32 = .ok (.iadd, 1) := by decide +kernel
theorem dX10_meet_33 : decode cX10_meet 33 = .ok (.iaload, 1) := by decide +kernel
theorem dX10_meet_34 : decode cX10_meet 34 = .ok (.aload_n 0, 1) := by decide +kernel
theorem dX10_meet_35 : decode cX10_meet 35 = .ok (.getfield 40, 3) := by decide +kernel
theorem dX10_meet_38 : decode cX10_meet 38 = .ok (.iload_n 2, 1) := by decide +kernel
theorem dX10_meet_39 : decode cX10_meet 39 = .ok (.iconst 1, 1) := by decide +kernel
theorem dX10_meet_40 : decode cX10_meet 40 = .ok (.iadd, 1) := by decide +kernel
theorem dX10_meet_41 : decode cX10_meet 41 = .ok (.iaload, 1) := by decide +kernel
theorem dX10_meet_42 : decode cX10_meet 42 = .ok (.invokevirtual 96, 3) := by decide +kernel
theorem dX10_meet_45 : decode cX10_meet 45 = .ok (.istore 4, 2) := by decide +kernel
theorem dX10_meet_47 : decode cX10_meet 47 = .ok (.iload_n 3, 1) := by decide +kernel
theorem dX10_meet_48 : decode cX10_meet 48 = .ok (.ifCond .ne 29, 3) := by decide +kernel
theorem dX10_meet_51 : decode cX10_meet 51 = .ok (.iload 4, 2) := by decide +kernel
theorem dX10_meet_53 : decode cX10_meet 53 = .ok (.ifCond .ne 24, 3) := by decide +kernel
theorem dX10_meet_56 : decode cX10_meet 56 = .ok (.aload_n 0, 1) := by decide +kernel
theorem dX10_meet_57 : decode cX10_meet 57 = .ok (.iload_n 1, 1) := by decide +kernel
theorem dX10_meet_58 : decode cX10_meet 58 = .ok (.iload_n 2, 1) := by decide +kernel
theorem dX10_meet_59 : decode cX10_meet 59 = .ok (.invokevirtual 123, 3) := by decide +kernel
theorem dX10_meet_62 : decode cX10_meet 62 = .ok (.istore 5, 2) := by decide +kernel
theorem dX10_meet_64 : decode cX10_meet 64 = .ok (.iload 5, 2) := by decide +kernel
theorem dX10_meet_66 : decode cX10_meet 66 = .ok (.iconst 2, 1) := by decide +kernel
theorem dX10_meet_67 : decode cX10_meet 67 = .ok (.if_icmp .ne 7, 3) := by decide +kernel
theorem dX10_meet_70 : decode cX10_meet 70 = .ok (.iconst 3, 1) := by decide +kernel
theorem dX10_meet_71 : decode cX10_meet 71 = .ok (.goto 5, 3) := by decide +kernel
theorem dX10_meet_74 : decode cX10_meet 74 = .ok (.iload 5, 2) := by decide +kernel
theorem dX10_meet_76 : decode cX10_meet 76 = .ok (.ireturn, 1) := by decide +kernel
theorem dX10_meet_77 : decode cX10_meet 77 = .ok (.iload_n 3, 1) := by decide +kernel
theorem dX10_meet_78 : decode cX10_meet 78 = .ok (.iload 4, 2) := by decide +kernel
theorem dX10_meet_80 : decode cX10_meet 80 = .ok (.imul, 1) := by decide +kernel
theorem dX10_meet_81 : decode cX10_meet 81 = .ok (.ifCond .ge 53, 3) := by decide +kernel
theorem dX10_meet_84 : decode cX10_meet 84 = .ok (.aload_n 0, 1) := by decide +kernel
theorem dX10_meet_85 : decode cX10_meet 85 = .ok (.iload_n 2, 1) := by decide +kernel
theorem dX10_meet_86 : decode cX10_meet 86 = .ok (.iload_n 2, 1) := by decide +kernel
theorem dX10_meet_87 : decode cX10_meet 87 = .ok (.iconst 1, 1) := by decide +kernel
theorem dX10_meet_88 : decode cX10_meet 88 = .ok (.iadd, 1) := by decide +kernel
theorem dX10_meet_89 : decode cX10_meet 89 = .ok (.aload_n 0, 1) := by decide +kernel
theorem dX10_meet_90 : decode cX10_meet 90 = .ok (.getfield 37, 3) := by decide +kernel
theorem dX10_meet_93 : decode cX10_meet 93 = .ok (.iload_n 1, 1) := by decide +kernel
theorem dX10_meet_94 : decode cX10_meet 94 = .ok (.iaload, 1) := by decide +kernel
theorem dX10_meet_95 : decode cX10_meet 95 = .ok (.aload_n 0, 1) := by decide +kernel
theorem dX10_meet_96 : decode cX10_meet 96 = .ok (.getfield 40, 3) := by decide +kernel
theorem dX10_meet_99 : decode cX10_meet 99 = .ok (.iload_n 1, 1) := by decide +kernel
theorem dX10_meet_100 : decode cX10_meet 100 = .ok (.iaload, 1) := by decide +kernel
theorem dX10_meet_101 : decode cX10_meet 101 = .ok (.invokevirtual 96, 3) := by decide +kernel
theorem dX10_meet_104 : decode cX10_meet 104 = .ok (.aload_n 0, 1) := by decide +kernel
theorem dX10_meet_105 : decode cX10_meet 105 = .ok (.iload_n 2, 1) := by decide +kernel
theorem dX10_meet_106 : decode cX10_meet 106 = .ok (.iload_n 2, 1) := by decide +kernel
theorem dX10_meet_107 : decode cX10_meet 107 = .ok (.iconst 1, 1) := by decide +kernel
theorem dX10_meet_108 : decode cX10_meet 108 = .ok (.iadd, 1) := by decide +kernel
theorem dX10_meet_109 : decode cX10_meet 109 = .ok (.aload_n 0, 1) := by decide +kernel
theorem dX10_meet_110 : decode cX10_meet 110 = .ok (.getfield 37, 3) := by decide +kernel
theorem dX10_meet_113 : decode cX10_meet 113 = .ok (.iload_n 1, 1) := by decide +kernel
theorem dX10_meet_114 : decode cX10_meet 114 = .ok (.iconst 1, 1) := by decide +kernel
theorem dX10_meet_115 : decode cX10_meet 115 = .ok (.iadd, 1) := by decide +kernel
theorem dX10_meet_116 : decode cX10_meet 116 = .ok (.iaload, 1) := by decide +kernel
theorem dX10_meet_117 : decode cX10_meet 117 = .ok (.aload_n 0, 1) := by decide +kernel
theorem dX10_meet_118 : decode cX10_meet 118 = .ok (.getfield 40, 3) := by decide +kernel
theorem dX10_meet_121 : decode cX10_meet 121 = .ok (.iload_n 1, 1) := by decide +kernel
theorem dX10_meet_122 : decode cX10_meet 122 = .ok (.iconst 1, 1) := by decide +kernel
theorem dX10_meet_123 : decode cX10_meet 123 = .ok (.iadd, 1) := by decide +kernel
theorem dX10_meet_124 : decode cX10_meet 124 = .ok (.iaload, 1) := by decide +kernel
theorem dX10_meet_125 : decode cX10_meet 125 = .ok (.invokevirtual 96, 3) := by decide +kernel
theorem dX10_meet_128 : decode cX10_meet 128 = .ok (.imul, 1) := by decide +kernel
theorem dX10_meet_129 : decode cX10_meet 129 = .ok (.ifCond .ge 5, 3) := by decide +kernel
theorem dX10_meet_132 : decode cX10_meet 132 = .ok (.iconst 2, 1) := by decide +kernel
theorem dX10_meet_133 : decode cX10_meet 133 = .ok (.ireturn, 1) := by decide +kernel
theorem dX10_meet_134 : decode cX10_meet 134 = .ok (.aload_n 0, 1) := by decide +kernel
theorem dX10_meet_135 : decode cX10_meet 135 = .ok (.iload_n 1, 1) := by decide +kernel
theorem dX10_meet_136 : decode cX10_meet 136 = .ok (.iload_n 2, 1) := by decide +kernel
theorem dX10_meet_137 : decode cX10_meet 137 = .ok (.invokevirtual 126, 3) := by decide +kernel
theorem dX10_meet_140 : decode cX10_meet 140 = .ok (.ifCond .ne 34, 3) := by decide +kernel
theorem dX10_meet_143 : decode cX10_meet 143 = .ok (.aload_n 0, 1) := by decide +kernel
theorem dX10_meet_144 : decode cX10_meet 144 = .ok (.iload_n 1, 1) := by decide +kernel
theorem dX10_meet_145 : decode cX10_meet 145 = .ok (.iconst 1, 1) := by decide +kernel
theorem dX10_meet_146 : decode cX10_meet 146 = .ok (.iadd, 1) := by decide +kernel
theorem dX10_meet_147 : decode cX10_meet 147 = .ok (.iload_n 2, 1) := by decide +kernel
theorem dX10_meet_148 : decode cX10_meet 148 = .ok (.invokevirtual 126, 3) := by decide +kernel
theorem dX10_meet_151 : decode cX10_meet 151 = .ok (.ifCond .ne 23, 3) := by decide +kernel
theorem dX10_meet_154 : decode cX10_meet 154 = .ok (.aload_n 0, 1) := by decide +kernel
theorem dX10_meet_155 : decode cX10_meet 155 = .ok (.iload_n 2, 1) := by decide +kernel
theorem dX10_meet_156 : decode cX10_meet 156 = .ok (.iload_n 1, 1) := by decide +kernel
theorem dX10_meet_157 : decode cX10_meet 157 = .ok (.invokevirtual 126, 3) := by decide +kernel
theorem dX10_meet_160 : decode cX10_meet 160 = .ok (.ifCond .ne 14, 3) := by decide +kernel
theorem dX10_meet_163 : decode cX10_meet 163 = .ok (.aload_n 0, 1) := by decide +kernel
theorem dX10_meet_164 : decode cX10_meet 164 = .ok (.iload_n 2, 1) := by decide +kernel
theorem dX10_meet_165 : decode cX10_meet 165 = .ok (.iconst 1, 1) := by decide +kernel
theorem dX10_meet_166 : decode cX10_meet 166 = .ok (.iadd, 1) := by decide +kernel
theorem dX10_meet_167 : decode cX10_meet 167 = .ok (.iload_n 1, 1) := by decide +kernel
theorem dX10_meet_168 : decode cX10_meet 168 = .ok (.invokevirtual 126, 3) := by decide +kernel
theorem dX10_meet_171 : decode cX10_meet 171 = .ok (.ifCond .eq 7, 3) := by decide +kernel
theorem dX10_meet_174 : decode cX10_meet 174 = .ok (.iconst 1, 1) := by decide +kernel
theorem dX10_meet_175 : decode cX10_meet 175 = .ok (.goto 4, 3) := by decide +kernel
theorem dX10_meet_178 : decode cX10_meet 178 = .ok (.iconst 0, 1) := by decide +kernel
theorem dX10_meet_179 : decode cX10_meet 179 = .ok (.ireturn, 1) := by decide +kernel
theorem dX10_end_0 : decode cX10_end 0 = .ok (.aload_n 0, 1) := by decide +kernel
theorem dX10_end_1 : decode cX10_end 1 = .ok (.getfield 31, 3) := by decide +kernel
theorem dX10_end_4 : decode cX10_end 4 = .ok (.iload_n 1, 1) := by decide +kernel
theorem dX10_end_5 : decode cX10_end 5 = .ok (.iaload, 1) := by decide +kernel
theorem dX10_end_6 : decode cX10_end 6 = .ok (.aload_n 0, 1) := by decide +kernel
theorem dX10_end_7 : decode cX10_end 7 = .ok (.getfield 34, 3) := by decide +kernel
theorem dX10_end_10 : decode cX10_end 10 = .ok (.iload_n 1, 1) := by decide +kernel
theorem dX10_end_11 : decode cX10_end 11 = .ok (.iaload, 1) := by decide +kernel
theorem dX10_end_12 : decode cX10_end 12 = .ok (.iadd, 1) := by decide +kernel
theorem dX10_end_13 : decode cX10_end 13 = .ok (.iconst 1, 1) := by decide +kernel
theorem dX10_end_14 : decode cX10_end 14 = .ok (.isub, 1) := by decide +kernel
theorem dX10_end_15 : decode cX10_end 15 = .ok (.ireturn, 1) := by decide +kernel
theorem dX10_next_0 : decode cX10_next 0 = .ok (.iload_n 2, 1) := by decide +kernel
theorem dX10_next_1 : decode cX10_next 1 = .ok (.iconst 1, 1) := by decide +kernel
theorem dX10_next_2 : decode cX10_next 2 = .ok (.iadd, 1) := by decide +kernel
theorem dX10_next_3 : decode cX10_next 3 = .ok (.istore_n 3, 1) := by decide +kernel
theorem dX10_next_4 : decode cX10_next 4 = .ok (.iconst 0, 1) := by decide +kernel
theorem dX10_next_5 : decode cX10_next 5 = .ok (.istore 4, 2) := by decide +kernel
theorem dX10_next_7 : decode cX10_next 7 = .ok (.iload 4, 2) := by decide +kernel
theorem dX10_next_9 : decode cX10_next 9 = .ok (.aload_n 0, 1) := by decide +kernel
theorem dX10_next_10 : decode cX10_next 10 = .ok (.getfield 34, 3) := by decide +kernel
theorem dX10_next_13 : decode cX10_next 13 = .ok (.iload_n 1, 1) := by decide +kernel
theorem dX10_next_14 : decode cX10_next 14 = .ok (.iaload, 1) := by decide +kernel
theorem dX10_next_15 : decode cX10_next 15 = .ok (.if_icmp .ge 42, 3) := by decide +kernel
theorem dX10_next_18 : decode cX10_next 18 = .ok (.iload_n 3, 1) := by decide +kernel
theorem dX10_next_19 : decode cX10_next 19 = .ok (.aload_n 0, 1) := by decide +kernel
theorem dX10_next_20 : decode cX10_next 20 = .ok (.iload_n 1, 1) := by decide +kernel
theorem dX10_next_21 : decode cX10_next 21 = .ok (.invokevirtual 129, 3) := by decide +kernel
theorem dX10_next_24 : decode cX10_next 24 = .ok (.if_icmp .lt 12, 3) := by decide +kernel
theorem dX10_next_27 : decode cX10_next 27 = .ok (.aload_n 0, 1) := by decide +kernel
theorem dX10_next_28 : decode cX10_next 28 = .ok (.getfield 31, 3) := by decide +kernel
theorem dX10_next_31 : decode cX10_next 31 = .ok (.iload_n 1, 1) := by decide +kernel
theorem dX10_next_32 : decode cX10_next 32 = .ok (.iaload, 1) := by decide +kernel
theorem dX10_next_33 : decode cX10_next 33 = .ok (.goto 4, 3) := by decide +kernel
theorem dX10_next_36 : decode cX10_next 36 = .ok (.iload_n 3, 1) := by decide +kernel
theorem dX10_next_37 : decode cX10_next 37 = .ok (.istore_n 3, 1) := by decide +kernel
theorem dX10_next_38 : decode cX10_next 38 = .ok (.aload_n 0, 1) := by decide +kernel
theorem dX10_next_39 : decode cX10_next 39 = .ok (.iload_n 3, 1) := by decide +kernel
theorem dX10_next_40 : decode cX10_next 40 = .ok (.invokevirtual 132, 3) := by decide +kernel
theorem dX10_next_43 : decode cX10_next 43 = .ok (.ifCond .eq 5, 3) := by decide +kernel
theorem dX10_next_46 : decode cX10_next 46 = .ok (.iload_n 3, 1) := by decide +kernel
theorem dX10_next_47 : decode cX10_next 47 = .ok (.ireturn, 1) := by decide +kernel
theorem dX10_next_48 : decode cX10_next 48 = .ok (.iinc 3 1, 3) := by decide +kernel
theorem dX10_next_51 : decode cX10_next 51 = .ok (.iinc 4 1, 3) := by decide +kernel
theorem dX10_next_54 : decode cX10_next 54 = .ok (.goto (-47), 3) := by decide +kernel
theorem dX10_next_57 : decode cX10_next 57 = .ok (.iload_n 2, 1) := by decide +kernel
theorem dX10_next_58 : decode cX10_next 58 = .ok (.ireturn, 1) := by decide +kernel
theorem dX10_isOnRing_0 : decode cX10_isOnRing 0 = .ok (.iconst 0, 1) := by decide +kernel
theorem dX10_isOnRing_1 : decode cX10_isOnRing 1 = .ok (.istore 4, 2) := by decide +kernel
theorem dX10_isOnRing_3 : decode cX10_isOnRing 3 = .ok (.aload_n 0, 1) := by decide +kernel
theorem dX10_isOnRing_4 : decode cX10_isOnRing 4 = .ok (.getfield 31, 3) := by decide +kernel
theorem dX10_isOnRing_7 : decode cX10_isOnRing 7 = .ok (.iload_n 3, 1) := by decide +kernel
theorem dX10_isOnRing_8 : decode cX10_isOnRing 8 = .ok (.iaload, 1) := by decide +kernel
theorem dX10_isOnRing_9 : decode cX10_isOnRing 9 = .ok (.istore 5, 2) := by decide +kernel
theorem dX10_isOnRing_11 : decode cX10_isOnRing 11 = .ok (.iload 5, 2) := by decide +kernel
theorem dX10_isOnRing_13 : decode cX10_isOnRing 13 = .ok (.aload_n 0, 1) := by decide +kernel
theorem dX10_isOnRing_14 : decode cX10_isOnRing 14 = .ok (.iload_n 3, 1) := by decide +kernel
theorem dX10_isOnRing_15 : decode cX10_isOnRing 15 = .ok (.invokevirtual 129, 3) := by decide +kernel
theorem dX10_isOnRing_18 : decode cX10_isOnRing 18 = .ok (.if_icmp .ge 41, 3) := by decide +kernel
theorem dX10_isOnRing_21 : decode cX10_isOnRing 21 = .ok (.iload 4, 2) := by decide +kernel
theorem dX10_isOnRing_23 : decode cX10_isOnRing 23 = .ok (.ifCond .ne 36, 3) := by decide +kernel
theorem dX10_isOnRing_26 : decode cX10_isOnRing 26 = .ok (.aload_n 0, 1) := by decide +kernel
theorem dX10_isOnRing_27 : decode cX10_isOnRing 27 = .ok (.iload 5, 2) := by decide +kernel
theorem dX10_isOnRing_29 : decode cX10_isOnRing 29 = .ok (.invokevirtual 132, 3) := by decide +kernel
theorem dX10_isOnRing_32 : decode cX10_isOnRing 32 = .ok (.ifCond .eq 18, 3) := by decide +kernel
theorem dX10_isOnRing_35 : decode cX10_isOnRing 35 = .ok (.aload_n 0, 1) := by decide +kernel
theorem dX10_isOnRing_36 : decode cX10_isOnRing 36 = .ok (.iload_n 1, 1) := by decide +kernel
theorem dX10_isOnRing_37 : decode cX10_isOnRing 37 = .ok (.iload_n 2, 1) := by decide +kernel
theorem dX10_isOnRing_38 : decode cX10_isOnRing 38 = .ok (.iload 5, 2) := by decide +kernel
theorem dX10_isOnRing_40 : decode cX10_isOnRing 40 = .ok (.invokevirtual 120, 3) := by decide +kernel
theorem dX10_isOnRing_43 : decode cX10_isOnRing 43 = .ok (.ifCond .eq 7, 3) := by decide +kernel
theorem dX10_isOnRing_46 : decode cX10_isOnRing 46 = .ok (.iconst 1, 1) := by decide +kernel
theorem dX10_isOnRing_47 : decode cX10_isOnRing 47 = .ok (.goto 4, 3) := by decide +kernel
theorem dX10_isOnRing_50 : decode cX10_isOnRing 50 = .ok (.iconst 0, 1) := by decide +kernel
theorem dX10_isOnRing_51 : decode cX10_isOnRing 51 = .ok (.istore 4, 2) := by decide +kernel
theorem dX10_isOnRing_53 : decode cX10_isOnRing 53 = .ok (.iinc 5 1, 3) := by decide +kernel
theorem dX10_isOnRing_56 : decode cX10_isOnRing 56 = .ok (.goto (-45), 3) := by decide +kernel
theorem dX10_isOnRing_59 : decode cX10_isOnRing 59 = .ok (.iload 4, 2) := by decide +kernel
theorem dX10_isOnRing_61 : decode cX10_isOnRing 61 = .ok (.ireturn, 1) := by decide +kernel
theorem dX10_odd_0 : decode cX10_odd 0 = .ok (.iconst 0, 1) := by decide +kernel
theorem dX10_odd_1 : decode cX10_odd 1 = .ok (.istore 6, 2) := by decide +kernel
theorem dX10_odd_3 : decode cX10_odd 3 = .ok (.aload_n 0, 1) := by decide +kernel
theorem dX10_odd_4 : decode cX10_odd 4 = .ok (.getfield 31, 3) := by decide +kernel
theorem dX10_odd_7 : decode cX10_odd 7 = .ok (.iload_n 1, 1) := by decide +kernel
theorem dX10_odd_8 : decode cX10_odd 8 = .ok (.iaload, 1) := by decide +kernel
theorem dX10_odd_9 : decode cX10_odd 9 = .ok (.istore 7, 2) := by decide +kernel
theorem dX10_odd_11 : decode cX10_odd 11 = .ok (.iload 7, 2) := by decide +kernel
theorem dX10_odd_13 : decode cX10_odd 13 = .ok (.aload_n 0, 1) := by decide +kernel
theorem dX10_odd_14 : decode cX10_odd 14 = .ok (.iload_n 1, 1) := by decide +kernel
theorem dX10_odd_15 : decode cX10_odd 15 = .ok (.invokevirtual 129, 3) := by decide +kernel
theorem dX10_odd_18 : decode cX10_odd 18 = .ok (.if_icmp .ge 186, 3) := by decide +kernel
theorem dX10_odd_21 : decode cX10_odd 21 = .ok (.aload_n 0, 1) := by decide +kernel
theorem dX10_odd_22 : decode cX10_odd 22 = .ok (.getfield 40, 3) := by decide +kernel
theorem dX10_odd_25 : decode cX10_odd 25 = .ok (.iload 7, 2) := by decide +kernel
theorem dX10_odd_27 : decode cX10_odd 27 = .ok (.iaload, 1) := by decide +kernel
theorem dX10_odd_28 : decode cX10_odd 28 = .ok (.iload_n 3, 1) := by decide +kernel
theorem dX10_odd_29 : decode cX10_odd 29 = .ok (.if_icmp .gt 19, 3) := by decide +kernel
theorem dX10_odd_32 : decode cX10_odd 32 = .ok (.aload_n 0, 1) := by decide +kernel
theorem dX10_odd_33 : decode cX10_odd 33 = .ok (.getfield 40, 3) := by decide +kernel
theorem dX10_odd_36 : decode cX10_odd 36 = .ok (.iload 7, 2) := by decide +kernel
theorem dX10_odd_38 : decode cX10_odd 38 = .ok (.iaload, 1) := by decide +kernel
theorem dX10_odd_39 : decode cX10_odd 39 = .ok (.iload_n 3, 1) := by decide +kernel
theorem dX10_odd_40 : decode cX10_odd 40 = .ok (.if_icmp .ne 12, 3) := by decide +kernel
theorem dX10_odd_43 : decode cX10_odd 43 = .ok (.iload 5, 2) := by decide +kernel
theorem dX10_odd_45 : decode cX10_odd 45 = .ok (.ifCond .ge 7, 3) := by decide +kernel
theorem dX10_odd_48 : decode cX10_odd 48 = .ok (.iconst 1, 1) := by decide +kernel
theorem dX10_odd_49 : decode cX10_odd 49 = .ok (.goto 4, 3) := by decide +kernel
theorem dX10_odd_52 : decode cX10_odd 52 = .ok (.iconst 0, 1) := by decide +kernel
theorem dX10_odd_53 : decode cX10_odd 53 = .ok (.istore 8, 2) := by decide +kernel
theorem dX10_odd_55 : decode cX10_odd 55 = .ok (.aload_n 0, 1) := by decide +kernel
theorem dX10_odd_56 : decode cX10_odd 56 = .ok (.getfield 40, 3) := by decide +kernel
theorem dX10_odd_59 : decode cX10_odd 59 = .ok (.iload 7, 2) := by decide +kernel
theorem dX10_odd_61 : decode cX10_odd 61 = .ok (.iconst 1, 1) := by decide +kernel
theorem dX10_odd_62 : decode cX10_odd 62 = .ok (.iadd, 1) := by decide +kernel
theorem dX10_odd_63 : decode cX10_odd 63 = .ok (.iaload, 1) := by decide +kernel
theorem dX10_odd_64 : decode cX10_odd 64 = .ok (.iload_n 3, 1) := by decide +kernel
theorem dX10_odd_65 : decode cX10_odd 65 = .ok (.if_icmp .gt 21, 3) := by decide +kernel
theorem dX10_odd_68 : decode cX10_odd 68 = .ok (.aload_n 0, 1) := by decide +kernel
theorem dX10_odd_69 : decode cX10_odd 69 = .ok (.getfield 40, 3) := by decide +kernel
theorem dX10_odd_72 : decode cX10_odd 72 = .ok (.iload 7, 2) := by decide +kernel
theorem dX10_odd_74 : decode cX10_odd 74 = .ok (.iconst 1, 1) := by decide +kernel
theorem dX10_odd_75 : decode cX10_odd 75 = .ok (.iadd, 1) := by decide +kernel
theorem dX10_odd_76 : decode cX10_odd 76 = .ok (.iaload, 1) := by decide +kernel
theorem dX10_odd_77 : decode cX10_odd 77 = .ok (.iload_n 3, 1) := by decide +kernel
theorem dX10_odd_78 : decode cX10_odd 78 = .ok (.if_icmp .ne 12, 3) := by decide +kernel
theorem dX10_odd_81 : decode cX10_odd 81 = .ok (.iload 5, 2) := by decide +kernel
theorem dX10_odd_83 : decode cX10_odd 83 = .ok (.ifCond .ge 7, 3) := by decide +kernel
theorem dX10_odd_86 : decode cX10_odd 86 = .ok (.iconst 1, 1) := by decide +kernel
theorem dX10_odd_87 : decode cX10_odd 87 = .ok (.goto 4, 3) := by decide +kernel
theorem dX10_odd_90 : decode cX10_odd 90 = .ok (.iconst 0, 1) := by decide +kernel
theorem dX10_odd_91 : decode cX10_odd 91 = .ok (.istore 9, 2) := by decide +kernel
theorem dX10_odd_93 : decode cX10_odd 93 = .ok (.iload 8, 2) := by decide +kernel
theorem dX10_odd_95 : decode cX10_odd 95 = .ok (.iload 9, 2) := by decide +kernel
theorem dX10_odd_97 : decode cX10_odd 97 = .ok (.if_icmp .eq 101, 3) := by decide +kernel
theorem dX10_odd_100 : decode cX10_odd 100 = .ok (.aload_n 0, 1) := by decide +kernel
theorem dX10_odd_101 : decode cX10_odd 101 = .ok (.iload 7, 2) := by decide +kernel
theorem dX10_odd_103 : decode cX10_odd 103 = .ok (.iload 7, 2) := by decide +kernel
theorem dX10_odd_105 : decode cX10_odd 105 = .ok (.iconst 1, 1) := by decide +kernel
theorem dX10_odd_106 : decode cX10_odd 106 = .ok (.iadd, 1) := by decide +kernel
theorem dX10_odd_107 : decode cX10_odd 107 = .ok (.iload_n 2, 1) := by decide +kernel
theorem dX10_odd_108 : decode cX10_odd 108 = .ok (.iload_n 3, 1) := by decide +kernel
theorem dX10_odd_109 : decode cX10_odd 109 = .ok (.invokevirtual 96, 3) := by decide +kernel
theorem dX10_odd_112 : decode cX10_odd 112 = .ok (.istore 10, 2) := by decide +kernel
theorem dX10_odd_114 : decode cX10_odd 114 = .ok (.iload 10, 2) := by decide +kernel
theorem dX10_odd_116 : decode cX10_odd 116 = .ok (.ifCond .ne 55, 3) := by decide +kernel
theorem dX10_odd_119 : decode cX10_odd 119 = .ok (.aload_n 0, 1) := by decide +kernel
theorem dX10_odd_120 : decode cX10_odd 120 = .ok (.getfield 37, 3) := by decide +kernel
theorem dX10_odd_123 : decode cX10_odd 123 = .ok (.iload 7, 2) := by decide +kernel
theorem dX10_odd_125 : decode cX10_odd 125 = .ok (.iconst 1, 1) := by decide +kernel
theorem dX10_odd_126 : decode cX10_odd 126 = .ok (.iadd, 1) := by decide +kernel
theorem dX10_odd_127 : decode cX10_odd 127 = .ok (.iaload, 1) := by decide +kernel
theorem dX10_odd_128 : decode cX10_odd 128 = .ok (.i2l, 1) := by decide +kernel
theorem dX10_odd_129 : decode cX10_odd 129 = .ok (.aload_n 0, 1) := by decide +kernel
theorem dX10_odd_130 : decode cX10_odd 130 = .ok (.getfield 37, 3) := by decide +kernel
theorem dX10_odd_133 : decode cX10_odd 133 = .ok (.iload 7, 2) := by decide +kernel
theorem dX10_odd_135 : decode cX10_odd 135 = .ok (.iaload, 1) := by decide +kernel
theorem dX10_odd_136 : decode cX10_odd 136 = .ok (.i2l, 1) := by decide +kernel
theorem dX10_odd_137 : decode cX10_odd 137 = .ok (.lsub, 1) := by decide +kernel
theorem dX10_odd_138 : decode cX10_odd 138 = .ok (.iload 5, 2) := by decide +kernel
theorem dX10_odd_140 : decode cX10_odd 140 = .ok (.i2l, 1) := by decide +kernel
theorem dX10_odd_141 : decode cX10_odd 141 = .ok (.lmul, 1) := by decide +kernel
theorem dX10_odd_142 : decode cX10_odd 142 = .ok (.aload_n 0, 1) := by decide +kernel
theorem dX10_odd_143 : decode cX10_odd 143 = .ok (.getfield 40, 3) := by decide +kernel
theorem dX10_odd_146 : decode cX10_odd 146 = .ok (.iload 7, 2) := by decide +kernel
theorem dX10_odd_148 : decode cX10_odd 148 = .ok (.iconst 1, 1) := by decide +kernel
theorem dX10_odd_149 : decode cX10_odd 149 = .ok (.iadd, 1) := by decide +kernel
theorem dX10_odd_150 : decode cX10_odd 150 = .ok (.iaload, 1) := by decide +kernel
theorem dX10_odd_151 : decode cX10_odd 151 = .ok (.i2l, 1) := by decide +kernel
theorem dX10_odd_152 : decode cX10_odd 152 = .ok (.aload_n 0, 1) := by decide +kernel
theorem dX10_odd_153 : decode cX10_odd 153 = .ok (.getfield 40, 3) := by decide +kernel
theorem dX10_odd_156 : decode cX10_odd 156 = .ok (.iload 7, 2) := by decide +kernel
theorem dX10_odd_158 : decode cX10_odd 158 = .ok (.iaload, 1) := by decide +kernel
theorem dX10_odd_159 : decode cX10_odd 159 = .ok (.i2l, 1) := by decide +kernel
theorem dX10_odd_160 : decode cX10_odd 160 = .ok (.lsub, 1) := by decide +kernel
theorem dX10_odd_161 : decode cX10_odd 161 = .ok (.iload 4, 2) := by decide +kernel
theorem dX10_odd_163 : decode cX10_odd 163 = .ok (.i2l, 1) := by decide +kernel
theorem dX10_odd_164 : decode cX10_odd 164 = .ok (.lmul, 1) := by decide +kernel
theorem dX10_odd_165 : decode cX10_odd 165 = .ok (.lsub, 1) := by decide +kernel
theorem dX10_odd_166 : decode cX10_odd 166 = .ok (.invokestatic 92, 3) := by decide +kernel
theorem dX10_odd_169 : decode cX10_odd 169 = .ok (.istore 10, 2) := by decide +kernel
theorem dX10_odd_171 : decode cX10_odd 171 = .ok (.iload 10, 2) := by decide +kernel
theorem dX10_odd_173 : decode cX10_odd 173 = .ok (.ifCond .le 7, 3) := by decide +kernel
theorem dX10_odd_176 : decode cX10_odd 176 = .ok (.iconst 1, 1) := by decide +kernel
theorem dX10_odd_177 : decode cX10_odd 177 = .ok (.goto 4, 3) := by decide +kernel
theorem dX10_odd_180 : decode cX10_odd 180 = .ok (.iconst 0, 1) := by decide +kernel
theorem dX10_odd_181 : decode cX10_odd 181 = .ok (.iload 9, 2) := by decide +kernel
theorem dX10_odd_183 : decode cX10_odd 183 = .ok (.if_icmp .ne 15, 3) := by decide +kernel
theorem dX10_odd_186 : decode cX10_odd 186 = .ok (.iload 6, 2) := by decide +kernel
theorem dX10_odd_188 : decode cX10_odd 188 = .ok (.ifCond .ne 7, 3) := by decide +kernel
theorem dX10_odd_191 : decode cX10_odd 191 = .ok (.iconst 1, 1) := by decide +kernel
theorem dX10_odd_192 : decode cX10_odd 192 = .ok (.goto 4, 3) := by decide +kernel
theorem dX10_odd_195 : decode cX10_odd 195 = .ok (.iconst 0, 1) := by decide +kernel
theorem dX10_odd_196 : decode cX10_odd 196 = .ok (.istore 6, 2) := by decide +kernel
theorem dX10_odd_198 : decode cX10_odd 198 = .ok (.iinc 7 1, 3) := by decide +kernel
theorem dX10_odd_201 : decode cX10_odd 201 = .ok (.goto (-190), 3) := by decide +kernel
theorem dX10_odd_204 : decode cX10_odd 204 = .ok (.iload 6, 2) := by decide +kernel
theorem dX10_odd_206 : decode cX10_odd 206 = .ok (.ireturn, 1) := by decide +kernel
theorem dX10_liesIn_0 : decode cX10_liesIn 0 = .ok (.iconst (-1), 1) := by decide +kernel
theorem dX10_liesIn_1 : decode cX10_liesIn 1 = .ok (.istore_n 3, 1) := by decide +kernel
theorem dX10_liesIn_2 : decode cX10_liesIn 2 = .ok (.aload_n 0, 1) := by decide +kernel
theorem dX10_liesIn_3 : decode cX10_liesIn 3 = .ok (.getfield 31, 3) := by decide +kernel
theorem dX10_liesIn_6 : decode cX10_liesIn 6 = .ok (.iload_n 1, 1) := by decide +kernel
theorem dX10_liesIn_7 : decode cX10_liesIn 7 = .ok (.iaload, 1) := by decide +kernel
theorem dX10_liesIn_8 : decode cX10_liesIn 8 = .ok (.istore 4, 2) := by decide +kernel
theorem dX10_liesIn_10 : decode cX10_liesIn 10 = .ok (.iload 4, 2) := by decide +kernel
theorem dX10_liesIn_12 : decode cX10_liesIn 12 = .ok (.aload_n 0, 1) := by decide +kernel
theorem dX10_liesIn_13 : decode cX10_liesIn 13 = .ok (.iload_n 1, 1) := by decide +kernel
theorem dX10_liesIn_14 : decode cX10_liesIn 14 = .ok (.invokevirtual 129, 3) := by decide +kernel
theorem dX10_liesIn_17 : decode cX10_liesIn 17 = .ok (.if_icmp .ge 73, 3) := by decide +kernel
theorem dX10_liesIn_20 : decode cX10_liesIn 20 = .ok (.aload_n 0, 1) := by decide +kernel
theorem dX10_liesIn_21 : decode cX10_liesIn 21 = .ok (.iload 4, 2) := by decide +kernel
theorem dX10_liesIn_23 : decode cX10_liesIn 23 = .ok (.invokevirtual 132, 3) := by decide +kernel
theorem dX10_liesIn_26 : decode cX10_liesIn 26 = .ok (.ifCond .eq 58, 3) := by decide +kernel
theorem dX10_liesIn_29 : decode cX10_liesIn 29 = .ok (.aload_n 0, 1) := by decide +kernel
theorem dX10_liesIn_30 : decode cX10_liesIn 30 = .ok (.aload_n 0, 1) := by decide +kernel
theorem dX10_liesIn_31 : decode cX10_liesIn 31 = .ok (.getfield 37, 3) := by decide +kernel
theorem dX10_liesIn_34 : decode cX10_liesIn 34 = .ok (.iload 4, 2) := by decide +kernel
theorem dX10_liesIn_36 : decode cX10_liesIn 36 = .ok (.iaload, 1) := by decide +kernel
theorem dX10_liesIn_37 : decode cX10_liesIn 37 = .ok (.aload_n 0, 1) := by decide +kernel
theorem dX10_liesIn_38 : decode cX10_liesIn 38 = .ok (.getfield 40, 3) := by decide +kernel
theorem dX10_liesIn_41 : decode cX10_liesIn 41 = .ok (.iload 4, 2) := by decide +kernel
theorem dX10_liesIn_43 : decode cX10_liesIn 43 = .ok (.iaload, 1) := by decide +kernel
theorem dX10_liesIn_44 : decode cX10_liesIn 44 = .ok (.iload_n 2, 1) := by decide +kernel
theorem dX10_liesIn_45 : decode cX10_liesIn 45 = .ok (.invokevirtual 135, 3) := by decide +kernel
theorem dX10_liesIn_48 : decode cX10_liesIn 48 = .ok (.ifCond .ne 25, 3) := by decide +kernel
theorem dX10_liesIn_51 : decode cX10_liesIn 51 = .ok (.aload_n 0, 1) := by decide +kernel
theorem dX10_liesIn_52 : decode cX10_liesIn 52 = .ok (.iload_n 2, 1) := by decide +kernel
theorem dX10_liesIn_53 : decode cX10_liesIn 53 = .ok (.aload_n 0, 1) := by decide +kernel
theorem dX10_liesIn_54 : decode cX10_liesIn 54 = .ok (.getfield 37, 3) := by decide +kernel
theorem dX10_liesIn_57 : decode cX10_liesIn 57 = .ok (.iload 4, 2) := by decide +kernel
theorem dX10_liesIn_59 : decode cX10_liesIn 59 = .ok (.iaload, 1) := by decide +kernel
theorem dX10_liesIn_60 : decode cX10_liesIn 60 = .ok (.aload_n 0, 1) := by decide +kernel
theorem dX10_liesIn_61 : decode cX10_liesIn 61 = .ok (.getfield 40, 3) := by decide +kernel
theorem dX10_liesIn_64 : decode cX10_liesIn 64 = .ok (.iload 4, 2) := by decide +kernel
theorem dX10_liesIn_66 : decode cX10_liesIn 66 = .ok (.iaload, 1) := by decide +kernel
theorem dX10_liesIn_67 : decode cX10_liesIn 67 = .ok (.iconst 0, 1) := by decide +kernel
theorem dX10_liesIn_68 : decode cX10_liesIn 68 = .ok (.iconst 0, 1) := by decide +kernel
theorem dX10_liesIn_69 : decode cX10_liesIn 69 = .ok (.invokevirtual 138, 3) := by decide +kernel
theorem dX10_liesIn_72 : decode cX10_liesIn 72 = .ok (.ireturn, 1) := by decide +kernel
theorem dX10_liesIn_73 : decode cX10_liesIn 73 = .ok (.iload_n 3, 1) := by decide +kernel
theorem dX10_liesIn_74 : decode cX10_liesIn 74 = .ok (.ifCond .ge 8, 3) := by decide +kernel
theorem dX10_liesIn_77 : decode cX10_liesIn 77 = .ok (.iload 4, 2) := by decide +kernel
theorem dX10_liesIn_79 : decode cX10_liesIn 79 = .ok (.goto 4, 3) := by decide +kernel
theorem dX10_liesIn_82 : decode cX10_liesIn 82 = .ok (.iload_n 3, 1) := by decide +kernel
theorem dX10_liesIn_83 : decode cX10_liesIn 83 = .ok (.istore_n 3, 1) := by decide +kernel
theorem dX10_liesIn_84 : decode cX10_liesIn 84 = .ok (.iinc 4 1, 3) := by decide +kernel
theorem dX10_liesIn_87 : decode cX10_liesIn 87 = .ok (.goto (-77), 3) := by decide +kernel
theorem dX10_liesIn_90 : decode cX10_liesIn 90 = .ok (.aload_n 0, 1) := by decide +kernel
theorem dX10_liesIn_91 : decode cX10_liesIn 91 = .ok (.iload_n 2, 1) := by decide +kernel
theorem dX10_liesIn_92 : decode cX10_liesIn 92 = .ok (.aload_n 0, 1) := by decide +kernel
theorem dX10_liesIn_93 : decode cX10_liesIn 93 = .ok (.getfield 37, 3) := by decide +kernel
theorem dX10_liesIn_96 : decode cX10_liesIn 96 = .ok (.iload_n 3, 1) := by decide +kernel
theorem dX10_liesIn_97 : decode cX10_liesIn 97 = .ok (.iaload, 1) := by decide +kernel
theorem dX10_liesIn_98 : decode cX10_liesIn 98 = .ok (.aload_n 0, 1) := by decide +kernel
theorem dX10_liesIn_99 : decode cX10_liesIn 99 = .ok (.getfield 40, 3) := by decide +kernel
theorem dX10_liesIn_102 : decode cX10_liesIn 102 = .ok (.iload_n 3, 1) := by decide +kernel
theorem dX10_liesIn_103 : decode cX10_liesIn 103 = .ok (.iaload, 1) := by decide +kernel
theorem dX10_liesIn_104 : decode cX10_liesIn 104 = .ok (.aload_n 0, 1) := by decide +kernel
theorem dX10_liesIn_105 : decode cX10_liesIn 105 = .ok (.getfield 37, 3) := by decide +kernel
theorem dX10_liesIn_108 : decode cX10_liesIn 108 = .ok (.iload_n 3, 1) := by decide +kernel
theorem dX10_liesIn_109 : decode cX10_liesIn 109 = .ok (.iconst 1, 1) := by decide +kernel
theorem dX10_liesIn_110 : decode cX10_liesIn 110 = .ok (.iadd, 1) := by decide +kernel
theorem dX10_liesIn_111 : decode cX10_liesIn 111 = .ok (.iaload, 1) := by decide +kernel
theorem dX10_liesIn_112 : decode cX10_liesIn 112 = .ok (.aload_n 0, 1) := by decide +kernel
theorem dX10_liesIn_113 : decode cX10_liesIn 113 = .ok (.getfield 37, 3) := by decide +kernel
theorem dX10_liesIn_116 : decode cX10_liesIn 116 = .ok (.iload_n 3, 1) := by decide +kernel
theorem dX10_liesIn_117 : decode cX10_liesIn 117 = .ok (.iaload, 1) := by decide +kernel
theorem dX10_liesIn_118 : decode cX10_liesIn 118 = .ok (.isub, 1) := by decide +kernel
theorem dX10_liesIn_119 : decode cX10_liesIn 119 = .ok (.aload_n 0, 1) := by decide +kernel
theorem dX10_liesIn_120 : decode cX10_liesIn 120 = .ok (.getfield 40, 3) := by decide +kernel
theorem dX10_liesIn_123 : decode cX10_liesIn 123 = .ok (.iload_n 3, 1) := by decide +kernel
theorem dX10_liesIn_124 : decode cX10_liesIn 124 = .ok (.iconst 1, 1) := by decide +kernel
theorem dX10_liesIn_125 : decode cX10_liesIn 125 = .ok (.iadd, 1) := by decide +kernel
theorem dX10_liesIn_126 : decode cX10_liesIn 126 = .ok (.iaload, 1) := by decide +kernel
theorem dX10_liesIn_127 : decode cX10_liesIn 127 = .ok (.aload_n 0, 1) := by decide +kernel
theorem dX10_liesIn_128 : decode cX10_liesIn 128 = .ok (.getfield 40, 3) := by decide +kernel
theorem dX10_liesIn_131 : decode cX10_liesIn 131 = .ok (.iload_n 3, 1) := by decide +kernel
theorem dX10_liesIn_132 : decode cX10_liesIn 132 = .ok (.iaload, 1) := by decide +kernel
theorem dX10_liesIn_133 : decode cX10_liesIn 133 = .ok (.isub, 1) := by decide +kernel
theorem dX10_liesIn_134 : decode cX10_liesIn 134 = .ok (.invokevirtual 138, 3) := by decide +kernel
theorem dX10_liesIn_137 : decode cX10_liesIn 137 = .ok (.ireturn, 1) := by decide +kernel
theorem dX10_isLeft_0 : decode cX10_isLeft 0 = .ok (.iload_n 2, 1) := by decide +kernel
theorem dX10_isLeft_1 : decode cX10_isLeft 1 = .ok (.iload_n 3, 1) := by decide +kernel
theorem dX10_isLeft_2 : decode cX10_isLeft 2 = .ok (.iload 4, 2) := by decide +kernel
theorem dX10_isLeft_4 : decode cX10_isLeft 4 = .ok (.iload 5, 2) := by decide +kernel
theorem dX10_isLeft_6 : decode cX10_isLeft 6 = .ok (.invokestatic 142, 3) := by decide +kernel
theorem dX10_isLeft_9 : decode cX10_isLeft 9 = .ok (.istore 6, 2) := by decide +kernel
theorem dX10_isLeft_11 : decode cX10_isLeft 11 = .ok (.iload_n 2, 1) := by decide +kernel
theorem dX10_isLeft_12 : decode cX10_isLeft 12 = .ok (.iload_n 3, 1) := by decide +kernel
theorem dX10_isLeft_13 : decode cX10_isLeft 13 = .ok (.iload_n 0, 1) := by decide +kernel
theorem dX10_isLeft_14 : decode cX10_isLeft 14 = .ok (.iload_n 1, 1) := by decide +kernel
theorem dX10_isLeft_15 : decode cX10_isLeft 15 = .ok (.invokestatic 142, 3) := by decide +kernel
theorem dX10_isLeft_18 : decode cX10_isLeft 18 = .ok (.istore 7, 2) := by decide +kernel
theorem dX10_isLeft_20 : decode cX10_isLeft 20 = .ok (.iload_n 0, 1) := by decide +kernel
theorem dX10_isLeft_21 : decode cX10_isLeft 21 = .ok (.iload_n 1, 1) := by decide +kernel
theorem dX10_isLeft_22 : decode cX10_isLeft 22 = .ok (.iload 4, 2) := by decide +kernel
theorem dX10_isLeft_24 : decode cX10_isLeft 24 = .ok (.iload 5, 2) := by decide +kernel
theorem dX10_isLeft_26 : decode cX10_isLeft 26 = .ok (.invokestatic 142, 3) := by decide +kernel
theorem dX10_isLeft_29 : decode cX10_isLeft 29 = .ok (.istore 8, 2) := by decide +kernel
theorem dX10_isLeft_31 : decode cX10_isLeft 31 = .ok (.iload 6, 2) := by decide +kernel
theorem dX10_isLeft_33 : decode cX10_isLeft 33 = .ok (.ifCond .le 19, 3) := by decide +kernel
theorem dX10_isLeft_36 : decode cX10_isLeft 36 = .ok (.iload 7, 2) := by decide +kernel
theorem dX10_isLeft_38 : decode cX10_isLeft 38 = .ok (.ifCond .le 12, 3) := by decide +kernel
theorem dX10_isLeft_41 : decode cX10_isLeft 41 = .ok (.iload 8, 2) := by decide +kernel
theorem dX10_isLeft_43 : decode cX10_isLeft 43 = .ok (.ifCond .le 7, 3) := by decide +kernel
theorem dX10_isLeft_46 : decode cX10_isLeft 46 = .ok (.iconst 1, 1) := by decide +kernel
theorem dX10_isLeft_47 : decode cX10_isLeft 47 = .ok (.goto 4, 3) := by decide +kernel
theorem dX10_isLeft_50 : decode cX10_isLeft 50 = .ok (.iconst 0, 1) := by decide +kernel
theorem dX10_isLeft_51 : decode cX10_isLeft 51 = .ok (.ireturn, 1) := by decide +kernel
theorem dX10_isLeft_52 : decode cX10_isLeft 52 = .ok (.iload 6, 2) := by decide +kernel
theorem dX10_isLeft_54 : decode cX10_isLeft 54 = .ok (.ifCond .ge 19, 3) := by decide +kernel
theorem dX10_isLeft_57 : decode cX10_isLeft 57 = .ok (.iload 7, 2) := by decide +kernel
theorem dX10_isLeft_59 : decode cX10_isLeft 59 = .ok (.ifCond .gt 8, 3) := by decide +kernel
theorem dX10_isLeft_62 : decode cX10_isLeft 62 = .ok (.iload 8, 2) := by decide +kernel
theorem dX10_isLeft_64 : decode cX10_isLeft 64 = .ok (.ifCond .le 7, 3) := by decide +kernel
theorem dX10_isLeft_67 : decode cX10_isLeft 67 = .ok (.iconst 1, 1) := by decide +kernel
theorem dX10_isLeft_68 : decode cX10_isLeft 68 = .ok (.goto 4, 3) := by decide +kernel
theorem dX10_isLeft_71 : decode cX10_isLeft 71 = .ok (.iconst 0, 1) := by decide +kernel
theorem dX10_isLeft_72 : decode cX10_isLeft 72 = .ok (.ireturn, 1) := by decide +kernel
theorem dX10_isLeft_73 : decode cX10_isLeft 73 = .ok (.iload_n 2, 1) := by decide +kernel
theorem dX10_isLeft_74 : decode cX10_isLeft 74 = .ok (.i2l, 1) := by decide +kernel
theorem dX10_isLeft_75 : decode cX10_isLeft 75 = .ok (.invokestatic 92, 3) := by decide +kernel
theorem dX10_isLeft_78 : decode cX10_isLeft 78 = .ok (.iload 4, 2) := by decide +kernel
theorem dX10_isLeft_80 : decode cX10_isLeft 80 = .ok (.i2l, 1) := by decide +kernel
theorem dX10_isLeft_81 : decode cX10_isLeft 81 = .ok (.invokestatic 92, 3) := by decide +kernel
theorem dX10_isLeft_84 : decode cX10_isLeft 84 = .ok (.if_icmp .ne 17, 3) := by decide +kernel
theorem dX10_isLeft_87 : decode cX10_isLeft 87 = .ok (.iload_n 3, 1) := by decide +kernel
theorem dX10_isLeft_88 : decode cX10_isLeft 88 = .ok (.i2l, 1) := by decide +kernel
theorem dX10_isLeft_89 : decode cX10_isLeft 89 = .ok (.invokestatic 92, 3) := by decide +kernel
theorem dX10_isLeft_92 : decode cX10_isLeft 92 = .ok (.iload 5, 2) := by decide +kernel
theorem dX10_isLeft_94 : decode cX10_isLeft 94 = .ok (.i2l, 1) := by decide +kernel
theorem dX10_isLeft_95 : decode cX10_isLeft 95 = .ok (.invokestatic 92, 3) := by decide +kernel
theorem dX10_isLeft_98 : decode cX10_isLeft 98 = .ok (.if_icmp .eq 7, 3) := by decide +kernel
theorem dX10_isLeft_101 : decode cX10_isLeft 101 = .ok (.iconst 1, 1) := by decide +kernel
theorem dX10_isLeft_102 : decode cX10_isLeft 102 = .ok (.goto 4, 3) := by decide +kernel
theorem dX10_isLeft_105 : decode cX10_isLeft 105 = .ok (.iconst 0, 1) := by decide +kernel
theorem dX10_isLeft_106 : decode cX10_isLeft 106 = .ok (.istore 9, 2) := by decide +kernel
theorem dX10_isLeft_108 : decode cX10_isLeft 108 = .ok (.iload 9, 2) := by decide +kernel
theorem dX10_isLeft_110 : decode cX10_isLeft 110 = .ok (.ifCond .eq 12, 3) := by decide +kernel
theorem dX10_isLeft_113 : decode cX10_isLeft 113 = .ok (.iload 7, 2) := by decide +kernel
theorem dX10_isLeft_115 : decode cX10_isLeft 115 = .ok (.ifCond .le 7, 3) := by decide +kernel
theorem dX10_isLeft_118 : decode cX10_isLeft 118 = .ok (.iconst 1, 1) := by decide +kernel
theorem dX10_isLeft_119 : decode cX10_isLeft 119 = .ok (.goto 4, 3) := by decide +kernel
theorem dX10_isLeft_122 : decode cX10_isLeft 122 = .ok (.iconst 0, 1) := by decide +kernel
theorem dX10_isLeft_123 : decode cX10_isLeft 123 = .ok (.ireturn, 1) := by decide +kernel
theorem dX10_ways_0 : decode cX10_ways 0 = .ok (.aload_n 0, 1) := by decide +kernel
theorem dX10_ways_1 : decode cX10_ways 1 = .ok (.aload_n 0, 1) := by decide +kernel
theorem dX10_ways_2 : decode cX10_ways 2 = .ok (.getfield 37, 3) := by decide +kernel
theorem dX10_ways_5 : decode cX10_ways 5 = .ok (.iload_n 2, 1) := by decide +kernel
theorem dX10_ways_6 : decode cX10_ways 6 = .ok (.iaload, 1) := by decide +kernel
theorem dX10_ways_7 : decode cX10_ways 7 = .ok (.aload_n 0, 1) := by decide +kernel
theorem dX10_ways_8 : decode cX10_ways 8 = .ok (.getfield 114, 3) := by decide +kernel
theorem dX10_ways_11 : decode cX10_ways 11 = .ok (.isub, 1) := by decide +kernel
theorem dX10_ways_12 : decode cX10_ways 12 = .ok (.putfield 145, 3) := by decide +kernel
theorem dX10_ways_15 : decode cX10_ways 15 = .ok (.aload_n 0, 1) := by decide +kernel
theorem dX10_ways_16 : decode cX10_ways 16 = .ok (.aload_n 0, 1) := by decide +kernel
theorem dX10_ways_17 : decode cX10_ways 17 = .ok (.getfield 40, 3) := by decide +kernel
theorem dX10_ways_20 : decode cX10_ways 20 = .ok (.iload_n 2, 1) := by decide +kernel
theorem dX10_ways_21 : decode cX10_ways 21 = .ok (.iaload, 1) := by decide +kernel
theorem dX10_ways_22 : decode cX10_ways 22 = .ok (.aload_n 0, 1) := by decide +kernel
theorem dX10_ways_23 : decode cX10_ways 23 = .ok (.getfield 117, 3) := by decide +kernel
theorem dX10_ways_26 : decode cX10_ways 26 = .ok (.isub, 1) := by decide +kernel
theorem dX10_ways_27 : decode cX10_ways 27 = .ok (.putfield 148, 3) := by decide +kernel
theorem dX10_ways_30 : decode cX10_ways 30 = .ok (.aload_n 0, 1) := by decide +kernel
theorem dX10_ways_31 : decode cX10_ways 31 = .ok (.getfield 37, 3) := by decide +kernel
theorem dX10_ways_34 : decode cX10_ways 34 = .ok (.iload_n 2, 1) := by decide +kernel
theorem dX10_ways_35 : decode cX10_ways 35 = .ok (.iconst 1, 1) := by decide +kernel
theorem dX10_ways_36 : decode cX10_ways 36 = .ok (.iadd, 1) := by decide +kernel
theorem dX10_ways_37 : decode cX10_ways 37 = .ok (.iaload, 1) := by decide +kernel
theorem dX10_ways_38 : decode cX10_ways 38 = .ok (.aload_n 0, 1) := by decide +kernel
theorem dX10_ways_39 : decode cX10_ways 39 = .ok (.getfield 114, 3) := by decide +kernel
theorem dX10_ways_42 : decode cX10_ways 42 = .ok (.if_icmp .ne 22, 3) := by decide +kernel
theorem dX10_ways_45 : decode cX10_ways 45 = .ok (.aload_n 0, 1) := by decide +kernel
theorem dX10_ways_46 : decode cX10_ways 46 = .ok (.getfield 40, 3) := by decide +kernel
theorem dX10_ways_49 : decode cX10_ways 49 = .ok (.iload_n 2, 1) := by decide +kernel
theorem dX10_ways_50 : decode cX10_ways 50 = .ok (.iconst 1, 1) := by decide +kernel
theorem dX10_ways_51 : decode cX10_ways 51 = .ok (.iadd, 1) := by decide +kernel
theorem dX10_ways_52 : decode cX10_ways 52 = .ok (.iaload, 1) := by decide +kernel
theorem dX10_ways_53 : decode cX10_ways 53 = .ok (.aload_n 0, 1) := by decide +kernel
theorem dX10_ways_54 : decode cX10_ways 54 = .ok (.getfield 117, 3) := by decide +kernel
theorem dX10_ways_57 : decode cX10_ways 57 = .ok (.if_icmp .ne 7, 3) := by decide +kernel
theorem dX10_ways_60 : decode cX10_ways 60 = .ok (.iconst 1, 1) := by decide +kernel
theorem dX10_ways_61 : decode cX10_ways 61 = .ok (.goto 4, 3) := by decide +kernel
theorem dX10_ways_64 : decode cX10_ways 64 = .ok (.iconst 0, 1) := by decide +kernel
theorem dX10_ways_65 : decode cX10_ways 65 = .ok (.istore_n 3, 1) := by decide +kernel
theorem dX10_ways_66 : decode cX10_ways 66 = .ok (.iload_n 3, 1) := by decide +kernel
theorem dX10_ways_67 : decode cX10_ways 67 = .ok (.ifCond .eq 12, 3) := by decide +kernel
theorem dX10_ways_70 : decode cX10_ways 70 = .ok (.aload_n 0, 1) := by decide +kernel
theorem dX10_ways_71 : decode cX10_ways 71 = .ok (.iload_n 1, 1) := by decide +kernel
theorem dX10_ways_72 : decode cX10_ways 72 = .ok (.iload_n 2, 1) := by decide +kernel
theorem dX10_ways_73 : decode cX10_ways 73 = .ok (.invokevirtual 151, 3) := by decide +kernel
theorem dX10_ways_76 : decode cX10_ways 76 = .ok (.goto 4, 3) := by decide +kernel
theorem dX10_ways_79 : decode cX10_ways 79 = .ok (.iload_n 2, 1) := by decide +kernel
theorem dX10_ways_80 : decode cX10_ways 80 = .ok (.istore 4, 2) := by decide +kernel
theorem dX10_ways_82 : decode cX10_ways 82 = .ok (.aload_n 0, 1) := by decide +kernel
theorem dX10_ways_83 : decode cX10_ways 83 = .ok (.aload_n 0, 1) := by decide +kernel
theorem dX10_ways_84 : decode cX10_ways 84 = .ok (.getfield 37, 3) := by decide +kernel
theorem dX10_ways_87 : decode cX10_ways 87 = .ok (.iload 4, 2) := by decide +kernel
theorem dX10_ways_89 : decode cX10_ways 89 = .ok (.iconst 1, 1) := by decide +kernel
theorem dX10_ways_90 : decode cX10_ways 90 = .ok (.iadd, 1) := by decide +kernel
theorem dX10_ways_91 : decode cX10_ways 91 = .ok (.iaload, 1) := by decide +kernel
theorem dX10_ways_92 : decode cX10_ways 92 = .ok (.aload_n 0, 1) := by decide +kernel
theorem dX10_ways_93 : decode cX10_ways 93 = .ok (.getfield 114, 3) := by decide +kernel
theorem dX10_ways_96 : decode cX10_ways 96 = .ok (.isub, 1) := by decide +kernel
theorem dX10_ways_97 : decode cX10_ways 97 = .ok (.putfield 154, 3) := by decide +kernel
theorem dX10_ways_100 : decode cX10_ways 100 = .ok (.aload_n 0, 1) := by decide +kernel
theorem dX10_ways_101 : decode cX10_ways 101 = .ok (.aload_n 0, 1) := by decide +kernel
theorem dX10_ways_102 : decode cX10_ways 102 = .ok (.getfield 40, 3) := by decide +kernel
theorem dX10_ways_105 : decode cX10_ways 105 = .ok (.iload 4, 2) := by decide +kernel
theorem dX10_ways_107 : decode cX10_ways 107 = .ok (.iconst 1, 1) := by decide +kernel
theorem dX10_ways_108 : decode cX10_ways 108 = .ok (.iadd, 1) := by decide +kernel
theorem dX10_ways_109 : decode cX10_ways 109 = .ok (.iaload, 1) := by decide +kernel
theorem dX10_ways_110 : decode cX10_ways 110 = .ok (.aload_n 0, 1) := by decide +kernel
theorem dX10_ways_111 : decode cX10_ways 111 = .ok (.getfield 117, 3) := by decide +kernel
theorem dX10_ways_114 : decode cX10_ways 114 = .ok (.isub, 1) := by decide +kernel
theorem dX10_ways_115 : decode cX10_ways 115 = .ok (.putfield 157, 3) := by decide +kernel
theorem dX10_ways_118 : decode cX10_ways 118 = .ok (.return_, 1) := by decide +kernel
theorem dX10_crosses_0 : decode cX10_crosses 0 = .ok (.aload_n 0, 1) := by decide +kernel
theorem dX10_crosses_1 : decode cX10_crosses 1 = .ok (.iload_n 3, 1) := by decide +kernel
theorem dX10_crosses_2 : decode cX10_crosses 2 = .ok (.iload 4, 2) := by decide +kernel
theorem dX10_crosses_4 : decode cX10_crosses 4 = .ok (.invokevirtual 160, 3) := by decide +kernel
theorem dX10_crosses_7 : decode cX10_crosses 7 = .ok (.aload_n 0, 1) := by decide +kernel
theorem dX10_crosses_8 : decode cX10_crosses 8 = .ok (.getfield 145, 3) := by decide +kernel
theorem dX10_crosses_11 : decode cX10_crosses 11 = .ok (.istore 5, 2) := by decide +kernel
theorem dX10_crosses_13 : decode cX10_crosses 13 = .ok (.aload_n 0, 1) := by decide +kernel
theorem dX10_crosses_14 : decode cX10_crosses 14 = .ok (.getfield 148, 3) := by decide +kernel
theorem dX10_crosses_17 : decode cX10_crosses 17 = .ok (.istore 6, 2) := by decide +kernel
theorem dX10_crosses_19 : decode cX10_crosses 19 = .ok (.aload_n 0, 1) := by decide +kernel
theorem dX10_crosses_20 : decode cX10_crosses 20 = .ok (.getfield 154, 3) := by decide +kernel
theorem dX10_crosses_23 : decode cX10_crosses 23 = .ok (.istore 7, 2) := by decide +kernel
theorem dX10_crosses_25 : decode cX10_crosses 25 = .ok (.aload_n 0, 1) := by decide +kernel
theorem dX10_crosses_26 : decode cX10_crosses 26 = .ok (.getfield 157, 3) := by decide +kernel
theorem dX10_crosses_29 : decode cX10_crosses 29 = .ok (.istore 8, 2) := by decide +kernel
theorem dX10_crosses_31 : decode cX10_crosses 31 = .ok (.aload_n 0, 1) := by decide +kernel
theorem dX10_crosses_32 : decode cX10_crosses 32 = .ok (.iload_n 1, 1) := by decide +kernel
theorem dX10_crosses_33 : decode cX10_crosses 33 = .ok (.iload_n 2, 1) := by decide +kernel
theorem dX10_crosses_34 : decode cX10_crosses 34 = .ok (.invokevirtual 160, 3) := by decide +kernel
theorem dX10_crosses_37 : decode cX10_crosses 37 = .ok (.iload 5, 2) := by decide +kernel
theorem dX10_crosses_39 : decode cX10_crosses 39 = .ok (.iload 6, 2) := by decide +kernel
theorem dX10_crosses_41 : decode cX10_crosses 41 = .ok (.aload_n 0, 1) := by decide +kernel
theorem dX10_crosses_42 : decode cX10_crosses 42 = .ok (.getfield 154, 3) := by decide +kernel
theorem dX10_crosses_45 : decode cX10_crosses 45 = .ok (.aload_n 0, 1) := by decide +kernel
theorem dX10_crosses_46 : decode cX10_crosses 46 = .ok (.getfield 157, 3) := by decide +kernel
theorem dX10_crosses_49 : decode cX10_crosses 49 = .ok (.aload_n 0, 1) := by decide +kernel
theorem dX10_crosses_50 : decode cX10_crosses 50 = .ok (.getfield 145, 3) := by decide +kernel
theorem dX10_crosses_53 : decode cX10_crosses 53 = .ok (.aload_n 0, 1) := by decide +kernel
theorem dX10_crosses_54 : decode cX10_crosses 54 = .ok (.getfield 148, 3) := by decide +kernel
theorem dX10_crosses_57 : decode cX10_crosses 57 = .ok (.invokestatic 164, 3) := by decide +kernel
theorem dX10_crosses_60 : decode cX10_crosses 60 = .ok (.iload 7, 2) := by decide +kernel
theorem dX10_crosses_62 : decode cX10_crosses 62 = .ok (.iload 8, 2) := by decide +kernel
theorem dX10_crosses_64 : decode cX10_crosses 64 = .ok (.aload_n 0, 1) := by decide +kernel
theorem dX10_crosses_65 : decode cX10_crosses 65 = .ok (.getfield 154, 3) := by decide +kernel
theorem dX10_crosses_68 : decode cX10_crosses 68 = .ok (.aload_n 0, 1) := by decide +kernel
theorem dX10_crosses_69 : decode cX10_crosses 69 = .ok (.getfield 157, 3) := by decide +kernel
theorem dX10_crosses_72 : decode cX10_crosses 72 = .ok (.aload_n 0, 1) := by decide +kernel
theorem dX10_crosses_73 : decode cX10_crosses 73 = .ok (.getfield 145, 3) := by decide +kernel
theorem dX10_crosses_76 : decode cX10_crosses 76 = .ok (.aload_n 0, 1) := by decide +kernel
theorem dX10_crosses_77 : decode cX10_crosses 77 = .ok (.getfield 148, 3) := by decide +kernel
theorem dX10_crosses_80 : decode cX10_crosses 80 = .ok (.invokestatic 164, 3) := by decide +kernel
theorem dX10_crosses_83 : decode cX10_crosses 83 = .ok (.if_icmp .eq 7, 3) := by decide +kernel
theorem dX10_crosses_86 : decode cX10_crosses 86 = .ok (.iconst 1, 1) := by decide +kernel
theorem dX10_crosses_87 : decode cX10_crosses 87 = .ok (.goto 4, 3) := by decide +kernel
theorem dX10_crosses_90 : decode cX10_crosses 90 = .ok (.iconst 0, 1) := by decide +kernel
theorem dX10_crosses_91 : decode cX10_crosses 91 = .ok (.ireturn, 1) := by decide +kernel
theorem dX10_begins_0 : decode cX10_begins 0 = .ok (.aload_n 0, 1) := by decide +kernel
theorem dX10_begins_1 : decode cX10_begins 1 = .ok (.getfield 37, 3) := by decide +kernel
theorem dX10_begins_4 : decode cX10_begins 4 = .ok (.iload_n 1, 1) := by decide +kernel
theorem dX10_begins_5 : decode cX10_begins 5 = .ok (.iaload, 1) := by decide +kernel
theorem dX10_begins_6 : decode cX10_begins 6 = .ok (.aload_n 0, 1) := by decide +kernel
theorem dX10_begins_7 : decode cX10_begins 7 = .ok (.getfield 114, 3) := by decide +kernel
theorem dX10_begins_10 : decode cX10_begins 10 = .ok (.if_icmp .ne 20, 3) := by decide +kernel
theorem dX10_begins_13 : decode cX10_begins 13 = .ok (.aload_n 0, 1) := by decide +kernel
theorem dX10_begins_14 : decode cX10_begins 14 = .ok (.getfield 40, 3) := by decide +kernel
theorem dX10_begins_17 : decode cX10_begins 17 = .ok (.iload_n 1, 1) := by decide +kernel
theorem dX10_begins_18 : decode cX10_begins 18 = .ok (.iaload, 1) := by decide +kernel
theorem dX10_begins_19 : decode cX10_begins 19 = .ok (.aload_n 0, 1) := by decide +kernel
theorem dX10_begins_20 : decode cX10_begins 20 = .ok (.getfield 117, 3) := by decide +kernel
theorem dX10_begins_23 : decode cX10_begins 23 = .ok (.if_icmp .ne 7, 3) := by decide +kernel
theorem dX10_begins_26 : decode cX10_begins 26 = .ok (.iconst 1, 1) := by decide +kernel
theorem dX10_begins_27 : decode cX10_begins 27 = .ok (.goto 4, 3) := by decide +kernel
theorem dX10_begins_30 : decode cX10_begins 30 = .ok (.iconst 0, 1) := by decide +kernel
theorem dX10_begins_31 : decode cX10_begins 31 = .ok (.ireturn, 1) := by decide +kernel
theorem dX10_told_0 : decode cX10_told 0 = .ok (.aload_n 0, 1) := by decide +kernel
theorem dX10_told_1 : decode cX10_told 1 = .ok (.getfield 46, 3) := by decide +kernel
theorem dX10_told_4 : decode cX10_told 4 = .ok (.iconst 0, 1) := by decide +kernel
theorem dX10_told_5 : decode cX10_told 5 = .ok (.iload_n 2, 1) := by decide +kernel
theorem dX10_told_6 : decode cX10_told 6 = .ok (.iastore, 1) := by decide +kernel
theorem dX10_told_7 : decode cX10_told 7 = .ok (.aload_n 0, 1) := by decide +kernel
theorem dX10_told_8 : decode cX10_told 8 = .ok (.getfield 46, 3) := by decide +kernel
theorem dX10_told_11 : decode cX10_told 11 = .ok (.iconst 1, 1) := by decide +kernel
theorem dX10_told_12 : decode cX10_told 12 = .ok (.iload_n 3, 1) := by decide +kernel
theorem dX10_told_13 : decode cX10_told 13 = .ok (.iastore, 1) := by decide +kernel
theorem dX10_told_14 : decode cX10_told 14 = .ok (.aload_n 0, 1) := by decide +kernel
theorem dX10_told_15 : decode cX10_told 15 = .ok (.getfield 46, 3) := by decide +kernel
theorem dX10_told_18 : decode cX10_told 18 = .ok (.iconst 2, 1) := by decide +kernel
theorem dX10_told_19 : decode cX10_told 19 = .ok (.iload 4, 2) := by decide +kernel
theorem dX10_told_21 : decode cX10_told 21 = .ok (.iastore, 1) := by decide +kernel
theorem dX10_told_22 : decode cX10_told 22 = .ok (.aload_n 0, 1) := by decide +kernel
theorem dX10_told_23 : decode cX10_told 23 = .ok (.getfield 46, 3) := by decide +kernel
theorem dX10_told_26 : decode cX10_told 26 = .ok (.iconst 3, 1) := by decide +kernel
theorem dX10_told_27 : decode cX10_told 27 = .ok (.iload 5, 2) := by decide +kernel
theorem dX10_told_29 : decode cX10_told 29 = .ok (.iastore, 1) := by decide +kernel
theorem dX10_told_30 : decode cX10_told 30 = .ok (.iload_n 1, 1) := by decide +kernel
theorem dX10_told_31 : decode cX10_told 31 = .ok (.ireturn, 1) := by decide +kernel
theorem dX10_other_0 : decode cX10_other 0 = .ok (.aload_n 0, 1) := by decide +kernel
theorem dX10_other_1 : decode cX10_other 1 = .ok (.getfield 46, 3) := by decide +kernel
theorem dX10_other_4 : decode cX10_other 4 = .ok (.iconst 4, 1) := by decide +kernel
theorem dX10_other_5 : decode cX10_other 5 = .ok (.iload_n 1, 1) := by decide +kernel
theorem dX10_other_6 : decode cX10_other 6 = .ok (.iastore, 1) := by decide +kernel
theorem dX10_other_7 : decode cX10_other 7 = .ok (.aload_n 0, 1) := by decide +kernel
theorem dX10_other_8 : decode cX10_other 8 = .ok (.getfield 46, 3) := by decide +kernel
theorem dX10_other_11 : decode cX10_other 11 = .ok (.iconst 5, 1) := by decide +kernel
theorem dX10_other_12 : decode cX10_other 12 = .ok (.iload_n 2, 1) := by decide +kernel
theorem dX10_other_13 : decode cX10_other 13 = .ok (.iastore, 1) := by decide +kernel
theorem dX10_other_14 : decode cX10_other 14 = .ok (.aload_n 0, 1) := by decide +kernel
theorem dX10_other_15 : decode cX10_other 15 = .ok (.getfield 46, 3) := by decide +kernel
theorem dX10_other_18 : decode cX10_other 18 = .ok (.bipush 6, 2) := by decide +kernel
theorem dX10_other_20 : decode cX10_other 20 = .ok (.iload_n 3, 1) := by decide +kernel
theorem dX10_other_21 : decode cX10_other 21 = .ok (.iastore, 1) := by decide +kernel
theorem dX10_other_22 : decode cX10_other 22 = .ok (.return_, 1) := by decide +kernel
theorem dX10_pair_0 : decode cX10_pair 0 = .ok (.aload_n 0, 1) := by decide +kernel
theorem dX10_pair_1 : decode cX10_pair 1 = .ok (.iload_n 2, 1) := by decide +kernel
theorem dX10_pair_2 : decode cX10_pair 2 = .ok (.iload 4, 2) := by decide +kernel
theorem dX10_pair_4 : decode cX10_pair 4 = .ok (.invokevirtual 168, 3) := by decide +kernel
theorem dX10_pair_7 : decode cX10_pair 7 = .ok (.istore 5, 2) := by decide +kernel
theorem dX10_pair_9 : decode cX10_pair 9 = .ok (.iload 5, 2) := by decide +kernel
theorem dX10_pair_11 : decode cX10_pair 11 = .ok (.iconst 1, 1) := by decide +kernel
theorem dX10_pair_12 : decode cX10_pair 12 = .ok (.if_icmp .le 15, 3) := by decide +kernel
theorem dX10_pair_15 : decode cX10_pair 15 = .ok (.iload 5, 2) := by decide +kernel
theorem dX10_pair_17 : decode cX10_pair 17 = .ok (.iconst 3, 1) := by decide +kernel
theorem dX10_pair_18 : decode cX10_pair 18 = .ok (.if_icmp .ne 7, 3) := by decide +kernel
theorem dX10_pair_21 : decode cX10_pair 21 = .ok (.iconst 3, 1) := by decide +kernel
theorem dX10_pair_22 : decode cX10_pair 22 = .ok (.goto 4, 3) := by decide +kernel
theorem dX10_pair_25 : decode cX10_pair 25 = .ok (.iconst 4, 1) := by decide +kernel
theorem dX10_pair_26 : decode cX10_pair 26 = .ok (.ireturn, 1) := by decide +kernel
theorem dX10_pair_27 : decode cX10_pair 27 = .ok (.iload 5, 2) := by decide +kernel
theorem dX10_pair_29 : decode cX10_pair 29 = .ok (.ifCond .ne 5, 3) := by decide +kernel
theorem dX10_pair_32 : decode cX10_pair 32 = .ok (.iconst 0, 1) := by decide +kernel
theorem dX10_pair_33 : decode cX10_pair 33 = .ok (.ireturn, 1) := by decide +kernel
theorem dX10_pair_34 : decode cX10_pair 34 = .ok (.iload_n 1, 1) := by decide +kernel
theorem dX10_pair_35 : decode cX10_pair 35 = .ok (.iload_n 3, 1) := by decide +kernel
theorem dX10_pair_36 : decode cX10_pair 36 = .ok (.if_icmp .eq 38, 3) := by decide +kernel
theorem dX10_pair_39 : decode cX10_pair 39 = .ok (.aload_n 0, 1) := by decide +kernel
theorem dX10_pair_40 : decode cX10_pair 40 = .ok (.iload_n 2, 1) := by decide +kernel
theorem dX10_pair_41 : decode cX10_pair 41 = .ok (.invokevirtual 171, 3) := by decide +kernel
theorem dX10_pair_44 : decode cX10_pair 44 = .ok (.ifCond .ne 28, 3) := by decide +kernel
theorem dX10_pair_47 : decode cX10_pair 47 = .ok (.aload_n 0, 1) := by decide +kernel
theorem dX10_pair_48 : decode cX10_pair 48 = .ok (.iload 4, 2) := by decide +kernel
theorem dX10_pair_50 : decode cX10_pair 50 = .ok (.invokevirtual 171, 3) := by decide +kernel
theorem dX10_pair_53 : decode cX10_pair 53 = .ok (.ifCond .ne 19, 3) := by decide +kernel
theorem dX10_pair_56 : decode cX10_pair 56 = .ok (.aload_n 0, 1) := by decide +kernel
theorem dX10_pair_57 : decode cX10_pair 57 = .ok (.iload_n 1, 1) := by decide +kernel
theorem dX10_pair_58 : decode cX10_pair 58 = .ok (.iload_n 2, 1) := by decide +kernel
theorem dX10_pair_59 : decode cX10_pair 59 = .ok (.iload_n 3, 1) := by decide +kernel
theorem dX10_pair_60 : decode cX10_pair 60 = .ok (.iload 4, 2) := by decide +kernel
theorem dX10_pair_62 : decode cX10_pair 62 = .ok (.invokevirtual 174, 3) := by decide +kernel
theorem dX10_pair_65 : decode cX10_pair 65 = .ok (.ifCond .eq 7, 3) := by decide +kernel
theorem dX10_pair_68 : decode cX10_pair 68 = .ok (.iconst 4, 1) := by decide +kernel
theorem dX10_pair_69 : decode cX10_pair 69 = .ok (.goto 4, 3) := by decide +kernel
theorem dX10_pair_72 : decode cX10_pair 72 = .ok (.iconst 0, 1) := by decide +kernel
theorem dX10_pair_73 : decode cX10_pair 73 = .ok (.ireturn, 1) := by decide +kernel
theorem dX10_pair_74 : decode cX10_pair 74 = .ok (.aload_n 0, 1) := by decide +kernel
theorem dX10_pair_75 : decode cX10_pair 75 = .ok (.iload_n 1, 1) := by decide +kernel
theorem dX10_pair_76 : decode cX10_pair 76 = .ok (.iload_n 2, 1) := by decide +kernel
theorem dX10_pair_77 : decode cX10_pair 77 = .ok (.invokevirtual 151, 3) := by decide +kernel
theorem dX10_pair_80 : decode cX10_pair 80 = .ok (.iload 4, 2) := by decide +kernel
theorem dX10_pair_82 : decode cX10_pair 82 = .ok (.if_icmp .ne 12, 3) := by decide +kernel
theorem dX10_pair_85 : decode cX10_pair 85 = .ok (.aload_n 0, 1) := by decide +kernel
theorem dX10_pair_86 : decode cX10_pair 86 = .ok (.iload 4, 2) := by decide +kernel
theorem dX10_pair_88 : decode cX10_pair 88 = .ok (.invokevirtual 171, 3) := by decide +kernel
theorem dX10_pair_91 : decode cX10_pair 91 = .ok (.ifCond .ne 22, 3) := by decide +kernel
theorem dX10_pair_94 : decode cX10_pair 94 = .ok (.aload_n 0, 1) := by decide +kernel
theorem dX10_pair_95 : decode cX10_pair 95 = .ok (.iload_n 1, 1) := by decide +kernel
theorem dX10_pair_96 : decode cX10_pair 96 = .ok (.iload 4, 2) := by decide +kernel
theorem dX10_pair_98 : decode cX10_pair 98 = .ok (.invokevirtual 151, 3) := by decide +kernel
theorem dX10_pair_101 : decode cX10_pair 101 = .ok (.iload_n 2, 1) := by decide +kernel
theorem dX10_pair_102 : decode cX10_pair 102 = .ok (.if_icmp .ne 15, 3) := by decide +kernel
theorem dX10_pair_105 : decode cX10_pair 105 = .ok (.aload_n 0, 1) := by decide +kernel
theorem dX10_pair_106 : decode cX10_pair 106 = .ok (.iload_n 2, 1) := by decide +kernel
theorem dX10_pair_107 : decode cX10_pair 107 = .ok (.invokevirtual 171, 3) := by decide +kernel
theorem dX10_pair_110 : decode cX10_pair 110 = .ok (.ifCond .eq 7, 3) := by decide +kernel
theorem dX10_pair_113 : decode cX10_pair 113 = .ok (.iconst 1, 1) := by decide +kernel
theorem dX10_pair_114 : decode cX10_pair 114 = .ok (.goto 4, 3) := by decide +kernel
theorem dX10_pair_117 : decode cX10_pair 117 = .ok (.iconst 0, 1) := by decide +kernel
theorem dX10_pair_118 : decode cX10_pair 118 = .ok (.istore 6, 2) := by decide +kernel
theorem dX10_pair_120 : decode cX10_pair 120 = .ok (.iload 6, 2) := by decide +kernel
theorem dX10_pair_122 : decode cX10_pair 122 = .ok (.ifCond .eq 7, 3) := by decide +kernel
theorem dX10_pair_125 : decode cX10_pair 125 = .ok (.iconst 0, 1) := by decide +kernel
theorem dX10_pair_126 : decode cX10_pair 126 = .ok (.goto 4, 3) := by decide +kernel
theorem dX10_pair_129 : decode cX10_pair 129 = .ok (.iconst 5, 1) := by decide +kernel
theorem dX10_pair_130 : decode cX10_pair 130 = .ok (.ireturn, 1) := by decide +kernel
theorem dX10_isFew_0 : decode cX10_isFew 0 = .ok (.iconst 0, 1) := by decide +kernel
theorem dX10_isFew_1 : decode cX10_isFew 1 = .ok (.istore 4, 2) := by decide +kernel
theorem dX10_isFew_3 : decode cX10_isFew 3 = .ok (.iconst 0, 1) := by decide +kernel
theorem dX10_isFew_4 : decode cX10_isFew 4 = .ok (.istore 5, 2) := by decide +kernel
theorem dX10_isFew_6 : decode cX10_isFew 6 = .ok (.iload 5, 2) := by decide +kernel
theorem dX10_isFew_8 : decode cX10_isFew 8 = .ok (.iload_n 2, 1) := by decide +kernel
theorem dX10_isFew_9 : decode cX10_isFew 9 = .ok (.if_icmp .ge 78, 3) := by decide +kernel
theorem dX10_isFew_12 : decode cX10_isFew 12 = .ok (.iconst 1, 1) := by decide +kernel
theorem dX10_isFew_13 : decode cX10_isFew 13 = .ok (.istore 6, 2) := by decide +kernel
theorem dX10_isFew_15 : decode cX10_isFew 15 = .ok (.iconst 0, 1) := by decide +kernel
theorem dX10_isFew_16 : decode cX10_isFew 16 = .ok (.istore 7, 2) := by decide +kernel
theorem dX10_isFew_18 : decode cX10_isFew 18 = .ok (.iload 7, 2) := by decide +kernel
theorem dX10_isFew_20 : decode cX10_isFew 20 = .ok (.iload 5, 2) := by decide +kernel
theorem dX10_isFew_22 : decode cX10_isFew 22 = .ok (.if_icmp .ge 36, 3) := by decide +kernel
theorem dX10_isFew_25 : decode cX10_isFew 25 = .ok (.iload 6, 2) := by decide +kernel
theorem dX10_isFew_27 : decode cX10_isFew 27 = .ok (.ifCond .eq 22, 3) := by decide +kernel
theorem dX10_isFew_30 : decode cX10_isFew 30 = .ok (.aload_n 0, 1) := by decide +kernel
theorem dX10_isFew_31 : decode cX10_isFew 31 = .ok (.iload_n 1, 1) := by decide +kernel
theorem dX10_isFew_32 : decode cX10_isFew 32 = .ok (.iload 7, 2) := by decide +kernel
theorem dX10_isFew_34 : decode cX10_isFew 34 = .ok (.iadd, 1) := by decide +kernel
theorem dX10_isFew_35 : decode cX10_isFew 35 = .ok (.iload_n 1, 1) := by decide +kernel
theorem dX10_isFew_36 : decode cX10_isFew 36 = .ok (.iload 5, 2) := by decide +kernel
theorem dX10_isFew_38 : decode cX10_isFew 38 = .ok (.iadd, 1) := by decide +kernel
theorem dX10_isFew_39 : decode cX10_isFew 39 = .ok (.invokevirtual 103, 3) := by decide +kernel
theorem dX10_isFew_42 : decode cX10_isFew 42 = .ok (.ifCond .ne 7, 3) := by decide +kernel
theorem dX10_isFew_45 : decode cX10_isFew 45 = .ok (.iconst 1, 1) := by decide +kernel
theorem dX10_isFew_46 : decode cX10_isFew 46 = .ok (.goto 4, 3) := by decide +kernel
theorem dX10_isFew_49 : decode cX10_isFew 49 = .ok (.iconst 0, 1) := by decide +kernel
theorem dX10_isFew_50 : decode cX10_isFew 50 = .ok (.istore 6, 2) := by decide +kernel
theorem dX10_isFew_52 : decode cX10_isFew 52 = .ok (.iinc 7 1, 3) := by decide +kernel
theorem dX10_isFew_55 : decode cX10_isFew 55 = .ok (.goto (-37), 3) := by decide +kernel
theorem dX10_isFew_58 : decode cX10_isFew 58 = .ok (.iload 4, 2) := by decide +kernel
theorem dX10_isFew_60 : decode cX10_isFew 60 = .ok (.iload 6, 2) := by decide +kernel
theorem dX10_isFew_62 : decode cX10_isFew 62 = .ok (.ifCond .eq 7, 3) := by decide +kernel
theorem dX10_isFew_65 : decode cX10_isFew 65 = .ok (.iconst 1, 1) := by decide +kernel
theorem dX10_isFew_66 : decode cX10_isFew 66 = .ok (.goto 4, 3) := by decide +kernel
theorem dX10_isFew_69 : decode cX10_isFew 69 = .ok (.iconst 0, 1) := by decide +kernel
theorem dX10_isFew_70 : decode cX10_isFew 70 = .ok (.iadd, 1) := by decide +kernel
theorem dX10_isFew_71 : decode cX10_isFew 71 = .ok (.istore 4, 2) := by decide +kernel
theorem dX10_isFew_73 : decode cX10_isFew 73 = .ok (.iload 4, 2) := by decide +kernel
theorem dX10_isFew_75 : decode cX10_isFew 75 = .ok (.iload_n 3, 1) := by decide +kernel
theorem dX10_isFew_76 : decode cX10_isFew 76 = .ok (.if_icmp .lt 5, 3) := by decide +kernel
theorem dX10_isFew_79 : decode cX10_isFew 79 = .ok (.iconst 0, 1) := by decide +kernel
theorem dX10_isFew_80 : decode cX10_isFew 80 = .ok (.ireturn, 1) := by decide +kernel
theorem dX10_isFew_81 : decode cX10_isFew 81 = .ok (.iinc 5 1, 3) := by decide +kernel
theorem dX10_isFew_84 : decode cX10_isFew 84 = .ok (.goto (-78), 3) := by decide +kernel
theorem dX10_isFew_87 : decode cX10_isFew 87 = .ok (.iconst 1, 1) := by decide +kernel
theorem dX10_isFew_88 : decode cX10_isFew 88 = .ok (.ireturn, 1) := by decide +kernel
theorem dX10_ringsOf_0 : decode cX10_ringsOf 0 = .ok (.iconst 0, 1) := by decide +kernel
theorem dX10_ringsOf_1 : decode cX10_ringsOf 1 = .ok (.istore 4, 2) := by decide +kernel
theorem dX10_ringsOf_3 : decode cX10_ringsOf 3 = .ok (.iload 4, 2) := by decide +kernel
theorem dX10_ringsOf_5 : decode cX10_ringsOf 5 = .ok (.aload_n 0, 1) := by decide +kernel
theorem dX10_ringsOf_6 : decode cX10_ringsOf 6 = .ok (.getfield 28, 3) := by decide +kernel
theorem dX10_ringsOf_9 : decode cX10_ringsOf 9 = .ok (.iload_n 1, 1) := by decide +kernel
theorem dX10_ringsOf_10 : decode cX10_ringsOf 10 = .ok (.iaload, 1) := by decide +kernel
theorem dX10_ringsOf_11 : decode cX10_ringsOf 11 = .ok (.if_icmp .ge 94, 3) := by decide +kernel
theorem dX10_ringsOf_14 : decode cX10_ringsOf 14 = .ok (.aload_n 0, 1) := by decide +kernel
theorem dX10_ringsOf_15 : decode cX10_ringsOf 15 = .ok (.getfield 25, 3) := by decide +kernel
theorem dX10_ringsOf_18 : decode cX10_ringsOf 18 = .ok (.iload_n 1, 1) := by decide +kernel
theorem dX10_ringsOf_19 : decode cX10_ringsOf 19 = .ok (.iaload, 1) := by decide +kernel
theorem dX10_ringsOf_20 : decode cX10_ringsOf 20 = .ok (.iload 4, 2) := by decide +kernel
theorem dX10_ringsOf_22 : decode cX10_ringsOf 22 = .ok (.iadd, 1) := by decide +kernel
theorem dX10_ringsOf_23 : decode cX10_ringsOf 23 = .ok (.istore 5, 2) := by decide +kernel
theorem dX10_ringsOf_25 : decode cX10_ringsOf 25 = .ok (.aload_n 0, 1) := by decide +kernel
theorem dX10_ringsOf_26 : decode cX10_ringsOf 26 = .ok (.getfield 34, 3) := by decide +kernel
theorem dX10_ringsOf_29 : decode cX10_ringsOf 29 = .ok (.iload 5, 2) := by decide +kernel
theorem dX10_ringsOf_31 : decode cX10_ringsOf 31 = .ok (.iaload, 1) := by decide +kernel
theorem dX10_ringsOf_32 : decode cX10_ringsOf 32 = .ok (.ifCond .eq 23, 3) := by decide +kernel
theorem dX10_ringsOf_35 : decode cX10_ringsOf 35 = .ok (.aload_n 0, 1) := by decide +kernel
theorem dX10_ringsOf_36 : decode cX10_ringsOf 36 = .ok (.aload_n 0, 1) := by decide +kernel
theorem dX10_ringsOf_37 : decode cX10_ringsOf 37 = .ok (.getfield 31, 3) := by decide +kernel
theorem dX10_ringsOf_40 : decode cX10_ringsOf 40 = .ok (.iload 5, 2) := by decide +kernel
theorem dX10_ringsOf_42 : decode cX10_ringsOf 42 = .ok (.iaload, 1) := by decide +kernel
theorem dX10_ringsOf_43 : decode cX10_ringsOf 43 = .ok (.aload_n 0, 1) := by decide +kernel
theorem dX10_ringsOf_44 : decode cX10_ringsOf 44 = .ok (.iload 5, 2) := by decide +kernel
theorem dX10_ringsOf_46 : decode cX10_ringsOf 46 = .ok (.invokevirtual 129, 3) := by decide +kernel
theorem dX10_ringsOf_49 : decode cX10_ringsOf 49 = .ok (.invokevirtual 103, 3) := by decide +kernel
theorem dX10_ringsOf_52 : decode cX10_ringsOf 52 = .ok (.ifCond .ne 14, 3) := by decide +kernel
theorem dX10_ringsOf_55 : decode cX10_ringsOf 55 = .ok (.aload_n 0, 1) := by decide +kernel
theorem dX10_ringsOf_56 : decode cX10_ringsOf 56 = .ok (.iconst 1, 1) := by decide +kernel
theorem dX10_ringsOf_57 : decode cX10_ringsOf 57 = .ok (.iload_n 2, 1) := by decide +kernel
theorem dX10_ringsOf_58 : decode cX10_ringsOf 58 = .ok (.iload_n 3, 1) := by decide +kernel
theorem dX10_ringsOf_59 : decode cX10_ringsOf 59 = .ok (.iload 4, 2) := by decide +kernel
theorem dX10_ringsOf_61 : decode cX10_ringsOf 61 = .ok (.iconst (-1), 1) := by decide +kernel
theorem dX10_ringsOf_62 : decode cX10_ringsOf 62 = .ok (.invokevirtual 178, 3) := by decide +kernel
theorem dX10_ringsOf_65 : decode cX10_ringsOf 65 = .ok (.ireturn, 1) := by decide +kernel
theorem dX10_ringsOf_66 : decode cX10_ringsOf 66 = .ok (.aload_n 0, 1) := by decide +kernel
theorem dX10_ringsOf_67 : decode cX10_ringsOf 67 = .ok (.aload_n 0, 1) := by decide +kernel
theorem dX10_ringsOf_68 : decode cX10_ringsOf 68 = .ok (.getfield 31, 3) := by decide +kernel
theorem dX10_ringsOf_71 : decode cX10_ringsOf 71 = .ok (.iload 5, 2) := by decide +kernel
theorem dX10_ringsOf_73 : decode cX10_ringsOf 73 = .ok (.iaload, 1) := by decide +kernel
theorem dX10_ringsOf_74 : decode cX10_ringsOf 74 = .ok (.aload_n 0, 1) := by decide +kernel
theorem dX10_ringsOf_75 : decode cX10_ringsOf 75 = .ok (.getfield 34, 3) := by decide +kernel
theorem dX10_ringsOf_78 : decode cX10_ringsOf 78 = .ok (.iload 5, 2) := by decide +kernel
theorem dX10_ringsOf_80 : decode cX10_ringsOf 80 = .ok (.iaload, 1) := by decide +kernel
theorem dX10_ringsOf_81 : decode cX10_ringsOf 81 = .ok (.iconst 3, 1) := by decide +kernel
theorem dX10_ringsOf_82 : decode cX10_ringsOf 82 = .ok (.invokevirtual 182, 3) := by decide +kernel
theorem dX10_ringsOf_85 : decode cX10_ringsOf 85 = .ok (.ifCond .eq 14, 3) := by decide +kernel
theorem dX10_ringsOf_88 : decode cX10_ringsOf 88 = .ok (.aload_n 0, 1) := by decide +kernel
theorem dX10_ringsOf_89 : decode cX10_ringsOf 89 = .ok (.iconst 2, 1) := by decide +kernel
theorem dX10_ringsOf_90 : decode cX10_ringsOf 90 = .ok (.iload_n 2, 1) := by decide +kernel
theorem dX10_ringsOf_91 : decode cX10_ringsOf 91 = .ok (.iload_n 3, 1) := by decide +kernel
theorem dX10_ringsOf_92 : decode cX10_ringsOf 92 = .ok (.iload 4, 2) := by decide +kernel
theorem dX10_ringsOf_94 : decode cX10_ringsOf 94 = .ok (.iconst (-1), 1) := by decide +kernel
theorem dX10_ringsOf_95 : decode cX10_ringsOf 95 = .ok (.invokevirtual 178, 3) := by decide +kernel
theorem dX10_ringsOf_98 : decode cX10_ringsOf 98 = .ok (.ireturn, 1) := by decide +kernel
theorem dX10_ringsOf_99 : decode cX10_ringsOf 99 = .ok (.iinc 4 1, 3) := by decide +kernel
theorem dX10_ringsOf_102 : decode cX10_ringsOf 102 = .ok (.goto (-99), 3) := by decide +kernel
theorem dX10_ringsOf_105 : decode cX10_ringsOf 105 = .ok (.iconst 0, 1) := by decide +kernel
theorem dX10_ringsOf_106 : decode cX10_ringsOf 106 = .ok (.ireturn, 1) := by decide +kernel
theorem dX10_pairsOf_0 : decode cX10_pairsOf 0 = .ok (.aload_n 0, 1) := by decide +kernel
theorem dX10_pairsOf_1 : decode cX10_pairsOf 1 = .ok (.getfield 25, 3) := by decide +kernel
theorem dX10_pairsOf_4 : decode cX10_pairsOf 4 = .ok (.iload_n 1, 1) := by decide +kernel
theorem dX10_pairsOf_5 : decode cX10_pairsOf 5 = .ok (.iaload, 1) := by decide +kernel
theorem dX10_pairsOf_6 : decode cX10_pairsOf 6 = .ok (.aload_n 0, 1) := by decide +kernel
theorem dX10_pairsOf_7 : decode cX10_pairsOf 7 = .ok (.getfield 28, 3) := by decide +kernel
theorem dX10_pairsOf_10 : decode cX10_pairsOf 10 = .ok (.iload_n 1, 1) := by decide +kernel
theorem dX10_pairsOf_11 : decode cX10_pairsOf 11 = .ok (.iaload, 1) := by decide +kernel
theorem dX10_pairsOf_12 : decode cX10_pairsOf 12 = .ok (.iadd, 1) := by decide +kernel
theorem dX10_pairsOf_13 : decode cX10_pairsOf 13 = .ok (.istore 4, 2) := by decide +kernel
theorem dX10_pairsOf_15 : decode cX10_pairsOf 15 = .ok (.aload_n 0, 1) := by decide +kernel
theorem dX10_pairsOf_16 : decode cX10_pairsOf 16 = .ok (.getfield 25, 3) := by decide +kernel
theorem dX10_pairsOf_19 : decode cX10_pairsOf 19 = .ok (.iload_n 1, 1) := by decide +kernel
theorem dX10_pairsOf_20 : decode cX10_pairsOf 20 = .ok (.iaload, 1) := by decide +kernel
theorem dX10_pairsOf_21 : decode cX10_pairsOf 21 = .ok (.istore 5, 2) := by decide +kernel
theorem dX10_pairsOf_23 : decode cX10_pairsOf 23 = .ok (.iload 5, 2) := by decide +kernel
theorem dX10_pairsOf_25 : decode cX10_pairsOf 25 = .ok (.iload 4, 2) := by decide +kernel
theorem dX10_pairsOf_27 : decode cX10_pairsOf 27 = .ok (.if_icmp .ge 185, 3) := by decide +kernel
theorem dX10_pairsOf_30 : decode cX10_pairsOf 30 = .ok (.aload_n 0, 1) := by decide +kernel
theorem dX10_pairsOf_31 : decode cX10_pairsOf 31 = .ok (.getfield 31, 3) := by decide +kernel
theorem dX10_pairsOf_34 : decode cX10_pairsOf 34 = .ok (.iload 5, 2) := by decide +kernel
theorem dX10_pairsOf_36 : decode cX10_pairsOf 36 = .ok (.iaload, 1) := by decide +kernel
theorem dX10_pairsOf_37 : decode cX10_pairsOf 37 = .ok (.istore 6, 2) := by decide +kernel
theorem dX10_pairsOf_39 : decode cX10_pairsOf 39 = .ok (.iload 6, 2) := by decide +kernel
theorem dX10_pairsOf_41 : decode cX10_pairsOf 41 = .ok (.aload_n 0, 1) := by decide +kernel
theorem dX10_pairsOf_42 : decode cX10_pairsOf 42 = .ok (.iload 5, 2) := by decide +kernel
theorem dX10_pairsOf_44 : decode cX10_pairsOf 44 = .ok (.invokevirtual 129, 3) := by decide +kernel
theorem dX10_pairsOf_47 : decode cX10_pairsOf 47 = .ok (.if_icmp .ge 159, 3) := by decide +kernel
theorem dX10_pairsOf_50 : decode cX10_pairsOf 50 = .ok (.iload 5, 2) := by decide +kernel
theorem dX10_pairsOf_52 : decode cX10_pairsOf 52 = .ok (.istore 7, 2) := by decide +kernel
theorem dX10_pairsOf_54 : decode cX10_pairsOf 54 = .ok (.iload 7, 2) := by decide +kernel
theorem dX10_pairsOf_56 : decode cX10_pairsOf 56 = .ok (.iload 4, 2) := by decide +kernel
theorem dX10_pairsOf_58 : decode cX10_pairsOf 58 = .ok (.if_icmp .ge 142, 3) := by decide +kernel
theorem dX10_pairsOf_61 : decode cX10_pairsOf 61 = .ok (.aload_n 0, 1) := by decide +kernel
theorem dX10_pairsOf_62 : decode cX10_pairsOf 62 = .ok (.iload 6, 2) := by decide +kernel
theorem dX10_pairsOf_64 : decode cX10_pairsOf 64 = .ok (.invokevirtual 132, 3) := by decide +kernel
theorem dX10_pairsOf_67 : decode cX10_pairsOf 67 = .ok (.ifCond .eq 133, 3) := by decide +kernel
theorem dX10_pairsOf_70 : decode cX10_pairsOf 70 = .ok (.iload 7, 2) := by decide +kernel
theorem dX10_pairsOf_72 : decode cX10_pairsOf 72 = .ok (.iload 5, 2) := by decide +kernel
theorem dX10_pairsOf_74 : decode cX10_pairsOf 74 = .ok (.if_icmp .ne 10, 3) := by decide +kernel
theorem dX10_pairsOf_77 : decode cX10_pairsOf 77 = .ok (.iload 6, 2) := by decide +kernel
theorem dX10_pairsOf_79 : decode cX10_pairsOf 79 = .ok (.iconst 1, 1) := by decide +kernel
theorem dX10_pairsOf_80 : decode cX10_pairsOf 80 = .ok (.iadd, 1) := by decide +kernel
theorem dX10_pairsOf_81 : decode cX10_pairsOf 81 = .ok (.goto 10, 3) := by decide +kernel
theorem dX10_pairsOf_84 : decode cX10_pairsOf 84 = .ok (.aload_n 0, 1) := by decide +kernel
theorem dX10_pairsOf_85 : decode cX10_pairsOf 85 = .ok (.getfield 31, 3) := by decide +kernel
theorem dX10_pairsOf_88 : decode cX10_pairsOf 88 = .ok (.iload 7, 2) := by decide +kernel
theorem dX10_pairsOf_90 : decode cX10_pairsOf 90 = .ok (.iaload, 1) := by decide +kernel
theorem dX10_pairsOf_91 : decode cX10_pairsOf 91 = .ok (.istore 8, 2) := by decide +kernel
theorem dX10_pairsOf_93 : decode cX10_pairsOf 93 = .ok (.iload 8, 2) := by decide +kernel
theorem dX10_pairsOf_95 : decode cX10_pairsOf 95 = .ok (.aload_n 0, 1) := by decide +kernel
theorem dX10_pairsOf_96 : decode cX10_pairsOf 96 = .ok (.iload 7, 2) := by decide +kernel
theorem dX10_pairsOf_98 : decode cX10_pairsOf 98 = .ok (.invokevirtual 129, 3) := by decide +kernel
theorem dX10_pairsOf_101 : decode cX10_pairsOf 101 = .ok (.if_icmp .ge 93, 3) := by decide +kernel
theorem dX10_pairsOf_104 : decode cX10_pairsOf 104 = .ok (.aload_n 0, 1) := by decide +kernel
theorem dX10_pairsOf_105 : decode cX10_pairsOf 105 = .ok (.iload 8, 2) := by decide +kernel
theorem dX10_pairsOf_107 : decode cX10_pairsOf 107 = .ok (.invokevirtual 132, 3) := by decide +kernel
theorem dX10_pairsOf_110 : decode cX10_pairsOf 110 = .ok (.ifCond .eq 18, 3) := by decide +kernel
theorem dX10_pairsOf_113 : decode cX10_pairsOf 113 = .ok (.aload_n 0, 1) := by decide +kernel
theorem dX10_pairsOf_114 : decode cX10_pairsOf 114 = .ok (.iload 5, 2) := by decide +kernel
theorem dX10_pairsOf_116 : decode cX10_pairsOf 116 = .ok (.iload 6, 2) := by decide +kernel
theorem dX10_pairsOf_118 : decode cX10_pairsOf 118 = .ok (.iload 7, 2) := by decide +kernel
theorem dX10_pairsOf_120 : decode cX10_pairsOf 120 = .ok (.iload 8, 2) := by decide +kernel
theorem dX10_pairsOf_122 : decode cX10_pairsOf 122 = .ok (.invokevirtual 185, 3) := by decide +kernel
theorem dX10_pairsOf_125 : decode cX10_pairsOf 125 = .ok (.goto 4, 3) := by decide +kernel
theorem dX10_pairsOf_128 : decode cX10_pairsOf 128 = .ok (.iconst 0, 1) := by decide +kernel
theorem dX10_pairsOf_129 : decode cX10_pairsOf 129 = .ok (.istore 9, 2) := by decide +kernel
theorem dX10_pairsOf_131 : decode cX10_pairsOf 131 = .ok (.iload 9, 2) := by decide +kernel
theorem dX10_pairsOf_133 : decode cX10_pairsOf 133 = .ok (.ifCond .le 55, 3) := by decide +kernel
theorem dX10_pairsOf_136 : decode cX10_pairsOf 136 = .ok (.aload_n 0, 1) := by decide +kernel
theorem dX10_pairsOf_137 : decode cX10_pairsOf 137 = .ok (.iload_n 3, 1) := by decide +kernel
theorem dX10_pairsOf_138 : decode cX10_pairsOf 138 = .ok (.iload 7, 2) := by decide +kernel
theorem dX10_pairsOf_140 : decode cX10_pairsOf 140 = .ok (.aload_n 0, 1) := by decide +kernel
theorem dX10_pairsOf_141 : decode cX10_pairsOf 141 = .ok (.getfield 25, 3) := by decide +kernel
theorem dX10_pairsOf_144 : decode cX10_pairsOf 144 = .ok (.iload_n 1, 1) := by decide +kernel
theorem dX10_pairsOf_145 : decode cX10_pairsOf 145 = .ok (.iaload, 1) := by decide +kernel
theorem dX10_pairsOf_146 : decode cX10_pairsOf 146 = .ok (.isub, 1) := by decide +kernel
theorem dX10_pairsOf_147 : decode cX10_pairsOf 147 = .ok (.iload 8, 2) := by decide +kernel
theorem dX10_pairsOf_149 : decode cX10_pairsOf 149 = .ok (.aload_n 0, 1) := by decide +kernel
theorem dX10_pairsOf_150 : decode cX10_pairsOf 150 = .ok (.getfield 31, 3) := by decide +kernel
theorem dX10_pairsOf_153 : decode cX10_pairsOf 153 = .ok (.iload 7, 2) := by decide +kernel
theorem dX10_pairsOf_155 : decode cX10_pairsOf 155 = .ok (.iaload, 1) := by decide +kernel
theorem dX10_pairsOf_156 : decode cX10_pairsOf 156 = .ok (.isub, 1) := by decide +kernel
theorem dX10_pairsOf_157 : decode cX10_pairsOf 157 = .ok (.invokevirtual 188, 3) := by decide +kernel
theorem dX10_pairsOf_160 : decode cX10_pairsOf 160 = .ok (.aload_n 0, 1) := by decide +kernel
theorem dX10_pairsOf_161 : decode cX10_pairsOf 161 = .ok (.iload 9, 2) := by decide +kernel
theorem dX10_pairsOf_163 : decode cX10_pairsOf 163 = .ok (.iload_n 2, 1) := by decide +kernel
theorem dX10_pairsOf_164 : decode cX10_pairsOf 164 = .ok (.iload_n 3, 1) := by decide +kernel
theorem dX10_pairsOf_165 : decode cX10_pairsOf 165 = .ok (.iload 5, 2) := by decide +kernel
theorem dX10_pairsOf_167 : decode cX10_pairsOf 167 = .ok (.aload_n 0, 1) := by decide +kernel
theorem dX10_pairsOf_168 : decode cX10_pairsOf 168 = .ok (.getfield 25, 3) := by decide +kernel
theorem dX10_pairsOf_171 : decode cX10_pairsOf 171 = .ok (.iload_n 1, 1) := by decide +kernel
theorem dX10_pairsOf_172 : decode cX10_pairsOf 172 = .ok (.iaload, 1) := by decide +kernel
theorem dX10_pairsOf_173 : decode cX10_pairsOf 173 = .ok (.isub, 1) := by decide +kernel
theorem dX10_pairsOf_174 : decode cX10_pairsOf 174 = .ok (.iload 6, 2) := by decide +kernel
theorem dX10_pairsOf_176 : decode cX10_pairsOf 176 = .ok (.aload_n 0, 1) := by decide +kernel
theorem dX10_pairsOf_177 : decode cX10_pairsOf 177 = .ok (.getfield 31, 3) := by decide +kernel
theorem dX10_pairsOf_180 : decode cX10_pairsOf 180 = .ok (.iload 5, 2) := by decide +kernel
theorem dX10_pairsOf_182 : decode cX10_pairsOf 182 = .ok (.iaload, 1) := by decide +kernel
theorem dX10_pairsOf_183 : decode cX10_pairsOf 183 = .ok (.isub, 1) := by decide +kernel
theorem dX10_pairsOf_184 : decode cX10_pairsOf 184 = .ok (.invokevirtual 178, 3) := by decide +kernel
theorem dX10_pairsOf_187 : decode cX10_pairsOf 187 = .ok (.ireturn, 1) := by decide +kernel
theorem dX10_pairsOf_188 : decode cX10_pairsOf 188 = .ok (.iinc 8 1, 3) := by decide +kernel
theorem dX10_pairsOf_191 : decode cX10_pairsOf 191 = .ok (.goto (-98), 3) := by decide +kernel
theorem dX10_pairsOf_194 : decode cX10_pairsOf 194 = .ok (.iinc 7 1, 3) := by decide +kernel
theorem dX10_pairsOf_197 : decode cX10_pairsOf 197 = .ok (.goto (-143), 3) := by decide +kernel
theorem dX10_pairsOf_200 : decode cX10_pairsOf 200 = .ok (.iinc 6 1, 3) := by decide +kernel
theorem dX10_pairsOf_203 : decode cX10_pairsOf 203 = .ok (.goto (-164), 3) := by decide +kernel
theorem dX10_pairsOf_206 : decode cX10_pairsOf 206 = .ok (.iinc 5 1, 3) := by decide +kernel
theorem dX10_pairsOf_209 : decode cX10_pairsOf 209 = .ok (.goto (-186), 3) := by decide +kernel
theorem dX10_pairsOf_212 : decode cX10_pairsOf 212 = .ok (.iconst 0, 1) := by decide +kernel
theorem dX10_pairsOf_213 : decode cX10_pairsOf 213 = .ok (.ireturn, 1) := by decide +kernel
theorem dX10_holesOf_0 : decode cX10_holesOf 0 = .ok (.aload_n 0, 1) := by decide +kernel
theorem dX10_holesOf_1 : decode cX10_holesOf 1 = .ok (.getfield 25, 3) := by decide +kernel
theorem dX10_holesOf_4 : decode cX10_holesOf 4 = .ok (.iload_n 1, 1) := by decide +kernel
theorem dX10_holesOf_5 : decode cX10_holesOf 5 = .ok (.iaload, 1) := by decide +kernel
theorem dX10_holesOf_6 : decode cX10_holesOf 6 = .ok (.istore 4, 2) := by decide +kernel
theorem dX10_holesOf_8 : decode cX10_holesOf 8 = .ok (.iconst 1, 1) := by decide +kernel
theorem dX10_holesOf_9 : decode cX10_holesOf 9 = .ok (.istore 5, 2) := by decide +kernel
theorem dX10_holesOf_11 : decode cX10_holesOf 11 = .ok (.iload 5, 2) := by decide +kernel
theorem dX10_holesOf_13 : decode cX10_holesOf 13 = .ok (.aload_n 0, 1) := by decide +kernel
theorem dX10_holesOf_14 : decode cX10_holesOf 14 = .ok (.getfield 28, 3) := by decide +kernel
theorem dX10_holesOf_17 : decode cX10_holesOf 17 = .ok (.iload_n 1, 1) := by decide +kernel
theorem dX10_holesOf_18 : decode cX10_holesOf 18 = .ok (.iaload, 1) := by decide +kernel
theorem dX10_holesOf_19 : decode cX10_holesOf 19 = .ok (.if_icmp .ge 35, 3) := by decide +kernel
theorem dX10_holesOf_22 : decode cX10_holesOf 22 = .ok (.aload_n 0, 1) := by decide +kernel
theorem dX10_holesOf_23 : decode cX10_holesOf 23 = .ok (.iload 4, 2) := by decide +kernel
theorem dX10_holesOf_25 : decode cX10_holesOf 25 = .ok (.iload 5, 2) := by decide +kernel
theorem dX10_holesOf_27 : decode cX10_holesOf 27 = .ok (.iadd, 1) := by decide +kernel
theorem dX10_holesOf_28 : decode cX10_holesOf 28 = .ok (.iload 4, 2) := by decide +kernel
theorem dX10_holesOf_30 : decode cX10_holesOf 30 = .ok (.invokevirtual 192, 3) := by decide +kernel
theorem dX10_holesOf_33 : decode cX10_holesOf 33 = .ok (.ifCond .ne 15, 3) := by decide +kernel
theorem dX10_holesOf_36 : decode cX10_holesOf 36 = .ok (.aload_n 0, 1) := by decide +kernel
theorem dX10_holesOf_37 : decode cX10_holesOf 37 = .ok (.bipush 6, 2) := by decide +kernel
theorem dX10_holesOf_39 : decode cX10_holesOf 39 = .ok (.iload_n 2, 1) := by decide +kernel
theorem dX10_holesOf_40 : decode cX10_holesOf 40 = .ok (.iload_n 3, 1) := by decide +kernel
theorem dX10_holesOf_41 : decode cX10_holesOf 41 = .ok (.iload 5, 2) := by decide +kernel
theorem dX10_holesOf_43 : decode cX10_holesOf 43 = .ok (.iconst (-1), 1) := by decide +kernel
theorem dX10_holesOf_44 : decode cX10_holesOf 44 = .ok (.invokevirtual 178, 3) := by decide +kernel
theorem dX10_holesOf_47 : decode cX10_holesOf 47 = .ok (.ireturn, 1) := by decide +kernel
theorem dX10_holesOf_48 : decode cX10_holesOf 48 = .ok (.iinc 5 1, 3) := by decide +kernel
theorem dX10_holesOf_51 : decode cX10_holesOf 51 = .ok (.goto (-40), 3) := by decide +kernel
theorem dX10_holesOf_54 : decode cX10_holesOf 54 = .ok (.iconst 1, 1) := by decide +kernel
theorem dX10_holesOf_55 : decode cX10_holesOf 55 = .ok (.istore 5, 2) := by decide +kernel
theorem dX10_holesOf_57 : decode cX10_holesOf 57 = .ok (.iload 5, 2) := by decide +kernel
theorem dX10_holesOf_59 : decode cX10_holesOf 59 = .ok (.aload_n 0, 1) := by decide +kernel
theorem dX10_holesOf_60 : decode cX10_holesOf 60 = .ok (.getfield 28, 3) := by decide +kernel
theorem dX10_holesOf_63 : decode cX10_holesOf 63 = .ok (.iload_n 1, 1) := by decide +kernel
theorem dX10_holesOf_64 : decode cX10_holesOf 64 = .ok (.iaload, 1) := by decide +kernel
theorem dX10_holesOf_65 : decode cX10_holesOf 65 = .ok (.if_icmp .ge 86, 3) := by decide +kernel
theorem dX10_holesOf_68 : decode cX10_holesOf 68 = .ok (.iload 5, 2) := by decide +kernel
theorem dX10_holesOf_70 : decode cX10_holesOf 70 = .ok (.iconst 1, 1) := by decide +kernel
theorem dX10_holesOf_71 : decode cX10_holesOf 71 = .ok (.iadd, 1) := by decide +kernel
theorem dX10_holesOf_72 : decode cX10_holesOf 72 = .ok (.istore 6, 2) := by decide +kernel
theorem dX10_holesOf_74 : decode cX10_holesOf 74 = .ok (.iload 6, 2) := by decide +kernel
theorem dX10_holesOf_76 : decode cX10_holesOf 76 = .ok (.aload_n 0, 1) := by decide +kernel
theorem dX10_holesOf_77 : decode cX10_holesOf 77 = .ok (.getfield 28, 3) := by decide +kernel
theorem dX10_holesOf_80 : decode cX10_holesOf 80 = .ok (.iload_n 1, 1) := by decide +kernel
theorem dX10_holesOf_81 : decode cX10_holesOf 81 = .ok (.iaload, 1) := by decide +kernel
theorem dX10_holesOf_82 : decode cX10_holesOf 82 = .ok (.if_icmp .ge 63, 3) := by decide +kernel
theorem dX10_holesOf_85 : decode cX10_holesOf 85 = .ok (.aload_n 0, 1) := by decide +kernel
theorem dX10_holesOf_86 : decode cX10_holesOf 86 = .ok (.iload 4, 2) := by decide +kernel
theorem dX10_holesOf_88 : decode cX10_holesOf 88 = .ok (.iload 5, 2) := by decide +kernel
theorem dX10_holesOf_90 : decode cX10_holesOf 90 = .ok (.iadd, 1) := by decide +kernel
theorem dX10_holesOf_91 : decode cX10_holesOf 91 = .ok (.iload 4, 2) := by decide +kernel
theorem dX10_holesOf_93 : decode cX10_holesOf 93 = .ok (.iload 6, 2) := by decide +kernel
theorem dX10_holesOf_95 : decode cX10_holesOf 95 = .ok (.iadd, 1) := by decide +kernel
theorem dX10_holesOf_96 : decode cX10_holesOf 96 = .ok (.invokevirtual 192, 3) := by decide +kernel
theorem dX10_holesOf_99 : decode cX10_holesOf 99 = .ok (.ifCond .ne 20, 3) := by decide +kernel
theorem dX10_holesOf_102 : decode cX10_holesOf 102 = .ok (.aload_n 0, 1) := by decide +kernel
theorem dX10_holesOf_103 : decode cX10_holesOf 103 = .ok (.iload 4, 2) := by decide +kernel
theorem dX10_holesOf_105 : decode cX10_holesOf 105 = .ok (.iload 6, 2) := by decide +kernel
theorem dX10_holesOf_107 : decode cX10_holesOf 107 = .ok (.iadd, 1) := by decide +kernel
theorem dX10_holesOf_108 : decode cX10_holesOf 108 = .ok (.iload 4, 2) := by decide +kernel
theorem dX10_holesOf_110 : decode cX10_holesOf 110 = .ok (.iload 5, 2) := by decide +kernel
theorem dX10_holesOf_112 : decode cX10_holesOf 112 = .ok (.iadd, 1) := by decide +kernel
theorem dX10_holesOf_113 : decode cX10_holesOf 113 = .ok (.invokevirtual 192, 3) := by decide +kernel
theorem dX10_holesOf_116 : decode cX10_holesOf 116 = .ok (.ifCond .eq 23, 3) := by decide +kernel
theorem dX10_holesOf_119 : decode cX10_holesOf 119 = .ok (.aload_n 0, 1) := by decide +kernel
theorem dX10_holesOf_120 : decode cX10_holesOf 120 = .ok (.iload_n 3, 1) := by decide +kernel
theorem dX10_holesOf_121 : decode cX10_holesOf 121 = .ok (.iload 6, 2) := by decide +kernel
theorem dX10_holesOf_123 : decode cX10_holesOf 123 = .ok (.iconst (-1), 1) := by decide +kernel
theorem dX10_holesOf_124 : decode cX10_holesOf 124 = .ok (.invokevirtual 188, 3) := by decide +kernel
theorem dX10_holesOf_127 : decode cX10_holesOf 127 = .ok (.aload_n 0, 1) := by decide +kernel
theorem dX10_holesOf_128 : decode cX10_holesOf 128 = .ok (.bipush 7, 2) := by decide +kernel
theorem dX10_holesOf_130 : decode cX10_holesOf 130 = .ok (.iload_n 2, 1) := by decide +kernel
theorem dX10_holesOf_131 : decode cX10_holesOf 131 = .ok (.iload_n 3, 1) := by decide +kernel
theorem dX10_holesOf_132 : decode cX10_holesOf 132 = .ok (.iload 5, 2) := by decide +kernel
theorem dX10_holesOf_134 : decode cX10_holesOf 134 = .ok (.iconst (-1), 1) := by decide +kernel
theorem dX10_holesOf_135 : decode cX10_holesOf 135 = .ok (.invokevirtual 178, 3) := by decide +kernel
theorem dX10_holesOf_138 : decode cX10_holesOf 138 = .ok (.ireturn, 1) := by decide +kernel
theorem dX10_holesOf_139 : decode cX10_holesOf 139 = .ok (.iinc 6 1, 3) := by decide +kernel
theorem dX10_holesOf_142 : decode cX10_holesOf 142 = .ok (.goto (-68), 3) := by decide +kernel
theorem dX10_holesOf_145 : decode cX10_holesOf 145 = .ok (.iinc 5 1, 3) := by decide +kernel
theorem dX10_holesOf_148 : decode cX10_holesOf 148 = .ok (.goto (-91), 3) := by decide +kernel
theorem dX10_holesOf_151 : decode cX10_holesOf 151 = .ok (.iconst 0, 1) := by decide +kernel
theorem dX10_holesOf_152 : decode cX10_holesOf 152 = .ok (.ireturn, 1) := by decide +kernel
theorem dX10_isFirst_0 : decode cX10_isFirst 0 = .ok (.iconst 1, 1) := by decide +kernel
theorem dX10_isFirst_1 : decode cX10_isFirst 1 = .ok (.istore_n 3, 1) := by decide +kernel
theorem dX10_isFirst_2 : decode cX10_isFirst 2 = .ok (.iload_n 2, 1) := by decide +kernel
theorem dX10_isFirst_3 : decode cX10_isFirst 3 = .ok (.istore 4, 2) := by decide +kernel
theorem dX10_isFirst_5 : decode cX10_isFirst 5 = .ok (.iload 4, 2) := by decide +kernel
theorem dX10_isFirst_7 : decode cX10_isFirst 7 = .ok (.iload_n 1, 1) := by decide +kernel
theorem dX10_isFirst_8 : decode cX10_isFirst 8 = .ok (.if_icmp .ge 29, 3) := by decide +kernel
theorem dX10_isFirst_11 : decode cX10_isFirst 11 = .ok (.iload_n 3, 1) := by decide +kernel
theorem dX10_isFirst_12 : decode cX10_isFirst 12 = .ok (.ifCond .eq 25, 3) := by decide +kernel
theorem dX10_isFirst_15 : decode cX10_isFirst 15 = .ok (.aload_n 0, 1) := by decide +kernel
theorem dX10_isFirst_16 : decode cX10_isFirst 16 = .ok (.iload 4, 2) := by decide +kernel
theorem dX10_isFirst_18 : decode cX10_isFirst 18 = .ok (.iload_n 1, 1) := by decide +kernel
theorem dX10_isFirst_19 : decode cX10_isFirst 19 = .ok (.invokevirtual 103, 3) := by decide +kernel
theorem dX10_isFirst_22 : decode cX10_isFirst 22 = .ok (.ifCond .ne 7, 3) := by decide +kernel
theorem dX10_isFirst_25 : decode cX10_isFirst 25 = .ok (.iconst 1, 1) := by decide +kernel
theorem dX10_isFirst_26 : decode cX10_isFirst 26 = .ok (.goto 4, 3) := by decide +kernel
theorem dX10_isFirst_29 : decode cX10_isFirst 29 = .ok (.iconst 0, 1) := by decide +kernel
theorem dX10_isFirst_30 : decode cX10_isFirst 30 = .ok (.istore_n 3, 1) := by decide +kernel
theorem dX10_isFirst_31 : decode cX10_isFirst 31 = .ok (.iinc 4 1, 3) := by decide +kernel
theorem dX10_isFirst_34 : decode cX10_isFirst 34 = .ok (.goto (-29), 3) := by decide +kernel
theorem dX10_isFirst_37 : decode cX10_isFirst 37 = .ok (.iload_n 3, 1) := by decide +kernel
theorem dX10_isFirst_38 : decode cX10_isFirst 38 = .ok (.ireturn, 1) := by decide +kernel
theorem dX10_joins_0 : decode cX10_joins 0 = .ok (.iconst (-1), 1) := by decide +kernel
theorem dX10_joins_1 : decode cX10_joins 1 = .ok (.istore_n 3, 1) := by decide +kernel
theorem dX10_joins_2 : decode cX10_joins 2 = .ok (.iconst 0, 1) := by decide +kernel
theorem dX10_joins_3 : decode cX10_joins 3 = .ok (.istore 4, 2) := by decide +kernel
theorem dX10_joins_5 : decode cX10_joins 5 = .ok (.iconst 0, 1) := by decide +kernel
theorem dX10_joins_6 : decode cX10_joins 6 = .ok (.istore 5, 2) := by decide +kernel
theorem dX10_joins_8 : decode cX10_joins 8 = .ok (.iload 5, 2) := by decide +kernel
theorem dX10_joins_10 : decode cX10_joins 10 = .ok (.aload_n 0, 1) := by decide +kernel
theorem dX10_joins_11 : decode cX10_joins 11 = .ok (.getfield 28, 3) := by decide +kernel
theorem dX10_joins_14 : decode cX10_joins 14 = .ok (.iload_n 1, 1) := by decide +kernel
theorem dX10_joins_15 : decode cX10_joins 15 = .ok (.iaload, 1) := by decide +kernel
theorem dX10_joins_16 : decode cX10_joins 16 = .ok (.if_icmp .ge 139, 3) := by decide +kernel
theorem dX10_joins_19 : decode cX10_joins 19 = .ok (.aload_n 0, 1) := by decide +kernel
theorem dX10_joins_20 : decode cX10_joins 20 = .ok (.aload_n 0, 1) := by decide +kernel
theorem dX10_joins_21 : decode cX10_joins 21 = .ok (.getfield 37, 3) := by decide +kernel
theorem dX10_joins_24 : decode cX10_joins 24 = .ok (.iload_n 2, 1) := by decide +kernel
theorem dX10_joins_25 : decode cX10_joins 25 = .ok (.iaload, 1) := by decide +kernel
theorem dX10_joins_26 : decode cX10_joins 26 = .ok (.aload_n 0, 1) := by decide +kernel
theorem dX10_joins_27 : decode cX10_joins 27 = .ok (.getfield 40, 3) := by decide +kernel
theorem dX10_joins_30 : decode cX10_joins 30 = .ok (.iload_n 2, 1) := by decide +kernel
theorem dX10_joins_31 : decode cX10_joins 31 = .ok (.iaload, 1) := by decide +kernel
theorem dX10_joins_32 : decode cX10_joins 32 = .ok (.aload_n 0, 1) := by decide +kernel
theorem dX10_joins_33 : decode cX10_joins 33 = .ok (.getfield 25, 3) := by decide +kernel
theorem dX10_joins_36 : decode cX10_joins 36 = .ok (.iload_n 1, 1) := by decide +kernel
theorem dX10_joins_37 : decode cX10_joins 37 = .ok (.iaload, 1) := by decide +kernel
theorem dX10_joins_38 : decode cX10_joins 38 = .ok (.iload 5, 2) := by decide +kernel
theorem dX10_joins_40 : decode cX10_joins 40 = .ok (.iadd, 1) := by decide +kernel
theorem dX10_joins_41 : decode cX10_joins 41 = .ok (.invokevirtual 135, 3) := by decide +kernel
theorem dX10_joins_44 : decode cX10_joins 44 = .ok (.ifCond .eq 105, 3) := by decide +kernel
theorem dX10_joins_47 : decode cX10_joins 47 = .ok (.iload_n 3, 1) := by decide +kernel
theorem dX10_joins_48 : decode cX10_joins 48 = .ok (.ifCond .lt 22, 3) := by decide +kernel
theorem dX10_joins_51 : decode cX10_joins 51 = .ok (.aload_n 0, 1) := by decide +kernel
theorem dX10_joins_52 : decode cX10_joins 52 = .ok (.getfield 49, 3) := by decide +kernel
theorem dX10_joins_55 : decode cX10_joins 55 = .ok (.iload 5, 2) := by decide +kernel
theorem dX10_joins_57 : decode cX10_joins 57 = .ok (.iaload, 1) := by decide +kernel
theorem dX10_joins_58 : decode cX10_joins 58 = .ok (.aload_n 0, 1) := by decide +kernel
theorem dX10_joins_59 : decode cX10_joins 59 = .ok (.getfield 49, 3) := by decide +kernel
theorem dX10_joins_62 : decode cX10_joins 62 = .ok (.iload_n 3, 1) := by decide +kernel
theorem dX10_joins_63 : decode cX10_joins 63 = .ok (.iaload, 1) := by decide +kernel
theorem dX10_joins_64 : decode cX10_joins 64 = .ok (.if_icmp .ne 6, 3) := by decide +kernel
theorem dX10_joins_67 : decode cX10_joins 67 = .ok (.iconst 1, 1) := by decide +kernel
theorem dX10_joins_68 : decode cX10_joins 68 = .ok (.istore 4, 2) := by decide +kernel
theorem dX10_joins_70 : decode cX10_joins 70 = .ok (.aload_n 0, 1) := by decide +kernel
theorem dX10_joins_71 : decode cX10_joins 71 = .ok (.getfield 49, 3) := by decide +kernel
theorem dX10_joins_74 : decode cX10_joins 74 = .ok (.iload 5, 2) := by decide +kernel
theorem dX10_joins_76 : decode cX10_joins 76 = .ok (.iaload, 1) := by decide +kernel
theorem dX10_joins_77 : decode cX10_joins 77 = .ok (.istore 6, 2) := by decide +kernel
theorem dX10_joins_79 : decode cX10_joins 79 = .ok (.iconst 0, 1) := by decide +kernel
theorem dX10_joins_80 : decode cX10_joins 80 = .ok (.istore 7, 2) := by decide +kernel
theorem dX10_joins_82 : decode cX10_joins 82 = .ok (.iload 7, 2) := by decide +kernel
theorem dX10_joins_84 : decode cX10_joins 84 = .ok (.aload_n 0, 1) := by decide +kernel
theorem dX10_joins_85 : decode cX10_joins 85 = .ok (.getfield 28, 3) := by decide +kernel
theorem dX10_joins_88 : decode cX10_joins 88 = .ok (.iload_n 1, 1) := by decide +kernel
theorem dX10_joins_89 : decode cX10_joins 89 = .ok (.iaload, 1) := by decide +kernel
theorem dX10_joins_90 : decode cX10_joins 90 = .ok (.if_icmp .ge 48, 3) := by decide +kernel
theorem dX10_joins_93 : decode cX10_joins 93 = .ok (.iload_n 3, 1) := by decide +kernel
theorem dX10_joins_94 : decode cX10_joins 94 = .ok (.ifCond .lt 44, 3) := by decide +kernel
theorem dX10_joins_97 : decode cX10_joins 97 = .ok (.aload_n 0, 1) := by decide +kernel
theorem dX10_joins_98 : decode cX10_joins 98 = .ok (.getfield 49, 3) := by decide +kernel
theorem dX10_joins_101 : decode cX10_joins 101 = .ok (.iload 7, 2) := by decide +kernel
theorem dX10_joins_103 : decode cX10_joins 103 = .ok (.aload_n 0, 1) := by decide +kernel
theorem dX10_joins_104 : decode cX10_joins 104 = .ok (.getfield 49, 3) := by decide +kernel
theorem dX10_joins_107 : decode cX10_joins 107 = .ok (.iload 7, 2) := by decide +kernel
theorem dX10_joins_109 : decode cX10_joins 109 = .ok (.iaload, 1) := by decide +kernel
theorem dX10_joins_110 : decode cX10_joins 110 = .ok (.iload 6, 2) := by decide +kernel
theorem dX10_joins_112 : decode cX10_joins 112 = .ok (.if_icmp .ne 12, 3) := by decide +kernel
theorem dX10_joins_115 : decode cX10_joins 115 = .ok (.aload_n 0, 1) := by decide +kernel
theorem dX10_joins_116 : decode cX10_joins 116 = .ok (.getfield 49, 3) := by decide +kernel
theorem dX10_joins_119 : decode cX10_joins 119 = .ok (.iload_n 3, 1) := by decide +kernel
theorem dX10_joins_120 : decode cX10_joins 120 = .ok (.iaload, 1) := by decide +kernel
theorem dX10_joins_121 : decode cX10_joins 121 = .ok (.goto 10, 3) := by decide +kernel
theorem dX10_joins_124 : decode cX10_joins 124 = .ok (.aload_n 0, 1) := by decide +kernel
theorem dX10_joins_125 : decode cX10_joins 125 = .ok (.getfield 49, 3) := by decide +kernel
theorem dX10_joins_128 : decode cX10_joins 128 = .ok (.iload 7, 2) := by decide +kernel
theorem dX10_joins_130 : decode cX10_joins 130 = .ok (.iaload, 1) := by decide +kernel
theorem dX10_joins_131 : decode cX10_joins 131 = .ok (.iastore, 1) := by decide +kernel
theorem dX10_joins_132 : decode cX10_joins 132 = .ok (.iinc 7 1, 3) := by decide +kernel
theorem dX10_joins_135 : decode cX10_joins 135 = .ok (.goto (-53), 3) := by decide +kernel
theorem dX10_joins_138 : decode cX10_joins 138 = .ok (.iload_n 3, 1) := by decide +kernel
theorem dX10_joins_139 : decode cX10_joins 139 = .ok (.ifCond .ge 8, 3) := by decide +kernel
theorem dX10_joins_142 : decode cX10_joins 142 = .ok (.iload 5, 2) := by decide +kernel
theorem dX10_joins_144 : decode cX10_joins 144 = .ok (.goto 4, 3) := by decide +kernel
theorem dX10_joins_147 : decode cX10_joins 147 = .ok (.iload_n 3, 1) := by decide +kernel
theorem dX10_joins_148 : decode cX10_joins 148 = .ok (.istore_n 3, 1) := by decide +kernel
theorem dX10_joins_149 : decode cX10_joins 149 = .ok (.iinc 5 1, 3) := by decide +kernel
theorem dX10_joins_152 : decode cX10_joins 152 = .ok (.goto (-144), 3) := by decide +kernel
theorem dX10_joins_155 : decode cX10_joins 155 = .ok (.iload 4, 2) := by decide +kernel
theorem dX10_joins_157 : decode cX10_joins 157 = .ok (.ireturn, 1) := by decide +kernel
theorem dX10_splitOf_0 : decode cX10_splitOf 0 = .ok (.iconst 0, 1) := by decide +kernel
theorem dX10_splitOf_1 : decode cX10_splitOf 1 = .ok (.istore 4, 2) := by decide +kernel
theorem dX10_splitOf_3 : decode cX10_splitOf 3 = .ok (.iload 4, 2) := by decide +kernel
theorem dX10_splitOf_5 : decode cX10_splitOf 5 = .ok (.aload_n 0, 1) := by decide +kernel
theorem dX10_splitOf_6 : decode cX10_splitOf 6 = .ok (.getfield 28, 3) := by decide +kernel
theorem dX10_splitOf_9 : decode cX10_splitOf 9 = .ok (.iload_n 1, 1) := by decide +kernel
theorem dX10_splitOf_10 : decode cX10_splitOf 10 = .ok (.iaload, 1) := by decide +kernel
theorem dX10_splitOf_11 : decode cX10_splitOf 11 = .ok (.if_icmp .ge 18, 3) := by decide +kernel
theorem dX10_splitOf_14 : decode cX10_splitOf 14 = .ok (.aload_n 0, 1) := by decide +kernel
theorem dX10_splitOf_15 : decode cX10_splitOf 15 = .ok (.getfield 49, 3) := by decide +kernel
theorem dX10_splitOf_18 : decode cX10_splitOf 18 = .ok (.iload 4, 2) := by decide +kernel
theorem dX10_splitOf_20 : decode cX10_splitOf 20 = .ok (.iload 4, 2) := by decide +kernel
theorem dX10_splitOf_22 : decode cX10_splitOf 22 = .ok (.iastore, 1) := by decide +kernel
theorem dX10_splitOf_23 : decode cX10_splitOf 23 = .ok (.iinc 4 1, 3) := by decide +kernel
theorem dX10_splitOf_26 : decode cX10_splitOf 26 = .ok (.goto (-23), 3) := by decide +kernel
theorem dX10_splitOf_29 : decode cX10_splitOf 29 = .ok (.aload_n 0, 1) := by decide +kernel
theorem dX10_splitOf_30 : decode cX10_splitOf 30 = .ok (.getfield 31, 3) := by decide +kernel
theorem dX10_splitOf_33 : decode cX10_splitOf 33 = .ok (.aload_n 0, 1) := by decide +kernel
theorem dX10_splitOf_34 : decode cX10_splitOf 34 = .ok (.getfield 25, 3) := by decide +kernel
theorem dX10_splitOf_37 : decode cX10_splitOf 37 = .ok (.iload_n 1, 1) := by decide +kernel
theorem dX10_splitOf_38 : decode cX10_splitOf 38 = .ok (.iaload, 1) := by decide +kernel
theorem dX10_splitOf_39 : decode cX10_splitOf 39 = .ok (.iaload, 1) := by decide +kernel
theorem dX10_splitOf_40 : decode cX10_splitOf 40 = .ok (.istore 4, 2) := by decide +kernel
theorem dX10_splitOf_42 : decode cX10_splitOf 42 = .ok (.aload_n 0, 1) := by decide +kernel
theorem dX10_splitOf_43 : decode cX10_splitOf 43 = .ok (.aload_n 0, 1) := by decide +kernel
theorem dX10_splitOf_44 : decode cX10_splitOf 44 = .ok (.getfield 25, 3) := by decide +kernel
theorem dX10_splitOf_47 : decode cX10_splitOf 47 = .ok (.iload_n 1, 1) := by decide +kernel
theorem dX10_splitOf_48 : decode cX10_splitOf 48 = .ok (.iaload, 1) := by decide +kernel
theorem dX10_splitOf_49 : decode cX10_splitOf 49 = .ok (.aload_n 0, 1) := by decide +kernel
theorem dX10_splitOf_50 : decode cX10_splitOf 50 = .ok (.getfield 28, 3) := by decide +kernel
theorem dX10_splitOf_53 : decode cX10_splitOf 53 = .ok (.iload_n 1, 1) := by decide +kernel
theorem dX10_splitOf_54 : decode cX10_splitOf 54 = .ok (.iaload, 1) := by decide +kernel
theorem dX10_splitOf_55 : decode cX10_splitOf 55 = .ok (.iadd, 1) := by decide +kernel
theorem dX10_splitOf_56 : decode cX10_splitOf 56 = .ok (.iconst 1, 1) := by decide +kernel
theorem dX10_splitOf_57 : decode cX10_splitOf 57 = .ok (.isub, 1) := by decide +kernel
theorem dX10_splitOf_58 : decode cX10_splitOf 58 = .ok (.invokevirtual 129, 3) := by decide +kernel
theorem dX10_splitOf_61 : decode cX10_splitOf 61 = .ok (.istore 5, 2) := by decide +kernel
theorem dX10_splitOf_63 : decode cX10_splitOf 63 = .ok (.iload 4, 2) := by decide +kernel
theorem dX10_splitOf_65 : decode cX10_splitOf 65 = .ok (.istore 6, 2) := by decide +kernel
theorem dX10_splitOf_67 : decode cX10_splitOf 67 = .ok (.iload 6, 2) := by decide +kernel
theorem dX10_splitOf_69 : decode cX10_splitOf 69 = .ok (.iload 5, 2) := by decide +kernel
theorem dX10_splitOf_71 : decode cX10_splitOf 71 = .ok (.if_icmp .gt 41, 3) := by decide +kernel
theorem dX10_splitOf_74 : decode cX10_splitOf 74 = .ok (.aload_n 0, 1) := by decide +kernel
theorem dX10_splitOf_75 : decode cX10_splitOf 75 = .ok (.iload 6, 2) := by decide +kernel
theorem dX10_splitOf_77 : decode cX10_splitOf 77 = .ok (.iload 4, 2) := by decide +kernel
theorem dX10_splitOf_79 : decode cX10_splitOf 79 = .ok (.invokevirtual 195, 3) := by decide +kernel
theorem dX10_splitOf_82 : decode cX10_splitOf 82 = .ok (.ifCond .eq 24, 3) := by decide +kernel
theorem dX10_splitOf_85 : decode cX10_splitOf 85 = .ok (.aload_n 0, 1) := by decide +kernel
theorem dX10_splitOf_86 : decode cX10_splitOf 86 = .ok (.iload_n 1, 1) := by decide +kernel
theorem dX10_splitOf_87 : decode cX10_splitOf 87 = .ok (.iload 6, 2) := by decide +kernel
theorem dX10_splitOf_89 : decode cX10_splitOf 89 = .ok (.invokevirtual 198, 3) := by decide +kernel
theorem dX10_splitOf_92 : decode cX10_splitOf 92 = .ok (.ifCond .eq 14, 3) := by decide +kernel
theorem dX10_splitOf_95 : decode cX10_splitOf 95 = .ok (.aload_n 0, 1) := by decide +kernel
theorem dX10_splitOf_96 : decode cX10_splitOf 96 = .ok (.bipush 8, 2) := by decide +kernel
theorem dX10_splitOf_98 : decode cX10_splitOf 98 = .ok (.iload_n 2, 1) := by decide +kernel
theorem dX10_splitOf_99 : decode cX10_splitOf 99 = .ok (.iload_n 3, 1) := by decide +kernel
theorem dX10_splitOf_100 : decode cX10_splitOf 100 = .ok (.iconst (-1), 1) := by decide +kernel
theorem dX10_splitOf_101 : decode cX10_splitOf 101 = .ok (.iconst (-1), 1) := by decide +kernel
theorem dX10_splitOf_102 : decode cX10_splitOf 102 = .ok (.invokevirtual 178, 3) := by decide +kernel
theorem dX10_splitOf_105 : decode cX10_splitOf 105 = .ok (.ireturn, 1) := by decide +kernel
theorem dX10_splitOf_106 : decode cX10_splitOf 106 = .ok (.iinc 6 1, 3) := by decide +kernel
theorem dX10_splitOf_109 : decode cX10_splitOf 109 = .ok (.goto (-42), 3) := by decide +kernel
theorem dX10_splitOf_112 : decode cX10_splitOf 112 = .ok (.iconst 0, 1) := by decide +kernel
theorem dX10_splitOf_113 : decode cX10_splitOf 113 = .ok (.ireturn, 1) := by decide +kernel
theorem dX10_polygon_0 : decode cX10_polygon 0 = .ok (.aload_n 0, 1) := by decide +kernel
theorem dX10_polygon_1 : decode cX10_polygon 1 = .ok (.getfield 28, 3) := by decide +kernel
theorem dX10_polygon_4 : decode cX10_polygon 4 = .ok (.iload_n 1, 1) := by decide +kernel
theorem dX10_polygon_5 : decode cX10_polygon 5 = .ok (.iaload, 1) := by decide +kernel
theorem dX10_polygon_6 : decode cX10_polygon 6 = .ok (.ifCond .ne 5, 3) := by decide +kernel
theorem dX10_polygon_9 : decode cX10_polygon 9 = .ok (.iconst 0, 1) := by decide +kernel
theorem dX10_polygon_10 : decode cX10_polygon 10 = .ok (.ireturn, 1) := by decide +kernel
theorem dX10_polygon_11 : decode cX10_polygon 11 = .ok (.aload_n 0, 1) := by decide +kernel
theorem dX10_polygon_12 : decode cX10_polygon 12 = .ok (.iload_n 1, 1) := by decide +kernel
theorem dX10_polygon_13 : decode cX10_polygon 13 = .ok (.iload_n 2, 1) := by decide +kernel
theorem dX10_polygon_14 : decode cX10_polygon 14 = .ok (.iload_n 3, 1) := by decide +kernel
theorem dX10_polygon_15 : decode cX10_polygon 15 = .ok (.invokevirtual 201, 3) := by decide +kernel
theorem dX10_polygon_18 : decode cX10_polygon 18 = .ok (.istore 4, 2) := by decide +kernel
theorem dX10_polygon_20 : decode cX10_polygon 20 = .ok (.iload 4, 2) := by decide +kernel
theorem dX10_polygon_22 : decode cX10_polygon 22 = .ok (.ifCond .ne 12, 3) := by decide +kernel
theorem dX10_polygon_25 : decode cX10_polygon 25 = .ok (.aload_n 0, 1) := by decide +kernel
theorem dX10_polygon_26 : decode cX10_polygon 26 = .ok (.iload_n 1, 1) := by decide +kernel
theorem dX10_polygon_27 : decode cX10_polygon 27 = .ok (.iload_n 2, 1) := by decide +kernel
theorem dX10_polygon_28 : decode cX10_polygon 28 = .ok (.iload_n 3, 1) := by decide +kernel
theorem dX10_polygon_29 : decode cX10_polygon 29 = .ok (.invokevirtual 205, 3) := by decide +kernel
theorem dX10_polygon_32 : decode cX10_polygon 32 = .ok (.istore 4, 2) := by decide +kernel
theorem dX10_polygon_34 : decode cX10_polygon 34 = .ok (.iload 4, 2) := by decide +kernel
theorem dX10_polygon_36 : decode cX10_polygon 36 = .ok (.ifCond .ne 12, 3) := by decide +kernel
theorem dX10_polygon_39 : decode cX10_polygon 39 = .ok (.aload_n 0, 1) := by decide +kernel
theorem dX10_polygon_40 : decode cX10_polygon 40 = .ok (.iload_n 1, 1) := by decide +kernel
theorem dX10_polygon_41 : decode cX10_polygon 41 = .ok (.iload_n 2, 1) := by decide +kernel
theorem dX10_polygon_42 : decode cX10_polygon 42 = .ok (.iload_n 3, 1) := by decide +kernel
theorem dX10_polygon_43 : decode cX10_polygon 43 = .ok (.invokevirtual 208, 3) := by decide +kernel
theorem dX10_polygon_46 : decode cX10_polygon 46 = .ok (.istore 4, 2) := by decide +kernel
theorem dX10_polygon_48 : decode cX10_polygon 48 = .ok (.iload 4, 2) := by decide +kernel
theorem dX10_polygon_50 : decode cX10_polygon 50 = .ok (.ifCond .ne 13, 3) := by decide +kernel
theorem dX10_polygon_53 : decode cX10_polygon 53 = .ok (.aload_n 0, 1) := by decide +kernel
theorem dX10_polygon_54 : decode cX10_polygon 54 = .ok (.iload_n 1, 1) := by decide +kernel
theorem dX10_polygon_55 : decode cX10_polygon 55 = .ok (.iload_n 2, 1) := by decide +kernel
theorem dX10_polygon_56 : decode cX10_polygon 56 = .ok (.iload_n 3, 1) := by decide +kernel
theorem dX10_polygon_57 : decode cX10_polygon 57 = .ok (.invokevirtual 211, 3) := by decide +kernel
theorem dX10_polygon_60 : decode cX10_polygon 60 = .ok (.goto 5, 3) := by decide +kernel
theorem dX10_polygon_63 : decode cX10_polygon 63 = .ok (.iload 4, 2) := by decide +kernel
theorem dX10_polygon_65 : decode cX10_polygon 65 = .ok (.ireturn, 1) := by decide +kernel
theorem dX10_isPart_0 : decode cX10_isPart 0 = .ok (.aload_n 0, 1) := by decide +kernel
theorem dX10_isPart_1 : decode cX10_isPart 1 = .ok (.getfield 13, 3) := by decide +kernel
theorem dX10_isPart_4 : decode cX10_isPart 4 = .ok (.iload_n 1, 1) := by decide +kernel
theorem dX10_isPart_5 : decode cX10_isPart 5 = .ok (.iaload, 1) := by decide +kernel
theorem dX10_isPart_6 : decode cX10_isPart 6 = .ok (.iload_n 2, 1) := by decide +kernel
theorem dX10_isPart_7 : decode cX10_isPart 7 = .ok (.if_icmp .ne 16, 3) := by decide +kernel
theorem dX10_isPart_10 : decode cX10_isPart 10 = .ok (.aload_n 0, 1) := by decide +kernel
theorem dX10_isPart_11 : decode cX10_isPart 11 = .ok (.getfield 28, 3) := by decide +kernel
theorem dX10_isPart_14 : decode cX10_isPart 14 = .ok (.iload_n 1, 1) := by decide +kernel
theorem dX10_isPart_15 : decode cX10_isPart 15 = .ok (.iaload, 1) := by decide +kernel
theorem dX10_isPart_16 : decode cX10_isPart 16 = .ok (.ifCond .le 7, 3) := by decide +kernel
theorem dX10_isPart_19 : decode cX10_isPart 19 = .ok (.iconst 1, 1) := by decide +kernel
theorem dX10_isPart_20 : decode cX10_isPart 20 = .ok (.goto 4, 3) := by decide +kernel
theorem dX10_isPart_23 : decode cX10_isPart 23 = .ok (.iconst 0, 1) := by decide +kernel
theorem dX10_isPart_24 : decode cX10_isPart 24 = .ok (.ireturn, 1) := by decide +kernel
theorem dX10_against_0 : decode cX10_against 0 = .ok (.iload_n 2, 1) := by decide +kernel
theorem dX10_against_1 : decode cX10_against 1 = .ok (.iconst 1, 1) := by decide +kernel
theorem dX10_against_2 : decode cX10_against 2 = .ok (.iadd, 1) := by decide +kernel
theorem dX10_against_3 : decode cX10_against 3 = .ok (.istore 5, 2) := by decide +kernel
theorem dX10_against_5 : decode cX10_against 5 = .ok (.iload 5, 2) := by decide +kernel
theorem dX10_against_7 : decode cX10_against 7 = .ok (.aload_n 0, 1) := by decide +kernel
theorem dX10_against_8 : decode cX10_against 8 = .ok (.getfield 59, 3) := by decide +kernel
theorem dX10_against_11 : decode cX10_against 11 = .ok (.if_icmp .ge 190, 3) := by decide +kernel
theorem dX10_against_14 : decode cX10_against 14 = .ok (.aload_n 0, 1) := by decide +kernel
theorem dX10_against_15 : decode cX10_against 15 = .ok (.iload 5, 2) := by decide +kernel
theorem dX10_against_17 : decode cX10_against 17 = .ok (.iload_n 1, 1) := by decide +kernel
theorem dX10_against_18 : decode cX10_against 18 = .ok (.invokevirtual 214, 3) := by decide +kernel
theorem dX10_against_21 : decode cX10_against 21 = .ok (.ifCond .eq 21, 3) := by decide +kernel
theorem dX10_against_24 : decode cX10_against 24 = .ok (.aload_n 0, 1) := by decide +kernel
theorem dX10_against_25 : decode cX10_against 25 = .ok (.getfield 25, 3) := by decide +kernel
theorem dX10_against_28 : decode cX10_against 28 = .ok (.iload 5, 2) := by decide +kernel
theorem dX10_against_30 : decode cX10_against 30 = .ok (.iaload, 1) := by decide +kernel
theorem dX10_against_31 : decode cX10_against 31 = .ok (.aload_n 0, 1) := by decide +kernel
theorem dX10_against_32 : decode cX10_against 32 = .ok (.getfield 28, 3) := by decide +kernel
theorem dX10_against_35 : decode cX10_against 35 = .ok (.iload 5, 2) := by decide +kernel
theorem dX10_against_37 : decode cX10_against 37 = .ok (.iaload, 1) := by decide +kernel
theorem dX10_against_38 : decode cX10_against 38 = .ok (.iadd, 1) := by decide +kernel
theorem dX10_against_39 : decode cX10_against 39 = .ok (.goto 10, 3) := by decide +kernel
theorem dX10_against_42 : decode cX10_against 42 = .ok (.aload_n 0, 1) := by decide +kernel
theorem dX10_against_43 : decode cX10_against 43 = .ok (.getfield 25, 3) := by decide +kernel
theorem dX10_against_46 : decode cX10_against 46 = .ok (.iload 5, 2) := by decide +kernel
theorem dX10_against_48 : decode cX10_against 48 = .ok (.iaload, 1) := by decide +kernel
theorem dX10_against_49 : decode cX10_against 49 = .ok (.istore 6, 2) := by decide +kernel
theorem dX10_against_51 : decode cX10_against 51 = .ok (.aload_n 0, 1) := by decide +kernel
theorem dX10_against_52 : decode cX10_against 52 = .ok (.getfield 25, 3) := by decide +kernel
theorem dX10_against_55 : decode cX10_against 55 = .ok (.iload 5, 2) := by decide +kernel
theorem dX10_against_57 : decode cX10_against 57 = .ok (.iaload, 1) := by decide +kernel
theorem dX10_against_58 : decode cX10_against 58 = .ok (.istore 7, 2) := by decide +kernel
theorem dX10_against_60 : decode cX10_against 60 = .ok (.iload 7, 2) := by decide +kernel
theorem dX10_against_62 : decode cX10_against 62 = .ok (.iload 6, 2) := by decide +kernel
theorem dX10_against_64 : decode cX10_against 64 = .ok (.if_icmp .ge 131, 3) := by decide +kernel
theorem dX10_against_67 : decode cX10_against 67 = .ok (.aload_n 0, 1) := by decide +kernel
theorem dX10_against_68 : decode cX10_against 68 = .ok (.getfield 31, 3) := by decide +kernel
theorem dX10_against_71 : decode cX10_against 71 = .ok (.iload 7, 2) := by decide +kernel
theorem dX10_against_73 : decode cX10_against 73 = .ok (.iaload, 1) := by decide +kernel
theorem dX10_against_74 : decode cX10_against 74 = .ok (.istore 8, 2) := by decide +kernel
theorem dX10_against_76 : decode cX10_against 76 = .ok (.iload 8, 2) := by decide +kernel
theorem dX10_against_78 : decode cX10_against 78 = .ok (.aload_n 0, 1) := by decide +kernel
theorem dX10_against_79 : decode cX10_against 79 = .ok (.iload 7, 2) := by decide +kernel
theorem dX10_against_81 : decode cX10_against 81 = .ok (.invokevirtual 129, 3) := by decide +kernel
theorem dX10_against_84 : decode cX10_against 84 = .ok (.if_icmp .ge 105, 3) := by decide +kernel
theorem dX10_against_87 : decode cX10_against 87 = .ok (.aload_n 0, 1) := by decide +kernel
theorem dX10_against_88 : decode cX10_against 88 = .ok (.iload 8, 2) := by decide +kernel
theorem dX10_against_90 : decode cX10_against 90 = .ok (.invokevirtual 132, 3) := by decide +kernel
theorem dX10_against_93 : decode cX10_against 93 = .ok (.ifCond .eq 17, 3) := by decide +kernel
theorem dX10_against_96 : decode cX10_against 96 = .ok (.aload_n 0, 1) := by decide +kernel
theorem dX10_against_97 : decode cX10_against 97 = .ok (.iload_n 3, 1) := by decide +kernel
theorem dX10_against_98 : decode cX10_against 98 = .ok (.iload 4, 2) := by decide +kernel
theorem dX10_against_100 : decode cX10_against 100 = .ok (.iload 7, 2) := by decide +kernel
theorem dX10_against_102 : decode cX10_against 102 = .ok (.iload 8, 2) := by decide +kernel
theorem dX10_against_104 : decode cX10_against 104 = .ok (.invokevirtual 185, 3) := by decide +kernel
theorem dX10_against_107 : decode cX10_against 107 = .ok (.goto 4, 3) := by decide +kernel
theorem dX10_against_110 : decode cX10_against 110 = .ok (.iconst 0, 1) := by decide +kernel
theorem dX10_against_111 : decode cX10_against 111 = .ok (.istore 9, 2) := by decide +kernel
theorem dX10_against_113 : decode cX10_against 113 = .ok (.iload 9, 2) := by decide +kernel
theorem dX10_against_115 : decode cX10_against 115 = .ok (.ifCond .le 68, 3) := by decide +kernel
theorem dX10_against_118 : decode cX10_against 118 = .ok (.aload_n 0, 1) := by decide +kernel
theorem dX10_against_119 : decode cX10_against 119 = .ok (.aload_n 0, 1) := by decide +kernel
theorem dX10_against_120 : decode cX10_against 120 = .ok (.getfield 16, 3) := by decide +kernel
theorem dX10_against_123 : decode cX10_against 123 = .ok (.iload 5, 2) := by decide +kernel
theorem dX10_against_125 : decode cX10_against 125 = .ok (.iaload, 1) := by decide +kernel
theorem dX10_against_126 : decode cX10_against 126 = .ok (.iload 7, 2) := by decide +kernel
theorem dX10_against_128 : decode cX10_against 128 = .ok (.aload_n 0, 1) := by decide +kernel
theorem dX10_against_129 : decode cX10_against 129 = .ok (.getfield 25, 3) := by decide +kernel
theorem dX10_against_132 : decode cX10_against 132 = .ok (.iload 5, 2) := by decide +kernel
theorem dX10_against_134 : decode cX10_against 134 = .ok (.iaload, 1) := by decide +kernel
theorem dX10_against_135 : decode cX10_against 135 = .ok (.isub, 1) := by decide +kernel
theorem dX10_against_136 : decode cX10_against 136 = .ok (.iload 8, 2) := by decide +kernel
theorem dX10_against_138 : decode cX10_against 138 = .ok (.aload_n 0, 1) := by decide +kernel
theorem dX10_against_139 : decode cX10_against 139 = .ok (.getfield 31, 3) := by decide +kernel
theorem dX10_against_142 : decode cX10_against 142 = .ok (.iload 7, 2) := by decide +kernel
theorem dX10_against_144 : decode cX10_against 144 = .ok (.iaload, 1) := by decide +kernel
theorem dX10_against_145 : decode cX10_against 145 = .ok (.isub, 1) := by decide +kernel
theorem dX10_against_146 : decode cX10_against 146 = .ok (.invokevirtual 188, 3) := by decide +kernel
theorem dX10_against_149 : decode cX10_against 149 = .ok (.aload_n 0, 1) := by decide +kernel
theorem dX10_against_150 : decode cX10_against 150 = .ok (.iload 9, 2) := by decide +kernel
theorem dX10_against_152 : decode cX10_against 152 = .ok (.bipush 6, 2) := by decide +kernel
theorem dX10_against_154 : decode cX10_against 154 = .ok (.iadd, 1) := by decide +kernel
theorem dX10_against_155 : decode cX10_against 155 = .ok (.iload_n 1, 1) := by decide +kernel
theorem dX10_against_156 : decode cX10_against 156 = .ok (.aload_n 0, 1) := by decide +kernel
theorem dX10_against_157 : decode cX10_against 157 = .ok (.getfield 16, 3) := by decide +kernel
theorem dX10_against_160 : decode cX10_against 160 = .ok (.iload_n 2, 1) := by decide +kernel
theorem dX10_against_161 : decode cX10_against 161 = .ok (.iaload, 1) := by decide +kernel
theorem dX10_against_162 : decode cX10_against 162 = .ok (.iload_n 3, 1) := by decide +kernel
theorem dX10_against_163 : decode cX10_against 163 = .ok (.aload_n 0, 1) := by decide +kernel
theorem dX10_against_164 : decode cX10_against 164 = .ok (.getfield 25, 3) := by decide +kernel
theorem dX10_against_167 : decode cX10_against 167 = .ok (.iload_n 2, 1) := by decide +kernel
theorem dX10_against_168 : decode cX10_against 168 = .ok (.iaload, 1) := by decide +kernel
theorem dX10_against_169 : decode cX10_against 169 = .ok (.isub, 1) := by decide +kernel
theorem dX10_against_170 : decode cX10_against 170 = .ok (.iload 4, 2) := by decide +kernel
theorem dX10_against_172 : decode cX10_against 172 = .ok (.aload_n 0, 1) := by decide +kernel
theorem dX10_against_173 : decode cX10_against 173 = .ok (.getfield 31, 3) := by decide +kernel
theorem dX10_against_176 : decode cX10_against 176 = .ok (.iload_n 3, 1) := by decide +kernel
theorem dX10_against_177 : decode cX10_against 177 = .ok (.iaload, 1) := by decide +kernel
theorem dX10_against_178 : decode cX10_against 178 = .ok (.isub, 1) := by decide +kernel
theorem dX10_against_179 : decode cX10_against 179 = .ok (.invokevirtual 178, 3) := by decide +kernel
theorem dX10_against_182 : decode cX10_against 182 = .ok (.ireturn, 1) := by decide +kernel
theorem dX10_against_183 : decode cX10_against 183 = .ok (.iinc 8 1, 3) := by decide +kernel
theorem dX10_against_186 : decode cX10_against 186 = .ok (.goto (-110), 3) := by decide +kernel
theorem dX10_against_189 : decode cX10_against 189 = .ok (.iinc 7 1, 3) := by decide +kernel
theorem dX10_against_192 : decode cX10_against 192 = .ok (.goto (-132), 3) := by decide +kernel
theorem dX10_against_195 : decode cX10_against 195 = .ok (.iinc 5 1, 3) := by decide +kernel
theorem dX10_against_198 : decode cX10_against 198 = .ok (.goto (-193), 3) := by decide +kernel
theorem dX10_against_201 : decode cX10_against 201 = .ok (.iconst 0, 1) := by decide +kernel
theorem dX10_against_202 : decode cX10_against 202 = .ok (.ireturn, 1) := by decide +kernel
theorem dX10_apart_0 : decode cX10_apart 0 = .ok (.iconst 0, 1) := by decide +kernel
theorem dX10_apart_1 : decode cX10_apart 1 = .ok (.istore_n 2, 1) := by decide +kernel
theorem dX10_apart_2 : decode cX10_apart 2 = .ok (.iload_n 2, 1) := by decide +kernel
theorem dX10_apart_3 : decode cX10_apart 3 = .ok (.aload_n 0, 1) := by decide +kernel
theorem dX10_apart_4 : decode cX10_apart 4 = .ok (.getfield 59, 3) := by decide +kernel
theorem dX10_apart_7 : decode cX10_apart 7 = .ok (.if_icmp .ge 120, 3) := by decide +kernel
theorem dX10_apart_10 : decode cX10_apart 10 = .ok (.aload_n 0, 1) := by decide +kernel
theorem dX10_apart_11 : decode cX10_apart 11 = .ok (.iload_n 2, 1) := by decide +kernel
theorem dX10_apart_12 : decode cX10_apart 12 = .ok (.iload_n 1, 1) := by decide +kernel
theorem dX10_apart_13 : decode cX10_apart 13 = .ok (.invokevirtual 214, 3) := by decide +kernel
theorem dX10_apart_16 : decode cX10_apart 16 = .ok (.ifCond .eq 19, 3) := by decide +kernel
theorem dX10_apart_19 : decode cX10_apart 19 = .ok (.aload_n 0, 1) := by decide +kernel
theorem dX10_apart_20 : decode cX10_apart 20 = .ok (.getfield 25, 3) := by decide +kernel
theorem dX10_apart_23 : decode cX10_apart 23 = .ok (.iload_n 2, 1) := by decide +kernel
theorem dX10_apart_24 : decode cX10_apart 24 = .ok (.iaload, 1) := by decide +kernel
theorem dX10_apart_25 : decode cX10_apart 25 = .ok (.aload_n 0, 1) := by decide +kernel
theorem dX10_apart_26 : decode cX10_apart 26 = .ok (.getfield 28, 3) := by decide +kernel
theorem dX10_apart_29 : decode cX10_apart 29 = .ok (.iload_n 2, 1) := by decide +kernel
theorem dX10_apart_30 : decode cX10_apart 30 = .ok (.iaload, 1) := by decide +kernel
theorem dX10_apart_31 : decode cX10_apart 31 = .ok (.iadd, 1) := by decide +kernel
theorem dX10_apart_32 : decode cX10_apart 32 = .ok (.goto 9, 3) := by decide +kernel
theorem dX10_apart_35 : decode cX10_apart 35 = .ok (.aload_n 0, 1) := by decide +kernel
theorem dX10_apart_36 : decode cX10_apart 36 = .ok (.getfield 25, 3) := by decide +kernel
theorem dX10_apart_39 : decode cX10_apart 39 = .ok (.iload_n 2, 1) := by decide +kernel
theorem dX10_apart_40 : decode cX10_apart 40 = .ok (.iaload, 1) := by decide +kernel
theorem dX10_apart_41 : decode cX10_apart 41 = .ok (.istore_n 3, 1) := by decide +kernel
theorem dX10_apart_42 : decode cX10_apart 42 = .ok (.aload_n 0, 1) := by decide +kernel
theorem dX10_apart_43 : decode cX10_apart 43 = .ok (.getfield 25, 3) := by decide +kernel
theorem dX10_apart_46 : decode cX10_apart 46 = .ok (.iload_n 2, 1) := by decide +kernel
theorem dX10_apart_47 : decode cX10_apart 47 = .ok (.iaload, 1) := by decide +kernel
theorem dX10_apart_48 : decode cX10_apart 48 = .ok (.istore 4, 2) := by decide +kernel
theorem dX10_apart_50 : decode cX10_apart 50 = .ok (.iload 4, 2) := by decide +kernel
theorem dX10_apart_52 : decode cX10_apart 52 = .ok (.iload_n 3, 1) := by decide +kernel
theorem dX10_apart_53 : decode cX10_apart 53 = .ok (.if_icmp .ge 68, 3) := by decide +kernel
theorem dX10_apart_56 : decode cX10_apart 56 = .ok (.aload_n 0, 1) := by decide +kernel
theorem dX10_apart_57 : decode cX10_apart 57 = .ok (.getfield 31, 3) := by decide +kernel
theorem dX10_apart_60 : decode cX10_apart 60 = .ok (.iload 4, 2) := by decide +kernel
theorem dX10_apart_62 : decode cX10_apart 62 = .ok (.iaload, 1) := by decide +kernel
theorem dX10_apart_63 : decode cX10_apart 63 = .ok (.istore 5, 2) := by decide +kernel
theorem dX10_apart_65 : decode cX10_apart 65 = .ok (.iload 5, 2) := by decide +kernel
theorem dX10_apart_67 : decode cX10_apart 67 = .ok (.aload_n 0, 1) := by decide +kernel
theorem dX10_apart_68 : decode cX10_apart 68 = .ok (.iload 4, 2) := by decide +kernel
theorem dX10_apart_70 : decode cX10_apart 70 = .ok (.invokevirtual 129, 3) := by decide +kernel
theorem dX10_apart_73 : decode cX10_apart 73 = .ok (.if_icmp .ge 42, 3) := by decide +kernel
theorem dX10_apart_76 : decode cX10_apart 76 = .ok (.aload_n 0, 1) := by decide +kernel
theorem dX10_apart_77 : decode cX10_apart 77 = .ok (.iload 5, 2) := by decide +kernel
theorem dX10_apart_79 : decode cX10_apart 79 = .ok (.invokevirtual 132, 3) := by decide +kernel
theorem dX10_apart_82 : decode cX10_apart 82 = .ok (.ifCond .eq 16, 3) := by decide +kernel
theorem dX10_apart_85 : decode cX10_apart 85 = .ok (.aload_n 0, 1) := by decide +kernel
theorem dX10_apart_86 : decode cX10_apart 86 = .ok (.iload_n 1, 1) := by decide +kernel
theorem dX10_apart_87 : decode cX10_apart 87 = .ok (.iload_n 2, 1) := by decide +kernel
theorem dX10_apart_88 : decode cX10_apart 88 = .ok (.iload 4, 2) := by decide +kernel
theorem dX10_apart_90 : decode cX10_apart 90 = .ok (.iload 5, 2) := by decide +kernel
theorem dX10_apart_92 : decode cX10_apart 92 = .ok (.invokevirtual 217, 3) := by decide +kernel
theorem dX10_apart_95 : decode cX10_apart 95 = .ok (.goto 4, 3) := by decide +kernel
theorem dX10_apart_98 : decode cX10_apart 98 = .ok (.iconst 0, 1) := by decide +kernel
theorem dX10_apart_99 : decode cX10_apart 99 = .ok (.istore 6, 2) := by decide +kernel
theorem dX10_apart_101 : decode cX10_apart 101 = .ok (.iload 6, 2) := by decide +kernel
theorem dX10_apart_103 : decode cX10_apart 103 = .ok (.ifCond .le 6, 3) := by decide +kernel
theorem dX10_apart_106 : decode cX10_apart 106 = .ok (.iload 6, 2) := by decide +kernel
theorem dX10_apart_108 : decode cX10_apart 108 = .ok (.ireturn, 1) := by decide +kernel
theorem dX10_apart_109 : decode cX10_apart 109 = .ok (.iinc 5 1, 3) := by decide +kernel
theorem dX10_apart_112 : decode cX10_apart 112 = .ok (.goto (-47), 3) := by decide +kernel
theorem dX10_apart_115 : decode cX10_apart 115 = .ok (.iinc 4 1, 3) := by decide +kernel
theorem dX10_apart_118 : decode cX10_apart 118 = .ok (.goto (-68), 3) := by decide +kernel
theorem dX10_apart_121 : decode cX10_apart 121 = .ok (.iinc 2 1, 3) := by decide +kernel
theorem dX10_apart_124 : decode cX10_apart 124 = .ok (.goto (-122), 3) := by decide +kernel
theorem dX10_apart_127 : decode cX10_apart 127 = .ok (.iconst 0, 1) := by decide +kernel
theorem dX10_apart_128 : decode cX10_apart 128 = .ok (.ireturn, 1) := by decide +kernel
theorem dX10_isInside_0 : decode cX10_isInside 0 = .ok (.aload_n 0, 1) := by decide +kernel
theorem dX10_isInside_1 : decode cX10_isInside 1 = .ok (.aload_n 0, 1) := by decide +kernel
theorem dX10_isInside_2 : decode cX10_isInside 2 = .ok (.getfield 25, 3) := by decide +kernel
theorem dX10_isInside_5 : decode cX10_isInside 5 = .ok (.iload_n 1, 1) := by decide +kernel
theorem dX10_isInside_6 : decode cX10_isInside 6 = .ok (.iaload, 1) := by decide +kernel
theorem dX10_isInside_7 : decode cX10_isInside 7 = .ok (.aload_n 0, 1) := by decide +kernel
theorem dX10_isInside_8 : decode cX10_isInside 8 = .ok (.getfield 25, 3) := by decide +kernel
theorem dX10_isInside_11 : decode cX10_isInside 11 = .ok (.iload_n 2, 1) := by decide +kernel
theorem dX10_isInside_12 : decode cX10_isInside 12 = .ok (.iaload, 1) := by decide +kernel
theorem dX10_isInside_13 : decode cX10_isInside 13 = .ok (.invokevirtual 192, 3) := by decide +kernel
theorem dX10_isInside_16 : decode cX10_isInside 16 = .ok (.istore_n 3, 1) := by decide +kernel
theorem dX10_isInside_17 : decode cX10_isInside 17 = .ok (.iconst 1, 1) := by decide +kernel
theorem dX10_isInside_18 : decode cX10_isInside 18 = .ok (.istore 4, 2) := by decide +kernel
theorem dX10_isInside_20 : decode cX10_isInside 20 = .ok (.iload 4, 2) := by decide +kernel
theorem dX10_isInside_22 : decode cX10_isInside 22 = .ok (.aload_n 0, 1) := by decide +kernel
theorem dX10_isInside_23 : decode cX10_isInside 23 = .ok (.getfield 28, 3) := by decide +kernel
theorem dX10_isInside_26 : decode cX10_isInside 26 = .ok (.iload_n 2, 1) := by decide +kernel
theorem dX10_isInside_27 : decode cX10_isInside 27 = .ok (.iaload, 1) := by decide +kernel
theorem dX10_isInside_28 : decode cX10_isInside 28 = .ok (.if_icmp .ge 41, 3) := by decide +kernel
theorem dX10_isInside_31 : decode cX10_isInside 31 = .ok (.iload_n 3, 1) := by decide +kernel
theorem dX10_isInside_32 : decode cX10_isInside 32 = .ok (.ifCond .eq 37, 3) := by decide +kernel
theorem dX10_isInside_35 : decode cX10_isInside 35 = .ok (.aload_n 0, 1) := by decide +kernel
theorem dX10_isInside_36 : decode cX10_isInside 36 = .ok (.aload_n 0, 1) := by decide +kernel
theorem dX10_isInside_37 : decode cX10_isInside 37 = .ok (.getfield 25, 3) := by decide +kernel
theorem dX10_isInside_40 : decode cX10_isInside 40 = .ok (.iload_n 1, 1) := by decide +kernel
theorem dX10_isInside_41 : decode cX10_isInside 41 = .ok (.iaload, 1) := by decide +kernel
theorem dX10_isInside_42 : decode cX10_isInside 42 = .ok (.aload_n 0, 1) := by decide +kernel
theorem dX10_isInside_43 : decode cX10_isInside 43 = .ok (.getfield 25, 3) := by decide +kernel
theorem dX10_isInside_46 : decode cX10_isInside 46 = .ok (.iload_n 2, 1) := by decide +kernel
theorem dX10_isInside_47 : decode cX10_isInside 47 = .ok (.iaload, 1) := by decide +kernel
theorem dX10_isInside_48 : decode cX10_isInside 48 = .ok (.iload 4, 2) := by decide +kernel
theorem dX10_isInside_50 : decode cX10_isInside 50 = .ok (.iadd, 1) := by decide +kernel
theorem dX10_isInside_51 : decode cX10_isInside 51 = .ok (.invokevirtual 192, 3) := by decide +kernel
theorem dX10_isInside_54 : decode cX10_isInside 54 = .ok (.ifCond .ne 7, 3) := by decide +kernel
theorem dX10_isInside_57 : decode cX10_isInside 57 = .ok (.iconst 1, 1) := by decide +kernel
theorem dX10_isInside_58 : decode cX10_isInside 58 = .ok (.goto 4, 3) := by decide +kernel
theorem dX10_isInside_61 : decode cX10_isInside 61 = .ok (.iconst 0, 1) := by decide +kernel
theorem dX10_isInside_62 : decode cX10_isInside 62 = .ok (.istore_n 3, 1) := by decide +kernel
theorem dX10_isInside_63 : decode cX10_isInside 63 = .ok (.iinc 4 1, 3) := by decide +kernel
theorem dX10_isInside_66 : decode cX10_isInside 66 = .ok (.goto (-46), 3) := by decide +kernel
theorem dX10_isInside_69 : decode cX10_isInside 69 = .ok (.iload_n 3, 1) := by decide +kernel
theorem dX10_isInside_70 : decode cX10_isInside 70 = .ok (.ireturn, 1) := by decide +kernel
theorem dX10_polygons_0 : decode cX10_polygons 0 = .ok (.iload_n 1, 1) := by decide +kernel
theorem dX10_polygons_1 : decode cX10_polygons 1 = .ok (.iconst 1, 1) := by decide +kernel
theorem dX10_polygons_2 : decode cX10_polygons 2 = .ok (.iadd, 1) := by decide +kernel
theorem dX10_polygons_3 : decode cX10_polygons 3 = .ok (.istore_n 2, 1) := by decide +kernel
theorem dX10_polygons_4 : decode cX10_polygons 4 = .ok (.iload_n 2, 1) := by decide +kernel
theorem dX10_polygons_5 : decode cX10_polygons 5 = .ok (.aload_n 0, 1) := by decide +kernel
theorem dX10_polygons_6 : decode cX10_polygons 6 = .ok (.getfield 59, 3) := by decide +kernel
theorem dX10_polygons_9 : decode cX10_polygons 9 = .ok (.if_icmp .ge 41, 3) := by decide +kernel
theorem dX10_polygons_12 : decode cX10_polygons 12 = .ok (.aload_n 0, 1) := by decide +kernel
theorem dX10_polygons_13 : decode cX10_polygons 13 = .ok (.iload_n 2, 1) := by decide +kernel
theorem dX10_polygons_14 : decode cX10_polygons 14 = .ok (.iload_n 1, 1) := by decide +kernel
theorem dX10_polygons_15 : decode cX10_polygons 15 = .ok (.invokevirtual 214, 3) := by decide +kernel
theorem dX10_polygons_18 : decode cX10_polygons 18 = .ok (.ifCond .eq 18, 3) := by decide +kernel
theorem dX10_polygons_21 : decode cX10_polygons 21 = .ok (.aload_n 0, 1) := by decide +kernel
theorem dX10_polygons_22 : decode cX10_polygons 22 = .ok (.iload_n 2, 1) := by decide +kernel
theorem dX10_polygons_23 : decode cX10_polygons 23 = .ok (.iload_n 1, 1) := by decide +kernel
theorem dX10_polygons_24 : decode cX10_polygons 24 = .ok (.aload_n 0, 1) := by decide +kernel
theorem dX10_polygons_25 : decode cX10_polygons 25 = .ok (.getfield 16, 3) := by decide +kernel
theorem dX10_polygons_28 : decode cX10_polygons 28 = .ok (.iload_n 2, 1) := by decide +kernel
theorem dX10_polygons_29 : decode cX10_polygons 29 = .ok (.iaload, 1) := by decide +kernel
theorem dX10_polygons_30 : decode cX10_polygons 30 = .ok (.invokevirtual 220, 3) := by decide +kernel
theorem dX10_polygons_33 : decode cX10_polygons 33 = .ok (.goto 4, 3) := by decide +kernel
theorem dX10_polygons_36 : decode cX10_polygons 36 = .ok (.iconst 0, 1) := by decide +kernel
theorem dX10_polygons_37 : decode cX10_polygons 37 = .ok (.istore_n 3, 1) := by decide +kernel
theorem dX10_polygons_38 : decode cX10_polygons 38 = .ok (.iload_n 3, 1) := by decide +kernel
theorem dX10_polygons_39 : decode cX10_polygons 39 = .ok (.ifCond .le 5, 3) := by decide +kernel
theorem dX10_polygons_42 : decode cX10_polygons 42 = .ok (.iload_n 3, 1) := by decide +kernel
theorem dX10_polygons_43 : decode cX10_polygons 43 = .ok (.ireturn, 1) := by decide +kernel
theorem dX10_polygons_44 : decode cX10_polygons 44 = .ok (.iinc 2 1, 3) := by decide +kernel
theorem dX10_polygons_47 : decode cX10_polygons 47 = .ok (.goto (-43), 3) := by decide +kernel
theorem dX10_polygons_50 : decode cX10_polygons 50 = .ok (.aload_n 0, 1) := by decide +kernel
theorem dX10_polygons_51 : decode cX10_polygons 51 = .ok (.iload_n 1, 1) := by decide +kernel
theorem dX10_polygons_52 : decode cX10_polygons 52 = .ok (.invokevirtual 223, 3) := by decide +kernel
theorem dX10_polygons_55 : decode cX10_polygons 55 = .ok (.istore_n 2, 1) := by decide +kernel
theorem dX10_polygons_56 : decode cX10_polygons 56 = .ok (.iload_n 2, 1) := by decide +kernel
theorem dX10_polygons_57 : decode cX10_polygons 57 = .ok (.ifCond .le 5, 3) := by decide +kernel
theorem dX10_polygons_60 : decode cX10_polygons 60 = .ok (.iload_n 2, 1) := by decide +kernel
theorem dX10_polygons_61 : decode cX10_polygons 61 = .ok (.ireturn, 1) := by decide +kernel
theorem dX10_polygons_62 : decode cX10_polygons 62 = .ok (.iload_n 1, 1) := by decide +kernel
theorem dX10_polygons_63 : decode cX10_polygons 63 = .ok (.iconst 1, 1) := by decide +kernel
theorem dX10_polygons_64 : decode cX10_polygons 64 = .ok (.iadd, 1) := by decide +kernel
theorem dX10_polygons_65 : decode cX10_polygons 65 = .ok (.istore_n 3, 1) := by decide +kernel
theorem dX10_polygons_66 : decode cX10_polygons 66 = .ok (.iload_n 3, 1) := by decide +kernel
theorem dX10_polygons_67 : decode cX10_polygons 67 = .ok (.aload_n 0, 1) := by decide +kernel
theorem dX10_polygons_68 : decode cX10_polygons 68 = .ok (.getfield 59, 3) := by decide +kernel
theorem dX10_polygons_71 : decode cX10_polygons 71 = .ok (.if_icmp .ge 97, 3) := by decide +kernel
theorem dX10_polygons_74 : decode cX10_polygons 74 = .ok (.iload_n 3, 1) := by decide +kernel
theorem dX10_polygons_75 : decode cX10_polygons 75 = .ok (.iconst 1, 1) := by decide +kernel
theorem dX10_polygons_76 : decode cX10_polygons 76 = .ok (.iadd, 1) := by decide +kernel
theorem dX10_polygons_77 : decode cX10_polygons 77 = .ok (.istore 4, 2) := by decide +kernel
theorem dX10_polygons_79 : decode cX10_polygons 79 = .ok (.iload 4, 2) := by decide +kernel
theorem dX10_polygons_81 : decode cX10_polygons 81 = .ok (.aload_n 0, 1) := by decide +kernel
theorem dX10_polygons_82 : decode cX10_polygons 82 = .ok (.getfield 59, 3) := by decide +kernel
theorem dX10_polygons_85 : decode cX10_polygons 85 = .ok (.if_icmp .ge 77, 3) := by decide +kernel
theorem dX10_polygons_88 : decode cX10_polygons 88 = .ok (.aload_n 0, 1) := by decide +kernel
theorem dX10_polygons_89 : decode cX10_polygons 89 = .ok (.iload_n 3, 1) := by decide +kernel
theorem dX10_polygons_90 : decode cX10_polygons 90 = .ok (.iload_n 1, 1) := by decide +kernel
theorem dX10_polygons_91 : decode cX10_polygons 91 = .ok (.invokevirtual 214, 3) := by decide +kernel
theorem dX10_polygons_94 : decode cX10_polygons 94 = .ok (.ifCond .eq 68, 3) := by decide +kernel
theorem dX10_polygons_97 : decode cX10_polygons 97 = .ok (.aload_n 0, 1) := by decide +kernel
theorem dX10_polygons_98 : decode cX10_polygons 98 = .ok (.iload 4, 2) := by decide +kernel
theorem dX10_polygons_100 : decode cX10_polygons 100 = .ok (.iload_n 1, 1) := by decide +kernel
theorem dX10_polygons_101 : decode cX10_polygons 101 = .ok (.invokevirtual 214, 3) := by decide +kernel
theorem dX10_polygons_104 : decode cX10_polygons 104 = .ok (.ifCond .eq 52, 3) := by decide +kernel
theorem dX10_polygons_107 : decode cX10_polygons 107 = .ok (.aload_n 0, 1) := by decide +kernel
theorem dX10_polygons_108 : decode cX10_polygons 108 = .ok (.iload_n 3, 1) := by decide +kernel
theorem dX10_polygons_109 : decode cX10_polygons 109 = .ok (.iload 4, 2) := by decide +kernel
theorem dX10_polygons_111 : decode cX10_polygons 111 = .ok (.invokevirtual 226, 3) := by decide +kernel
theorem dX10_polygons_114 : decode cX10_polygons 114 = .ok (.ifCond .ne 13, 3) := by decide +kernel
theorem dX10_polygons_117 : decode cX10_polygons 117 = .ok (.aload_n 0, 1) := by decide +kernel
theorem dX10_polygons_118 : decode cX10_polygons 118 = .ok (.iload 4, 2) := by decide +kernel
theorem dX10_polygons_120 : decode cX10_polygons 120 = .ok (.iload_n 3, 1) := by decide +kernel
theorem dX10_polygons_121 : decode cX10_polygons 121 = .ok (.invokevirtual 226, 3) := by decide +kernel
theorem dX10_polygons_124 : decode cX10_polygons 124 = .ok (.ifCond .eq 32, 3) := by decide +kernel
theorem dX10_polygons_127 : decode cX10_polygons 127 = .ok (.aload_n 0, 1) := by decide +kernel
theorem dX10_polygons_128 : decode cX10_polygons 128 = .ok (.aload_n 0, 1) := by decide +kernel
theorem dX10_polygons_129 : decode cX10_polygons 129 = .ok (.getfield 16, 3) := by decide +kernel
theorem dX10_polygons_132 : decode cX10_polygons 132 = .ok (.iload 4, 2) := by decide +kernel
theorem dX10_polygons_134 : decode cX10_polygons 134 = .ok (.iaload, 1) := by decide +kernel
theorem dX10_polygons_135 : decode cX10_polygons 135 = .ok (.iconst (-1), 1) := by decide +kernel
theorem dX10_polygons_136 : decode cX10_polygons 136 = .ok (.iconst (-1), 1) := by decide +kernel
theorem dX10_polygons_137 : decode cX10_polygons 137 = .ok (.invokevirtual 188, 3) := by decide +kernel
theorem dX10_polygons_140 : decode cX10_polygons 140 = .ok (.aload_n 0, 1) := by decide +kernel
theorem dX10_polygons_141 : decode cX10_polygons 141 = .ok (.bipush 11, 2) := by decide +kernel
theorem dX10_polygons_143 : decode cX10_polygons 143 = .ok (.iload_n 1, 1) := by decide +kernel
theorem dX10_polygons_144 : decode cX10_polygons 144 = .ok (.aload_n 0, 1) := by decide +kernel
theorem dX10_polygons_145 : decode cX10_polygons 145 = .ok (.getfield 16, 3) := by decide +kernel
theorem dX10_polygons_148 : decode cX10_polygons 148 = .ok (.iload_n 3, 1) := by decide +kernel
theorem dX10_polygons_149 : decode cX10_polygons 149 = .ok (.iaload, 1) := by decide +kernel
theorem dX10_polygons_150 : decode cX10_polygons 150 = .ok (.iconst (-1), 1) := by decide +kernel
theorem dX10_polygons_151 : decode cX10_polygons 151 = .ok (.iconst (-1), 1) := by decide +kernel
theorem dX10_polygons_152 : decode cX10_polygons 152 = .ok (.invokevirtual 178, 3) := by decide +kernel
theorem dX10_polygons_155 : decode cX10_polygons 155 = .ok (.ireturn, 1) := by decide +kernel
theorem dX10_polygons_156 : decode cX10_polygons 156 = .ok (.iinc 4 1, 3) := by decide +kernel
theorem dX10_polygons_159 : decode cX10_polygons 159 = .ok (.goto (-80), 3) := by decide +kernel
theorem dX10_polygons_162 : decode cX10_polygons 162 = .ok (.iinc 3 1, 3) := by decide +kernel
theorem dX10_polygons_165 : decode cX10_polygons 165 = .ok (.goto (-99), 3) := by decide +kernel
theorem dX10_polygons_168 : decode cX10_polygons 168 = .ok (.iconst 0, 1) := by decide +kernel
theorem dX10_polygons_169 : decode cX10_polygons 169 = .ok (.ireturn, 1) := by decide +kernel
theorem dX10_judge_0 : decode cX10_judge 0 = .ok (.aload_n 0, 1) := by decide +kernel
theorem dX10_judge_1 : decode cX10_judge 1 = .ok (.iconst 0, 1) := by decide +kernel
theorem dX10_judge_2 : decode cX10_judge 2 = .ok (.putfield 52, 3) := by decide +kernel
theorem dX10_judge_5 : decode cX10_judge 5 = .ok (.aload_n 0, 1) := by decide +kernel
theorem dX10_judge_6 : decode cX10_judge 6 = .ok (.getfield 59, 3) := by decide +kernel
theorem dX10_judge_9 : decode cX10_judge 9 = .ok (.ifCond .eq 10, 3) := by decide +kernel
theorem dX10_judge_12 : decode cX10_judge 12 = .ok (.aload_n 0, 1) := by decide +kernel
theorem dX10_judge_13 : decode cX10_judge 13 = .ok (.getfield 68, 3) := by decide +kernel
theorem dX10_judge_16 : decode cX10_judge 16 = .ok (.ifCond .le 9, 3) := by decide +kernel
theorem dX10_judge_19 : decode cX10_judge 19 = .ok (.aload_n 0, 1) := by decide +kernel
theorem dX10_judge_20 : decode cX10_judge 20 = .ok (.iconst 1, 1) := by decide +kernel
theorem dX10_judge_21 : decode cX10_judge 21 = .ok (.invokevirtual 82, 3) := by decide +kernel
theorem dX10_judge_24 : decode cX10_judge 24 = .ok (.ireturn, 1) := by decide +kernel
theorem dX10_judge_25 : decode cX10_judge 25 = .ok (.aload_n 0, 1) := by decide +kernel
theorem dX10_judge_26 : decode cX10_judge 26 = .ok (.invokevirtual 71, 3) := by decide +kernel
theorem dX10_judge_29 : decode cX10_judge 29 = .ok (.iconst 0, 1) := by decide +kernel
theorem dX10_judge_30 : decode cX10_judge 30 = .ok (.istore_n 1, 1) := by decide +kernel
theorem dX10_judge_31 : decode cX10_judge 31 = .ok (.iload_n 1, 1) := by decide +kernel
theorem dX10_judge_32 : decode cX10_judge 32 = .ok (.aload_n 0, 1) := by decide +kernel
theorem dX10_judge_33 : decode cX10_judge 33 = .ok (.getfield 59, 3) := by decide +kernel
theorem dX10_judge_36 : decode cX10_judge 36 = .ok (.if_icmp .ge 101, 3) := by decide +kernel
theorem dX10_judge_39 : decode cX10_judge 39 = .ok (.iconst 0, 1) := by decide +kernel
theorem dX10_judge_40 : decode cX10_judge 40 = .ok (.istore_n 2, 1) := by decide +kernel
theorem dX10_judge_41 : decode cX10_judge 41 = .ok (.aload_n 0, 1) := by decide +kernel
theorem dX10_judge_42 : decode cX10_judge 42 = .ok (.getfield 7, 3) := by decide +kernel
theorem dX10_judge_45 : decode cX10_judge 45 = .ok (.iload_n 1, 1) := by decide +kernel
theorem dX10_judge_46 : decode cX10_judge 46 = .ok (.iaload, 1) := by decide +kernel
theorem dX10_judge_47 : decode cX10_judge 47 = .ok (.iconst 2, 1) := by decide +kernel
theorem dX10_judge_48 : decode cX10_judge 48 = .ok (.if_icmp .ne 42, 3) := by decide +kernel
theorem dX10_judge_51 : decode cX10_judge 51 = .ok (.aload_n 0, 1) := by decide +kernel
theorem dX10_judge_52 : decode cX10_judge 52 = .ok (.getfield 22, 3) := by decide +kernel
theorem dX10_judge_55 : decode cX10_judge 55 = .ok (.iload_n 1, 1) := by decide +kernel
theorem dX10_judge_56 : decode cX10_judge 56 = .ok (.iaload, 1) := by decide +kernel
theorem dX10_judge_57 : decode cX10_judge 57 = .ok (.ifCond .le 33, 3) := by decide +kernel
theorem dX10_judge_60 : decode cX10_judge 60 = .ok (.aload_n 0, 1) := by decide +kernel
theorem dX10_judge_61 : decode cX10_judge 61 = .ok (.aload_n 0, 1) := by decide +kernel
theorem dX10_judge_62 : decode cX10_judge 62 = .ok (.getfield 19, 3) := by decide +kernel
theorem dX10_judge_65 : decode cX10_judge 65 = .ok (.iload_n 1, 1) := by decide +kernel
theorem dX10_judge_66 : decode cX10_judge 66 = .ok (.iaload, 1) := by decide +kernel
theorem dX10_judge_67 : decode cX10_judge 67 = .ok (.aload_n 0, 1) := by decide +kernel
theorem dX10_judge_68 : decode cX10_judge 68 = .ok (.getfield 22, 3) := by decide +kernel
theorem dX10_judge_71 : decode cX10_judge 71 = .ok (.iload_n 1, 1) := by decide +kernel
theorem dX10_judge_72 : decode cX10_judge 72 = .ok (.iaload, 1) := by decide +kernel
theorem dX10_judge_73 : decode cX10_judge 73 = .ok (.iconst 2, 1) := by decide +kernel
theorem dX10_judge_74 : decode cX10_judge 74 = .ok (.invokevirtual 182, 3) := by decide +kernel
theorem dX10_judge_77 : decode cX10_judge 77 = .ok (.ifCond .eq 13, 3) := by decide +kernel
theorem dX10_judge_80 : decode cX10_judge 80 = .ok (.aload_n 0, 1) := by decide +kernel
theorem dX10_judge_81 : decode cX10_judge 81 = .ok (.iconst 2, 1) := by decide +kernel
theorem dX10_judge_82 : decode cX10_judge 82 = .ok (.iload_n 1, 1) := by decide +kernel
theorem dX10_judge_83 : decode cX10_judge 83 = .ok (.iconst (-1), 1) := by decide +kernel
theorem dX10_judge_84 : decode cX10_judge 84 = .ok (.iconst (-1), 1) := by decide +kernel
theorem dX10_judge_85 : decode cX10_judge 85 = .ok (.iconst (-1), 1) := by decide +kernel
theorem dX10_judge_86 : decode cX10_judge 86 = .ok (.invokevirtual 178, 3) := by decide +kernel
theorem dX10_judge_89 : decode cX10_judge 89 = .ok (.istore_n 2, 1) := by decide +kernel
theorem dX10_judge_90 : decode cX10_judge 90 = .ok (.aload_n 0, 1) := by decide +kernel
theorem dX10_judge_91 : decode cX10_judge 91 = .ok (.getfield 7, 3) := by decide +kernel
theorem dX10_judge_94 : decode cX10_judge 94 = .ok (.iload_n 1, 1) := by decide +kernel
theorem dX10_judge_95 : decode cX10_judge 95 = .ok (.iaload, 1) := by decide +kernel
theorem dX10_judge_96 : decode cX10_judge 96 = .ok (.iconst 3, 1) := by decide +kernel
theorem dX10_judge_97 : decode cX10_judge 97 = .ok (.if_icmp .ne 11, 3) := by decide +kernel
theorem dX10_judge_100 : decode cX10_judge 100 = .ok (.aload_n 0, 1) := by decide +kernel
theorem dX10_judge_101 : decode cX10_judge 101 = .ok (.iload_n 1, 1) := by decide +kernel
theorem dX10_judge_102 : decode cX10_judge 102 = .ok (.iload_n 1, 1) := by decide +kernel
theorem dX10_judge_103 : decode cX10_judge 103 = .ok (.iconst 0, 1) := by decide +kernel
theorem dX10_judge_104 : decode cX10_judge 104 = .ok (.invokevirtual 220, 3) := by decide +kernel
theorem dX10_judge_107 : decode cX10_judge 107 = .ok (.istore_n 2, 1) := by decide +kernel
theorem dX10_judge_108 : decode cX10_judge 108 = .ok (.aload_n 0, 1) := by decide +kernel
theorem dX10_judge_109 : decode cX10_judge 109 = .ok (.getfield 7, 3) := by decide +kernel
theorem dX10_judge_112 : decode cX10_judge 112 = .ok (.iload_n 1, 1) := by decide +kernel
theorem dX10_judge_113 : decode cX10_judge 113 = .ok (.iaload, 1) := by decide +kernel
theorem dX10_judge_114 : decode cX10_judge 114 = .ok (.bipush 6, 2) := by decide +kernel
theorem dX10_judge_116 : decode cX10_judge 116 = .ok (.if_icmp .ne 9, 3) := by decide +kernel
theorem dX10_judge_119 : decode cX10_judge 119 = .ok (.aload_n 0, 1) := by decide +kernel
theorem dX10_judge_120 : decode cX10_judge 120 = .ok (.iload_n 1, 1) := by decide +kernel
theorem dX10_judge_121 : decode cX10_judge 121 = .ok (.invokevirtual 229, 3) := by decide +kernel
theorem dX10_judge_124 : decode cX10_judge 124 = .ok (.istore_n 2, 1) := by decide +kernel
theorem dX10_judge_125 : decode cX10_judge 125 = .ok (.iload_n 2, 1) := by decide +kernel
theorem dX10_judge_126 : decode cX10_judge 126 = .ok (.ifCond .le 5, 3) := by decide +kernel
theorem dX10_judge_129 : decode cX10_judge 129 = .ok (.iload_n 2, 1) := by decide +kernel
theorem dX10_judge_130 : decode cX10_judge 130 = .ok (.ireturn, 1) := by decide +kernel
theorem dX10_judge_131 : decode cX10_judge 131 = .ok (.iinc 1 1, 3) := by decide +kernel
theorem dX10_judge_134 : decode cX10_judge 134 = .ok (.goto (-103), 3) := by decide +kernel
theorem dX10_judge_137 : decode cX10_judge 137 = .ok (.iconst 0, 1) := by decide +kernel
theorem dX10_judge_138 : decode cX10_judge 138 = .ok (.ireturn, 1) := by decide +kernel
