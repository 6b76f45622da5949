theorem dX0_init_0 : decode cX0_init 0 = .ok (.aload_n 0, 1) := by decide +kernel
theorem dX0_init_1 : decode cX0_init 1 = .ok (.invokespecial 3, 3) := by decide +kernel
theorem dX0_init_4 : decode cX0_init 4 = .ok (.aload_n 0, 1) := by decide +kernel
theorem dX0_init_5 : decode cX0_init 5 = .ok (.ldc 9, 2) := by decide +kernel
theorem dX0_init_7 : decode cX0_init 7 = .ok (.putfield 10, 3) := by decide +kernel
theorem dX0_init_10 : decode cX0_init 10 = .ok (.aload_n 0, 1) := by decide +kernel
theorem dX0_init_11 : decode cX0_init 11 = .ok (.ldc 9, 2) := by decide +kernel
theorem dX0_init_13 : decode cX0_init 13 = .ok (.putfield 16, 3) := by decide +kernel
theorem dX0_init_16 : decode cX0_init 16 = .ok (.aload_n 0, 1) := by decide +kernel
theorem dX0_init_17 : decode cX0_init 17 = .ok (.ldc 19, 2) := by decide +kernel
theorem dX0_init_19 : decode cX0_init 19 = .ok (.putfield 20, 3) := by decide +kernel
theorem dX0_init_22 : decode cX0_init 22 = .ok (.aload_n 0, 1) := by decide +kernel
theorem dX0_init_23 : decode cX0_init 23 = .ok (.ldc 19, 2) := by decide +kernel
theorem dX0_init_25 : decode cX0_init 25 = .ok (.putfield 23, 3) := by decide +kernel
theorem dX0_init_28 : decode cX0_init 28 = .ok (.return_, 1) := by decide +kernel
theorem dX0_take_0 : decode cX0_take 0 = .ok (.aload_n 0, 1) := by decide +kernel
theorem dX0_take_1 : decode cX0_take 1 = .ok (.aload_n 0, 1) := by decide +kernel
theorem dX0_take_2 : decode cX0_take 2 = .ok (.getfield 10, 3) := by decide +kernel
theorem dX0_take_5 : decode cX0_take 5 = .ok (.iload_n 1, 1) := by decide +kernel
theorem dX0_take_6 : decode cX0_take 6 = .ok (.invokestatic 26, 3) := by decide +kernel
theorem dX0_take_9 : decode cX0_take 9 = .ok (.putfield 10, 3) := by decide +kernel
theorem dX0_take_12 : decode cX0_take 12 = .ok (.aload_n 0, 1) := by decide +kernel
theorem dX0_take_13 : decode cX0_take 13 = .ok (.aload_n 0, 1) := by decide +kernel
theorem dX0_take_14 : decode cX0_take 14 = .ok (.getfield 16, 3) := by decide +kernel
theorem dX0_take_17 : decode cX0_take 17 = .ok (.iload_n 2, 1) := by decide +kernel
theorem dX0_take_18 : decode cX0_take 18 = .ok (.invokestatic 26, 3) := by decide +kernel
theorem dX0_take_21 : decode cX0_take 21 = .ok (.putfield 16, 3) := by decide +kernel
theorem dX0_take_24 : decode cX0_take 24 = .ok (.aload_n 0, 1) := by decide +kernel
theorem dX0_take_25 : decode cX0_take 25 = .ok (.aload_n 0, 1) := by decide +kernel
theorem dX0_take_26 : decode cX0_take 26 = .ok (.getfield 20, 3) := by decide +kernel
theorem dX0_take_29 : decode cX0_take 29 = .ok (.iload_n 1, 1) := by decide +kernel
theorem dX0_take_30 : decode cX0_take 30 = .ok (.invokestatic 32, 3) := by decide +kernel
theorem dX0_take_33 : decode cX0_take 33 = .ok (.putfield 20, 3) := by decide +kernel
theorem dX0_take_36 : decode cX0_take 36 = .ok (.aload_n 0, 1) := by decide +kernel
theorem dX0_take_37 : decode cX0_take 37 = .ok (.aload_n 0, 1) := by decide +kernel
theorem dX0_take_38 : decode cX0_take 38 = .ok (.getfield 23, 3) := by decide +kernel
theorem dX0_take_41 : decode cX0_take 41 = .ok (.iload_n 2, 1) := by decide +kernel
theorem dX0_take_42 : decode cX0_take 42 = .ok (.invokestatic 32, 3) := by decide +kernel
theorem dX0_take_45 : decode cX0_take 45 = .ok (.putfield 23, 3) := by decide +kernel
theorem dX0_take_48 : decode cX0_take 48 = .ok (.return_, 1) := by decide +kernel
theorem dX0_has_0 : decode cX0_has 0 = .ok (.iload_n 1, 1) := by decide +kernel
theorem dX0_has_1 : decode cX0_has 1 = .ok (.aload_n 0, 1) := by decide +kernel
theorem dX0_has_2 : decode cX0_has 2 = .ok (.getfield 10, 3) := by decide +kernel
theorem dX0_has_5 : decode cX0_has 5 = .ok (.if_icmp .lt 31, 3) := by decide +kernel
theorem dX0_has_8 : decode cX0_has 8 = .ok (.iload_n 1, 1) := by decide +kernel
theorem dX0_has_9 : decode cX0_has 9 = .ok (.aload_n 0, 1) := by decide +kernel
theorem dX0_has_10 : decode cX0_has 10 = .ok (.getfield 20, 3) := by decide +kernel
theorem dX0_has_13 : decode cX0_has 13 = .ok (.if_icmp .gt 23, 3) := by decide +kernel
theorem dX0_has_16 : decode cX0_has 16 = .ok (.iload_n 2, 1) := by decide +kernel
theorem dX0_has_17 : decode cX0_has 17 = .ok (.aload_n 0, 1) := by decide +kernel
theorem dX0_has_18 : decode cX0_has 18 = .ok (.getfield 16, 3) := by decide +kernel
theorem dX0_has_21 : decode cX0_has 21 = .ok (.if_icmp .lt 15, 3) := by decide +kernel
theorem dX0_has_24 : decode cX0_has 24 = .ok (.iload_n 2, 1) := by decide +kernel
theorem dX0_has_25 : decode cX0_has 25 = .ok (.aload_n 0, 1) := by decide +kernel
theorem dX0_has_26 : decode cX0_has 26 = .ok (.getfield 23, 3) := by decide +kernel
theorem dX0_has_29 : decode cX0_has 29 = .ok (.if_icmp .gt 7, 3) := by decide +kernel
theorem dX0_has_32 : decode cX0_has 32 = .ok (.iconst 1, 1) := by decide +kernel
theorem dX0_has_33 : decode cX0_has 33 = .ok (.goto 4, 3) := by decide +kernel
theorem dX0_has_36 : decode cX0_has 36 = .ok (.iconst 0, 1) := by decide +kernel
theorem dX0_has_37 : decode cX0_has 37 = .ok (.ireturn, 1) := by decide +kernel
theorem dX0_isApartFrom_0 : decode cX0_isApartFrom 0 = .ok (.aload_n 0, 1) := by decide +kernel
theorem dX0_isApartFrom_1 : decode cX0_isApartFrom 1 = .ok (.getfield 10, 3) := by decide +kernel
theorem dX0_isApartFrom_4 : decode cX0_isApartFrom 4 = .ok (.aload_n 1, 1) := by decide +kernel
theorem dX0_isApartFrom_5 : decode cX0_isApartFrom 5 = .ok (.getfield 20, 3) := by decide +kernel
theorem dX0_isApartFrom_8 : decode cX0_isApartFrom 8 = .ok (.if_icmp .gt 36, 3) := by decide +kernel
theorem dX0_isApartFrom_11 : decode cX0_isApartFrom 11 = .ok (.aload_n 0, 1) := by decide +kernel
theorem dX0_isApartFrom_12 : decode cX0_isApartFrom 12 = .ok (.getfield 20, 3) := by decide +kernel
theorem dX0_isApartFrom_15 : decode cX0_isApartFrom 15 = .ok (.aload_n 1, 1) := by decide +kernel
theorem dX0_isApartFrom_16 : decode cX0_isApartFrom 16 = .ok (.getfield 10, 3) := by decide +kernel
theorem dX0_isApartFrom_19 : decode cX0_isApartFrom 19 = .ok (.if_icmp .lt 25, 3) := by decide +kernel
theorem dX0_isApartFrom_22 : decode cX0_isApartFrom 22 = .ok (.aload_n 0, 1) := by decide +kernel
theorem dX0_isApartFrom_23 : decode cX0_isApartFrom 23 = .ok (.getfield 16, 3) := by decide +kernel
theorem dX0_isApartFrom_26 : decode cX0_isApartFrom 26 = .ok (.aload_n 1, 1) := by decide +kernel
theorem dX0_isApartFrom_27 : decode cX0_isApartFrom 27 = .ok (.getfield 23, 3) := by decide +kernel
theorem dX0_isApartFrom_30 : decode cX0_isApartFrom 30 = .ok (.if_icmp .gt 14, 3) := by decide +kernel
theorem dX0_isApartFrom_33 : decode cX0_isApartFrom 33 = .ok (.aload_n 0, 1) := by decide +kernel
theorem dX0_isApartFrom_34 : decode cX0_isApartFrom 34 = .ok (.getfield 23, 3) := by decide +kernel
theorem dX0_isApartFrom_37 : decode cX0_isApartFrom 37 = .ok (.aload_n 1, 1) := by decide +kernel
theorem dX0_isApartFrom_38 : decode cX0_isApartFrom 38 = .ok (.getfield 16, 3) := by decide +kernel
theorem dX0_isApartFrom_41 : decode cX0_isApartFrom 41 = .ok (.if_icmp .ge 7, 3) := by decide +kernel
theorem dX0_isApartFrom_44 : decode cX0_isApartFrom 44 = .ok (.iconst 1, 1) := by decide +kernel
theorem dX0_isApartFrom_45 : decode cX0_isApartFrom 45 = .ok (.goto 4, 3) := by decide +kernel
theorem dX0_isApartFrom_48 : decode cX0_isApartFrom 48 = .ok (.iconst 0, 1) := by decide +kernel
theorem dX0_isApartFrom_49 : decode cX0_isApartFrom 49 = .ok (.ireturn, 1) := by decide +kernel
theorem dX1_init_0 : decode cX1_init 0 = .ok (.aload_n 0, 1) := by decide +kernel
theorem dX1_init_1 : decode cX1_init 1 = .ok (.invokespecial 3, 3) := by decide +kernel
theorem dX1_init_4 : decode cX1_init 4 = .ok (.aload_n 0, 1) := by decide +kernel
theorem dX1_init_5 : decode cX1_init 5 = .ok (.bipush 7, 2) := by decide +kernel
theorem dX1_init_7 : decode cX1_init 7 = .ok (.newarray .int, 2) := by decide +kernel
theorem dX1_init_9 : decode cX1_init 9 = .ok (.putfield 9, 3) := by decide +kernel
theorem dX1_init_12 : decode cX1_init 12 = .ok (.aload_n 0, 1) := by decide +kernel
theorem dX1_init_13 : decode cX1_init 13 = .ok (.getfield 9, 3) := by decide +kernel
theorem dX1_init_16 : decode cX1_init 16 = .ok (.iconst (-1), 1) := by decide +kernel
theorem dX1_init_17 : decode cX1_init 17 = .ok (.invokestatic 15, 3) := by decide +kernel
theorem dX1_init_20 : decode cX1_init 20 = .ok (.return_, 1) := by decide +kernel
theorem dX1_what_0 : decode cX1_what 0 = .ok (.aload_n 0, 1) := by decide +kernel
theorem dX1_what_1 : decode cX1_what 1 = .ok (.getfield 21, 3) := by decide +kernel
theorem dX1_what_4 : decode cX1_what 4 = .ok (.ireturn, 1) := by decide +kernel
theorem dX1_isMade_0 : decode cX1_isMade 0 = .ok (.aload_n 0, 1) := by decide +kernel
theorem dX1_isMade_1 : decode cX1_isMade 1 = .ok (.getfield 21, 3) := by decide +kernel
theorem dX1_isMade_4 : decode cX1_isMade 4 = .ok (.ifCond .eq 7, 3) := by decide +kernel
theorem dX1_isMade_7 : decode cX1_isMade 7 = .ok (.iconst 1, 1) := by decide +kernel
theorem dX1_isMade_8 : decode cX1_isMade 8 = .ok (.goto 4, 3) := by decide +kernel
theorem dX1_isMade_11 : decode cX1_isMade 11 = .ok (.iconst 0, 1) := by decide +kernel
theorem dX1_isMade_12 : decode cX1_isMade 12 = .ok (.ireturn, 1) := by decide +kernel
theorem dX1_where_0 : decode cX1_where 0 = .ok (.iload_n 1, 1) := by decide +kernel
theorem dX1_where_1 : decode cX1_where 1 = .ok (.ifCond .lt 21, 3) := by decide +kernel
theorem dX1_where_4 : decode cX1_where 4 = .ok (.iload_n 1, 1) := by decide +kernel
theorem dX1_where_5 : decode cX1_where 5 = .ok (.aload_n 0, 1) := by decide +kernel
theorem dX1_where_6 : decode cX1_where 6 = .ok (.getfield 9, 3) := by decide +kernel
theorem dX1_where_9 : decode cX1_where 9 = .ok (.arraylength, 1) := by decide +kernel
theorem dX1_where_10 : decode cX1_where 10 = .ok (.if_icmp .ge 12, 3) := by decide +kernel
theorem dX1_where_13 : decode cX1_where 13 = .ok (.aload_n 0, 1) := by decide +kernel
theorem dX1_where_14 : decode cX1_where 14 = .ok (.getfield 9, 3) := by decide +kernel
theorem dX1_where_17 : decode cX1_where 17 = .ok (.iload_n 1, 1) := by decide +kernel
theorem dX1_where_18 : decode cX1_where 18 = .ok (.iaload, 1) := by decide +kernel
theorem dX1_where_19 : decode cX1_where 19 = .ok (.goto 4, 3) := by decide +kernel
theorem dX1_where_22 : decode cX1_where 22 = .ok (.iconst (-1), 1) := by decide +kernel
theorem dX1_where_23 : decode cX1_where 23 = .ok (.ireturn, 1) := by decide +kernel
theorem dX1_forget_0 : decode cX1_forget 0 = .ok (.aload_n 0, 1) := by decide +kernel
theorem dX1_forget_1 : decode cX1_forget 1 = .ok (.iconst 0, 1) := by decide +kernel
theorem dX1_forget_2 : decode cX1_forget 2 = .ok (.putfield 21, 3) := by decide +kernel
theorem dX1_forget_5 : decode cX1_forget 5 = .ok (.aload_n 0, 1) := by decide +kernel
theorem dX1_forget_6 : decode cX1_forget 6 = .ok (.getfield 9, 3) := by decide +kernel
theorem dX1_forget_9 : decode cX1_forget 9 = .ok (.iconst (-1), 1) := by decide +kernel
theorem dX1_forget_10 : decode cX1_forget 10 = .ok (.invokestatic 15, 3) := by decide +kernel
theorem dX1_forget_13 : decode cX1_forget 13 = .ok (.return_, 1) := by decide +kernel
theorem dX1_tell_0 : decode cX1_tell 0 = .ok (.aload_n 0, 1) := by decide +kernel
theorem dX1_tell_1 : decode cX1_tell 1 = .ok (.iload_n 1, 1) := by decide +kernel
theorem dX1_tell_2 : decode cX1_tell 2 = .ok (.putfield 21, 3) := by decide +kernel
theorem dX1_tell_5 : decode cX1_tell 5 = .ok (.aload_n 0, 1) := by decide +kernel
theorem dX1_tell_6 : decode cX1_tell 6 = .ok (.getfield 9, 3) := by decide +kernel
theorem dX1_tell_9 : decode cX1_tell 9 = .ok (.iconst 0, 1) := by decide +kernel
theorem dX1_tell_10 : decode cX1_tell 10 = .ok (.iload_n 2, 1) := by decide +kernel
theorem dX1_tell_11 : decode cX1_tell 11 = .ok (.iastore, 1) := by decide +kernel
theorem dX1_tell_12 : decode cX1_tell 12 = .ok (.return_, 1) := by decide +kernel
theorem dX1_tellOne_0 : decode cX1_tellOne 0 = .ok (.aload_n 0, 1) := by decide +kernel
theorem dX1_tellOne_1 : decode cX1_tellOne 1 = .ok (.iconst 1, 1) := by decide +kernel
theorem dX1_tellOne_2 : decode cX1_tellOne 2 = .ok (.iload_n 1, 1) := by decide +kernel
theorem dX1_tellOne_3 : decode cX1_tellOne 3 = .ok (.iload_n 2, 1) := by decide +kernel
theorem dX1_tellOne_4 : decode cX1_tellOne 4 = .ok (.iload_n 3, 1) := by decide +kernel
theorem dX1_tellOne_5 : decode cX1_tellOne 5 = .ok (.invokevirtual 25, 3) := by decide +kernel
theorem dX1_tellOne_8 : decode cX1_tellOne 8 = .ok (.return_, 1) := by decide +kernel
theorem dX1_tellOther_0 : decode cX1_tellOther 0 = .ok (.aload_n 0, 1) := by decide +kernel
theorem dX1_tellOther_1 : decode cX1_tellOther 1 = .ok (.iconst 4, 1) := by decide +kernel
theorem dX1_tellOther_2 : decode cX1_tellOther 2 = .ok (.iload_n 1, 1) := by decide +kernel
theorem dX1_tellOther_3 : decode cX1_tellOther 3 = .ok (.iload_n 2, 1) := by decide +kernel
theorem dX1_tellOther_4 : decode cX1_tellOther 4 = .ok (.iload_n 3, 1) := by decide +kernel
theorem dX1_tellOther_5 : decode cX1_tellOther 5 = .ok (.invokevirtual 25, 3) := by decide +kernel
theorem dX1_tellOther_8 : decode cX1_tellOther 8 = .ok (.return_, 1) := by decide +kernel
theorem dX1_tellAt_0 : decode cX1_tellAt 0 = .ok (.iload_n 1, 1) := by decide +kernel
theorem dX1_tellAt_1 : decode cX1_tellAt 1 = .ok (.ifCond .lt 40, 3) := by decide +kernel
theorem dX1_tellAt_4 : decode cX1_tellAt 4 = .ok (.iload_n 1, 1) := by decide +kernel
theorem dX1_tellAt_5 : decode cX1_tellAt 5 = .ok (.iconst 2, 1) := by decide +kernel
theorem dX1_tellAt_6 : decode cX1_tellAt 6 = .ok (.iadd, 1) := by decide +kernel
theorem dX1_tellAt_7 : decode cX1_tellAt 7 = .ok (.aload_n 0, 1) := by decide +kernel
theorem dX1_tellAt_8 : decode cX1_tellAt 8 = .ok (.getfield 9, 3) := by decide +kernel
theorem dX1_tellAt_11 : decode cX1_tellAt 11 = .ok (.arraylength, 1) := by decide +kernel
theorem dX1_tellAt_12 : decode cX1_tellAt 12 = .ok (.if_icmp .ge 29, 3) := by decide +kernel
theorem dX1_tellAt_15 : decode cX1_tellAt 15 = .ok (.aload_n 0, 1) := by decide +kernel
theorem dX1_tellAt_16 : decode cX1_tellAt 16 = .ok (.getfield 9, 3) := by decide +kernel
theorem dX1_tellAt_19 : decode cX1_tellAt 19 = .ok (.iload_n 1, 1) := by decide +kernel
theorem dX1_tellAt_20 : decode cX1_tellAt 20 = .ok (.iload_n 2, 1) := by decide +kernel
theorem dX1_tellAt_21 : decode cX1_tellAt 21 = .ok (.iastore, 1) := by decide +kernel
theorem dX1_tellAt_22 : decode cX1_tellAt 22 = .ok (.aload_n 0, 1) := by decide +kernel
theorem dX1_tellAt_23 : decode cX1_tellAt 23 = .ok (.getfield 9, 3) := by decide +kernel
theorem dX1_tellAt_26 : decode cX1_tellAt 26 = .ok (.iload_n 1, 1) := by decide +kernel
theorem dX1_tellAt_27 : decode cX1_tellAt 27 = .ok (.iconst 1, 1) := by decide +kernel
theorem dX1_tellAt_28 : decode cX1_tellAt 28 = .ok (.iadd, 1) := by decide +kernel
theorem dX1_tellAt_29 : decode cX1_tellAt 29 = .ok (.iload_n 3, 1) := by decide +kernel
theorem dX1_tellAt_30 : decode cX1_tellAt 30 = .ok (.iastore, 1) := by decide +kernel
theorem dX1_tellAt_31 : decode cX1_tellAt 31 = .ok (.aload_n 0, 1) := by decide +kernel
theorem dX1_tellAt_32 : decode cX1_tellAt 32 = .ok (.getfield 9, 3) := by decide +kernel
theorem dX1_tellAt_35 : decode cX1_tellAt 35 = .ok (.iload_n 1, 1) := by decide +kernel
theorem dX1_tellAt_36 : decode cX1_tellAt 36 = .ok (.iconst 2, 1) := by decide +kernel
theorem dX1_tellAt_37 : decode cX1_tellAt 37 = .ok (.iadd, 1) := by decide +kernel
theorem dX1_tellAt_38 : decode cX1_tellAt 38 = .ok (.iload 4, 2) := by decide +kernel
theorem dX1_tellAt_40 : decode cX1_tellAt 40 = .ok (.iastore, 1) := by decide +kernel
theorem dX1_tellAt_41 : decode cX1_tellAt 41 = .ok (.return_, 1) := by decide +kernel
theorem dX2_init_0 : decode cX2_init 0 = .ok (.aload_n 0, 1) := by decide +kernel
theorem dX2_init_1 : decode cX2_init 1 = .ok (.invokespecial 3, 3) := by decide +kernel
theorem dX2_init_4 : decode cX2_init 4 = .ok (.aload_n 0, 1) := by decide +kernel
theorem dX2_init_5 : decode cX2_init 5 = .ok (.aload_n 1, 1) := by decide +kernel
theorem dX2_init_6 : decode cX2_init 6 = .ok (.putfield 9, 3) := by decide +kernel
theorem dX2_init_9 : decode cX2_init 9 = .ok (.aload_n 0, 1) := by decide +kernel
theorem dX2_init_10 : decode cX2_init 10 = .ok (.aload_n 2, 1) := by decide +kernel
theorem dX2_init_11 : decode cX2_init 11 = .ok (.putfield 15, 3) := by decide +kernel
theorem dX2_init_14 : decode cX2_init 14 = .ok (.aload_n 0, 1) := by decide +kernel
theorem dX2_init_15 : decode cX2_init 15 = .ok (.new 19, 3) := by decide +kernel
theorem dX2_init_18 : decode cX2_init 18 = .ok (.dup, 1) := by decide +kernel
theorem dX2_init_19 : decode cX2_init 19 = .ok (.invokespecial 21, 3) := by decide +kernel
theorem dX2_init_22 : decode cX2_init 22 = .ok (.putfield 22, 3) := by decide +kernel
theorem dX2_init_25 : decode cX2_init 25 = .ok (.return_, 1) := by decide +kernel
theorem dX2_inspect_0 : decode cX2_inspect 0 = .ok (.aload_n 0, 1) := by decide +kernel
theorem dX2_inspect_1 : decode cX2_inspect 1 = .ok (.iload_n 1, 1) := by decide +kernel
theorem dX2_inspect_2 : decode cX2_inspect 2 = .ok (.putfield 26, 3) := by decide +kernel
theorem dX2_inspect_5 : decode cX2_inspect 5 = .ok (.aload_n 0, 1) := by decide +kernel
theorem dX2_inspect_6 : decode cX2_inspect 6 = .ok (.getfield 9, 3) := by decide +kernel
theorem dX2_inspect_9 : decode cX2_inspect 9 = .ok (.aload_n 0, 1) := by decide +kernel
theorem dX2_inspect_10 : decode cX2_inspect 10 = .ok (.getfield 26, 3) := by decide +kernel
theorem dX2_inspect_13 : decode cX2_inspect 13 = .ok (.invokevirtual 30, 3) := by decide +kernel
theorem dX2_inspect_16 : decode cX2_inspect 16 = .ok (.iconst 2, 1) := by decide +kernel
theorem dX2_inspect_17 : decode cX2_inspect 17 = .ok (.if_icmp .ne 8, 3) := by decide +kernel
theorem dX2_inspect_20 : decode cX2_inspect 20 = .ok (.aload_n 0, 1) := by decide +kernel
theorem dX2_inspect_21 : decode cX2_inspect 21 = .ok (.invokevirtual 36, 3) := by decide +kernel
theorem dX2_inspect_24 : decode cX2_inspect 24 = .ok (.return_, 1) := by decide +kernel
theorem dX2_inspect_25 : decode cX2_inspect 25 = .ok (.aload_n 0, 1) := by decide +kernel
theorem dX2_inspect_26 : decode cX2_inspect 26 = .ok (.getfield 9, 3) := by decide +kernel
theorem dX2_inspect_29 : decode cX2_inspect 29 = .ok (.aload_n 0, 1) := by decide +kernel
theorem dX2_inspect_30 : decode cX2_inspect 30 = .ok (.getfield 26, 3) := by decide +kernel
theorem dX2_inspect_33 : decode cX2_inspect 33 = .ok (.invokevirtual 39, 3) := by decide +kernel
theorem dX2_inspect_36 : decode cX2_inspect 36 = .ok (.astore_n 2, 1) := by decide +kernel
theorem dX2_inspect_37 : decode cX2_inspect 37 = .ok (.iconst 0, 1) := by decide +kernel
theorem dX2_inspect_38 : decode cX2_inspect 38 = .ok (.istore_n 3, 1) := by decide +kernel
theorem dX2_inspect_39 : decode cX2_inspect 39 = .ok (.iconst 0, 1) := by decide +kernel
theorem dX2_inspect_40 : decode cX2_inspect 40 = .ok (.istore 4, 2) := by decide +kernel
theorem dX2_inspect_42 : decode cX2_inspect 42 = .ok (.iload 4, 2) := by decide +kernel
theorem dX2_inspect_44 : decode cX2_inspect 44 = .ok (.aload_n 2, 1) := by decide +kernel
theorem dX2_inspect_45 : decode cX2_inspect 45 = .ok (.arraylength, 1) := by decide +kernel
theorem dX2_inspect_46 : decode cX2_inspect 46 = .ok (.if_icmp .ge 74, 3) := by decide +kernel
theorem dX2_inspect_49 : decode cX2_inspect 49 = .ok (.iload_n 3, 1) := by decide +kernel
theorem dX2_inspect_50 : decode cX2_inspect 50 = .ok (.ifCond .ne 70, 3) := by decide +kernel
theorem dX2_inspect_53 : decode cX2_inspect 53 = .ok (.aload_n 2, 1) := by decide +kernel
theorem dX2_inspect_54 : decode cX2_inspect 54 = .ok (.iload 4, 2) := by decide +kernel
theorem dX2_inspect_56 : decode cX2_inspect 56 = .ok (.aaload, 1) := by decide +kernel
theorem dX2_inspect_57 : decode cX2_inspect 57 = .ok (.astore 5, 2) := by decide +kernel
theorem dX2_inspect_59 : decode cX2_inspect 59 = .ok (.aload_n 0, 1) := by decide +kernel
theorem dX2_inspect_60 : decode cX2_inspect 60 = .ok (.aload 5, 2) := by decide +kernel
theorem dX2_inspect_62 : decode cX2_inspect 62 = .ok (.invokevirtual 43, 3) := by decide +kernel
theorem dX2_inspect_65 : decode cX2_inspect 65 = .ok (.ifCond .ne 43, 3) := by decide +kernel
theorem dX2_inspect_68 : decode cX2_inspect 68 = .ok (.aload_n 0, 1) := by decide +kernel
theorem dX2_inspect_69 : decode cX2_inspect 69 = .ok (.aload 5, 2) := by decide +kernel
theorem dX2_inspect_71 : decode cX2_inspect 71 = .ok (.getfield 47, 3) := by decide +kernel
theorem dX2_inspect_74 : decode cX2_inspect 74 = .ok (.iconst 0, 1) := by decide +kernel
theorem dX2_inspect_75 : decode cX2_inspect 75 = .ok (.invokevirtual 53, 3) := by decide +kernel
theorem dX2_inspect_78 : decode cX2_inspect 78 = .ok (.ifCond .ne 30, 3) := by decide +kernel
theorem dX2_inspect_81 : decode cX2_inspect 81 = .ok (.aload_n 0, 1) := by decide +kernel
theorem dX2_inspect_82 : decode cX2_inspect 82 = .ok (.aload 5, 2) := by decide +kernel
theorem dX2_inspect_84 : decode cX2_inspect 84 = .ok (.invokevirtual 57, 3) := by decide +kernel
theorem dX2_inspect_87 : decode cX2_inspect 87 = .ok (.ifCond .ne 21, 3) := by decide +kernel
theorem dX2_inspect_90 : decode cX2_inspect 90 = .ok (.aload_n 0, 1) := by decide +kernel
theorem dX2_inspect_91 : decode cX2_inspect 91 = .ok (.aload 5, 2) := by decide +kernel
theorem dX2_inspect_93 : decode cX2_inspect 93 = .ok (.invokevirtual 60, 3) := by decide +kernel
theorem dX2_inspect_96 : decode cX2_inspect 96 = .ok (.ifCond .ne 12, 3) := by decide +kernel
theorem dX2_inspect_99 : decode cX2_inspect 99 = .ok (.aload_n 0, 1) := by decide +kernel
theorem dX2_inspect_100 : decode cX2_inspect 100 = .ok (.aload 5, 2) := by decide +kernel
theorem dX2_inspect_102 : decode cX2_inspect 102 = .ok (.invokevirtual 63, 3) := by decide +kernel
theorem dX2_inspect_105 : decode cX2_inspect 105 = .ok (.ifCond .eq 7, 3) := by decide +kernel
theorem dX2_inspect_108 : decode cX2_inspect 108 = .ok (.iconst 1, 1) := by decide +kernel
theorem dX2_inspect_109 : decode cX2_inspect 109 = .ok (.goto 4, 3) := by decide +kernel
theorem dX2_inspect_112 : decode cX2_inspect 112 = .ok (.iconst 0, 1) := by decide +kernel
theorem dX2_inspect_113 : decode cX2_inspect 113 = .ok (.istore_n 3, 1) := by decide +kernel
theorem dX2_inspect_114 : decode cX2_inspect 114 = .ok (.iinc 4 1, 3) := by decide +kernel
theorem dX2_inspect_117 : decode cX2_inspect 117 = .ok (.goto (-75), 3) := by decide +kernel
theorem dX2_inspect_120 : decode cX2_inspect 120 = .ok (.iload_n 3, 1) := by decide +kernel
theorem dX2_inspect_121 : decode cX2_inspect 121 = .ok (.ifCond .ne 26, 3) := by decide +kernel
theorem dX2_inspect_124 : decode cX2_inspect 124 = .ok (.aload_n 2, 1) := by decide +kernel
theorem dX2_inspect_125 : decode cX2_inspect 125 = .ok (.arraylength, 1) := by decide +kernel
theorem dX2_inspect_126 : decode cX2_inspect 126 = .ok (.iconst 1, 1) := by decide +kernel
theorem dX2_inspect_127 : decode cX2_inspect 127 = .ok (.if_icmp .le 20, 3) := by decide +kernel
theorem dX2_inspect_130 : decode cX2_inspect 130 = .ok (.aload_n 0, 1) := by decide +kernel
theorem dX2_inspect_131 : decode cX2_inspect 131 = .ok (.aload_n 2, 1) := by decide +kernel
theorem dX2_inspect_132 : decode cX2_inspect 132 = .ok (.invokestatic 66, 3) := by decide +kernel
theorem dX2_inspect_135 : decode cX2_inspect 135 = .ok (.iconst 1, 1) := by decide +kernel
theorem dX2_inspect_136 : decode cX2_inspect 136 = .ok (.invokevirtual 53, 3) := by decide +kernel
theorem dX2_inspect_139 : decode cX2_inspect 139 = .ok (.ifCond .ne 8, 3) := by decide +kernel
theorem dX2_inspect_142 : decode cX2_inspect 142 = .ok (.aload_n 0, 1) := by decide +kernel
theorem dX2_inspect_143 : decode cX2_inspect 143 = .ok (.aload_n 2, 1) := by decide +kernel
theorem dX2_inspect_144 : decode cX2_inspect 144 = .ok (.invokevirtual 70, 3) := by decide +kernel
theorem dX2_inspect_147 : decode cX2_inspect 147 = .ok (.return_, 1) := by decide +kernel
theorem dX2_inspectLine_0 : decode cX2_inspectLine 0 = .ok (.aload_n 0, 1) := by decide +kernel
theorem dX2_inspectLine_1 : decode cX2_inspectLine 1 = .ok (.getfield 9, 3) := by decide +kernel
theorem dX2_inspectLine_4 : decode cX2_inspectLine 4 = .ok (.aload_n 0, 1) := by decide +kernel
theorem dX2_inspectLine_5 : decode cX2_inspectLine 5 = .ok (.getfield 26, 3) := by decide +kernel
theorem dX2_inspectLine_8 : decode cX2_inspectLine 8 = .ok (.invokevirtual 74, 3) := by decide +kernel
theorem dX2_inspectLine_11 : decode cX2_inspectLine 11 = .ok (.iconst 1, 1) := by decide +kernel
theorem dX2_inspectLine_12 : decode cX2_inspectLine 12 = .ok (.if_icmp .ne 15, 3) := by decide +kernel
theorem dX2_inspectLine_15 : decode cX2_inspectLine 15 = .ok (.aload_n 0, 1) := by decide +kernel
theorem dX2_inspectLine_16 : decode cX2_inspectLine 16 = .ok (.getfield 15, 3) := by decide +kernel
theorem dX2_inspectLine_19 : decode cX2_inspectLine 19 = .ok (.iconst 2, 1) := by decide +kernel
theorem dX2_inspectLine_20 : decode cX2_inspectLine 20 = .ok (.aload_n 0, 1) := by decide +kernel
theorem dX2_inspectLine_21 : decode cX2_inspectLine 21 = .ok (.getfield 26, 3) := by decide +kernel
theorem dX2_inspectLine_24 : decode cX2_inspectLine 24 = .ok (.invokevirtual 77, 3) := by decide +kernel
theorem dX2_inspectLine_27 : decode cX2_inspectLine 27 = .ok (.return_, 1) := by decide +kernel
theorem dX2_allRings_0 : decode cX2_allRings 0 = .ok (.iconst 0, 1) := by decide +kernel
theorem dX2_allRings_1 : decode cX2_allRings 1 = .ok (.istore_n 1, 1) := by decide +kernel
theorem dX2_allRings_2 : decode cX2_allRings 2 = .ok (.iconst 0, 1) := by decide +kernel
theorem dX2_allRings_3 : decode cX2_allRings 3 = .ok (.istore_n 2, 1) := by decide +kernel
theorem dX2_allRings_4 : decode cX2_allRings 4 = .ok (.iload_n 2, 1) := by decide +kernel
theorem dX2_allRings_5 : decode cX2_allRings 5 = .ok (.aload_n 0, 1) := by decide +kernel
theorem dX2_allRings_6 : decode cX2_allRings 6 = .ok (.arraylength, 1) := by decide +kernel
theorem dX2_allRings_7 : decode cX2_allRings 7 = .ok (.if_icmp .ge 19, 3) := by decide +kernel
theorem dX2_allRings_10 : decode cX2_allRings 10 = .ok (.iload_n 1, 1) := by decide +kernel
theorem dX2_allRings_11 : decode cX2_allRings 11 = .ok (.aload_n 0, 1) := by decide +kernel
theorem dX2_allRings_12 : decode cX2_allRings 12 = .ok (.iload_n 2, 1) := by decide +kernel
theorem dX2_allRings_13 : decode cX2_allRings 13 = .ok (.aaload, 1) := by decide +kernel
theorem dX2_allRings_14 : decode cX2_allRings 14 = .ok (.getfield 47, 3) := by decide +kernel
theorem dX2_allRings_17 : decode cX2_allRings 17 = .ok (.arraylength, 1) := by decide +kernel
theorem dX2_allRings_18 : decode cX2_allRings 18 = .ok (.iadd, 1) := by decide +kernel
theorem dX2_allRings_19 : decode cX2_allRings 19 = .ok (.istore_n 1, 1) := by decide +kernel
theorem dX2_allRings_20 : decode cX2_allRings 20 = .ok (.iinc 2 1, 3) := by decide +kernel
theorem dX2_allRings_23 : decode cX2_allRings 23 = .ok (.goto (-19), 3) := by decide +kernel
theorem dX2_allRings_26 : decode cX2_allRings 26 = .ok (.iload_n 1, 1) := by decide +kernel
theorem dX2_allRings_27 : decode cX2_allRings 27 = .ok (.anewarray 83, 3) := by decide +kernel
theorem dX2_allRings_30 : decode cX2_allRings 30 = .ok (.astore_n 2, 1) := by decide +kernel
theorem dX2_allRings_31 : decode cX2_allRings 31 = .ok (.iconst 0, 1) := by decide +kernel
theorem dX2_allRings_32 : decode cX2_allRings 32 = .ok (.istore_n 3, 1) := by decide +kernel
theorem dX2_allRings_33 : decode cX2_allRings 33 = .ok (.iconst 0, 1) := by decide +kernel
theorem dX2_allRings_34 : decode cX2_allRings 34 = .ok (.istore 4, 2) := by decide +kernel
theorem dX2_allRings_36 : decode cX2_allRings 36 = .ok (.iload 4, 2) := by decide +kernel
theorem dX2_allRings_38 : decode cX2_allRings 38 = .ok (.aload_n 0, 1) := by decide +kernel
theorem dX2_allRings_39 : decode cX2_allRings 39 = .ok (.arraylength, 1) := by decide +kernel
theorem dX2_allRings_40 : decode cX2_allRings 40 = .ok (.if_icmp .ge 51, 3) := by decide +kernel
theorem dX2_allRings_43 : decode cX2_allRings 43 = .ok (.aload_n 0, 1) := by decide +kernel
theorem dX2_allRings_44 : decode cX2_allRings 44 = .ok (.iload 4, 2) := by decide +kernel
theorem dX2_allRings_46 : decode cX2_allRings 46 = .ok (.aaload, 1) := by decide +kernel
theorem dX2_allRings_47 : decode cX2_allRings 47 = .ok (.getfield 47, 3) := by decide +kernel
theorem dX2_allRings_50 : decode cX2_allRings 50 = .ok (.astore 5, 2) := by decide +kernel
theorem dX2_allRings_52 : decode cX2_allRings 52 = .ok (.iconst 0, 1) := by decide +kernel
theorem dX2_allRings_53 : decode cX2_allRings 53 = .ok (.istore 6, 2) := by decide +kernel
theorem dX2_allRings_55 : decode cX2_allRings 55 = .ok (.iload 6, 2) := by decide +kernel
theorem dX2_allRings_57 : decode cX2_allRings 57 = .ok (.aload 5, 2) := by decide +kernel
theorem dX2_allRings_59 : decode cX2_allRings 59 = .ok (.arraylength, 1) := by decide +kernel
theorem dX2_allRings_60 : decode cX2_allRings 60 = .ok (.if_icmp .ge 25, 3) := by decide +kernel
theorem dX2_allRings_63 : decode cX2_allRings 63 = .ok (.iload_n 3, 1) := by decide +kernel
theorem dX2_allRings_64 : decode cX2_allRings 64 = .ok (.iload_n 1, 1) := by decide +kernel
theorem dX2_allRings_65 : decode cX2_allRings 65 = .ok (.if_icmp .ge 20, 3) := by decide +kernel
theorem dX2_allRings_68 : decode cX2_allRings 68 = .ok (.aload_n 2, 1) := by decide +kernel
theorem dX2_allRings_69 : decode cX2_allRings 69 = .ok (.iload_n 3, 1) := by decide +kernel
theorem dX2_allRings_70 : decode cX2_allRings 70 = .ok (.aload 5, 2) := by decide +kernel
theorem dX2_allRings_72 : decode cX2_allRings 72 = .ok (.iload 6, 2) := by decide +kernel
theorem dX2_allRings_74 : decode cX2_allRings 74 = .ok (.aaload, 1) := by decide +kernel
theorem dX2_allRings_75 : decode cX2_allRings 75 = .ok (.aastore, 1) := by decide +kernel
theorem dX2_allRings_76 : decode cX2_allRings 76 = .ok (.iinc 3 1, 3) := by decide +kernel
theorem dX2_allRings_79 : decode cX2_allRings 79 = .ok (.iinc 6 1, 3) := by decide +kernel
theorem dX2_allRings_82 : decode cX2_allRings 82 = .ok (.goto (-27), 3) := by decide +kernel
theorem dX2_allRings_85 : decode cX2_allRings 85 = .ok (.iinc 4 1, 3) := by decide +kernel
theorem dX2_allRings_88 : decode cX2_allRings 88 = .ok (.goto (-52), 3) := by decide +kernel
theorem dX2_allRings_91 : decode cX2_allRings 91 = .ok (.aload_n 2, 1) := by decide +kernel
theorem dX2_allRings_92 : decode cX2_allRings 92 = .ok (.areturn, 1) := by decide +kernel
theorem dX2_inspectRings_0 : decode cX2_inspectRings 0 = .ok (.iconst 0, 1) := by decide +kernel
theorem dX2_inspectRings_1 : decode cX2_inspectRings 1 = .ok (.istore_n 2, 1) := by decide +kernel
theorem dX2_inspectRings_2 : decode cX2_inspectRings 2 = .ok (.iload_n 2, 1) := by decide +kernel
theorem dX2_inspectRings_3 : decode cX2_inspectRings 3 = .ok (.aload_n 1, 1) := by decide +kernel
theorem dX2_inspectRings_4 : decode cX2_inspectRings 4 = .ok (.getfield 47, 3) := by decide +kernel
theorem dX2_inspectRings_7 : decode cX2_inspectRings 7 = .ok (.arraylength, 1) := by decide +kernel
theorem dX2_inspectRings_8 : decode cX2_inspectRings 8 = .ok (.if_icmp .ge 69, 3) := by decide +kernel
theorem dX2_inspectRings_11 : decode cX2_inspectRings 11 = .ok (.aload_n 1, 1) := by decide +kernel
theorem dX2_inspectRings_12 : decode cX2_inspectRings 12 = .ok (.getfield 47, 3) := by decide +kernel
theorem dX2_inspectRings_15 : decode cX2_inspectRings 15 = .ok (.iload_n 2, 1) := by decide +kernel
theorem dX2_inspectRings_16 : decode cX2_inspectRings 16 = .ok (.aaload, 1) := by decide +kernel
theorem dX2_inspectRings_17 : decode cX2_inspectRings 17 = .ok (.astore_n 3, 1) := by decide +kernel
theorem dX2_inspectRings_18 : decode cX2_inspectRings 18 = .ok (.aload_n 3, 1) := by decide +kernel
theorem dX2_inspectRings_19 : decode cX2_inspectRings 19 = .ok (.getfield 85, 3) := by decide +kernel
theorem dX2_inspectRings_22 : decode cX2_inspectRings 22 = .ok (.ifCond .eq 11, 3) := by decide +kernel
theorem dX2_inspectRings_25 : decode cX2_inspectRings 25 = .ok (.aload_n 3, 1) := by decide +kernel
theorem dX2_inspectRings_26 : decode cX2_inspectRings 26 = .ok (.getfield 89, 3) := by decide +kernel
theorem dX2_inspectRings_29 : decode cX2_inspectRings 29 = .ok (.iconst 3, 1) := by decide +kernel
theorem dX2_inspectRings_30 : decode cX2_inspectRings 30 = .ok (.if_icmp .ge 41, 3) := by decide +kernel
theorem dX2_inspectRings_33 : decode cX2_inspectRings 33 = .ok (.aload_n 0, 1) := by decide +kernel
theorem dX2_inspectRings_34 : decode cX2_inspectRings 34 = .ok (.getfield 15, 3) := by decide +kernel
theorem dX2_inspectRings_37 : decode cX2_inspectRings 37 = .ok (.aload_n 3, 1) := by decide +kernel
theorem dX2_inspectRings_38 : decode cX2_inspectRings 38 = .ok (.getfield 85, 3) := by decide +kernel
theorem dX2_inspectRings_41 : decode cX2_inspectRings 41 = .ok (.ifCond .eq 7, 3) := by decide +kernel
theorem dX2_inspectRings_44 : decode cX2_inspectRings 44 = .ok (.iconst 2, 1) := by decide +kernel
theorem dX2_inspectRings_45 : decode cX2_inspectRings 45 = .ok (.goto 4, 3) := by decide +kernel
theorem dX2_inspectRings_48 : decode cX2_inspectRings 48 = .ok (.iconst 1, 1) := by decide +kernel
theorem dX2_inspectRings_49 : decode cX2_inspectRings 49 = .ok (.aload_n 0, 1) := by decide +kernel
theorem dX2_inspectRings_50 : decode cX2_inspectRings 50 = .ok (.getfield 26, 3) := by decide +kernel
theorem dX2_inspectRings_53 : decode cX2_inspectRings 53 = .ok (.invokevirtual 77, 3) := by decide +kernel
theorem dX2_inspectRings_56 : decode cX2_inspectRings 56 = .ok (.aload_n 0, 1) := by decide +kernel
theorem dX2_inspectRings_57 : decode cX2_inspectRings 57 = .ok (.getfield 15, 3) := by decide +kernel
theorem dX2_inspectRings_60 : decode cX2_inspectRings 60 = .ok (.aload_n 1, 1) := by decide +kernel
theorem dX2_inspectRings_61 : decode cX2_inspectRings 61 = .ok (.getfield 92, 3) := by decide +kernel
theorem dX2_inspectRings_64 : decode cX2_inspectRings 64 = .ok (.iload_n 2, 1) := by decide +kernel
theorem dX2_inspectRings_65 : decode cX2_inspectRings 65 = .ok (.iconst (-1), 1) := by decide +kernel
theorem dX2_inspectRings_66 : decode cX2_inspectRings 66 = .ok (.invokevirtual 95, 3) := by decide +kernel
theorem dX2_inspectRings_69 : decode cX2_inspectRings 69 = .ok (.iconst 1, 1) := by decide +kernel
theorem dX2_inspectRings_70 : decode cX2_inspectRings 70 = .ok (.ireturn, 1) := by decide +kernel
theorem dX2_inspectRings_71 : decode cX2_inspectRings 71 = .ok (.iinc 2 1, 3) := by decide +kernel
theorem dX2_inspectRings_74 : decode cX2_inspectRings 74 = .ok (.goto (-72), 3) := by decide +kernel
theorem dX2_inspectRings_77 : decode cX2_inspectRings 77 = .ok (.iconst 0, 1) := by decide +kernel
theorem dX2_inspectRings_78 : decode cX2_inspectRings 78 = .ok (.ireturn, 1) := by decide +kernel
theorem dX2_inspectSegments_0 : decode cX2_inspectSegments 0 = .ok (.iconst 0, 1) := by decide +kernel
theorem dX2_inspectSegments_1 : decode cX2_inspectSegments 1 = .ok (.istore_n 3, 1) := by decide +kernel
theorem dX2_inspectSegments_2 : decode cX2_inspectSegments 2 = .ok (.iload_n 3, 1) := by decide +kernel
theorem dX2_inspectSegments_3 : decode cX2_inspectSegments 3 = .ok (.aload_n 1, 1) := by decide +kernel
theorem dX2_inspectSegments_4 : decode cX2_inspectSegments 4 = .ok (.arraylength, 1) := by decide +kernel
theorem dX2_inspectSegments_5 : decode cX2_inspectSegments 5 = .ok (.if_icmp .ge 116, 3) := by decide +kernel
theorem dX2_inspectSegments_8 : decode cX2_inspectSegments 8 = .ok (.aload_n 1, 1) := by decide +kernel
theorem dX2_inspectSegments_9 : decode cX2_inspectSegments 9 = .ok (.iload_n 3, 1) := by decide +kernel
theorem dX2_inspectSegments_10 : decode cX2_inspectSegments 10 = .ok (.aaload, 1) := by decide +kernel
theorem dX2_inspectSegments_11 : decode cX2_inspectSegments 11 = .ok (.astore 4, 2) := by decide +kernel
theorem dX2_inspectSegments_13 : decode cX2_inspectSegments 13 = .ok (.iconst 0, 1) := by decide +kernel
theorem dX2_inspectSegments_14 : decode cX2_inspectSegments 14 = .ok (.istore 5, 2) := by decide +kernel
theorem dX2_inspectSegments_16 : decode cX2_inspectSegments 16 = .ok (.iload 5, 2) := by decide +kernel
theorem dX2_inspectSegments_18 : decode cX2_inspectSegments 18 = .ok (.aload 4, 2) := by decide +kernel
theorem dX2_inspectSegments_20 : decode cX2_inspectSegments 20 = .ok (.getfield 99, 3) := by decide +kernel
theorem dX2_inspectSegments_23 : decode cX2_inspectSegments 23 = .ok (.if_icmp .ge 92, 3) := by decide +kernel
theorem dX2_inspectSegments_26 : decode cX2_inspectSegments 26 = .ok (.iload_n 3, 1) := by decide +kernel
theorem dX2_inspectSegments_27 : decode cX2_inspectSegments 27 = .ok (.istore 6, 2) := by decide +kernel
theorem dX2_inspectSegments_29 : decode cX2_inspectSegments 29 = .ok (.iload 6, 2) := by decide +kernel
theorem dX2_inspectSegments_31 : decode cX2_inspectSegments 31 = .ok (.aload_n 1, 1) := by decide +kernel
theorem dX2_inspectSegments_32 : decode cX2_inspectSegments 32 = .ok (.arraylength, 1) := by decide +kernel
theorem dX2_inspectSegments_33 : decode cX2_inspectSegments 33 = .ok (.if_icmp .ge 76, 3) := by decide +kernel
theorem dX2_inspectSegments_36 : decode cX2_inspectSegments 36 = .ok (.aload 4, 2) := by decide +kernel
theorem dX2_inspectSegments_38 : decode cX2_inspectSegments 38 = .ok (.getfield 102, 3) := by decide +kernel
theorem dX2_inspectSegments_41 : decode cX2_inspectSegments 41 = .ok (.aload_n 1, 1) := by decide +kernel
theorem dX2_inspectSegments_42 : decode cX2_inspectSegments 42 = .ok (.iload 6, 2) := by decide +kernel
theorem dX2_inspectSegments_44 : decode cX2_inspectSegments 44 = .ok (.aaload, 1) := by decide +kernel
theorem dX2_inspectSegments_45 : decode cX2_inspectSegments 45 = .ok (.getfield 102, 3) := by decide +kernel
theorem dX2_inspectSegments_48 : decode cX2_inspectSegments 48 = .ok (.if_icmp .eq 7, 3) := by decide +kernel
theorem dX2_inspectSegments_51 : decode cX2_inspectSegments 51 = .ok (.iconst 1, 1) := by decide +kernel
theorem dX2_inspectSegments_52 : decode cX2_inspectSegments 52 = .ok (.goto 4, 3) := by decide +kernel
theorem dX2_inspectSegments_55 : decode cX2_inspectSegments 55 = .ok (.iconst 0, 1) := by decide +kernel
theorem dX2_inspectSegments_56 : decode cX2_inspectSegments 56 = .ok (.istore 7, 2) := by decide +kernel
theorem dX2_inspectSegments_58 : decode cX2_inspectSegments 58 = .ok (.iload_n 3, 1) := by decide +kernel
theorem dX2_inspectSegments_59 : decode cX2_inspectSegments 59 = .ok (.iload 6, 2) := by decide +kernel
theorem dX2_inspectSegments_61 : decode cX2_inspectSegments 61 = .ok (.if_icmp .ne 10, 3) := by decide +kernel
theorem dX2_inspectSegments_64 : decode cX2_inspectSegments 64 = .ok (.iload 5, 2) := by decide +kernel
theorem dX2_inspectSegments_66 : decode cX2_inspectSegments 66 = .ok (.iconst 1, 1) := by decide +kernel
theorem dX2_inspectSegments_67 : decode cX2_inspectSegments 67 = .ok (.iadd, 1) := by decide +kernel
theorem dX2_inspectSegments_68 : decode cX2_inspectSegments 68 = .ok (.goto 4, 3) := by decide +kernel
theorem dX2_inspectSegments_71 : decode cX2_inspectSegments 71 = .ok (.iconst 0, 1) := by decide +kernel
theorem dX2_inspectSegments_72 : decode cX2_inspectSegments 72 = .ok (.istore 8, 2) := by decide +kernel
theorem dX2_inspectSegments_74 : decode cX2_inspectSegments 74 = .ok (.iload 7, 2) := by decide +kernel
theorem dX2_inspectSegments_76 : decode cX2_inspectSegments 76 = .ok (.iload_n 2, 1) := by decide +kernel
theorem dX2_inspectSegments_77 : decode cX2_inspectSegments 77 = .ok (.if_icmp .ne 26, 3) := by decide +kernel
theorem dX2_inspectSegments_80 : decode cX2_inspectSegments 80 = .ok (.aload_n 0, 1) := by decide +kernel
theorem dX2_inspectSegments_81 : decode cX2_inspectSegments 81 = .ok (.aload 4, 2) := by decide +kernel
theorem dX2_inspectSegments_83 : decode cX2_inspectSegments 83 = .ok (.getfield 103, 3) := by decide +kernel
theorem dX2_inspectSegments_86 : decode cX2_inspectSegments 86 = .ok (.iload 5, 2) := by decide +kernel
theorem dX2_inspectSegments_88 : decode cX2_inspectSegments 88 = .ok (.aaload, 1) := by decide +kernel
theorem dX2_inspectSegments_89 : decode cX2_inspectSegments 89 = .ok (.aload_n 1, 1) := by decide +kernel
theorem dX2_inspectSegments_90 : decode cX2_inspectSegments 90 = .ok (.iload 6, 2) := by decide +kernel
theorem dX2_inspectSegments_92 : decode cX2_inspectSegments 92 = .ok (.aaload, 1) := by decide +kernel
theorem dX2_inspectSegments_93 : decode cX2_inspectSegments 93 = .ok (.iload 8, 2) := by decide +kernel
theorem dX2_inspectSegments_95 : decode cX2_inspectSegments 95 = .ok (.invokevirtual 107, 3) := by decide +kernel
theorem dX2_inspectSegments_98 : decode cX2_inspectSegments 98 = .ok (.ifCond .eq 5, 3) := by decide +kernel
theorem dX2_inspectSegments_101 : decode cX2_inspectSegments 101 = .ok (.iconst 1, 1) := by decide +kernel
theorem dX2_inspectSegments_102 : decode cX2_inspectSegments 102 = .ok (.ireturn, 1) := by decide +kernel
theorem dX2_inspectSegments_103 : decode cX2_inspectSegments 103 = .ok (.iinc 6 1, 3) := by decide +kernel
theorem dX2_inspectSegments_106 : decode cX2_inspectSegments 106 = .ok (.goto (-77), 3) := by decide +kernel
theorem dX2_inspectSegments_109 : decode cX2_inspectSegments 109 = .ok (.iinc 5 1, 3) := by decide +kernel
theorem dX2_inspectSegments_112 : decode cX2_inspectSegments 112 = .ok (.goto (-96), 3) := by decide +kernel
theorem dX2_inspectSegments_115 : decode cX2_inspectSegments 115 = .ok (.iinc 3 1, 3) := by decide +kernel
theorem dX2_inspectSegments_118 : decode cX2_inspectSegments 118 = .ok (.goto (-116), 3) := by decide +kernel
theorem dX2_inspectSegments_121 : decode cX2_inspectSegments 121 = .ok (.iconst 0, 1) := by decide +kernel
theorem dX2_inspectSegments_122 : decode cX2_inspectSegments 122 = .ok (.ireturn, 1) := by decide +kernel
theorem dX2_inspectSegment_0 : decode cX2_inspectSegment 0 = .ok (.iload_n 3, 1) := by decide +kernel
theorem dX2_inspectSegment_1 : decode cX2_inspectSegment 1 = .ok (.ifCond .lt 17, 3) := by decide +kernel
theorem dX2_inspectSegment_4 : decode cX2_inspectSegment 4 = .ok (.aload_n 1, 1) := by decide +kernel
theorem dX2_inspectSegment_5 : decode cX2_inspectSegment 5 = .ok (.getfield 111, 3) := by decide +kernel
theorem dX2_inspectSegment_8 : decode cX2_inspectSegment 8 = .ok (.aload_n 2, 1) := by decide +kernel
theorem dX2_inspectSegment_9 : decode cX2_inspectSegment 9 = .ok (.getfield 117, 3) := by decide +kernel
theorem dX2_inspectSegment_12 : decode cX2_inspectSegment 12 = .ok (.invokevirtual 118, 3) := by decide +kernel
theorem dX2_inspectSegment_15 : decode cX2_inspectSegment 15 = .ok (.ifCond .eq 5, 3) := by decide +kernel
theorem dX2_inspectSegment_18 : decode cX2_inspectSegment 18 = .ok (.iconst 0, 1) := by decide +kernel
theorem dX2_inspectSegment_19 : decode cX2_inspectSegment 19 = .ok (.ireturn, 1) := by decide +kernel
theorem dX2_inspectSegment_20 : decode cX2_inspectSegment 20 = .ok (.iload_n 3, 1) := by decide +kernel
theorem dX2_inspectSegment_21 : decode cX2_inspectSegment 21 = .ok (.istore 4, 2) := by decide +kernel
theorem dX2_inspectSegment_23 : decode cX2_inspectSegment 23 = .ok (.iload 4, 2) := by decide +kernel
theorem dX2_inspectSegment_25 : decode cX2_inspectSegment 25 = .ok (.aload_n 2, 1) := by decide +kernel
theorem dX2_inspectSegment_26 : decode cX2_inspectSegment 26 = .ok (.getfield 99, 3) := by decide +kernel
theorem dX2_inspectSegment_29 : decode cX2_inspectSegment 29 = .ok (.if_icmp .ge 46, 3) := by decide +kernel
theorem dX2_inspectSegment_32 : decode cX2_inspectSegment 32 = .ok (.aload_n 2, 1) := by decide +kernel
theorem dX2_inspectSegment_33 : decode cX2_inspectSegment 33 = .ok (.getfield 103, 3) := by decide +kernel
theorem dX2_inspectSegment_36 : decode cX2_inspectSegment 36 = .ok (.iload 4, 2) := by decide +kernel
theorem dX2_inspectSegment_38 : decode cX2_inspectSegment 38 = .ok (.aaload, 1) := by decide +kernel
theorem dX2_inspectSegment_39 : decode cX2_inspectSegment 39 = .ok (.astore 5, 2) := by decide +kernel
theorem dX2_inspectSegment_41 : decode cX2_inspectSegment 41 = .ok (.aload_n 0, 1) := by decide +kernel
theorem dX2_inspectSegment_42 : decode cX2_inspectSegment 42 = .ok (.getfield 22, 3) := by decide +kernel
theorem dX2_inspectSegment_45 : decode cX2_inspectSegment 45 = .ok (.aload_n 1, 1) := by decide +kernel
theorem dX2_inspectSegment_46 : decode cX2_inspectSegment 46 = .ok (.aload 5, 2) := by decide +kernel
theorem dX2_inspectSegment_48 : decode cX2_inspectSegment 48 = .ok (.invokevirtual 124, 3) := by decide +kernel
theorem dX2_inspectSegment_51 : decode cX2_inspectSegment 51 = .ok (.istore 6, 2) := by decide +kernel
theorem dX2_inspectSegment_53 : decode cX2_inspectSegment 53 = .ok (.iload 6, 2) := by decide +kernel
theorem dX2_inspectSegment_55 : decode cX2_inspectSegment 55 = .ok (.ifCond .eq 14, 3) := by decide +kernel
theorem dX2_inspectSegment_58 : decode cX2_inspectSegment 58 = .ok (.aload_n 0, 1) := by decide +kernel
theorem dX2_inspectSegment_59 : decode cX2_inspectSegment 59 = .ok (.iload 6, 2) := by decide +kernel
theorem dX2_inspectSegment_61 : decode cX2_inspectSegment 61 = .ok (.aload_n 1, 1) := by decide +kernel
theorem dX2_inspectSegment_62 : decode cX2_inspectSegment 62 = .ok (.aload 5, 2) := by decide +kernel
theorem dX2_inspectSegment_64 : decode cX2_inspectSegment 64 = .ok (.invokevirtual 128, 3) := by decide +kernel
theorem dX2_inspectSegment_67 : decode cX2_inspectSegment 67 = .ok (.iconst 1, 1) := by decide +kernel
theorem dX2_inspectSegment_68 : decode cX2_inspectSegment 68 = .ok (.ireturn, 1) := by decide +kernel
theorem dX2_inspectSegment_69 : decode cX2_inspectSegment 69 = .ok (.iinc 4 1, 3) := by decide +kernel
theorem dX2_inspectSegment_72 : decode cX2_inspectSegment 72 = .ok (.goto (-49), 3) := by decide +kernel
theorem dX2_inspectSegment_75 : decode cX2_inspectSegment 75 = .ok (.iconst 0, 1) := by decide +kernel
theorem dX2_inspectSegment_76 : decode cX2_inspectSegment 76 = .ok (.ireturn, 1) := by decide +kernel
theorem dX2_tellSegments_0 : decode cX2_tellSegments 0 = .ok (.iload_n 1, 1) := by decide +kernel
theorem dX2_tellSegments_1 : decode cX2_tellSegments 1 = .ok (.istore 4, 2) := by decide +kernel
theorem dX2_tellSegments_3 : decode cX2_tellSegments 3 = .ok (.aload_n 2, 1) := by decide +kernel
theorem dX2_tellSegments_4 : decode cX2_tellSegments 4 = .ok (.getfield 132, 3) := by decide +kernel
theorem dX2_tellSegments_7 : decode cX2_tellSegments 7 = .ok (.getfield 102, 3) := by decide +kernel
theorem dX2_tellSegments_10 : decode cX2_tellSegments 10 = .ok (.aload_n 3, 1) := by decide +kernel
theorem dX2_tellSegments_11 : decode cX2_tellSegments 11 = .ok (.getfield 132, 3) := by decide +kernel
theorem dX2_tellSegments_14 : decode cX2_tellSegments 14 = .ok (.getfield 102, 3) := by decide +kernel
theorem dX2_tellSegments_17 : decode cX2_tellSegments 17 = .ok (.if_icmp .eq 17, 3) := by decide +kernel
theorem dX2_tellSegments_20 : decode cX2_tellSegments 20 = .ok (.iload_n 1, 1) := by decide +kernel
theorem dX2_tellSegments_21 : decode cX2_tellSegments 21 = .ok (.iconst 3, 1) := by decide +kernel
theorem dX2_tellSegments_22 : decode cX2_tellSegments 22 = .ok (.if_icmp .ne 8, 3) := by decide +kernel
theorem dX2_tellSegments_25 : decode cX2_tellSegments 25 = .ok (.bipush 9, 2) := by decide +kernel
theorem dX2_tellSegments_27 : decode cX2_tellSegments 27 = .ok (.goto 5, 3) := by decide +kernel
theorem dX2_tellSegments_30 : decode cX2_tellSegments 30 = .ok (.bipush 10, 2) := by decide +kernel
theorem dX2_tellSegments_32 : decode cX2_tellSegments 32 = .ok (.istore 4, 2) := by decide +kernel
theorem dX2_tellSegments_34 : decode cX2_tellSegments 34 = .ok (.aload_n 0, 1) := by decide +kernel
theorem dX2_tellSegments_35 : decode cX2_tellSegments 35 = .ok (.getfield 15, 3) := by decide +kernel
theorem dX2_tellSegments_38 : decode cX2_tellSegments 38 = .ok (.iload 4, 2) := by decide +kernel
theorem dX2_tellSegments_40 : decode cX2_tellSegments 40 = .ok (.aload_n 0, 1) := by decide +kernel
theorem dX2_tellSegments_41 : decode cX2_tellSegments 41 = .ok (.getfield 26, 3) := by decide +kernel
theorem dX2_tellSegments_44 : decode cX2_tellSegments 44 = .ok (.invokevirtual 77, 3) := by decide +kernel
theorem dX2_tellSegments_47 : decode cX2_tellSegments 47 = .ok (.aload_n 0, 1) := by decide +kernel
theorem dX2_tellSegments_48 : decode cX2_tellSegments 48 = .ok (.getfield 15, 3) := by decide +kernel
theorem dX2_tellSegments_51 : decode cX2_tellSegments 51 = .ok (.aload_n 2, 1) := by decide +kernel
theorem dX2_tellSegments_52 : decode cX2_tellSegments 52 = .ok (.getfield 132, 3) := by decide +kernel
theorem dX2_tellSegments_55 : decode cX2_tellSegments 55 = .ok (.getfield 102, 3) := by decide +kernel
theorem dX2_tellSegments_58 : decode cX2_tellSegments 58 = .ok (.aload_n 2, 1) := by decide +kernel
theorem dX2_tellSegments_59 : decode cX2_tellSegments 59 = .ok (.getfield 132, 3) := by decide +kernel
theorem dX2_tellSegments_62 : decode cX2_tellSegments 62 = .ok (.getfield 136, 3) := by decide +kernel
theorem dX2_tellSegments_65 : decode cX2_tellSegments 65 = .ok (.aload_n 2, 1) := by decide +kernel
theorem dX2_tellSegments_66 : decode cX2_tellSegments 66 = .ok (.getfield 139, 3) := by decide +kernel
theorem dX2_tellSegments_69 : decode cX2_tellSegments 69 = .ok (.invokevirtual 95, 3) := by decide +kernel
theorem dX2_tellSegments_72 : decode cX2_tellSegments 72 = .ok (.aload_n 0, 1) := by decide +kernel
theorem dX2_tellSegments_73 : decode cX2_tellSegments 73 = .ok (.getfield 15, 3) := by decide +kernel
theorem dX2_tellSegments_76 : decode cX2_tellSegments 76 = .ok (.aload_n 3, 1) := by decide +kernel
theorem dX2_tellSegments_77 : decode cX2_tellSegments 77 = .ok (.getfield 132, 3) := by decide +kernel
theorem dX2_tellSegments_80 : decode cX2_tellSegments 80 = .ok (.getfield 102, 3) := by decide +kernel
theorem dX2_tellSegments_83 : decode cX2_tellSegments 83 = .ok (.aload_n 3, 1) := by decide +kernel
theorem dX2_tellSegments_84 : decode cX2_tellSegments 84 = .ok (.getfield 132, 3) := by decide +kernel
theorem dX2_tellSegments_87 : decode cX2_tellSegments 87 = .ok (.getfield 136, 3) := by decide +kernel
theorem dX2_tellSegments_90 : decode cX2_tellSegments 90 = .ok (.aload_n 3, 1) := by decide +kernel
theorem dX2_tellSegments_91 : decode cX2_tellSegments 91 = .ok (.getfield 139, 3) := by decide +kernel
theorem dX2_tellSegments_94 : decode cX2_tellSegments 94 = .ok (.invokevirtual 140, 3) := by decide +kernel
theorem dX2_tellSegments_97 : decode cX2_tellSegments 97 = .ok (.return_, 1) := by decide +kernel
theorem dX2_inspectHoles_0 : decode cX2_inspectHoles 0 = .ok (.aload_n 1, 1) := by decide +kernel
theorem dX2_inspectHoles_1 : decode cX2_inspectHoles 1 = .ok (.getfield 47, 3) := by decide +kernel
theorem dX2_inspectHoles_4 : decode cX2_inspectHoles 4 = .ok (.astore_n 2, 1) := by decide +kernel
theorem dX2_inspectHoles_5 : decode cX2_inspectHoles 5 = .ok (.iconst 1, 1) := by decide +kernel
theorem dX2_inspectHoles_6 : decode cX2_inspectHoles 6 = .ok (.istore_n 3, 1) := by decide +kernel
theorem dX2_inspectHoles_7 : decode cX2_inspectHoles 7 = .ok (.iload_n 3, 1) := by decide +kernel
theorem dX2_inspectHoles_8 : decode cX2_inspectHoles 8 = .ok (.aload_n 2, 1) := by decide +kernel
theorem dX2_inspectHoles_9 : decode cX2_inspectHoles 9 = .ok (.arraylength, 1) := by decide +kernel
theorem dX2_inspectHoles_10 : decode cX2_inspectHoles 10 = .ok (.if_icmp .ge 49, 3) := by decide +kernel
theorem dX2_inspectHoles_13 : decode cX2_inspectHoles 13 = .ok (.aload_n 2, 1) := by decide +kernel
theorem dX2_inspectHoles_14 : decode cX2_inspectHoles 14 = .ok (.iload_n 3, 1) := by decide +kernel
theorem dX2_inspectHoles_15 : decode cX2_inspectHoles 15 = .ok (.aaload, 1) := by decide +kernel
theorem dX2_inspectHoles_16 : decode cX2_inspectHoles 16 = .ok (.aload_n 2, 1) := by decide +kernel
theorem dX2_inspectHoles_17 : decode cX2_inspectHoles 17 = .ok (.iconst 0, 1) := by decide +kernel
theorem dX2_inspectHoles_18 : decode cX2_inspectHoles 18 = .ok (.aaload, 1) := by decide +kernel
theorem dX2_inspectHoles_19 : decode cX2_inspectHoles 19 = .ok (.invokevirtual 143, 3) := by decide +kernel
theorem dX2_inspectHoles_22 : decode cX2_inspectHoles 22 = .ok (.ifCond .ne 31, 3) := by decide +kernel
theorem dX2_inspectHoles_25 : decode cX2_inspectHoles 25 = .ok (.aload_n 0, 1) := by decide +kernel
theorem dX2_inspectHoles_26 : decode cX2_inspectHoles 26 = .ok (.getfield 15, 3) := by decide +kernel
theorem dX2_inspectHoles_29 : decode cX2_inspectHoles 29 = .ok (.bipush 6, 2) := by decide +kernel
theorem dX2_inspectHoles_31 : decode cX2_inspectHoles 31 = .ok (.aload_n 0, 1) := by decide +kernel
theorem dX2_inspectHoles_32 : decode cX2_inspectHoles 32 = .ok (.getfield 26, 3) := by decide +kernel
theorem dX2_inspectHoles_35 : decode cX2_inspectHoles 35 = .ok (.invokevirtual 77, 3) := by decide +kernel
theorem dX2_inspectHoles_38 : decode cX2_inspectHoles 38 = .ok (.aload_n 0, 1) := by decide +kernel
theorem dX2_inspectHoles_39 : decode cX2_inspectHoles 39 = .ok (.getfield 15, 3) := by decide +kernel
theorem dX2_inspectHoles_42 : decode cX2_inspectHoles 42 = .ok (.aload_n 1, 1) := by decide +kernel
theorem dX2_inspectHoles_43 : decode cX2_inspectHoles 43 = .ok (.getfield 92, 3) := by decide +kernel
theorem dX2_inspectHoles_46 : decode cX2_inspectHoles 46 = .ok (.iload_n 3, 1) := by decide +kernel
theorem dX2_inspectHoles_47 : decode cX2_inspectHoles 47 = .ok (.iconst (-1), 1) := by decide +kernel
theorem dX2_inspectHoles_48 : decode cX2_inspectHoles 48 = .ok (.invokevirtual 95, 3) := by decide +kernel
theorem dX2_inspectHoles_51 : decode cX2_inspectHoles 51 = .ok (.iconst 1, 1) := by decide +kernel
theorem dX2_inspectHoles_52 : decode cX2_inspectHoles 52 = .ok (.ireturn, 1) := by decide +kernel
theorem dX2_inspectHoles_53 : decode cX2_inspectHoles 53 = .ok (.iinc 3 1, 3) := by decide +kernel
theorem dX2_inspectHoles_56 : decode cX2_inspectHoles 56 = .ok (.goto (-49), 3) := by decide +kernel
theorem dX2_inspectHoles_59 : decode cX2_inspectHoles 59 = .ok (.iconst 0, 1) := by decide +kernel
theorem dX2_inspectHoles_60 : decode cX2_inspectHoles 60 = .ok (.ireturn, 1) := by decide +kernel
theorem dX2_inspectPairsOfHoles_0 : decode cX2_inspectPairsOfHoles 0 = .ok (.aload_n 1, 1) := by decide +kernel
theorem dX2_inspectPairsOfHoles_1 : decode cX2_inspectPairsOfHoles 1 = .ok (.getfield 47, 3) := by decide +kernel
theorem dX2_inspectPairsOfHoles_4 : decode cX2_inspectPairsOfHoles 4 = .ok (.astore_n 2, 1) := by decide +kernel
theorem dX2_inspectPairsOfHoles_5 : decode cX2_inspectPairsOfHoles 5 = .ok (.iconst 1, 1) := by decide +kernel
theorem dX2_inspectPairsOfHoles_6 : decode cX2_inspectPairsOfHoles 6 = .ok (.istore_n 3, 1) := by decide +kernel
theorem dX2_inspectPairsOfHoles_7 : decode cX2_inspectPairsOfHoles 7 = .ok (.iload_n 3, 1) := by decide +kernel
theorem dX2_inspectPairsOfHoles_8 : decode cX2_inspectPairsOfHoles 8 = .ok (.aload_n 2, 1) := by decide +kernel
theorem dX2_inspectPairsOfHoles_9 : decode cX2_inspectPairsOfHoles 9 = .ok (.arraylength, 1) := by decide +kernel
theorem dX2_inspectPairsOfHoles_10 : decode cX2_inspectPairsOfHoles 10 = .ok (.if_icmp .ge 95, 3) := by decide +kernel
theorem dX2_inspectPairsOfHoles_13 : decode cX2_inspectPairsOfHoles 13 = .ok (.iload_n 3, 1) := by decide +kernel
theorem dX2_inspectPairsOfHoles_14 : decode cX2_inspectPairsOfHoles 14 = .ok (.iconst 1, 1) := by decide +kernel
theorem dX2_inspectPairsOfHoles_15 : decode cX2_inspectPairsOfHoles 15 = .ok (.iadd, 1) := by decide +kernel
theorem dX2_inspectPairsOfHoles_16 : decode cX2_inspectPairsOfHoles 16 = .ok (.istore 4, 2) := by decide +kernel
theorem dX2_inspectPairsOfHoles_18 : decode cX2_inspectPairsOfHoles 18 = .ok (.iload 4, 2) := by decide +kernel
theorem dX2_inspectPairsOfHoles_20 : decode cX2_inspectPairsOfHoles 20 = .ok (.aload_n 2, 1) := by decide +kernel
theorem dX2_inspectPairsOfHoles_21 : decode cX2_inspectPairsOfHoles 21 = .ok (.arraylength, 1) := by decide +kernel
theorem dX2_inspectPairsOfHoles_22 : decode cX2_inspectPairsOfHoles 22 = .ok (.if_icmp .ge 77, 3) := by decide +kernel
theorem dX2_inspectPairsOfHoles_25 : decode cX2_inspectPairsOfHoles 25 = .ok (.aload_n 2, 1) := by decide +kernel
theorem dX2_inspectPairsOfHoles_26 : decode cX2_inspectPairsOfHoles 26 = .ok (.iload_n 3, 1) := by decide +kernel
theorem dX2_inspectPairsOfHoles_27 : decode cX2_inspectPairsOfHoles 27 = .ok (.aaload, 1) := by decide +kernel
theorem dX2_inspectPairsOfHoles_28 : decode cX2_inspectPairsOfHoles 28 = .ok (.aload_n 2, 1) := by decide +kernel
theorem dX2_inspectPairsOfHoles_29 : decode cX2_inspectPairsOfHoles 29 = .ok (.iload 4, 2) := by decide +kernel
theorem dX2_inspectPairsOfHoles_31 : decode cX2_inspectPairsOfHoles 31 = .ok (.aaload, 1) := by decide +kernel
theorem dX2_inspectPairsOfHoles_32 : decode cX2_inspectPairsOfHoles 32 = .ok (.invokevirtual 143, 3) := by decide +kernel
theorem dX2_inspectPairsOfHoles_35 : decode cX2_inspectPairsOfHoles 35 = .ok (.ifCond .ne 16, 3) := by decide +kernel
theorem dX2_inspectPairsOfHoles_38 : decode cX2_inspectPairsOfHoles 38 = .ok (.aload_n 2, 1) := by decide +kernel
theorem dX2_inspectPairsOfHoles_39 : decode cX2_inspectPairsOfHoles 39 = .ok (.iload 4, 2) := by decide +kernel
theorem dX2_inspectPairsOfHoles_41 : decode cX2_inspectPairsOfHoles 41 = .ok (.aaload, 1) := by decide +kernel
theorem dX2_inspectPairsOfHoles_42 : decode cX2_inspectPairsOfHoles 42 = .ok (.aload_n 2, 1) := by decide +kernel
theorem dX2_inspectPairsOfHoles_43 : decode cX2_inspectPairsOfHoles 43 = .ok (.iload_n 3, 1) := by decide +kernel
theorem dX2_inspectPairsOfHoles_44 : decode cX2_inspectPairsOfHoles 44 = .ok (.aaload, 1) := by decide +kernel
theorem dX2_inspectPairsOfHoles_45 : decode cX2_inspectPairsOfHoles 45 = .ok (.invokevirtual 143, 3) := by decide +kernel
theorem dX2_inspectPairsOfHoles_48 : decode cX2_inspectPairsOfHoles 48 = .ok (.ifCond .eq 45, 3) := by decide +kernel
theorem dX2_inspectPairsOfHoles_51 : decode cX2_inspectPairsOfHoles 51 = .ok (.aload_n 0, 1) := by decide +kernel
theorem dX2_inspectPairsOfHoles_52 : decode cX2_inspectPairsOfHoles 52 = .ok (.getfield 15, 3) := by decide +kernel
theorem dX2_inspectPairsOfHoles_55 : decode cX2_inspectPairsOfHoles 55 = .ok (.bipush 7, 2) := by decide +kernel
theorem dX2_inspectPairsOfHoles_57 : decode cX2_inspectPairsOfHoles 57 = .ok (.aload_n 0, 1) := by decide +kernel
theorem dX2_inspectPairsOfHoles_58 : decode cX2_inspectPairsOfHoles 58 = .ok (.getfield 26, 3) := by decide +kernel
theorem dX2_inspectPairsOfHoles_61 : decode cX2_inspectPairsOfHoles 61 = .ok (.invokevirtual 77, 3) := by decide +kernel
theorem dX2_inspectPairsOfHoles_64 : decode cX2_inspectPairsOfHoles 64 = .ok (.aload_n 0, 1) := by decide +kernel
theorem dX2_inspectPairsOfHoles_65 : decode cX2_inspectPairsOfHoles 65 = .ok (.getfield 15, 3) := by decide +kernel
theorem dX2_inspectPairsOfHoles_68 : decode cX2_inspectPairsOfHoles 68 = .ok (.aload_n 1, 1) := by decide +kernel
theorem dX2_inspectPairsOfHoles_69 : decode cX2_inspectPairsOfHoles 69 = .ok (.getfield 92, 3) := by decide +kernel
theorem dX2_inspectPairsOfHoles_72 : decode cX2_inspectPairsOfHoles 72 = .ok (.iload_n 3, 1) := by decide +kernel
theorem dX2_inspectPairsOfHoles_73 : decode cX2_inspectPairsOfHoles 73 = .ok (.iconst (-1), 1) := by decide +kernel
theorem dX2_inspectPairsOfHoles_74 : decode cX2_inspectPairsOfHoles 74 = .ok (.invokevirtual 95, 3) := by decide +kernel
theorem dX2_inspectPairsOfHoles_77 : decode cX2_inspectPairsOfHoles 77 = .ok (.aload_n 0, 1) := by decide +kernel
theorem dX2_inspectPairsOfHoles_78 : decode cX2_inspectPairsOfHoles 78 = .ok (.getfield 15, 3) := by decide +kernel
theorem dX2_inspectPairsOfHoles_81 : decode cX2_inspectPairsOfHoles 81 = .ok (.aload_n 1, 1) := by decide +kernel
theorem dX2_inspectPairsOfHoles_82 : decode cX2_inspectPairsOfHoles 82 = .ok (.getfield 92, 3) := by decide +kernel
theorem dX2_inspectPairsOfHoles_85 : decode cX2_inspectPairsOfHoles 85 = .ok (.iload 4, 2) := by decide +kernel
theorem dX2_inspectPairsOfHoles_87 : decode cX2_inspectPairsOfHoles 87 = .ok (.iconst (-1), 1) := by decide +kernel
theorem dX2_inspectPairsOfHoles_88 : decode cX2_inspectPairsOfHoles 88 = .ok (.invokevirtual 140, 3) := by decide +kernel
theorem dX2_inspectPairsOfHoles_91 : decode cX2_inspectPairsOfHoles 91 = .ok (.iconst 1, 1) := by decide +kernel
theorem dX2_inspectPairsOfHoles_92 : decode cX2_inspectPairsOfHoles 92 = .ok (.ireturn, 1) := by decide +kernel
theorem dX2_inspectPairsOfHoles_93 : decode cX2_inspectPairsOfHoles 93 = .ok (.iinc 4 1, 3) := by decide +kernel
theorem dX2_inspectPairsOfHoles_96 : decode cX2_inspectPairsOfHoles 96 = .ok (.goto (-78), 3) := by decide +kernel
theorem dX2_inspectPairsOfHoles_99 : decode cX2_inspectPairsOfHoles 99 = .ok (.iinc 3 1, 3) := by decide +kernel
theorem dX2_inspectPairsOfHoles_102 : decode cX2_inspectPairsOfHoles 102 = .ok (.goto (-95), 3) := by decide +kernel
theorem dX2_inspectPairsOfHoles_105 : decode cX2_inspectPairsOfHoles 105 = .ok (.iconst 0, 1) := by decide +kernel
theorem dX2_inspectPairsOfHoles_106 : decode cX2_inspectPairsOfHoles 106 = .ok (.ireturn, 1) := by decide +kernel
theorem dX2_inspectWholeness_0 : decode cX2_inspectWholeness 0 = .ok (.aload_n 1, 1) := by decide +kernel
theorem dX2_inspectWholeness_1 : decode cX2_inspectWholeness 1 = .ok (.getfield 47, 3) := by decide +kernel
theorem dX2_inspectWholeness_4 : decode cX2_inspectWholeness 4 = .ok (.arraylength, 1) := by decide +kernel
theorem dX2_inspectWholeness_5 : decode cX2_inspectWholeness 5 = .ok (.iconst 2, 1) := by decide +kernel
theorem dX2_inspectWholeness_6 : decode cX2_inspectWholeness 6 = .ok (.if_icmp .lt 10, 3) := by decide +kernel
theorem dX2_inspectWholeness_9 : decode cX2_inspectWholeness 9 = .ok (.aload_n 1, 1) := by decide +kernel
theorem dX2_inspectWholeness_10 : decode cX2_inspectWholeness 10 = .ok (.invokevirtual 147, 3) := by decide +kernel
theorem dX2_inspectWholeness_13 : decode cX2_inspectWholeness 13 = .ok (.ifCond .ne 5, 3) := by decide +kernel
theorem dX2_inspectWholeness_16 : decode cX2_inspectWholeness 16 = .ok (.iconst 0, 1) := by decide +kernel
theorem dX2_inspectWholeness_17 : decode cX2_inspectWholeness 17 = .ok (.ireturn, 1) := by decide +kernel
theorem dX2_inspectWholeness_18 : decode cX2_inspectWholeness 18 = .ok (.aload_n 0, 1) := by decide +kernel
theorem dX2_inspectWholeness_19 : decode cX2_inspectWholeness 19 = .ok (.getfield 15, 3) := by decide +kernel
theorem dX2_inspectWholeness_22 : decode cX2_inspectWholeness 22 = .ok (.bipush 8, 2) := by decide +kernel
theorem dX2_inspectWholeness_24 : decode cX2_inspectWholeness 24 = .ok (.aload_n 0, 1) := by decide +kernel
theorem dX2_inspectWholeness_25 : decode cX2_inspectWholeness 25 = .ok (.getfield 26, 3) := by decide +kernel
theorem dX2_inspectWholeness_28 : decode cX2_inspectWholeness 28 = .ok (.invokevirtual 77, 3) := by decide +kernel
theorem dX2_inspectWholeness_31 : decode cX2_inspectWholeness 31 = .ok (.aload_n 0, 1) := by decide +kernel
theorem dX2_inspectWholeness_32 : decode cX2_inspectWholeness 32 = .ok (.getfield 15, 3) := by decide +kernel
theorem dX2_inspectWholeness_35 : decode cX2_inspectWholeness 35 = .ok (.aload_n 1, 1) := by decide +kernel
theorem dX2_inspectWholeness_36 : decode cX2_inspectWholeness 36 = .ok (.getfield 92, 3) := by decide +kernel
theorem dX2_inspectWholeness_39 : decode cX2_inspectWholeness 39 = .ok (.iconst (-1), 1) := by decide +kernel
theorem dX2_inspectWholeness_40 : decode cX2_inspectWholeness 40 = .ok (.iconst (-1), 1) := by decide +kernel
theorem dX2_inspectWholeness_41 : decode cX2_inspectWholeness 41 = .ok (.invokevirtual 95, 3) := by decide +kernel
theorem dX2_inspectWholeness_44 : decode cX2_inspectWholeness 44 = .ok (.iconst 1, 1) := by decide +kernel
theorem dX2_inspectWholeness_45 : decode cX2_inspectWholeness 45 = .ok (.ireturn, 1) := by decide +kernel
theorem dX2_inspectPairsOfParts_0 : decode cX2_inspectPairsOfParts 0 = .ok (.iconst 0, 1) := by decide +kernel
theorem dX2_inspectPairsOfParts_1 : decode cX2_inspectPairsOfParts 1 = .ok (.istore_n 2, 1) := by decide +kernel
theorem dX2_inspectPairsOfParts_2 : decode cX2_inspectPairsOfParts 2 = .ok (.iload_n 2, 1) := by decide +kernel
theorem dX2_inspectPairsOfParts_3 : decode cX2_inspectPairsOfParts 3 = .ok (.aload_n 1, 1) := by decide +kernel
theorem dX2_inspectPairsOfParts_4 : decode cX2_inspectPairsOfParts 4 = .ok (.arraylength, 1) := by decide +kernel
theorem dX2_inspectPairsOfParts_5 : decode cX2_inspectPairsOfParts 5 = .ok (.if_icmp .ge 83, 3) := by decide +kernel
theorem dX2_inspectPairsOfParts_8 : decode cX2_inspectPairsOfParts 8 = .ok (.iload_n 2, 1) := by decide +kernel
theorem dX2_inspectPairsOfParts_9 : decode cX2_inspectPairsOfParts 9 = .ok (.iconst 1, 1) := by decide +kernel
theorem dX2_inspectPairsOfParts_10 : decode cX2_inspectPairsOfParts 10 = .ok (.iadd, 1) := by decide +kernel
theorem dX2_inspectPairsOfParts_11 : decode cX2_inspectPairsOfParts 11 = .ok (.istore_n 3, 1) := by decide +kernel
theorem dX2_inspectPairsOfParts_12 : decode cX2_inspectPairsOfParts 12 = .ok (.iload_n 3, 1) := by decide +kernel
theorem dX2_inspectPairsOfParts_13 : decode cX2_inspectPairsOfParts 13 = .ok (.aload_n 1, 1) := by decide +kernel
theorem dX2_inspectPairsOfParts_14 : decode cX2_inspectPairsOfParts 14 = .ok (.arraylength, 1) := by decide +kernel
theorem dX2_inspectPairsOfParts_15 : decode cX2_inspectPairsOfParts 15 = .ok (.if_icmp .ge 67, 3) := by decide +kernel
theorem dX2_inspectPairsOfParts_18 : decode cX2_inspectPairsOfParts 18 = .ok (.aload_n 1, 1) := by decide +kernel
theorem dX2_inspectPairsOfParts_19 : decode cX2_inspectPairsOfParts 19 = .ok (.iload_n 2, 1) := by decide +kernel
theorem dX2_inspectPairsOfParts_20 : decode cX2_inspectPairsOfParts 20 = .ok (.aaload, 1) := by decide +kernel
theorem dX2_inspectPairsOfParts_21 : decode cX2_inspectPairsOfParts 21 = .ok (.aload_n 1, 1) := by decide +kernel
theorem dX2_inspectPairsOfParts_22 : decode cX2_inspectPairsOfParts 22 = .ok (.iload_n 3, 1) := by decide +kernel
theorem dX2_inspectPairsOfParts_23 : decode cX2_inspectPairsOfParts 23 = .ok (.aaload, 1) := by decide +kernel
theorem dX2_inspectPairsOfParts_24 : decode cX2_inspectPairsOfParts 24 = .ok (.invokevirtual 151, 3) := by decide +kernel
theorem dX2_inspectPairsOfParts_27 : decode cX2_inspectPairsOfParts 27 = .ok (.ifCond .ne 15, 3) := by decide +kernel
theorem dX2_inspectPairsOfParts_30 : decode cX2_inspectPairsOfParts 30 = .ok (.aload_n 1, 1) := by decide +kernel
theorem dX2_inspectPairsOfParts_31 : decode cX2_inspectPairsOfParts 31 = .ok (.iload_n 3, 1) := by decide +kernel
theorem dX2_inspectPairsOfParts_32 : decode cX2_inspectPairsOfParts 32 = .ok (.aaload, 1) := by decide +kernel
theorem dX2_inspectPairsOfParts_33 : decode cX2_inspectPairsOfParts 33 = .ok (.aload_n 1, 1) := by decide +kernel
theorem dX2_inspectPairsOfParts_34 : decode cX2_inspectPairsOfParts 34 = .ok (.iload_n 2, 1) := by decide +kernel
theorem dX2_inspectPairsOfParts_35 : decode cX2_inspectPairsOfParts 35 = .ok (.aaload, 1) := by decide +kernel
theorem dX2_inspectPairsOfParts_36 : decode cX2_inspectPairsOfParts 36 = .ok (.invokevirtual 151, 3) := by decide +kernel
theorem dX2_inspectPairsOfParts_39 : decode cX2_inspectPairsOfParts 39 = .ok (.ifCond .eq 37, 3) := by decide +kernel
theorem dX2_inspectPairsOfParts_42 : decode cX2_inspectPairsOfParts 42 = .ok (.aload_n 0, 1) := by decide +kernel
theorem dX2_inspectPairsOfParts_43 : decode cX2_inspectPairsOfParts 43 = .ok (.getfield 15, 3) := by decide +kernel
theorem dX2_inspectPairsOfParts_46 : decode cX2_inspectPairsOfParts 46 = .ok (.bipush 11, 2) := by decide +kernel
theorem dX2_inspectPairsOfParts_48 : decode cX2_inspectPairsOfParts 48 = .ok (.aload_n 0, 1) := by decide +kernel
theorem dX2_inspectPairsOfParts_49 : decode cX2_inspectPairsOfParts 49 = .ok (.getfield 26, 3) := by decide +kernel
theorem dX2_inspectPairsOfParts_52 : decode cX2_inspectPairsOfParts 52 = .ok (.invokevirtual 77, 3) := by decide +kernel
theorem dX2_inspectPairsOfParts_55 : decode cX2_inspectPairsOfParts 55 = .ok (.aload_n 0, 1) := by decide +kernel
theorem dX2_inspectPairsOfParts_56 : decode cX2_inspectPairsOfParts 56 = .ok (.getfield 15, 3) := by decide +kernel
theorem dX2_inspectPairsOfParts_59 : decode cX2_inspectPairsOfParts 59 = .ok (.iload_n 2, 1) := by decide +kernel
theorem dX2_inspectPairsOfParts_60 : decode cX2_inspectPairsOfParts 60 = .ok (.iconst (-1), 1) := by decide +kernel
theorem dX2_inspectPairsOfParts_61 : decode cX2_inspectPairsOfParts 61 = .ok (.iconst (-1), 1) := by decide +kernel
theorem dX2_inspectPairsOfParts_62 : decode cX2_inspectPairsOfParts 62 = .ok (.invokevirtual 95, 3) := by decide +kernel
theorem dX2_inspectPairsOfParts_65 : decode cX2_inspectPairsOfParts 65 = .ok (.aload_n 0, 1) := by decide +kernel
theorem dX2_inspectPairsOfParts_66 : decode cX2_inspectPairsOfParts 66 = .ok (.getfield 15, 3) := by decide +kernel
theorem dX2_inspectPairsOfParts_69 : decode cX2_inspectPairsOfParts 69 = .ok (.iload_n 3, 1) := by decide +kernel
theorem dX2_inspectPairsOfParts_70 : decode cX2_inspectPairsOfParts 70 = .ok (.iconst (-1), 1) := by decide +kernel
theorem dX2_inspectPairsOfParts_71 : decode cX2_inspectPairsOfParts 71 = .ok (.iconst (-1), 1) := by decide +kernel
theorem dX2_inspectPairsOfParts_72 : decode cX2_inspectPairsOfParts 72 = .ok (.invokevirtual 140, 3) := by decide +kernel
theorem dX2_inspectPairsOfParts_75 : decode cX2_inspectPairsOfParts 75 = .ok (.return_, 1) := by decide +kernel
theorem dX2_inspectPairsOfParts_76 : decode cX2_inspectPairsOfParts 76 = .ok (.iinc 3 1, 3) := by decide +kernel
theorem dX2_inspectPairsOfParts_79 : decode cX2_inspectPairsOfParts 79 = .ok (.goto (-67), 3) := by decide +kernel
theorem dX2_inspectPairsOfParts_82 : decode cX2_inspectPairsOfParts 82 = .ok (.iinc 2 1, 3) := by decide +kernel
theorem dX2_inspectPairsOfParts_85 : decode cX2_inspectPairsOfParts 85 = .ok (.goto (-83), 3) := by decide +kernel
theorem dX2_inspectPairsOfParts_88 : decode cX2_inspectPairsOfParts 88 = .ok (.return_, 1) := by decide +kernel
theorem dX3_init_0 : decode cX3_init 0 = .ok (.aload_n 0, 1) := by decide +kernel
theorem dX3_init_1 : decode cX3_init 1 = .ok (.invokespecial 3, 3) := by decide +kernel
theorem dX3_init_4 : decode cX3_init 4 = .ok (.return_, 1) := by decide +kernel
theorem dX3_fault_0 : decode cX3_fault 0 = .ok (.aload_n 0, 1) := by decide +kernel
theorem dX3_fault_1 : decode cX3_fault 1 = .ok (.aload_n 1, 1) := by decide +kernel
theorem dX3_fault_2 : decode cX3_fault 2 = .ok (.aload_n 2, 1) := by decide +kernel
theorem dX3_fault_3 : decode cX3_fault 3 = .ok (.invokevirtual 9, 3) := by decide +kernel
theorem dX3_fault_6 : decode cX3_fault 6 = .ok (.istore_n 3, 1) := by decide +kernel
theorem dX3_fault_7 : decode cX3_fault 7 = .ok (.iload_n 3, 1) := by decide +kernel
theorem dX3_fault_8 : decode cX3_fault 8 = .ok (.ifCond .ne 5, 3) := by decide +kernel
theorem dX3_fault_11 : decode cX3_fault 11 = .ok (.iconst 0, 1) := by decide +kernel
theorem dX3_fault_12 : decode cX3_fault 12 = .ok (.ireturn, 1) := by decide +kernel
theorem dX3_fault_13 : decode cX3_fault 13 = .ok (.iload_n 3, 1) := by decide +kernel
theorem dX3_fault_14 : decode cX3_fault 14 = .ok (.iconst 3, 1) := by decide +kernel
theorem dX3_fault_15 : decode cX3_fault 15 = .ok (.if_icmp .ne 5, 3) := by decide +kernel
theorem dX3_fault_18 : decode cX3_fault 18 = .ok (.iconst 3, 1) := by decide +kernel
theorem dX3_fault_19 : decode cX3_fault 19 = .ok (.ireturn, 1) := by decide +kernel
theorem dX3_fault_20 : decode cX3_fault 20 = .ok (.iload_n 3, 1) := by decide +kernel
theorem dX3_fault_21 : decode cX3_fault 21 = .ok (.iconst 1, 1) := by decide +kernel
theorem dX3_fault_22 : decode cX3_fault 22 = .ok (.if_icmp .ne 5, 3) := by decide +kernel
theorem dX3_fault_25 : decode cX3_fault 25 = .ok (.iconst 4, 1) := by decide +kernel
theorem dX3_fault_26 : decode cX3_fault 26 = .ok (.ireturn, 1) := by decide +kernel
theorem dX3_fault_27 : decode cX3_fault 27 = .ok (.aload_n 1, 1) := by decide +kernel
theorem dX3_fault_28 : decode cX3_fault 28 = .ok (.getfield 15, 3) := by decide +kernel
theorem dX3_fault_31 : decode cX3_fault 31 = .ok (.aload_n 2, 1) := by decide +kernel
theorem dX3_fault_32 : decode cX3_fault 32 = .ok (.getfield 15, 3) := by decide +kernel
theorem dX3_fault_35 : decode cX3_fault 35 = .ok (.if_acmp .ne 17, 3) := by decide +kernel
theorem dX3_fault_38 : decode cX3_fault 38 = .ok (.aload_n 1, 1) := by decide +kernel
theorem dX3_fault_39 : decode cX3_fault 39 = .ok (.aload_n 2, 1) := by decide +kernel
theorem dX3_fault_40 : decode cX3_fault 40 = .ok (.invokevirtual 21, 3) := by decide +kernel
theorem dX3_fault_43 : decode cX3_fault 43 = .ok (.ifCond .eq 7, 3) := by decide +kernel
theorem dX3_fault_46 : decode cX3_fault 46 = .ok (.iconst 0, 1) := by decide +kernel
theorem dX3_fault_47 : decode cX3_fault 47 = .ok (.goto 4, 3) := by decide +kernel
theorem dX3_fault_50 : decode cX3_fault 50 = .ok (.iconst 5, 1) := by decide +kernel
theorem dX3_fault_51 : decode cX3_fault 51 = .ok (.ireturn, 1) := by decide +kernel
theorem dX3_fault_52 : decode cX3_fault 52 = .ok (.aload_n 0, 1) := by decide +kernel
theorem dX3_fault_53 : decode cX3_fault 53 = .ok (.aload_n 1, 1) := by decide +kernel
theorem dX3_fault_54 : decode cX3_fault 54 = .ok (.aload_n 2, 1) := by decide +kernel
theorem dX3_fault_55 : decode cX3_fault 55 = .ok (.invokevirtual 25, 3) := by decide +kernel
theorem dX3_fault_58 : decode cX3_fault 58 = .ok (.ifCond .eq 7, 3) := by decide +kernel
theorem dX3_fault_61 : decode cX3_fault 61 = .ok (.iconst 4, 1) := by decide +kernel
theorem dX3_fault_62 : decode cX3_fault 62 = .ok (.goto 4, 3) := by decide +kernel
theorem dX3_fault_65 : decode cX3_fault 65 = .ok (.iconst 0, 1) := by decide +kernel
theorem dX3_fault_66 : decode cX3_fault 66 = .ok (.ireturn, 1) := by decide +kernel
theorem dX3_meet_0 : decode cX3_meet 0 = .ok (.aload_n 1, 1) := by decide +kernel
theorem dX3_meet_1 : decode cX3_meet 1 = .ok (.getfield 29, 3) := by decide +kernel
theorem dX3_meet_4 : decode cX3_meet 4 = .ok (.aload_n 2, 1) := by decide +kernel
theorem dX3_meet_5 : decode cX3_meet 5 = .ok (.getfield 29, 3) := by decide +kernel
theorem dX3_meet_8 : decode cX3_meet 8 = .ok (.invokevirtual 33, 3) := by decide +kernel
theorem dX3_meet_11 : decode cX3_meet 11 = .ok (.ifCond .eq 5, 3) := by decide +kernel
theorem dX3_meet_14 : decode cX3_meet 14 = .ok (.iconst 0, 1) := by decide +kernel
theorem dX3_meet_15 : decode cX3_meet 15 = .ok (.ireturn, 1) := by decide +kernel
theorem dX3_meet_16 : decode cX3_meet 16 = .ok (.aload_n 1, 1) := by decide +kernel
theorem dX3_meet_17 : decode cX3_meet 17 = .ok (.aload_n 2, 1) := by decide +kernel
theorem dX3_meet_18 : decode cX3_meet 18 = .ok (.getfield 39, 3) := by decide +kernel
theorem dX3_meet_21 : decode cX3_meet 21 = .ok (.aload_n 2, 1) := by decide +kernel
theorem dX3_meet_22 : decode cX3_meet 22 = .ok (.getfield 43, 3) := by decide +kernel
theorem dX3_meet_25 : decode cX3_meet 25 = .ok (.invokevirtual 46, 3) := by decide +kernel
theorem dX3_meet_28 : decode cX3_meet 28 = .ok (.lstore_n 3, 1) := by decide +kernel
theorem dX3_meet_29 : decode cX3_meet 29 = .ok (.aload_n 1, 1) := by decide +kernel
theorem dX3_meet_30 : decode cX3_meet 30 = .ok (.aload_n 2, 1) := by decide +kernel
theorem dX3_meet_31 : decode cX3_meet 31 = .ok (.getfield 50, 3) := by decide +kernel
theorem dX3_meet_34 : decode cX3_meet 34 = .ok (.aload_n 2, 1) := by decide +kernel
theorem dX3_meet_35 : decode cX3_meet 35 = .ok (.getfield 53, 3) := by decide +kernel
theorem dX3_meet_38 : decode cX3_meet 38 = .ok (.invokevirtual 46, 3) := by decide +kernel
theorem dX3_meet_41 : decode cX3_meet 41 = .ok (.lstore 5, 2) := by decide +kernel
theorem dX3_meet_43 : decode cX3_meet 43 = .ok (.lload_n 3, 1) := by decide +kernel
theorem dX3_meet_44 : decode cX3_meet 44 = .ok (.lconst 0, 1) := by decide +kernel
theorem dX3_meet_45 : decode cX3_meet 45 = .ok (.lcmp, 1) := by decide +kernel
theorem dX3_meet_46 : decode cX3_meet 46 = .ok (.ifCond .ne 23, 3) := by decide +kernel
theorem dX3_meet_49 : decode cX3_meet 49 = .ok (.lload 5, 2) := by decide +kernel
theorem dX3_meet_51 : decode cX3_meet 51 = .ok (.lconst 0, 1) := by decide +kernel
theorem dX3_meet_52 : decode cX3_meet 52 = .ok (.lcmp, 1) := by decide +kernel
theorem dX3_meet_53 : decode cX3_meet 53 = .ok (.ifCond .ne 16, 3) := by decide +kernel
theorem dX3_meet_56 : decode cX3_meet 56 = .ok (.aload_n 0, 1) := by decide +kernel
theorem dX3_meet_57 : decode cX3_meet 57 = .ok (.aload_n 1, 1) := by decide +kernel
theorem dX3_meet_58 : decode cX3_meet 58 = .ok (.getfield 29, 3) := by decide +kernel
theorem dX3_meet_61 : decode cX3_meet 61 = .ok (.aload_n 2, 1) := by decide +kernel
theorem dX3_meet_62 : decode cX3_meet 62 = .ok (.getfield 29, 3) := by decide +kernel
theorem dX3_meet_65 : decode cX3_meet 65 = .ok (.invokevirtual 56, 3) := by decide +kernel
theorem dX3_meet_68 : decode cX3_meet 68 = .ok (.ireturn, 1) := by decide +kernel
theorem dX3_meet_69 : decode cX3_meet 69 = .ok (.aload_n 2, 1) := by decide +kernel
theorem dX3_meet_70 : decode cX3_meet 70 = .ok (.aload_n 1, 1) := by decide +kernel
theorem dX3_meet_71 : decode cX3_meet 71 = .ok (.getfield 39, 3) := by decide +kernel
theorem dX3_meet_74 : decode cX3_meet 74 = .ok (.aload_n 1, 1) := by decide +kernel
theorem dX3_meet_75 : decode cX3_meet 75 = .ok (.getfield 43, 3) := by decide +kernel
theorem dX3_meet_78 : decode cX3_meet 78 = .ok (.invokevirtual 46, 3) := by decide +kernel
theorem dX3_meet_81 : decode cX3_meet 81 = .ok (.lstore 7, 2) := by decide +kernel
theorem dX3_meet_83 : decode cX3_meet 83 = .ok (.aload_n 2, 1) := by decide +kernel
theorem dX3_meet_84 : decode cX3_meet 84 = .ok (.aload_n 1, 1) := by decide +kernel
theorem dX3_meet_85 : decode cX3_meet 85 = .ok (.getfield 50, 3) := by decide +kernel
theorem dX3_meet_88 : decode cX3_meet 88 = .ok (.aload_n 1, 1) := by decide +kernel
theorem dX3_meet_89 : decode cX3_meet 89 = .ok (.getfield 53, 3) := by decide +kernel
theorem dX3_meet_92 : decode cX3_meet 92 = .ok (.invokevirtual 46, 3) := by decide +kernel
theorem dX3_meet_95 : decode cX3_meet 95 = .ok (.lstore 9, 2) := by decide +kernel
theorem dX3_meet_97 : decode cX3_meet 97 = .ok (.lload_n 3, 1) := by decide +kernel
theorem dX3_meet_98 : decode cX3_meet 98 = .ok (.lload 5, 2) := by decide +kernel
theorem dX3_meet_100 : decode cX3_meet 100 = .ok (.invokestatic 60, 3) := by decide +kernel
theorem dX3_meet_103 : decode cX3_meet 103 = .ok (.ifCond .ne 13, 3) := by decide +kernel
theorem dX3_meet_106 : decode cX3_meet 106 = .ok (.lload 7, 2) := by decide +kernel
theorem dX3_meet_108 : decode cX3_meet 108 = .ok (.lload 9, 2) := by decide +kernel
theorem dX3_meet_110 : decode cX3_meet 110 = .ok (.invokestatic 60, 3) := by decide +kernel
theorem dX3_meet_113 : decode cX3_meet 113 = .ok (.ifCond .eq 5, 3) := by decide +kernel
theorem dX3_meet_116 : decode cX3_meet 116 = .ok (.iconst 0, 1) := by decide +kernel
theorem dX3_meet_117 : decode cX3_meet 117 = .ok (.ireturn, 1) := by decide +kernel
theorem dX3_meet_118 : decode cX3_meet 118 = .ok (.lload_n 3, 1) := by decide +kernel
theorem dX3_meet_119 : decode cX3_meet 119 = .ok (.lconst 0, 1) := by decide +kernel
theorem dX3_meet_120 : decode cX3_meet 120 = .ok (.lcmp, 1) := by decide +kernel
theorem dX3_meet_121 : decode cX3_meet 121 = .ok (.ifCond .ne 16, 3) := by decide +kernel
theorem dX3_meet_124 : decode cX3_meet 124 = .ok (.aload_n 0, 1) := by decide +kernel
theorem dX3_meet_125 : decode cX3_meet 125 = .ok (.aload_n 2, 1) := by decide +kernel
theorem dX3_meet_126 : decode cX3_meet 126 = .ok (.getfield 39, 3) := by decide +kernel
theorem dX3_meet_129 : decode cX3_meet 129 = .ok (.aload_n 2, 1) := by decide +kernel
theorem dX3_meet_130 : decode cX3_meet 130 = .ok (.getfield 43, 3) := by decide +kernel
theorem dX3_meet_133 : decode cX3_meet 133 = .ok (.invokevirtual 64, 3) := by decide +kernel
theorem dX3_meet_136 : decode cX3_meet 136 = .ok (.ireturn, 1) := by decide +kernel
theorem dX3_meet_137 : decode cX3_meet 137 = .ok (.lload 5, 2) := by decide +kernel
theorem dX3_meet_139 : decode cX3_meet 139 = .ok (.lconst 0, 1) := by decide +kernel
theorem dX3_meet_140 : decode cX3_meet 140 = .ok (.lcmp, 1) := by decide +kernel
theorem dX3_meet_141 : decode cX3_meet 141 = .ok (.ifCond .ne 16, 3) := by decide +kernel
theorem dX3_meet_144 : decode cX3_meet 144 = .ok (.aload_n 0, 1) := by decide +kernel
theorem dX3_meet_145 : decode cX3_meet 145 = .ok (.aload_n 2, 1) := by decide +kernel
theorem dX3_meet_146 : decode cX3_meet 146 = .ok (.getfield 50, 3) := by decide +kernel
theorem dX3_meet_149 : decode cX3_meet 149 = .ok (.aload_n 2, 1) := by decide +kernel
theorem dX3_meet_150 : decode cX3_meet 150 = .ok (.getfield 53, 3) := by decide +kernel
theorem dX3_meet_153 : decode cX3_meet 153 = .ok (.invokevirtual 64, 3) := by decide +kernel
theorem dX3_meet_156 : decode cX3_meet 156 = .ok (.ireturn, 1) := by decide +kernel
theorem dX3_meet_157 : decode cX3_meet 157 = .ok (.lload 7, 2) := by decide +kernel
theorem dX3_meet_159 : decode cX3_meet 159 = .ok (.lconst 0, 1) := by decide +kernel
theorem dX3_meet_160 : decode cX3_meet 160 = .ok (.lcmp, 1) := by decide +kernel
theorem dX3_meet_161 : decode cX3_meet 161 = .ok (.ifCond .ne 16, 3) := by decide +kernel
theorem dX3_meet_164 : decode cX3_meet 164 = .ok (.aload_n 0, 1) := by decide +kernel
theorem dX3_meet_165 : decode cX3_meet 165 = .ok (.aload_n 1, 1) := by decide +kernel
theorem dX3_meet_166 : decode cX3_meet 166 = .ok (.getfield 39, 3) := by decide +kernel
theorem dX3_meet_169 : decode cX3_meet 169 = .ok (.aload_n 1, 1) := by decide +kernel
theorem dX3_meet_170 : decode cX3_meet 170 = .ok (.getfield 43, 3) := by decide +kernel
theorem dX3_meet_173 : decode cX3_meet 173 = .ok (.invokevirtual 64, 3) := by decide +kernel
theorem dX3_meet_176 : decode cX3_meet 176 = .ok (.ireturn, 1) := by decide +kernel
theorem dX3_meet_177 : decode cX3_meet 177 = .ok (.lload 9, 2) := by decide +kernel
theorem dX3_meet_179 : decode cX3_meet 179 = .ok (.lconst 0, 1) := by decide +kernel
theorem dX3_meet_180 : decode cX3_meet 180 = .ok (.lcmp, 1) := by decide +kernel
theorem dX3_meet_181 : decode cX3_meet 181 = .ok (.ifCond .ne 18, 3) := by decide +kernel
theorem dX3_meet_184 : decode cX3_meet 184 = .ok (.aload_n 0, 1) := by decide +kernel
theorem dX3_meet_185 : decode cX3_meet 185 = .ok (.aload_n 1, 1) := by decide +kernel
theorem dX3_meet_186 : decode cX3_meet 186 = .ok (.getfield 50, 3) := by decide +kernel
theorem dX3_meet_189 : decode cX3_meet 189 = .ok (.aload_n 1, 1) := by decide +kernel
theorem dX3_meet_190 : decode cX3_meet 190 = .ok (.getfield 53, 3) := by decide +kernel
theorem dX3_meet_193 : decode cX3_meet 193 = .ok (.invokevirtual 64, 3) := by decide +kernel
theorem dX3_meet_196 : decode cX3_meet 196 = .ok (.goto 4, 3) := by decide +kernel
theorem dX3_meet_199 : decode cX3_meet 199 = .ok (.iconst 1, 1) := by decide +kernel
theorem dX3_meet_200 : decode cX3_meet 200 = .ok (.ireturn, 1) := by decide +kernel
theorem dX3_isOneSide_0 : decode cX3_isOneSide 0 = .ok (.lload_n 0, 1) := by decide +kernel
theorem dX3_isOneSide_1 : decode cX3_isOneSide 1 = .ok (.lconst 0, 1) := by decide +kernel
theorem dX3_isOneSide_2 : decode cX3_isOneSide 2 = .ok (.lcmp, 1) := by decide +kernel
theorem dX3_isOneSide_3 : decode cX3_isOneSide 3 = .ok (.ifCond .le 9, 3) := by decide +kernel
theorem dX3_isOneSide_6 : decode cX3_isOneSide 6 = .ok (.lload_n 2, 1) := by decide +kernel
theorem dX3_isOneSide_7 : decode cX3_isOneSide 7 = .ok (.lconst 0, 1) := by decide +kernel
theorem dX3_isOneSide_8 : decode cX3_isOneSide 8 = .ok (.lcmp, 1) := by decide +kernel
theorem dX3_isOneSide_9 : decode cX3_isOneSide 9 = .ok (.ifCond .gt 15, 3) := by decide +kernel
theorem dX3_isOneSide_12 : decode cX3_isOneSide 12 = .ok (.lload_n 0, 1) := by decide +kernel
theorem dX3_isOneSide_13 : decode cX3_isOneSide 13 = .ok (.lconst 0, 1) := by decide +kernel
theorem dX3_isOneSide_14 : decode cX3_isOneSide 14 = .ok (.lcmp, 1) := by decide +kernel
theorem dX3_isOneSide_15 : decode cX3_isOneSide 15 = .ok (.ifCond .ge 13, 3) := by decide +kernel
theorem dX3_isOneSide_18 : decode cX3_isOneSide 18 = .ok (.lload_n 2, 1) := by decide +kernel
theorem dX3_isOneSide_19 : decode cX3_isOneSide 19 = .ok (.lconst 0, 1) := by decide +kernel
theorem dX3_isOneSide_20 : decode cX3_isOneSide 20 = .ok (.lcmp, 1) := by decide +kernel
theorem dX3_isOneSide_21 : decode cX3_isOneSide 21 = .ok (.ifCond .ge 7, 3) := by decide +kernel
theorem dX3_isOneSide_24 : decode cX3_isOneSide 24 = .ok (.iconst 1, 1) := by decide +kernel
theorem dX3_isOneSide_25 : decode cX3_isOneSide 25 = .ok (.goto 4, 3) := by decide +kernel
theorem dX3_isOneSide_28 : decode cX3_isOneSide 28 = .ok (.iconst 0, 1) := by decide +kernel
theorem dX3_isOneSide_29 : decode cX3_isOneSide 29 = .ok (.ireturn, 1) := by decide +kernel
theorem dX3_meetOnOneLine_0 : decode cX3_meetOnOneLine 0 = .ok (.aload_n 1, 1) := by decide +kernel
theorem dX3_meetOnOneLine_1 : decode cX3_meetOnOneLine 1 = .ok (.getfield 68, 3) := by decide +kernel
theorem dX3_meetOnOneLine_4 : decode cX3_meetOnOneLine 4 = .ok (.aload_n 2, 1) := by decide +kernel
theorem dX3_meetOnOneLine_5 : decode cX3_meetOnOneLine 5 = .ok (.getfield 68, 3) := by decide +kernel
theorem dX3_meetOnOneLine_8 : decode cX3_meetOnOneLine 8 = .ok (.invokestatic 71, 3) := by decide +kernel
theorem dX3_meetOnOneLine_11 : decode cX3_meetOnOneLine 11 = .ok (.istore_n 3, 1) := by decide +kernel
theorem dX3_meetOnOneLine_12 : decode cX3_meetOnOneLine 12 = .ok (.aload_n 1, 1) := by decide +kernel
theorem dX3_meetOnOneLine_13 : decode cX3_meetOnOneLine 13 = .ok (.getfield 76, 3) := by decide +kernel
theorem dX3_meetOnOneLine_16 : decode cX3_meetOnOneLine 16 = .ok (.aload_n 2, 1) := by decide +kernel
theorem dX3_meetOnOneLine_17 : decode cX3_meetOnOneLine 17 = .ok (.getfield 76, 3) := by decide +kernel
theorem dX3_meetOnOneLine_20 : decode cX3_meetOnOneLine 20 = .ok (.invokestatic 71, 3) := by decide +kernel
theorem dX3_meetOnOneLine_23 : decode cX3_meetOnOneLine 23 = .ok (.istore 4, 2) := by decide +kernel
theorem dX3_meetOnOneLine_25 : decode cX3_meetOnOneLine 25 = .ok (.iload_n 3, 1) := by decide +kernel
theorem dX3_meetOnOneLine_26 : decode cX3_meetOnOneLine 26 = .ok (.aload_n 1, 1) := by decide +kernel
theorem dX3_meetOnOneLine_27 : decode cX3_meetOnOneLine 27 = .ok (.getfield 79, 3) := by decide +kernel
theorem dX3_meetOnOneLine_30 : decode cX3_meetOnOneLine 30 = .ok (.aload_n 2, 1) := by decide +kernel
theorem dX3_meetOnOneLine_31 : decode cX3_meetOnOneLine 31 = .ok (.getfield 79, 3) := by decide +kernel
theorem dX3_meetOnOneLine_34 : decode cX3_meetOnOneLine 34 = .ok (.invokestatic 82, 3) := by decide +kernel
theorem dX3_meetOnOneLine_37 : decode cX3_meetOnOneLine 37 = .ok (.if_icmp .ne 23, 3) := by decide +kernel
theorem dX3_meetOnOneLine_40 : decode cX3_meetOnOneLine 40 = .ok (.iload 4, 2) := by decide +kernel
theorem dX3_meetOnOneLine_42 : decode cX3_meetOnOneLine 42 = .ok (.aload_n 1, 1) := by decide +kernel
theorem dX3_meetOnOneLine_43 : decode cX3_meetOnOneLine 43 = .ok (.getfield 85, 3) := by decide +kernel
theorem dX3_meetOnOneLine_46 : decode cX3_meetOnOneLine 46 = .ok (.aload_n 2, 1) := by decide +kernel
theorem dX3_meetOnOneLine_47 : decode cX3_meetOnOneLine 47 = .ok (.getfield 85, 3) := by decide +kernel
theorem dX3_meetOnOneLine_50 : decode cX3_meetOnOneLine 50 = .ok (.invokestatic 82, 3) := by decide +kernel
theorem dX3_meetOnOneLine_53 : decode cX3_meetOnOneLine 53 = .ok (.if_icmp .ne 7, 3) := by decide +kernel
theorem dX3_meetOnOneLine_56 : decode cX3_meetOnOneLine 56 = .ok (.iconst 1, 1) := by decide +kernel
theorem dX3_meetOnOneLine_57 : decode cX3_meetOnOneLine 57 = .ok (.goto 4, 3) := by decide +kernel
theorem dX3_meetOnOneLine_60 : decode cX3_meetOnOneLine 60 = .ok (.iconst 0, 1) := by decide +kernel
theorem dX3_meetOnOneLine_61 : decode cX3_meetOnOneLine 61 = .ok (.istore 5, 2) := by decide +kernel
theorem dX3_meetOnOneLine_63 : decode cX3_meetOnOneLine 63 = .ok (.iload 5, 2) := by decide +kernel
theorem dX3_meetOnOneLine_65 : decode cX3_meetOnOneLine 65 = .ok (.ifCond .eq 13, 3) := by decide +kernel
theorem dX3_meetOnOneLine_68 : decode cX3_meetOnOneLine 68 = .ok (.aload_n 0, 1) := by decide +kernel
theorem dX3_meetOnOneLine_69 : decode cX3_meetOnOneLine 69 = .ok (.iload_n 3, 1) := by decide +kernel
theorem dX3_meetOnOneLine_70 : decode cX3_meetOnOneLine 70 = .ok (.iload 4, 2) := by decide +kernel
theorem dX3_meetOnOneLine_72 : decode cX3_meetOnOneLine 72 = .ok (.invokevirtual 64, 3) := by decide +kernel
theorem dX3_meetOnOneLine_75 : decode cX3_meetOnOneLine 75 = .ok (.goto 4, 3) := by decide +kernel
theorem dX3_meetOnOneLine_78 : decode cX3_meetOnOneLine 78 = .ok (.iconst 3, 1) := by decide +kernel
theorem dX3_meetOnOneLine_79 : decode cX3_meetOnOneLine 79 = .ok (.ireturn, 1) := by decide +kernel
theorem dX3_meetAt_0 : decode cX3_meetAt 0 = .ok (.aload_n 0, 1) := by decide +kernel
theorem dX3_meetAt_1 : decode cX3_meetAt 1 = .ok (.iload_n 1, 1) := by decide +kernel
theorem dX3_meetAt_2 : decode cX3_meetAt 2 = .ok (.putfield 88, 3) := by decide +kernel
theorem dX3_meetAt_5 : decode cX3_meetAt 5 = .ok (.aload_n 0, 1) := by decide +kernel
theorem dX3_meetAt_6 : decode cX3_meetAt 6 = .ok (.iload_n 2, 1) := by decide +kernel
theorem dX3_meetAt_7 : decode cX3_meetAt 7 = .ok (.putfield 91, 3) := by decide +kernel
theorem dX3_meetAt_10 : decode cX3_meetAt 10 = .ok (.iconst 2, 1) := by decide +kernel
theorem dX3_meetAt_11 : decode cX3_meetAt 11 = .ok (.ireturn, 1) := by decide +kernel
theorem dX3_ringsCross_0 : decode cX3_ringsCross 0 = .ok (.aload_n 1, 1) := by decide +kernel
theorem dX3_ringsCross_1 : decode cX3_ringsCross 1 = .ok (.aload_n 0, 1) := by decide +kernel
theorem dX3_ringsCross_2 : decode cX3_ringsCross 2 = .ok (.getfield 88, 3) := by decide +kernel
theorem dX3_ringsCross_5 : decode cX3_ringsCross 5 = .ok (.aload_n 0, 1) := by decide +kernel
theorem dX3_ringsCross_6 : decode cX3_ringsCross 6 = .ok (.getfield 91, 3) := by decide +kernel
theorem dX3_ringsCross_9 : decode cX3_ringsCross 9 = .ok (.invokevirtual 94, 3) := by decide +kernel
theorem dX3_ringsCross_12 : decode cX3_ringsCross 12 = .ok (.ifCond .ne 18, 3) := by decide +kernel
theorem dX3_ringsCross_15 : decode cX3_ringsCross 15 = .ok (.aload_n 2, 1) := by decide +kernel
theorem dX3_ringsCross_16 : decode cX3_ringsCross 16 = .ok (.aload_n 0, 1) := by decide +kernel
theorem dX3_ringsCross_17 : decode cX3_ringsCross 17 = .ok (.getfield 88, 3) := by decide +kernel
theorem dX3_ringsCross_20 : decode cX3_ringsCross 20 = .ok (.aload_n 0, 1) := by decide +kernel
theorem dX3_ringsCross_21 : decode cX3_ringsCross 21 = .ok (.getfield 91, 3) := by decide +kernel
theorem dX3_ringsCross_24 : decode cX3_ringsCross 24 = .ok (.invokevirtual 94, 3) := by decide +kernel
theorem dX3_ringsCross_27 : decode cX3_ringsCross 27 = .ok (.ifCond .eq 5, 3) := by decide +kernel
theorem dX3_ringsCross_30 : decode cX3_ringsCross 30 = .ok (.iconst 0, 1) := by decide +kernel
theorem dX3_ringsCross_31 : decode cX3_ringsCross 31 = .ok (.ireturn, 1) := by decide +kernel
theorem dX3_ringsCross_32 : decode cX3_ringsCross 32 = .ok (.aload_n 2, 1) := by decide +kernel
theorem dX3_ringsCross_33 : decode cX3_ringsCross 33 = .ok (.getfield 50, 3) := by decide +kernel
theorem dX3_ringsCross_36 : decode cX3_ringsCross 36 = .ok (.aload_n 0, 1) := by decide +kernel
theorem dX3_ringsCross_37 : decode cX3_ringsCross 37 = .ok (.getfield 88, 3) := by decide +kernel
theorem dX3_ringsCross_40 : decode cX3_ringsCross 40 = .ok (.if_icmp .ne 18, 3) := by decide +kernel
theorem dX3_ringsCross_43 : decode cX3_ringsCross 43 = .ok (.aload_n 2, 1) := by decide +kernel
theorem dX3_ringsCross_44 : decode cX3_ringsCross 44 = .ok (.getfield 53, 3) := by decide +kernel
theorem dX3_ringsCross_47 : decode cX3_ringsCross 47 = .ok (.aload_n 0, 1) := by decide +kernel
theorem dX3_ringsCross_48 : decode cX3_ringsCross 48 = .ok (.getfield 91, 3) := by decide +kernel
theorem dX3_ringsCross_51 : decode cX3_ringsCross 51 = .ok (.if_icmp .ne 7, 3) := by decide +kernel
theorem dX3_ringsCross_54 : decode cX3_ringsCross 54 = .ok (.iconst 1, 1) := by decide +kernel
theorem dX3_ringsCross_55 : decode cX3_ringsCross 55 = .ok (.goto 4, 3) := by decide +kernel
theorem dX3_ringsCross_58 : decode cX3_ringsCross 58 = .ok (.iconst 0, 1) := by decide +kernel
theorem dX3_ringsCross_59 : decode cX3_ringsCross 59 = .ok (.istore_n 3, 1) := by decide +kernel
theorem dX3_ringsCross_60 : decode cX3_ringsCross 60 = .ok (.iload_n 3, 1) := by decide +kernel
theorem dX3_ringsCross_61 : decode cX3_ringsCross 61 = .ok (.ifCond .eq 17, 3) := by decide +kernel
theorem dX3_ringsCross_64 : decode cX3_ringsCross 64 = .ok (.aload_n 2, 1) := by decide +kernel
theorem dX3_ringsCross_65 : decode cX3_ringsCross 65 = .ok (.getfield 98, 3) := by decide +kernel
theorem dX3_ringsCross_68 : decode cX3_ringsCross 68 = .ok (.ifnull 10, 3) := by decide +kernel
theorem dX3_ringsCross_71 : decode cX3_ringsCross 71 = .ok (.aload_n 2, 1) := by decide +kernel
theorem dX3_ringsCross_72 : decode cX3_ringsCross 72 = .ok (.getfield 98, 3) := by decide +kernel
theorem dX3_ringsCross_75 : decode cX3_ringsCross 75 = .ok (.goto 4, 3) := by decide +kernel
theorem dX3_ringsCross_78 : decode cX3_ringsCross 78 = .ok (.aload_n 2, 1) := by decide +kernel
theorem dX3_ringsCross_79 : decode cX3_ringsCross 79 = .ok (.astore 4, 2) := by decide +kernel
theorem dX3_ringsCross_81 : decode cX3_ringsCross 81 = .ok (.aload_n 1, 1) := by decide +kernel
theorem dX3_ringsCross_82 : decode cX3_ringsCross 82 = .ok (.aload_n 0, 1) := by decide +kernel
theorem dX3_ringsCross_83 : decode cX3_ringsCross 83 = .ok (.getfield 88, 3) := by decide +kernel
theorem dX3_ringsCross_86 : decode cX3_ringsCross 86 = .ok (.aload_n 0, 1) := by decide +kernel
theorem dX3_ringsCross_87 : decode cX3_ringsCross 87 = .ok (.getfield 91, 3) := by decide +kernel
theorem dX3_ringsCross_90 : decode cX3_ringsCross 90 = .ok (.aload_n 2, 1) := by decide +kernel
theorem dX3_ringsCross_91 : decode cX3_ringsCross 91 = .ok (.getfield 39, 3) := by decide +kernel
theorem dX3_ringsCross_94 : decode cX3_ringsCross 94 = .ok (.aload_n 2, 1) := by decide +kernel
theorem dX3_ringsCross_95 : decode cX3_ringsCross 95 = .ok (.getfield 43, 3) := by decide +kernel
theorem dX3_ringsCross_98 : decode cX3_ringsCross 98 = .ok (.invokevirtual 102, 3) := by decide +kernel
theorem dX3_ringsCross_101 : decode cX3_ringsCross 101 = .ok (.istore 5, 2) := by decide +kernel
theorem dX3_ringsCross_103 : decode cX3_ringsCross 103 = .ok (.aload_n 1, 1) := by decide +kernel
theorem dX3_ringsCross_104 : decode cX3_ringsCross 104 = .ok (.aload_n 0, 1) := by decide +kernel
theorem dX3_ringsCross_105 : decode cX3_ringsCross 105 = .ok (.getfield 88, 3) := by decide +kernel
theorem dX3_ringsCross_108 : decode cX3_ringsCross 108 = .ok (.aload_n 0, 1) := by decide +kernel
theorem dX3_ringsCross_109 : decode cX3_ringsCross 109 = .ok (.getfield 91, 3) := by decide +kernel
theorem dX3_ringsCross_112 : decode cX3_ringsCross 112 = .ok (.aload 4, 2) := by decide +kernel
theorem dX3_ringsCross_114 : decode cX3_ringsCross 114 = .ok (.getfield 50, 3) := by decide +kernel
theorem dX3_ringsCross_117 : decode cX3_ringsCross 117 = .ok (.aload 4, 2) := by decide +kernel
theorem dX3_ringsCross_119 : decode cX3_ringsCross 119 = .ok (.getfield 53, 3) := by decide +kernel
theorem dX3_ringsCross_122 : decode cX3_ringsCross 122 = .ok (.invokevirtual 102, 3) := by decide +kernel
theorem dX3_ringsCross_125 : decode cX3_ringsCross 125 = .ok (.istore 6, 2) := by decide +kernel
theorem dX3_ringsCross_127 : decode cX3_ringsCross 127 = .ok (.iload 5, 2) := by decide +kernel
theorem dX3_ringsCross_129 : decode cX3_ringsCross 129 = .ok (.iload 6, 2) := by decide +kernel
theorem dX3_ringsCross_131 : decode cX3_ringsCross 131 = .ok (.if_icmp .eq 7, 3) := by decide +kernel
theorem dX3_ringsCross_134 : decode cX3_ringsCross 134 = .ok (.iconst 1, 1) := by decide +kernel
theorem dX3_ringsCross_135 : decode cX3_ringsCross 135 = .ok (.goto 4, 3) := by decide +kernel
theorem dX3_ringsCross_138 : decode cX3_ringsCross 138 = .ok (.iconst 0, 1) := by decide +kernel
theorem dX3_ringsCross_139 : decode cX3_ringsCross 139 = .ok (.ireturn, 1) := by decide +kernel
theorem dX4_init_0 : decode cX4_init 0 = .ok (.aload_n 0, 1) := by decide +kernel
theorem dX4_init_1 : decode cX4_init 1 = .ok (.invokespecial 3, 3) := by decide +kernel
theorem dX4_init_4 : decode cX4_init 4 = .ok (.aload_n 0, 1) := by decide +kernel
theorem dX4_init_5 : decode cX4_init 5 = .ok (.iload_n 1, 1) := by decide +kernel
theorem dX4_init_6 : decode cX4_init 6 = .ok (.putfield 9, 3) := by decide +kernel
theorem dX4_init_9 : decode cX4_init 9 = .ok (.aload_n 0, 1) := by decide +kernel
theorem dX4_init_10 : decode cX4_init 10 = .ok (.aload_n 2, 1) := by decide +kernel
theorem dX4_init_11 : decode cX4_init 11 = .ok (.putfield 15, 3) := by decide +kernel
theorem dX4_init_14 : decode cX4_init 14 = .ok (.return_, 1) := by decide +kernel
theorem dX4_isInside_0 : decode cX4_isInside 0 = .ok (.aload_n 0, 1) := by decide +kernel
theorem dX4_isInside_1 : decode cX4_isInside 1 = .ok (.getfield 15, 3) := by decide +kernel
theorem dX4_isInside_4 : decode cX4_isInside 4 = .ok (.arraylength, 1) := by decide +kernel
theorem dX4_isInside_5 : decode cX4_isInside 5 = .ok (.ifCond .eq 11, 3) := by decide +kernel
theorem dX4_isInside_8 : decode cX4_isInside 8 = .ok (.aload_n 1, 1) := by decide +kernel
theorem dX4_isInside_9 : decode cX4_isInside 9 = .ok (.getfield 15, 3) := by decide +kernel
theorem dX4_isInside_12 : decode cX4_isInside 12 = .ok (.arraylength, 1) := by decide +kernel
theorem dX4_isInside_13 : decode cX4_isInside 13 = .ok (.ifCond .ne 5, 3) := by decide +kernel
theorem dX4_isInside_16 : decode cX4_isInside 16 = .ok (.iconst 0, 1) := by decide +kernel
theorem dX4_isInside_17 : decode cX4_isInside 17 = .ok (.ireturn, 1) := by decide +kernel
theorem dX4_isInside_18 : decode cX4_isInside 18 = .ok (.aload_n 0, 1) := by decide +kernel
theorem dX4_isInside_19 : decode cX4_isInside 19 = .ok (.getfield 15, 3) := by decide +kernel
theorem dX4_isInside_22 : decode cX4_isInside 22 = .ok (.iconst 0, 1) := by decide +kernel
theorem dX4_isInside_23 : decode cX4_isInside 23 = .ok (.aaload, 1) := by decide +kernel
theorem dX4_isInside_24 : decode cX4_isInside 24 = .ok (.aload_n 1, 1) := by decide +kernel
theorem dX4_isInside_25 : decode cX4_isInside 25 = .ok (.getfield 15, 3) := by decide +kernel
theorem dX4_isInside_28 : decode cX4_isInside 28 = .ok (.iconst 0, 1) := by decide +kernel
theorem dX4_isInside_29 : decode cX4_isInside 29 = .ok (.aaload, 1) := by decide +kernel
theorem dX4_isInside_30 : decode cX4_isInside 30 = .ok (.invokevirtual 19, 3) := by decide +kernel
theorem dX4_isInside_33 : decode cX4_isInside 33 = .ok (.ifCond .ne 5, 3) := by decide +kernel
theorem dX4_isInside_36 : decode cX4_isInside 36 = .ok (.iconst 0, 1) := by decide +kernel
theorem dX4_isInside_37 : decode cX4_isInside 37 = .ok (.ireturn, 1) := by decide +kernel
theorem dX4_isInside_38 : decode cX4_isInside 38 = .ok (.iconst 1, 1) := by decide +kernel
theorem dX4_isInside_39 : decode cX4_isInside 39 = .ok (.istore_n 2, 1) := by decide +kernel
theorem dX4_isInside_40 : decode cX4_isInside 40 = .ok (.iload_n 2, 1) := by decide +kernel
theorem dX4_isInside_41 : decode cX4_isInside 41 = .ok (.aload_n 1, 1) := by decide +kernel
theorem dX4_isInside_42 : decode cX4_isInside 42 = .ok (.getfield 15, 3) := by decide +kernel
theorem dX4_isInside_45 : decode cX4_isInside 45 = .ok (.arraylength, 1) := by decide +kernel
theorem dX4_isInside_46 : decode cX4_isInside 46 = .ok (.if_icmp .ge 29, 3) := by decide +kernel
theorem dX4_isInside_49 : decode cX4_isInside 49 = .ok (.aload_n 0, 1) := by decide +kernel
theorem dX4_isInside_50 : decode cX4_isInside 50 = .ok (.getfield 15, 3) := by decide +kernel
theorem dX4_isInside_53 : decode cX4_isInside 53 = .ok (.iconst 0, 1) := by decide +kernel
theorem dX4_isInside_54 : decode cX4_isInside 54 = .ok (.aaload, 1) := by decide +kernel
theorem dX4_isInside_55 : decode cX4_isInside 55 = .ok (.aload_n 1, 1) := by decide +kernel
theorem dX4_isInside_56 : decode cX4_isInside 56 = .ok (.getfield 15, 3) := by decide +kernel
theorem dX4_isInside_59 : decode cX4_isInside 59 = .ok (.iload_n 2, 1) := by decide +kernel
theorem dX4_isInside_60 : decode cX4_isInside 60 = .ok (.aaload, 1) := by decide +kernel
theorem dX4_isInside_61 : decode cX4_isInside 61 = .ok (.invokevirtual 19, 3) := by decide +kernel
theorem dX4_isInside_64 : decode cX4_isInside 64 = .ok (.ifCond .eq 5, 3) := by decide +kernel
theorem dX4_isInside_67 : decode cX4_isInside 67 = .ok (.iconst 0, 1) := by decide +kernel
theorem dX4_isInside_68 : decode cX4_isInside 68 = .ok (.ireturn, 1) := by decide +kernel
theorem dX4_isInside_69 : decode cX4_isInside 69 = .ok (.iinc 2 1, 3) := by decide +kernel
theorem dX4_isInside_72 : decode cX4_isInside 72 = .ok (.goto (-32), 3) := by decide +kernel
theorem dX4_isInside_75 : decode cX4_isInside 75 = .ok (.iconst 1, 1) := by decide +kernel
theorem dX4_isInside_76 : decode cX4_isInside 76 = .ok (.ireturn, 1) := by decide +kernel
theorem dX4_isSplit_0 : decode cX4_isSplit 0 = .ok (.aload_n 0, 1) := by decide +kernel
theorem dX4_isSplit_1 : decode cX4_isSplit 1 = .ok (.getfield 15, 3) := by decide +kernel
theorem dX4_isSplit_4 : decode cX4_isSplit 4 = .ok (.arraylength, 1) := by decide +kernel
theorem dX4_isSplit_5 : decode cX4_isSplit 5 = .ok (.newarray .int, 2) := by decide +kernel
theorem dX4_isSplit_7 : decode cX4_isSplit 7 = .ok (.astore_n 1, 1) := by decide +kernel
theorem dX4_isSplit_8 : decode cX4_isSplit 8 = .ok (.iconst 0, 1) := by decide +kernel
theorem dX4_isSplit_9 : decode cX4_isSplit 9 = .ok (.istore_n 2, 1) := by decide +kernel
theorem dX4_isSplit_10 : decode cX4_isSplit 10 = .ok (.iload_n 2, 1) := by decide +kernel
theorem dX4_isSplit_11 : decode cX4_isSplit 11 = .ok (.aload_n 1, 1) := by decide +kernel
theorem dX4_isSplit_12 : decode cX4_isSplit 12 = .ok (.arraylength, 1) := by decide +kernel
theorem dX4_isSplit_13 : decode cX4_isSplit 13 = .ok (.if_icmp .ge 13, 3) := by decide +kernel
theorem dX4_isSplit_16 : decode cX4_isSplit 16 = .ok (.aload_n 1, 1) := by decide +kernel
theorem dX4_isSplit_17 : decode cX4_isSplit 17 = .ok (.iload_n 2, 1) := by decide +kernel
theorem dX4_isSplit_18 : decode cX4_isSplit 18 = .ok (.iload_n 2, 1) := by decide +kernel
theorem dX4_isSplit_19 : decode cX4_isSplit 19 = .ok (.iastore, 1) := by decide +kernel
theorem dX4_isSplit_20 : decode cX4_isSplit 20 = .ok (.iinc 2 1, 3) := by decide +kernel
theorem dX4_isSplit_23 : decode cX4_isSplit 23 = .ok (.goto (-13), 3) := by decide +kernel
theorem dX4_isSplit_26 : decode cX4_isSplit 26 = .ok (.iconst 0, 1) := by decide +kernel
theorem dX4_isSplit_27 : decode cX4_isSplit 27 = .ok (.istore_n 2, 1) := by decide +kernel
theorem dX4_isSplit_28 : decode cX4_isSplit 28 = .ok (.iload_n 2, 1) := by decide +kernel
theorem dX4_isSplit_29 : decode cX4_isSplit 29 = .ok (.aload_n 0, 1) := by decide +kernel
theorem dX4_isSplit_30 : decode cX4_isSplit 30 = .ok (.getfield 15, 3) := by decide +kernel
theorem dX4_isSplit_33 : decode cX4_isSplit 33 = .ok (.arraylength, 1) := by decide +kernel
theorem dX4_isSplit_34 : decode cX4_isSplit 34 = .ok (.if_icmp .ge 65, 3) := by decide +kernel
theorem dX4_isSplit_37 : decode cX4_isSplit 37 = .ok (.aload_n 0, 1) := by decide +kernel
theorem dX4_isSplit_38 : decode cX4_isSplit 38 = .ok (.getfield 15, 3) := by decide +kernel
theorem dX4_isSplit_41 : decode cX4_isSplit 41 = .ok (.iload_n 2, 1) := by decide +kernel
theorem dX4_isSplit_42 : decode cX4_isSplit 42 = .ok (.aaload, 1) := by decide +kernel
theorem dX4_isSplit_43 : decode cX4_isSplit 43 = .ok (.astore_n 3, 1) := by decide +kernel
theorem dX4_isSplit_44 : decode cX4_isSplit 44 = .ok (.iconst 0, 1) := by decide +kernel
theorem dX4_isSplit_45 : decode cX4_isSplit 45 = .ok (.istore 4, 2) := by decide +kernel
theorem dX4_isSplit_47 : decode cX4_isSplit 47 = .ok (.iload 4, 2) := by decide +kernel
theorem dX4_isSplit_49 : decode cX4_isSplit 49 = .ok (.aload_n 3, 1) := by decide +kernel
theorem dX4_isSplit_50 : decode cX4_isSplit 50 = .ok (.getfield 25, 3) := by decide +kernel
theorem dX4_isSplit_53 : decode cX4_isSplit 53 = .ok (.if_icmp .ge 40, 3) := by decide +kernel
theorem dX4_isSplit_56 : decode cX4_isSplit 56 = .ok (.aload_n 3, 1) := by decide +kernel
theorem dX4_isSplit_57 : decode cX4_isSplit 57 = .ok (.getfield 28, 3) := by decide +kernel
theorem dX4_isSplit_60 : decode cX4_isSplit 60 = .ok (.iload 4, 2) := by decide +kernel
theorem dX4_isSplit_62 : decode cX4_isSplit 62 = .ok (.aaload, 1) := by decide +kernel
theorem dX4_isSplit_63 : decode cX4_isSplit 63 = .ok (.astore 5, 2) := by decide +kernel
theorem dX4_isSplit_65 : decode cX4_isSplit 65 = .ok (.aload_n 0, 1) := by decide +kernel
theorem dX4_isSplit_66 : decode cX4_isSplit 66 = .ok (.iload_n 2, 1) := by decide +kernel
theorem dX4_isSplit_67 : decode cX4_isSplit 67 = .ok (.aload 5, 2) := by decide +kernel
theorem dX4_isSplit_69 : decode cX4_isSplit 69 = .ok (.invokevirtual 32, 3) := by decide +kernel
theorem dX4_isSplit_72 : decode cX4_isSplit 72 = .ok (.ifCond .eq 15, 3) := by decide +kernel
theorem dX4_isSplit_75 : decode cX4_isSplit 75 = .ok (.aload_n 0, 1) := by decide +kernel
theorem dX4_isSplit_76 : decode cX4_isSplit 76 = .ok (.aload 5, 2) := by decide +kernel
theorem dX4_isSplit_78 : decode cX4_isSplit 78 = .ok (.aload_n 1, 1) := by decide +kernel
theorem dX4_isSplit_79 : decode cX4_isSplit 79 = .ok (.invokevirtual 36, 3) := by decide +kernel
theorem dX4_isSplit_82 : decode cX4_isSplit 82 = .ok (.ifCond .eq 5, 3) := by decide +kernel
theorem dX4_isSplit_85 : decode cX4_isSplit 85 = .ok (.iconst 1, 1) := by decide +kernel
theorem dX4_isSplit_86 : decode cX4_isSplit 86 = .ok (.ireturn, 1) := by decide +kernel
theorem dX4_isSplit_87 : decode cX4_isSplit 87 = .ok (.iinc 4 1, 3) := by decide +kernel
theorem dX4_isSplit_90 : decode cX4_isSplit 90 = .ok (.goto (-43), 3) := by decide +kernel
theorem dX4_isSplit_93 : decode cX4_isSplit 93 = .ok (.iinc 2 1, 3) := by decide +kernel
theorem dX4_isSplit_96 : decode cX4_isSplit 96 = .ok (.goto (-68), 3) := by decide +kernel
theorem dX4_isSplit_99 : decode cX4_isSplit 99 = .ok (.iconst 0, 1) := by decide +kernel
theorem dX4_isSplit_100 : decode cX4_isSplit 100 = .ok (.ireturn, 1) := by decide +kernel
theorem dX4_isNewCorner_0 : decode cX4_isNewCorner 0 = .ok (.iconst 0, 1) := by decide +kernel
theorem dX4_isNewCorner_1 : decode cX4_isNewCorner 1 = .ok (.istore_n 3, 1) := by decide +kernel
theorem dX4_isNewCorner_2 : decode cX4_isNewCorner 2 = .ok (.iload_n 3, 1) := by decide +kernel
theorem dX4_isNewCorner_3 : decode cX4_isNewCorner 3 = .ok (.iload_n 1, 1) := by decide +kernel
theorem dX4_isNewCorner_4 : decode cX4_isNewCorner 4 = .ok (.if_icmp .ge 63, 3) := by decide +kernel
theorem dX4_isNewCorner_7 : decode cX4_isNewCorner 7 = .ok (.iload_n 3, 1) := by decide +kernel
theorem dX4_isNewCorner_8 : decode cX4_isNewCorner 8 = .ok (.aload_n 0, 1) := by decide +kernel
theorem dX4_isNewCorner_9 : decode cX4_isNewCorner 9 = .ok (.getfield 15, 3) := by decide +kernel
theorem dX4_isNewCorner_12 : decode cX4_isNewCorner 12 = .ok (.arraylength, 1) := by decide +kernel
theorem dX4_isNewCorner_13 : decode cX4_isNewCorner 13 = .ok (.if_icmp .ge 54, 3) := by decide +kernel
theorem dX4_isNewCorner_16 : decode cX4_isNewCorner 16 = .ok (.aload_n 0, 1) := by decide +kernel
theorem dX4_isNewCorner_17 : decode cX4_isNewCorner 17 = .ok (.getfield 15, 3) := by decide +kernel
theorem dX4_isNewCorner_20 : decode cX4_isNewCorner 20 = .ok (.iload_n 3, 1) := by decide +kernel
theorem dX4_isNewCorner_21 : decode cX4_isNewCorner 21 = .ok (.aaload, 1) := by decide +kernel
theorem dX4_isNewCorner_22 : decode cX4_isNewCorner 22 = .ok (.getfield 40, 3) := by decide +kernel
theorem dX4_isNewCorner_25 : decode cX4_isNewCorner 25 = .ok (.aload_n 2, 1) := by decide +kernel
theorem dX4_isNewCorner_26 : decode cX4_isNewCorner 26 = .ok (.getfield 44, 3) := by decide +kernel
theorem dX4_isNewCorner_29 : decode cX4_isNewCorner 29 = .ok (.aload_n 2, 1) := by decide +kernel
theorem dX4_isNewCorner_30 : decode cX4_isNewCorner 30 = .ok (.getfield 49, 3) := by decide +kernel
theorem dX4_isNewCorner_33 : decode cX4_isNewCorner 33 = .ok (.invokevirtual 52, 3) := by decide +kernel
theorem dX4_isNewCorner_36 : decode cX4_isNewCorner 36 = .ok (.ifCond .eq 25, 3) := by decide +kernel
theorem dX4_isNewCorner_39 : decode cX4_isNewCorner 39 = .ok (.aload_n 0, 1) := by decide +kernel
theorem dX4_isNewCorner_40 : decode cX4_isNewCorner 40 = .ok (.getfield 15, 3) := by decide +kernel
theorem dX4_isNewCorner_43 : decode cX4_isNewCorner 43 = .ok (.iload_n 3, 1) := by decide +kernel
theorem dX4_isNewCorner_44 : decode cX4_isNewCorner 44 = .ok (.aaload, 1) := by decide +kernel
theorem dX4_isNewCorner_45 : decode cX4_isNewCorner 45 = .ok (.aload_n 2, 1) := by decide +kernel
theorem dX4_isNewCorner_46 : decode cX4_isNewCorner 46 = .ok (.getfield 44, 3) := by decide +kernel
theorem dX4_isNewCorner_49 : decode cX4_isNewCorner 49 = .ok (.aload_n 2, 1) := by decide +kernel
theorem dX4_isNewCorner_50 : decode cX4_isNewCorner 50 = .ok (.getfield 49, 3) := by decide +kernel
theorem dX4_isNewCorner_53 : decode cX4_isNewCorner 53 = .ok (.invokevirtual 58, 3) := by decide +kernel
theorem dX4_isNewCorner_56 : decode cX4_isNewCorner 56 = .ok (.ifCond .eq 5, 3) := by decide +kernel
theorem dX4_isNewCorner_59 : decode cX4_isNewCorner 59 = .ok (.iconst 0, 1) := by decide +kernel
theorem dX4_isNewCorner_60 : decode cX4_isNewCorner 60 = .ok (.ireturn, 1) := by decide +kernel
theorem dX4_isNewCorner_61 : decode cX4_isNewCorner 61 = .ok (.iinc 3 1, 3) := by decide +kernel
theorem dX4_isNewCorner_64 : decode cX4_isNewCorner 64 = .ok (.goto (-62), 3) := by decide +kernel
theorem dX4_isNewCorner_67 : decode cX4_isNewCorner 67 = .ok (.iconst 1, 1) := by decide +kernel
theorem dX4_isNewCorner_68 : decode cX4_isNewCorner 68 = .ok (.ireturn, 1) := by decide +kernel
theorem dX4_joinsInRound_0 : decode cX4_joinsInRound 0 = .ok (.iconst (-1), 1) := by decide +kernel
theorem dX4_joinsInRound_1 : decode cX4_joinsInRound 1 = .ok (.istore_n 3, 1) := by decide +kernel
theorem dX4_joinsInRound_2 : decode cX4_joinsInRound 2 = .ok (.iconst 0, 1) := by decide +kernel
theorem dX4_joinsInRound_3 : decode cX4_joinsInRound 3 = .ok (.istore 4, 2) := by decide +kernel
theorem dX4_joinsInRound_5 : decode cX4_joinsInRound 5 = .ok (.iload 4, 2) := by decide +kernel
theorem dX4_joinsInRound_7 : decode cX4_joinsInRound 7 = .ok (.aload_n 0, 1) := by decide +kernel
theorem dX4_joinsInRound_8 : decode cX4_joinsInRound 8 = .ok (.getfield 15, 3) := by decide +kernel
theorem dX4_joinsInRound_11 : decode cX4_joinsInRound 11 = .ok (.arraylength, 1) := by decide +kernel
theorem dX4_joinsInRound_12 : decode cX4_joinsInRound 12 = .ok (.if_icmp .ge 72, 3) := by decide +kernel
theorem dX4_joinsInRound_15 : decode cX4_joinsInRound 15 = .ok (.iload 4, 2) := by decide +kernel
theorem dX4_joinsInRound_17 : decode cX4_joinsInRound 17 = .ok (.aload_n 2, 1) := by decide +kernel
theorem dX4_joinsInRound_18 : decode cX4_joinsInRound 18 = .ok (.arraylength, 1) := by decide +kernel
theorem dX4_joinsInRound_19 : decode cX4_joinsInRound 19 = .ok (.if_icmp .ge 65, 3) := by decide +kernel
theorem dX4_joinsInRound_22 : decode cX4_joinsInRound 22 = .ok (.aload_n 0, 1) := by decide +kernel
theorem dX4_joinsInRound_23 : decode cX4_joinsInRound 23 = .ok (.getfield 15, 3) := by decide +kernel
theorem dX4_joinsInRound_26 : decode cX4_joinsInRound 26 = .ok (.iload 4, 2) := by decide +kernel
theorem dX4_joinsInRound_28 : decode cX4_joinsInRound 28 = .ok (.aaload, 1) := by decide +kernel
theorem dX4_joinsInRound_29 : decode cX4_joinsInRound 29 = .ok (.aload_n 1, 1) := by decide +kernel
theorem dX4_joinsInRound_30 : decode cX4_joinsInRound 30 = .ok (.getfield 44, 3) := by decide +kernel
theorem dX4_joinsInRound_33 : decode cX4_joinsInRound 33 = .ok (.aload_n 1, 1) := by decide +kernel
theorem dX4_joinsInRound_34 : decode cX4_joinsInRound 34 = .ok (.getfield 49, 3) := by decide +kernel
theorem dX4_joinsInRound_37 : decode cX4_joinsInRound 37 = .ok (.invokevirtual 61, 3) := by decide +kernel
theorem dX4_joinsInRound_40 : decode cX4_joinsInRound 40 = .ok (.ifCond .ne 6, 3) := by decide +kernel
theorem dX4_joinsInRound_43 : decode cX4_joinsInRound 43 = .ok (.goto 35, 3) := by decide +kernel
theorem dX4_joinsInRound_46 : decode cX4_joinsInRound 46 = .ok (.iload_n 3, 1) := by decide +kernel
theorem dX4_joinsInRound_47 : decode cX4_joinsInRound 47 = .ok (.iconst (-1), 1) := by decide +kernel
theorem dX4_joinsInRound_48 : decode cX4_joinsInRound 48 = .ok (.if_icmp .ne 11, 3) := by decide +kernel
theorem dX4_joinsInRound_51 : decode cX4_joinsInRound 51 = .ok (.aload_n 2, 1) := by decide +kernel
theorem dX4_joinsInRound_52 : decode cX4_joinsInRound 52 = .ok (.iload 4, 2) := by decide +kernel
theorem dX4_joinsInRound_54 : decode cX4_joinsInRound 54 = .ok (.iaload, 1) := by decide +kernel
theorem dX4_joinsInRound_55 : decode cX4_joinsInRound 55 = .ok (.istore_n 3, 1) := by decide +kernel
theorem dX4_joinsInRound_56 : decode cX4_joinsInRound 56 = .ok (.goto 22, 3) := by decide +kernel
theorem dX4_joinsInRound_59 : decode cX4_joinsInRound 59 = .ok (.aload_n 2, 1) := by decide +kernel
theorem dX4_joinsInRound_60 : decode cX4_joinsInRound 60 = .ok (.iload 4, 2) := by decide +kernel
theorem dX4_joinsInRound_62 : decode cX4_joinsInRound 62 = .ok (.iaload, 1) := by decide +kernel
theorem dX4_joinsInRound_63 : decode cX4_joinsInRound 63 = .ok (.iload_n 3, 1) := by decide +kernel
theorem dX4_joinsInRound_64 : decode cX4_joinsInRound 64 = .ok (.if_icmp .ne 5, 3) := by decide +kernel
theorem dX4_joinsInRound_67 : decode cX4_joinsInRound 67 = .ok (.iconst 1, 1) := by decide +kernel
theorem dX4_joinsInRound_68 : decode cX4_joinsInRound 68 = .ok (.ireturn, 1) := by decide +kernel
theorem dX4_joinsInRound_69 : decode cX4_joinsInRound 69 = .ok (.aload_n 2, 1) := by decide +kernel
theorem dX4_joinsInRound_70 : decode cX4_joinsInRound 70 = .ok (.aload_n 2, 1) := by decide +kernel
theorem dX4_joinsInRound_71 : decode cX4_joinsInRound 71 = .ok (.iload 4, 2) := by decide +kernel
theorem dX4_joinsInRound_73 : decode cX4_joinsInRound 73 = .ok (.iaload, 1) := by decide +kernel
theorem dX4_joinsInRound_74 : decode cX4_joinsInRound 74 = .ok (.iload_n 3, 1) := by decide +kernel
theorem dX4_joinsInRound_75 : decode cX4_joinsInRound 75 = .ok (.invokestatic 64, 3) := by decide +kernel
theorem dX4_joinsInRound_78 : decode cX4_joinsInRound 78 = .ok (.iinc 4 1, 3) := by decide +kernel
theorem dX4_joinsInRound_81 : decode cX4_joinsInRound 81 = .ok (.goto (-76), 3) := by decide +kernel
theorem dX4_joinsInRound_84 : decode cX4_joinsInRound 84 = .ok (.iconst 0, 1) := by decide +kernel
theorem dX4_joinsInRound_85 : decode cX4_joinsInRound 85 = .ok (.ireturn, 1) := by decide +kernel
theorem dX4_renameGroup_0 : decode cX4_renameGroup 0 = .ok (.iconst 0, 1) := by decide +kernel
theorem dX4_renameGroup_1 : decode cX4_renameGroup 1 = .ok (.istore_n 3, 1) := by decide +kernel
theorem dX4_renameGroup_2 : decode cX4_renameGroup 2 = .ok (.iload_n 3, 1) := by decide +kernel
theorem dX4_renameGroup_3 : decode cX4_renameGroup 3 = .ok (.aload_n 0, 1) := by decide +kernel
theorem dX4_renameGroup_4 : decode cX4_renameGroup 4 = .ok (.arraylength, 1) := by decide +kernel
theorem dX4_renameGroup_5 : decode cX4_renameGroup 5 = .ok (.if_icmp .ge 20, 3) := by decide +kernel
theorem dX4_renameGroup_8 : decode cX4_renameGroup 8 = .ok (.aload_n 0, 1) := by decide +kernel
theorem dX4_renameGroup_9 : decode cX4_renameGroup 9 = .ok (.iload_n 3, 1) := by decide +kernel
theorem dX4_renameGroup_10 : decode cX4_renameGroup 10 = .ok (.iaload, 1) := by decide +kernel
theorem dX4_renameGroup_11 : decode cX4_renameGroup 11 = .ok (.iload_n 1, 1) := by decide +kernel
theorem dX4_renameGroup_12 : decode cX4_renameGroup 12 = .ok (.if_icmp .ne 7, 3) := by decide +kernel
theorem dX4_renameGroup_15 : decode cX4_renameGroup 15 = .ok (.aload_n 0, 1) := by decide +kernel
theorem dX4_renameGroup_16 : decode cX4_renameGroup 16 = .ok (.iload_n 3, 1) := by decide +kernel
theorem dX4_renameGroup_17 : decode cX4_renameGroup 17 = .ok (.iload_n 2, 1) := by decide +kernel
theorem dX4_renameGroup_18 : decode cX4_renameGroup 18 = .ok (.iastore, 1) := by decide +kernel
theorem dX4_renameGroup_19 : decode cX4_renameGroup 19 = .ok (.iinc 3 1, 3) := by decide +kernel
theorem dX4_renameGroup_22 : decode cX4_renameGroup 22 = .ok (.goto (-20), 3) := by decide +kernel
theorem dX4_renameGroup_25 : decode cX4_renameGroup 25 = .ok (.return_, 1) := by decide +kernel
theorem dX5_init_0 : decode cX5_init 0 = .ok (.aload_n 0, 1) := by decide +kernel
theorem dX5_init_1 : decode cX5_init 1 = .ok (.invokespecial 1, 3) := by decide +kernel
theorem dX5_init_4 : decode cX5_init 4 = .ok (.aload_n 0, 1) := by decide +kernel
theorem dX5_init_5 : decode cX5_init 5 = .ok (.iload_n 1, 1) := by decide +kernel
theorem dX5_init_6 : decode cX5_init 6 = .ok (.putfield 7, 3) := by decide +kernel
theorem dX5_init_9 : decode cX5_init 9 = .ok (.aload_n 0, 1) := by decide +kernel
theorem dX5_init_10 : decode cX5_init 10 = .ok (.iload_n 2, 1) := by decide +kernel
theorem dX5_init_11 : decode cX5_init 11 = .ok (.putfield 13, 3) := by decide +kernel
theorem dX5_init_14 : decode cX5_init 14 = .ok (.aload_n 0, 1) := by decide +kernel
theorem dX5_init_15 : decode cX5_init 15 = .ok (.new 16, 3) := by decide +kernel
theorem dX5_init_18 : decode cX5_init 18 = .ok (.dup, 1) := by decide +kernel
theorem dX5_init_19 : decode cX5_init 19 = .ok (.invokespecial 18, 3) := by decide +kernel
theorem dX5_init_22 : decode cX5_init 22 = .ok (.putfield 19, 3) := by decide +kernel
theorem dX5_init_25 : decode cX5_init 25 = .ok (.aload_n 0, 1) := by decide +kernel
theorem dX5_init_26 : decode cX5_init 26 = .ok (.iconst 0, 1) := by decide +kernel
theorem dX5_init_27 : decode cX5_init 27 = .ok (.iload_n 3, 1) := by decide +kernel
theorem dX5_init_28 : decode cX5_init 28 = .ok (.invokestatic 23, 3) := by decide +kernel
theorem dX5_init_31 : decode cX5_init 31 = .ok (.anewarray 29, 3) := by decide +kernel
theorem dX5_init_34 : decode cX5_init 34 = .ok (.putfield 31, 3) := by decide +kernel
theorem dX5_init_37 : decode cX5_init 37 = .ok (.return_, 1) := by decide +kernel
theorem dX5_add_0 : decode cX5_add 0 = .ok (.aload_n 0, 1) := by decide +kernel
theorem dX5_add_1 : decode cX5_add 1 = .ok (.getfield 35, 3) := by decide +kernel
theorem dX5_add_4 : decode cX5_add 4 = .ok (.aload_n 0, 1) := by decide +kernel
theorem dX5_add_5 : decode cX5_add 5 = .ok (.getfield 31, 3) := by decide +kernel
theorem dX5_add_8 : decode cX5_add 8 = .ok (.arraylength, 1) := by decide +kernel
theorem dX5_add_9 : decode cX5_add 9 = .ok (.if_icmp .lt 4, 3) := by decide +kernel
theorem dX5_add_12 : decode cX5_add 12 = .ok (.return_, 1) := by decide +kernel
theorem dX5_add_13 : decode cX5_add 13 = .ok (.aload_n 0, 1) := by decide +kernel
theorem dX5_add_14 : decode cX5_add 14 = .ok (.getfield 35, 3) := by decide +kernel
theorem dX5_add_17 : decode cX5_add 17 = .ok (.ifCond .le 28, 3) := by decide +kernel
theorem dX5_add_20 : decode cX5_add 20 = .ok (.aload_n 0, 1) := by decide +kernel
theorem dX5_add_21 : decode cX5_add 21 = .ok (.getfield 31, 3) := by decide +kernel
theorem dX5_add_24 : decode cX5_add 24 = .ok (.aload_n 0, 1) := by decide +kernel
theorem dX5_add_25 : decode cX5_add 25 = .ok (.getfield 35, 3) := by decide +kernel
theorem dX5_add_28 : decode cX5_add 28 = .ok (.iconst 1, 1) := by decide +kernel
theorem dX5_add_29 : decode cX5_add 29 = .ok (.isub, 1) := by decide +kernel
theorem dX5_add_30 : decode cX5_add 30 = .ok (.aaload, 1) := by decide +kernel
theorem dX5_add_31 : decode cX5_add 31 = .ok (.aload_n 1, 1) := by decide +kernel
theorem dX5_add_32 : decode cX5_add 32 = .ok (.putfield 38, 3) := by decide +kernel
theorem dX5_add_35 : decode cX5_add 35 = .ok (.aload_n 1, 1) := by decide +kernel
theorem dX5_add_36 : decode cX5_add 36 = .ok (.aload_n 0, 1) := by decide +kernel
theorem dX5_add_37 : decode cX5_add 37 = .ok (.getfield 31, 3) := by decide +kernel
theorem dX5_add_40 : decode cX5_add 40 = .ok (.iconst 0, 1) := by decide +kernel
theorem dX5_add_41 : decode cX5_add 41 = .ok (.aaload, 1) := by decide +kernel
theorem dX5_add_42 : decode cX5_add 42 = .ok (.putfield 38, 3) := by decide +kernel
theorem dX5_add_45 : decode cX5_add 45 = .ok (.aload_n 0, 1) := by decide +kernel
theorem dX5_add_46 : decode cX5_add 46 = .ok (.getfield 31, 3) := by decide +kernel
theorem dX5_add_49 : decode cX5_add 49 = .ok (.aload_n 0, 1) := by decide +kernel
theorem dX5_add_50 : decode cX5_add 50 = .ok (.getfield 35, 3) := by decide +kernel
theorem dX5_add_53 : decode cX5_add 53 = .ok (.aload_n 1, 1) := by decide +kernel
theorem dX5_add_54 : decode cX5_add 54 = .ok (.aastore, 1) := by decide +kernel
theorem dX5_add_55 : decode cX5_add 55 = .ok (.aload_n 0, 1) := by decide +kernel
theorem dX5_add_56 : decode cX5_add 56 = .ok (.dup, 1) := by decide +kernel
theorem dX5_add_57 : decode cX5_add 57 = .ok (.getfield 35, 3) := by decide +kernel
theorem dX5_add_60 : decode cX5_add 60 = .ok (.iconst 1, 1) := by decide +kernel
theorem dX5_add_61 : decode cX5_add 61 = .ok (.iadd, 1) := by decide +kernel
theorem dX5_add_62 : decode cX5_add 62 = .ok (.putfield 35, 3) := by decide +kernel
theorem dX5_add_65 : decode cX5_add 65 = .ok (.aload_n 0, 1) := by decide +kernel
theorem dX5_add_66 : decode cX5_add 66 = .ok (.getfield 19, 3) := by decide +kernel
theorem dX5_add_69 : decode cX5_add 69 = .ok (.aload_n 1, 1) := by decide +kernel
theorem dX5_add_70 : decode cX5_add 70 = .ok (.getfield 42, 3) := by decide +kernel
theorem dX5_add_73 : decode cX5_add 73 = .ok (.aload_n 1, 1) := by decide +kernel
theorem dX5_add_74 : decode cX5_add 74 = .ok (.getfield 45, 3) := by decide +kernel
theorem dX5_add_77 : decode cX5_add 77 = .ok (.invokevirtual 48, 3) := by decide +kernel
theorem dX5_add_80 : decode cX5_add 80 = .ok (.aload_n 0, 1) := by decide +kernel
theorem dX5_add_81 : decode cX5_add 81 = .ok (.getfield 19, 3) := by decide +kernel
theorem dX5_add_84 : decode cX5_add 84 = .ok (.aload_n 1, 1) := by decide +kernel
theorem dX5_add_85 : decode cX5_add 85 = .ok (.getfield 52, 3) := by decide +kernel
theorem dX5_add_88 : decode cX5_add 88 = .ok (.aload_n 1, 1) := by decide +kernel
theorem dX5_add_89 : decode cX5_add 89 = .ok (.getfield 55, 3) := by decide +kernel
theorem dX5_add_92 : decode cX5_add 92 = .ok (.invokevirtual 48, 3) := by decide +kernel
theorem dX5_add_95 : decode cX5_add 95 = .ok (.return_, 1) := by decide +kernel
theorem dX5_passes_0 : decode cX5_passes 0 = .ok (.aload_n 0, 1) := by decide +kernel
theorem dX5_passes_1 : decode cX5_passes 1 = .ok (.getfield 19, 3) := by decide +kernel
theorem dX5_passes_4 : decode cX5_passes 4 = .ok (.iload_n 1, 1) := by decide +kernel
theorem dX5_passes_5 : decode cX5_passes 5 = .ok (.iload_n 2, 1) := by decide +kernel
theorem dX5_passes_6 : decode cX5_passes 6 = .ok (.invokevirtual 58, 3) := by decide +kernel
theorem dX5_passes_9 : decode cX5_passes 9 = .ok (.ifCond .ne 5, 3) := by decide +kernel
theorem dX5_passes_12 : decode cX5_passes 12 = .ok (.iconst 0, 1) := by decide +kernel
theorem dX5_passes_13 : decode cX5_passes 13 = .ok (.ireturn, 1) := by decide +kernel
theorem dX5_passes_14 : decode cX5_passes 14 = .ok (.iconst 0, 1) := by decide +kernel
theorem dX5_passes_15 : decode cX5_passes 15 = .ok (.istore_n 3, 1) := by decide +kernel
theorem dX5_passes_16 : decode cX5_passes 16 = .ok (.iload_n 3, 1) := by decide +kernel
theorem dX5_passes_17 : decode cX5_passes 17 = .ok (.aload_n 0, 1) := by decide +kernel
theorem dX5_passes_18 : decode cX5_passes 18 = .ok (.getfield 35, 3) := by decide +kernel
theorem dX5_passes_21 : decode cX5_passes 21 = .ok (.if_icmp .ge 25, 3) := by decide +kernel
theorem dX5_passes_24 : decode cX5_passes 24 = .ok (.aload_n 0, 1) := by decide +kernel
theorem dX5_passes_25 : decode cX5_passes 25 = .ok (.getfield 31, 3) := by decide +kernel
theorem dX5_passes_28 : decode cX5_passes 28 = .ok (.iload_n 3, 1) := by decide +kernel
theorem dX5_passes_29 : decode cX5_passes 29 = .ok (.aaload, 1) := by decide +kernel
theorem dX5_passes_30 : decode cX5_passes 30 = .ok (.iload_n 1, 1) := by decide +kernel
theorem dX5_passes_31 : decode cX5_passes 31 = .ok (.iload_n 2, 1) := by decide +kernel
theorem dX5_passes_32 : decode cX5_passes 32 = .ok (.invokevirtual 62, 3) := by decide +kernel
theorem dX5_passes_35 : decode cX5_passes 35 = .ok (.ifCond .eq 5, 3) := by decide +kernel
theorem dX5_passes_38 : decode cX5_passes 38 = .ok (.iconst 1, 1) := by decide +kernel
theorem dX5_passes_39 : decode cX5_passes 39 = .ok (.ireturn, 1) := by decide +kernel
theorem dX5_passes_40 : decode cX5_passes 40 = .ok (.iinc 3 1, 3) := by decide +kernel
theorem dX5_passes_43 : decode cX5_passes 43 = .ok (.goto (-27), 3) := by decide +kernel
theorem dX5_passes_46 : decode cX5_passes 46 = .ok (.iconst 0, 1) := by decide +kernel
theorem dX5_passes_47 : decode cX5_passes 47 = .ok (.ireturn, 1) := by decide +kernel
theorem dX5_hasCorner_0 : decode cX5_hasCorner 0 = .ok (.iconst 0, 1) := by decide +kernel
theorem dX5_hasCorner_1 : decode cX5_hasCorner 1 = .ok (.istore_n 3, 1) := by decide +kernel
theorem dX5_hasCorner_2 : decode cX5_hasCorner 2 = .ok (.iload_n 3, 1) := by decide +kernel
theorem dX5_hasCorner_3 : decode cX5_hasCorner 3 = .ok (.aload_n 0, 1) := by decide +kernel
theorem dX5_hasCorner_4 : decode cX5_hasCorner 4 = .ok (.getfield 35, 3) := by decide +kernel
theorem dX5_hasCorner_7 : decode cX5_hasCorner 7 = .ok (.if_icmp .ge 25, 3) := by decide +kernel
theorem dX5_hasCorner_10 : decode cX5_hasCorner 10 = .ok (.aload_n 0, 1) := by decide +kernel
theorem dX5_hasCorner_11 : decode cX5_hasCorner 11 = .ok (.getfield 31, 3) := by decide +kernel
theorem dX5_hasCorner_14 : decode cX5_hasCorner 14 = .ok (.iload_n 3, 1) := by decide +kernel
theorem dX5_hasCorner_15 : decode cX5_hasCorner 15 = .ok (.aaload, 1) := by decide +kernel
theorem dX5_hasCorner_16 : decode cX5_hasCorner 16 = .ok (.iload_n 1, 1) := by decide +kernel
theorem dX5_hasCorner_17 : decode cX5_hasCorner 17 = .ok (.iload_n 2, 1) := by decide +kernel
theorem dX5_hasCorner_18 : decode cX5_hasCorner 18 = .ok (.invokevirtual 65, 3) := by decide +kernel
theorem dX5_hasCorner_21 : decode cX5_hasCorner 21 = .ok (.ifCond .eq 5, 3) := by decide +kernel
theorem dX5_hasCorner_24 : decode cX5_hasCorner 24 = .ok (.iconst 1, 1) := by decide +kernel
theorem dX5_hasCorner_25 : decode cX5_hasCorner 25 = .ok (.ireturn, 1) := by decide +kernel
theorem dX5_hasCorner_26 : decode cX5_hasCorner 26 = .ok (.iinc 3 1, 3) := by decide +kernel
theorem dX5_hasCorner_29 : decode cX5_hasCorner 29 = .ok (.goto (-27), 3) := by decide +kernel
theorem dX5_hasCorner_32 : decode cX5_hasCorner 32 = .ok (.iconst 0, 1) := by decide +kernel
theorem dX5_hasCorner_33 : decode cX5_hasCorner 33 = .ok (.ireturn, 1) := by decide +kernel
theorem dX5_holds_0 : decode cX5_holds 0 = .ok (.aload_n 0, 1) := by decide +kernel
theorem dX5_holds_1 : decode cX5_holds 1 = .ok (.getfield 19, 3) := by decide +kernel
theorem dX5_holds_4 : decode cX5_holds 4 = .ok (.iload_n 1, 1) := by decide +kernel
theorem dX5_holds_5 : decode cX5_holds 5 = .ok (.iload_n 2, 1) := by decide +kernel
theorem dX5_holds_6 : decode cX5_holds 6 = .ok (.invokevirtual 58, 3) := by decide +kernel
theorem dX5_holds_9 : decode cX5_holds 9 = .ok (.ifCond .ne 5, 3) := by decide +kernel
theorem dX5_holds_12 : decode cX5_holds 12 = .ok (.iconst 0, 1) := by decide +kernel
theorem dX5_holds_13 : decode cX5_holds 13 = .ok (.ireturn, 1) := by decide +kernel
theorem dX5_holds_14 : decode cX5_holds 14 = .ok (.iconst 0, 1) := by decide +kernel
theorem dX5_holds_15 : decode cX5_holds 15 = .ok (.istore 7, 2) := by decide +kernel
theorem dX5_holds_17 : decode cX5_holds 17 = .ok (.iconst 0, 1) := by decide +kernel
theorem dX5_holds_18 : decode cX5_holds 18 = .ok (.istore 8, 2) := by decide +kernel
theorem dX5_holds_20 : decode cX5_holds 20 = .ok (.iload 8, 2) := by decide +kernel
theorem dX5_holds_22 : decode cX5_holds 22 = .ok (.aload_n 0, 1) := by decide +kernel
theorem dX5_holds_23 : decode cX5_holds 23 = .ok (.getfield 35, 3) := by decide +kernel
theorem dX5_holds_26 : decode cX5_holds 26 = .ok (.if_icmp .ge 39, 3) := by decide +kernel
theorem dX5_holds_29 : decode cX5_holds 29 = .ok (.aload_n 0, 1) := by decide +kernel
theorem dX5_holds_30 : decode cX5_holds 30 = .ok (.getfield 31, 3) := by decide +kernel
theorem dX5_holds_33 : decode cX5_holds 33 = .ok (.iload 8, 2) := by decide +kernel
theorem dX5_holds_35 : decode cX5_holds 35 = .ok (.aaload, 1) := by decide +kernel
theorem dX5_holds_36 : decode cX5_holds 36 = .ok (.iload_n 1, 1) := by decide +kernel
theorem dX5_holds_37 : decode cX5_holds 37 = .ok (.iload_n 2, 1) := by decide +kernel
theorem dX5_holds_38 : decode cX5_holds 38 = .ok (.lload_n 3, 1) := by decide +kernel
theorem dX5_holds_39 : decode cX5_holds 39 = .ok (.lload 5, 2) := by decide +kernel
theorem dX5_holds_41 : decode cX5_holds 41 = .ok (.invokevirtual 68, 3) := by decide +kernel
theorem dX5_holds_44 : decode cX5_holds 44 = .ok (.ifCond .eq 15, 3) := by decide +kernel
theorem dX5_holds_47 : decode cX5_holds 47 = .ok (.iload 7, 2) := by decide +kernel
theorem dX5_holds_49 : decode cX5_holds 49 = .ok (.ifCond .ne 7, 3) := by decide +kernel
theorem dX5_holds_52 : decode cX5_holds 52 = .ok (.iconst 1, 1) := by decide +kernel
theorem dX5_holds_53 : decode cX5_holds 53 = .ok (.goto 4, 3) := by decide +kernel
theorem dX5_holds_56 : decode cX5_holds 56 = .ok (.iconst 0, 1) := by decide +kernel
theorem dX5_holds_57 : decode cX5_holds 57 = .ok (.istore 7, 2) := by decide +kernel
theorem dX5_holds_59 : decode cX5_holds 59 = .ok (.iinc 8 1, 3) := by decide +kernel
theorem dX5_holds_62 : decode cX5_holds 62 = .ok (.goto (-42), 3) := by decide +kernel
theorem dX5_holds_65 : decode cX5_holds 65 = .ok (.iload 7, 2) := by decide +kernel
theorem dX5_holds_67 : decode cX5_holds 67 = .ok (.ireturn, 1) := by decide +kernel
theorem dX5_liesIn_0 : decode cX5_liesIn 0 = .ok (.iconst 0, 1) := by decide +kernel
theorem dX5_liesIn_1 : decode cX5_liesIn 1 = .ok (.istore_n 2, 1) := by decide +kernel
theorem dX5_liesIn_2 : decode cX5_liesIn 2 = .ok (.iload_n 2, 1) := by decide +kernel
theorem dX5_liesIn_3 : decode cX5_liesIn 3 = .ok (.aload_n 0, 1) := by decide +kernel
theorem dX5_liesIn_4 : decode cX5_liesIn 4 = .ok (.getfield 35, 3) := by decide +kernel
theorem dX5_liesIn_7 : decode cX5_liesIn 7 = .ok (.if_icmp .ge 46, 3) := by decide +kernel
theorem dX5_liesIn_10 : decode cX5_liesIn 10 = .ok (.aload_n 0, 1) := by decide +kernel
theorem dX5_liesIn_11 : decode cX5_liesIn 11 = .ok (.getfield 31, 3) := by decide +kernel
theorem dX5_liesIn_14 : decode cX5_liesIn 14 = .ok (.iload_n 2, 1) := by decide +kernel
theorem dX5_liesIn_15 : decode cX5_liesIn 15 = .ok (.aaload, 1) := by decide +kernel
theorem dX5_liesIn_16 : decode cX5_liesIn 16 = .ok (.astore_n 3, 1) := by decide +kernel
theorem dX5_liesIn_17 : decode cX5_liesIn 17 = .ok (.aload_n 1, 1) := by decide +kernel
theorem dX5_liesIn_18 : decode cX5_liesIn 18 = .ok (.aload_n 3, 1) := by decide +kernel
theorem dX5_liesIn_19 : decode cX5_liesIn 19 = .ok (.getfield 42, 3) := by decide +kernel
theorem dX5_liesIn_22 : decode cX5_liesIn 22 = .ok (.aload_n 3, 1) := by decide +kernel
theorem dX5_liesIn_23 : decode cX5_liesIn 23 = .ok (.getfield 45, 3) := by decide +kernel
theorem dX5_liesIn_26 : decode cX5_liesIn 26 = .ok (.invokevirtual 72, 3) := by decide +kernel
theorem dX5_liesIn_29 : decode cX5_liesIn 29 = .ok (.ifCond .ne 18, 3) := by decide +kernel
theorem dX5_liesIn_32 : decode cX5_liesIn 32 = .ok (.aload_n 1, 1) := by decide +kernel
theorem dX5_liesIn_33 : decode cX5_liesIn 33 = .ok (.aload_n 3, 1) := by decide +kernel
theorem dX5_liesIn_34 : decode cX5_liesIn 34 = .ok (.getfield 42, 3) := by decide +kernel
theorem dX5_liesIn_37 : decode cX5_liesIn 37 = .ok (.aload_n 3, 1) := by decide +kernel
theorem dX5_liesIn_38 : decode cX5_liesIn 38 = .ok (.getfield 45, 3) := by decide +kernel
theorem dX5_liesIn_41 : decode cX5_liesIn 41 = .ok (.lconst 0, 1) := by decide +kernel
theorem dX5_liesIn_42 : decode cX5_liesIn 42 = .ok (.lconst 0, 1) := by decide +kernel
theorem dX5_liesIn_43 : decode cX5_liesIn 43 = .ok (.invokevirtual 73, 3) := by decide +kernel
theorem dX5_liesIn_46 : decode cX5_liesIn 46 = .ok (.ireturn, 1) := by decide +kernel
theorem dX5_liesIn_47 : decode cX5_liesIn 47 = .ok (.iinc 2 1, 3) := by decide +kernel
theorem dX5_liesIn_50 : decode cX5_liesIn 50 = .ok (.goto (-48), 3) := by decide +kernel
theorem dX5_liesIn_53 : decode cX5_liesIn 53 = .ok (.aload_n 0, 1) := by decide +kernel
theorem dX5_liesIn_54 : decode cX5_liesIn 54 = .ok (.getfield 35, 3) := by decide +kernel
theorem dX5_liesIn_57 : decode cX5_liesIn 57 = .ok (.ifCond .ne 5, 3) := by decide +kernel
theorem dX5_liesIn_60 : decode cX5_liesIn 60 = .ok (.iconst 0, 1) := by decide +kernel
theorem dX5_liesIn_61 : decode cX5_liesIn 61 = .ok (.ireturn, 1) := by decide +kernel
theorem dX5_liesIn_62 : decode cX5_liesIn 62 = .ok (.aload_n 0, 1) := by decide +kernel
theorem dX5_liesIn_63 : decode cX5_liesIn 63 = .ok (.getfield 31, 3) := by decide +kernel
theorem dX5_liesIn_66 : decode cX5_liesIn 66 = .ok (.iconst 0, 1) := by decide +kernel
theorem dX5_liesIn_67 : decode cX5_liesIn 67 = .ok (.aaload, 1) := by decide +kernel
theorem dX5_liesIn_68 : decode cX5_liesIn 68 = .ok (.astore_n 2, 1) := by decide +kernel
theorem dX5_liesIn_69 : decode cX5_liesIn 69 = .ok (.aload_n 1, 1) := by decide +kernel
theorem dX5_liesIn_70 : decode cX5_liesIn 70 = .ok (.aload_n 2, 1) := by decide +kernel
theorem dX5_liesIn_71 : decode cX5_liesIn 71 = .ok (.getfield 42, 3) := by decide +kernel
theorem dX5_liesIn_74 : decode cX5_liesIn 74 = .ok (.aload_n 2, 1) := by decide +kernel
theorem dX5_liesIn_75 : decode cX5_liesIn 75 = .ok (.getfield 45, 3) := by decide +kernel
theorem dX5_liesIn_78 : decode cX5_liesIn 78 = .ok (.aload_n 2, 1) := by decide +kernel
theorem dX5_liesIn_79 : decode cX5_liesIn 79 = .ok (.getfield 52, 3) := by decide +kernel
theorem dX5_liesIn_82 : decode cX5_liesIn 82 = .ok (.i2l, 1) := by decide +kernel
theorem dX5_liesIn_83 : decode cX5_liesIn 83 = .ok (.aload_n 2, 1) := by decide +kernel
theorem dX5_liesIn_84 : decode cX5_liesIn 84 = .ok (.getfield 42, 3) := by decide +kernel
theorem dX5_liesIn_87 : decode cX5_liesIn 87 = .ok (.i2l, 1) := by decide +kernel
theorem dX5_liesIn_88 : decode cX5_liesIn 88 = .ok (.lsub, 1) := by decide +kernel
theorem dX5_liesIn_89 : decode cX5_liesIn 89 = .ok (.aload_n 2, 1) := by decide +kernel
theorem dX5_liesIn_90 : decode cX5_liesIn 90 = .ok (.getfield 55, 3) := by decide +kernel
theorem dX5_liesIn_93 : decode cX5_liesIn 93 = .ok (.i2l, 1) := by decide +kernel
theorem dX5_liesIn_94 : decode cX5_liesIn 94 = .ok (.aload_n 2, 1) := by decide +kernel
theorem dX5_liesIn_95 : decode cX5_liesIn 95 = .ok (.getfield 45, 3) := by decide +kernel
theorem dX5_liesIn_98 : decode cX5_liesIn 98 = .ok (.i2l, 1) := by decide +kernel
theorem dX5_liesIn_99 : decode cX5_liesIn 99 = .ok (.lsub, 1) := by decide +kernel
theorem dX5_liesIn_100 : decode cX5_liesIn 100 = .ok (.invokevirtual 73, 3) := by decide +kernel
theorem dX5_liesIn_103 : decode cX5_liesIn 103 = .ok (.ireturn, 1) := by decide +kernel
theorem dX6_init_0 : decode cX6_init 0 = .ok (.aload_n 0, 1) := by decide +kernel
theorem dX6_init_1 : decode cX6_init 1 = .ok (.invokespecial 3, 3) := by decide +kernel
theorem dX6_init_4 : decode cX6_init 4 = .ok (.aload_n 0, 1) := by decide +kernel
theorem dX6_init_5 : decode cX6_init 5 = .ok (.bipush 32, 2) := by decide +kernel
theorem dX6_init_7 : decode cX6_init 7 = .ok (.newarray .int, 2) := by decide +kernel
theorem dX6_init_9 : decode cX6_init 9 = .ok (.putfield 9, 3) := by decide +kernel
theorem dX6_init_12 : decode cX6_init 12 = .ok (.return_, 1) := by decide +kernel
theorem dX6_size_0 : decode cX6_size 0 = .ok (.aload_n 0, 1) := by decide +kernel
theorem dX6_size_1 : decode cX6_size 1 = .ok (.getfield 15, 3) := by decide +kernel
theorem dX6_size_4 : decode cX6_size 4 = .ok (.ireturn, 1) := by decide +kernel
theorem dX6_get_0 : decode cX6_get 0 = .ok (.iload_n 1, 1) := by decide +kernel
theorem dX6_get_1 : decode cX6_get 1 = .ok (.ifCond .lt 20, 3) := by decide +kernel
theorem dX6_get_4 : decode cX6_get 4 = .ok (.iload_n 1, 1) := by decide +kernel
theorem dX6_get_5 : decode cX6_get 5 = .ok (.aload_n 0, 1) := by decide +kernel
theorem dX6_get_6 : decode cX6_get 6 = .ok (.getfield 15, 3) := by decide +kernel
theorem dX6_get_9 : decode cX6_get 9 = .ok (.if_icmp .ge 12, 3) := by decide +kernel
theorem dX6_get_12 : decode cX6_get 12 = .ok (.aload_n 0, 1) := by decide +kernel
theorem dX6_get_13 : decode cX6_get 13 = .ok (.getfield 9, 3) := by decide +kernel
theorem dX6_get_16 : decode cX6_get 16 = .ok (.iload_n 1, 1) := by decide +kernel
theorem dX6_get_17 : decode cX6_get 17 = .ok (.iaload, 1) := by decide +kernel
theorem dX6_get_18 : decode cX6_get 18 = .ok (.goto 4, 3) := by decide +kernel
theorem dX6_get_21 : decode cX6_get 21 = .ok (.iconst 0, 1) := by decide +kernel
theorem dX6_get_22 : decode cX6_get 22 = .ok (.ireturn, 1) := by decide +kernel
theorem dX6_last_0 : decode cX6_last 0 = .ok (.aload_n 0, 1) := by decide +kernel
theorem dX6_last_1 : decode cX6_last 1 = .ok (.aload_n 0, 1) := by decide +kernel
theorem dX6_last_2 : decode cX6_last 2 = .ok (.getfield 15, 3) := by decide +kernel
theorem dX6_last_5 : decode cX6_last 5 = .ok (.iconst 1, 1) := by decide +kernel
theorem dX6_last_6 : decode cX6_last 6 = .ok (.isub, 1) := by decide +kernel
theorem dX6_last_7 : decode cX6_last 7 = .ok (.invokevirtual 19, 3) := by decide +kernel
theorem dX6_last_10 : decode cX6_last 10 = .ok (.ireturn, 1) := by decide +kernel
theorem dX6_add_0 : decode cX6_add 0 = .ok (.aload_n 0, 1) := by decide +kernel
theorem dX6_add_1 : decode cX6_add 1 = .ok (.getfield 15, 3) := by decide +kernel
theorem dX6_add_4 : decode cX6_add 4 = .ok (.aload_n 0, 1) := by decide +kernel
theorem dX6_add_5 : decode cX6_add 5 = .ok (.getfield 9, 3) := by decide +kernel
theorem dX6_add_8 : decode cX6_add 8 = .ok (.arraylength, 1) := by decide +kernel
theorem dX6_add_9 : decode cX6_add 9 = .ok (.if_icmp .lt 21, 3) := by decide +kernel
theorem dX6_add_12 : decode cX6_add 12 = .ok (.aload_n 0, 1) := by decide +kernel
theorem dX6_add_13 : decode cX6_add 13 = .ok (.aload_n 0, 1) := by decide +kernel
theorem dX6_add_14 : decode cX6_add 14 = .ok (.getfield 9, 3) := by decide +kernel
theorem dX6_add_17 : decode cX6_add 17 = .ok (.iconst 2, 1) := by decide +kernel
theorem dX6_add_18 : decode cX6_add 18 = .ok (.aload_n 0, 1) := by decide +kernel
theorem dX6_add_19 : decode cX6_add 19 = .ok (.getfield 9, 3) := by decide +kernel
theorem dX6_add_22 : decode cX6_add 22 = .ok (.arraylength, 1) := by decide +kernel
theorem dX6_add_23 : decode cX6_add 23 = .ok (.imul, 1) := by decide +kernel
theorem dX6_add_24 : decode cX6_add 24 = .ok (.invokestatic 23, 3) := by decide +kernel
theorem dX6_add_27 : decode cX6_add 27 = .ok (.putfield 9, 3) := by decide +kernel
theorem dX6_add_30 : decode cX6_add 30 = .ok (.aload_n 0, 1) := by decide +kernel
theorem dX6_add_31 : decode cX6_add 31 = .ok (.getfield 9, 3) := by decide +kernel
theorem dX6_add_34 : decode cX6_add 34 = .ok (.aload_n 0, 1) := by decide +kernel
theorem dX6_add_35 : decode cX6_add 35 = .ok (.getfield 15, 3) := by decide +kernel
theorem dX6_add_38 : decode cX6_add 38 = .ok (.iload_n 1, 1) := by decide +kernel
theorem dX6_add_39 : decode cX6_add 39 = .ok (.iastore, 1) := by decide +kernel
theorem dX6_add_40 : decode cX6_add 40 = .ok (.aload_n 0, 1) := by decide +kernel
theorem dX6_add_41 : decode cX6_add 41 = .ok (.dup, 1) := by decide +kernel
theorem dX6_add_42 : decode cX6_add 42 = .ok (.getfield 15, 3) := by decide +kernel
theorem dX6_add_45 : decode cX6_add 45 = .ok (.iconst 1, 1) := by decide +kernel
theorem dX6_add_46 : decode cX6_add 46 = .ok (.iadd, 1) := by decide +kernel
theorem dX6_add_47 : decode cX6_add 47 = .ok (.putfield 15, 3) := by decide +kernel
theorem dX6_add_50 : decode cX6_add 50 = .ok (.return_, 1) := by decide +kernel
theorem dX6_dropLast_0 : decode cX6_dropLast 0 = .ok (.aload_n 0, 1) := by decide +kernel
theorem dX6_dropLast_1 : decode cX6_dropLast 1 = .ok (.getfield 15, 3) := by decide +kernel
theorem dX6_dropLast_4 : decode cX6_dropLast 4 = .ok (.ifCond .le 13, 3) := by decide +kernel
theorem dX6_dropLast_7 : decode cX6_dropLast 7 = .ok (.aload_n 0, 1) := by decide +kernel
theorem dX6_dropLast_8 : decode cX6_dropLast 8 = .ok (.dup, 1) := by decide +kernel
theorem dX6_dropLast_9 : decode cX6_dropLast 9 = .ok (.getfield 15, 3) := by decide +kernel
theorem dX6_dropLast_12 : decode cX6_dropLast 12 = .ok (.iconst 1, 1) := by decide +kernel
theorem dX6_dropLast_13 : decode cX6_dropLast 13 = .ok (.isub, 1) := by decide +kernel
theorem dX6_dropLast_14 : decode cX6_dropLast 14 = .ok (.putfield 15, 3) := by decide +kernel
theorem dX6_dropLast_17 : decode cX6_dropLast 17 = .ok (.return_, 1) := by decide +kernel
theorem dX6_empty_0 : decode cX6_empty 0 = .ok (.aload_n 0, 1) := by decide +kernel
theorem dX6_empty_1 : decode cX6_empty 1 = .ok (.iconst 0, 1) := by decide +kernel
theorem dX6_empty_2 : decode cX6_empty 2 = .ok (.putfield 15, 3) := by decide +kernel
theorem dX6_empty_5 : decode cX6_empty 5 = .ok (.return_, 1) := by decide +kernel
theorem dX7_init_0 : decode cX7_init 0 = .ok (.aload_n 0, 1) := by decide +kernel
theorem dX7_init_1 : decode cX7_init 1 = .ok (.invokespecial 1, 3) := by decide +kernel
theorem dX7_init_4 : decode cX7_init 4 = .ok (.aload_n 0, 1) := by decide +kernel
theorem dX7_init_5 : decode cX7_init 5 = .ok (.aload_n 1, 1) := by decide +kernel
theorem dX7_init_6 : decode cX7_init 6 = .ok (.putfield 7, 3) := by decide +kernel
theorem dX7_init_9 : decode cX7_init 9 = .ok (.aload_n 0, 1) := by decide +kernel
theorem dX7_init_10 : decode cX7_init 10 = .ok (.iload_n 2, 1) := by decide +kernel
theorem dX7_init_11 : decode cX7_init 11 = .ok (.putfield 13, 3) := by decide +kernel
theorem dX7_init_14 : decode cX7_init 14 = .ok (.aload_n 0, 1) := by decide +kernel
theorem dX7_init_15 : decode cX7_init 15 = .ok (.iload_n 3, 1) := by decide +kernel
theorem dX7_init_16 : decode cX7_init 16 = .ok (.putfield 17, 3) := by decide +kernel
theorem dX7_init_19 : decode cX7_init 19 = .ok (.aload_n 0, 1) := by decide +kernel
theorem dX7_init_20 : decode cX7_init 20 = .ok (.iload 4, 2) := by decide +kernel
theorem dX7_init_22 : decode cX7_init 22 = .ok (.putfield 20, 3) := by decide +kernel
theorem dX7_init_25 : decode cX7_init 25 = .ok (.aload_n 0, 1) := by decide +kernel
theorem dX7_init_26 : decode cX7_init 26 = .ok (.iload 5, 2) := by decide +kernel
theorem dX7_init_28 : decode cX7_init 28 = .ok (.putfield 23, 3) := by decide +kernel
theorem dX7_init_31 : decode cX7_init 31 = .ok (.aload_n 0, 1) := by decide +kernel
theorem dX7_init_32 : decode cX7_init 32 = .ok (.iload 6, 2) := by decide +kernel
theorem dX7_init_34 : decode cX7_init 34 = .ok (.putfield 26, 3) := by decide +kernel
theorem dX7_init_37 : decode cX7_init 37 = .ok (.aload_n 0, 1) := by decide +kernel
theorem dX7_init_38 : decode cX7_init 38 = .ok (.new 29, 3) := by decide +kernel
theorem dX7_init_41 : decode cX7_init 41 = .ok (.dup, 1) := by decide +kernel
theorem dX7_init_42 : decode cX7_init 42 = .ok (.invokespecial 31, 3) := by decide +kernel
theorem dX7_init_45 : decode cX7_init 45 = .ok (.putfield 32, 3) := by decide +kernel
theorem dX7_init_48 : decode cX7_init 48 = .ok (.aload_n 0, 1) := by decide +kernel
theorem dX7_init_49 : decode cX7_init 49 = .ok (.getfield 32, 3) := by decide +kernel
theorem dX7_init_52 : decode cX7_init 52 = .ok (.iload_n 3, 1) := by decide +kernel
theorem dX7_init_53 : decode cX7_init 53 = .ok (.iload 4, 2) := by decide +kernel
theorem dX7_init_55 : decode cX7_init 55 = .ok (.invokevirtual 36, 3) := by decide +kernel
theorem dX7_init_58 : decode cX7_init 58 = .ok (.aload_n 0, 1) := by decide +kernel
theorem dX7_init_59 : decode cX7_init 59 = .ok (.getfield 32, 3) := by decide +kernel
theorem dX7_init_62 : decode cX7_init 62 = .ok (.iload 5, 2) := by decide +kernel
theorem dX7_init_64 : decode cX7_init 64 = .ok (.iload 6, 2) := by decide +kernel
theorem dX7_init_66 : decode cX7_init 66 = .ok (.invokevirtual 36, 3) := by decide +kernel
theorem dX7_init_69 : decode cX7_init 69 = .ok (.return_, 1) := by decide +kernel
theorem dX7_beginsAt_0 : decode cX7_beginsAt 0 = .ok (.aload_n 0, 1) := by decide +kernel
theorem dX7_beginsAt_1 : decode cX7_beginsAt 1 = .ok (.getfield 17, 3) := by decide +kernel
theorem dX7_beginsAt_4 : decode cX7_beginsAt 4 = .ok (.iload_n 1, 1) := by decide +kernel
theorem dX7_beginsAt_5 : decode cX7_beginsAt 5 = .ok (.if_icmp .ne 15, 3) := by decide +kernel
theorem dX7_beginsAt_8 : decode cX7_beginsAt 8 = .ok (.aload_n 0, 1) := by decide +kernel
theorem dX7_beginsAt_9 : decode cX7_beginsAt 9 = .ok (.getfield 20, 3) := by decide +kernel
theorem dX7_beginsAt_12 : decode cX7_beginsAt 12 = .ok (.iload_n 2, 1) := by decide +kernel
theorem dX7_beginsAt_13 : decode cX7_beginsAt 13 = .ok (.if_icmp .ne 7, 3) := by decide +kernel
theorem dX7_beginsAt_16 : decode cX7_beginsAt 16 = .ok (.iconst 1, 1) := by decide +kernel
theorem dX7_beginsAt_17 : decode cX7_beginsAt 17 = .ok (.goto 4, 3) := by decide +kernel
theorem dX7_beginsAt_20 : decode cX7_beginsAt 20 = .ok (.iconst 0, 1) := by decide +kernel
theorem dX7_beginsAt_21 : decode cX7_beginsAt 21 = .ok (.ireturn, 1) := by decide +kernel
theorem dX7_isNeighbourOf_0 : decode cX7_isNeighbourOf 0 = .ok (.aload_n 0, 1) := by decide +kernel
theorem dX7_isNeighbourOf_1 : decode cX7_isNeighbourOf 1 = .ok (.getfield 40, 3) := by decide +kernel
theorem dX7_isNeighbourOf_4 : decode cX7_isNeighbourOf 4 = .ok (.aload_n 1, 1) := by decide +kernel
theorem dX7_isNeighbourOf_5 : decode cX7_isNeighbourOf 5 = .ok (.if_acmp .eq 11, 3) := by decide +kernel
theorem dX7_isNeighbourOf_8 : decode cX7_isNeighbourOf 8 = .ok (.aload_n 1, 1) := by decide +kernel
theorem dX7_isNeighbourOf_9 : decode cX7_isNeighbourOf 9 = .ok (.getfield 40, 3) := by decide +kernel
theorem dX7_isNeighbourOf_12 : decode cX7_isNeighbourOf 12 = .ok (.aload_n 0, 1) := by decide +kernel
theorem dX7_isNeighbourOf_13 : decode cX7_isNeighbourOf 13 = .ok (.if_acmp .ne 7, 3) := by decide +kernel
theorem dX7_isNeighbourOf_16 : decode cX7_isNeighbourOf 16 = .ok (.iconst 1, 1) := by decide +kernel
theorem dX7_isNeighbourOf_17 : decode cX7_isNeighbourOf 17 = .ok (.goto 4, 3) := by decide +kernel
theorem dX7_isNeighbourOf_20 : decode cX7_isNeighbourOf 20 = .ok (.iconst 0, 1) := by decide +kernel
theorem dX7_isNeighbourOf_21 : decode cX7_isNeighbourOf 21 = .ok (.ireturn, 1) := by decide +kernel
theorem dX7_side_0 : decode cX7_side 0 = .ok (.aload_n 0, 1) := by decide +kernel
theorem dX7_side_1 : decode cX7_side 1 = .ok (.getfield 23, 3) := by decide +kernel
theorem dX7_side_4 : decode cX7_side 4 = .ok (.i2l, 1) := by decide +kernel
theorem dX7_side_5 : decode cX7_side 5 = .ok (.aload_n 0, 1) := by decide +kernel
theorem dX7_side_6 : decode cX7_side 6 = .ok (.getfield 17, 3) := by decide +kernel
theorem dX7_side_9 : decode cX7_side 9 = .ok (.i2l, 1) := by decide +kernel
theorem dX7_side_10 : decode cX7_side 10 = .ok (.lsub, 1) := by decide +kernel
theorem dX7_side_11 : decode cX7_side 11 = .ok (.iload_n 2, 1) := by decide +kernel
theorem dX7_side_12 : decode cX7_side 12 = .ok (.i2l, 1) := by decide +kernel
theorem dX7_side_13 : decode cX7_side 13 = .ok (.aload_n 0, 1) := by decide +kernel
theorem dX7_side_14 : decode cX7_side 14 = .ok (.getfield 20, 3) := by decide +kernel
theorem dX7_side_17 : decode cX7_side 17 = .ok (.i2l, 1) := by decide +kernel
theorem dX7_side_18 : decode cX7_side 18 = .ok (.lsub, 1) := by decide +kernel
theorem dX7_side_19 : decode cX7_side 19 = .ok (.lmul, 1) := by decide +kernel
theorem dX7_side_20 : decode cX7_side 20 = .ok (.aload_n 0, 1) := by decide +kernel
theorem dX7_side_21 : decode cX7_side 21 = .ok (.getfield 26, 3) := by decide +kernel
theorem dX7_side_24 : decode cX7_side 24 = .ok (.i2l, 1) := by decide +kernel
theorem dX7_side_25 : decode cX7_side 25 = .ok (.aload_n 0, 1) := by decide +kernel
theorem dX7_side_26 : decode cX7_side 26 = .ok (.getfield 20, 3) := by decide +kernel
theorem dX7_side_29 : decode cX7_side 29 = .ok (.i2l, 1) := by decide +kernel
theorem dX7_side_30 : decode cX7_side 30 = .ok (.lsub, 1) := by decide +kernel
theorem dX7_side_31 : decode cX7_side 31 = .ok (.iload_n 1, 1) := by decide +kernel
theorem dX7_side_32 : decode cX7_side 32 = .ok (.i2l, 1) := by decide +kernel
theorem dX7_side_33 : decode cX7_side 33 = .ok (.aload_n 0, 1) := by decide +kernel
theorem dX7_side_34 : decode cX7_side 34 = .ok (.getfield 17, 3) := by decide +kernel
theorem dX7_side_37 : decode cX7_side 37 = .ok (.i2l, 1) := by decide +kernel
theorem dX7_side_38 : decode cX7_side 38 = .ok (.lsub, 1) := by decide +kernel
theorem dX7_side_39 : decode cX7_side 39 = .ok (.lmul, 1) := by decide +kernel
theorem dX7_side_40 : decode cX7_side 40 = .ok (.lsub, 1) := by decide +kernel
theorem dX7_side_41 : decode cX7_side 41 = .ok (.lreturn, 1) := by decide +kernel
theorem dX7_passes_0 : decode cX7_passes 0 = .ok (.aload_n 0, 1) := by decide +kernel
theorem dX7_passes_1 : decode cX7_passes 1 = .ok (.getfield 32, 3) := by decide +kernel
theorem dX7_passes_4 : decode cX7_passes 4 = .ok (.iload_n 1, 1) := by decide +kernel
theorem dX7_passes_5 : decode cX7_passes 5 = .ok (.iload_n 2, 1) := by decide +kernel
theorem dX7_passes_6 : decode cX7_passes 6 = .ok (.invokevirtual 44, 3) := by decide +kernel
theorem dX7_passes_9 : decode cX7_passes 9 = .ok (.ifCond .eq 18, 3) := by decide +kernel
theorem dX7_passes_12 : decode cX7_passes 12 = .ok (.aload_n 0, 1) := by decide +kernel
theorem dX7_passes_13 : decode cX7_passes 13 = .ok (.iload_n 1, 1) := by decide +kernel
theorem dX7_passes_14 : decode cX7_passes 14 = .ok (.iload_n 2, 1) := by decide +kernel
theorem dX7_passes_15 : decode cX7_passes 15 = .ok (.invokevirtual 48, 3) := by decide +kernel
theorem dX7_passes_18 : decode cX7_passes 18 = .ok (.lconst 0, 1) := by decide +kernel
theorem dX7_passes_19 : decode cX7_passes 19 = .ok (.lcmp, 1) := by decide +kernel
theorem dX7_passes_20 : decode cX7_passes 20 = .ok (.ifCond .ne 7, 3) := by decide +kernel
theorem dX7_passes_23 : decode cX7_passes 23 = .ok (.iconst 1, 1) := by decide +kernel
theorem dX7_passes_24 : decode cX7_passes 24 = .ok (.goto 4, 3) := by decide +kernel
theorem dX7_passes_27 : decode cX7_passes 27 = .ok (.iconst 0, 1) := by decide +kernel
theorem dX7_passes_28 : decode cX7_passes 28 = .ok (.ireturn, 1) := by decide +kernel
theorem dX7_isHitFrom_0 : decode cX7_isHitFrom 0 = .ok (.aload_n 0, 1) := by decide +kernel
theorem dX7_isHitFrom_1 : decode cX7_isHitFrom 1 = .ok (.getfield 20, 3) := by decide +kernel
theorem dX7_isHitFrom_4 : decode cX7_isHitFrom 4 = .ok (.iload_n 2, 1) := by decide +kernel
theorem dX7_isHitFrom_5 : decode cX7_isHitFrom 5 = .ok (.if_icmp .gt 18, 3) := by decide +kernel
theorem dX7_isHitFrom_8 : decode cX7_isHitFrom 8 = .ok (.aload_n 0, 1) := by decide +kernel
theorem dX7_isHitFrom_9 : decode cX7_isHitFrom 9 = .ok (.getfield 20, 3) := by decide +kernel
theorem dX7_isHitFrom_12 : decode cX7_isHitFrom 12 = .ok (.iload_n 2, 1) := by decide +kernel
theorem dX7_isHitFrom_13 : decode cX7_isHitFrom 13 = .ok (.if_icmp .ne 14, 3) := by decide +kernel
theorem dX7_isHitFrom_16 : decode cX7_isHitFrom 16 = .ok (.lload 5, 2) := by decide +kernel
theorem dX7_isHitFrom_18 : decode cX7_isHitFrom 18 = .ok (.lconst 0, 1) := by decide +kernel
theorem dX7_isHitFrom_19 : decode cX7_isHitFrom 19 = .ok (.lcmp, 1) := by decide +kernel
theorem dX7_isHitFrom_20 : decode cX7_isHitFrom 20 = .ok (.ifCond .ge 7, 3) := by decide +kernel
theorem dX7_isHitFrom_23 : decode cX7_isHitFrom 23 = .ok (.iconst 1, 1) := by decide +kernel
theorem dX7_isHitFrom_24 : decode cX7_isHitFrom 24 = .ok (.goto 4, 3) := by decide +kernel
theorem dX7_isHitFrom_27 : decode cX7_isHitFrom 27 = .ok (.iconst 0, 1) := by decide +kernel
theorem dX7_isHitFrom_28 : decode cX7_isHitFrom 28 = .ok (.istore 7, 2) := by decide +kernel
theorem dX7_isHitFrom_30 : decode cX7_isHitFrom 30 = .ok (.aload_n 0, 1) := by decide +kernel
theorem dX7_isHitFrom_31 : decode cX7_isHitFrom 31 = .ok (.getfield 26, 3) := by decide +kernel
theorem dX7_isHitFrom_34 : decode cX7_isHitFrom 34 = .ok (.iload_n 2, 1) := by decide +kernel
theorem dX7_isHitFrom_35 : decode cX7_isHitFrom 35 = .ok (.if_icmp .gt 18, 3) := by decide +kernel
theorem dX7_isHitFrom_38 : decode cX7_isHitFrom 38 = .ok (.aload_n 0, 1) := by decide +kernel
theorem dX7_isHitFrom_39 : decode cX7_isHitFrom 39 = .ok (.getfield 26, 3) := by decide +kernel
theorem dX7_isHitFrom_42 : decode cX7_isHitFrom 42 = .ok (.iload_n 2, 1) := by decide +kernel
theorem dX7_isHitFrom_43 : decode cX7_isHitFrom 43 = .ok (.if_icmp .ne 14, 3) := by decide +kernel
theorem dX7_isHitFrom_46 : decode cX7_isHitFrom 46 = .ok (.lload 5, 2) := by decide +kernel
theorem dX7_isHitFrom_48 : decode cX7_isHitFrom 48 = .ok (.lconst 0, 1) := by decide +kernel
theorem dX7_isHitFrom_49 : decode cX7_isHitFrom 49 = .ok (.lcmp, 1) := by decide +kernel
theorem dX7_isHitFrom_50 : decode cX7_isHitFrom 50 = .ok (.ifCond .ge 7, 3) := by decide +kernel
theorem dX7_isHitFrom_53 : decode cX7_isHitFrom 53 = .ok (.iconst 1, 1) := by decide +kernel
theorem dX7_isHitFrom_54 : decode cX7_isHitFrom 54 = .ok (.goto 4, 3) := by decide +kernel
theorem dX7_isHitFrom_57 : decode cX7_isHitFrom 57 = .ok (.iconst 0, 1) := by decide +kernel
theorem dX7_isHitFrom_58 : decode cX7_isHitFrom 58 = .ok (.istore 8, 2) := by decide +kernel
theorem dX7_isHitFrom_60 : decode cX7_isHitFrom 60 = .ok (.iload 7, 2) := by decide +kernel
theorem dX7_isHitFrom_62 : decode cX7_isHitFrom 62 = .ok (.iload 8, 2) := by decide +kernel
theorem dX7_isHitFrom_64 : decode cX7_isHitFrom 64 = .ok (.if_icmp .ne 5, 3) := by decide +kernel
theorem dX7_isHitFrom_67 : decode cX7_isHitFrom 67 = .ok (.iconst 0, 1) := by decide +kernel
theorem dX7_isHitFrom_68 : decode cX7_isHitFrom 68 = .ok (.ireturn, 1) := by decide +kernel
theorem dX7_isHitFrom_69 : decode cX7_isHitFrom 69 = .ok (.aload_n 0, 1) := by decide +kernel
theorem dX7_isHitFrom_70 : decode cX7_isHitFrom 70 = .ok (.iload_n 1, 1) := by decide +kernel
theorem dX7_isHitFrom_71 : decode cX7_isHitFrom 71 = .ok (.iload_n 2, 1) := by decide +kernel
theorem dX7_isHitFrom_72 : decode cX7_isHitFrom 72 = .ok (.invokevirtual 48, 3) := by decide +kernel
theorem dX7_isHitFrom_75 : decode cX7_isHitFrom 75 = .ok (.lstore 9, 2) := by decide +kernel
theorem dX7_isHitFrom_77 : decode cX7_isHitFrom 77 = .ok (.lload 9, 2) := by decide +kernel
theorem dX7_isHitFrom_79 : decode cX7_isHitFrom 79 = .ok (.lconst 0, 1) := by decide +kernel
theorem dX7_isHitFrom_80 : decode cX7_isHitFrom 80 = .ok (.lcmp, 1) := by decide +kernel
theorem dX7_isHitFrom_81 : decode cX7_isHitFrom 81 = .ok (.ifCond .ne 33, 3) := by decide +kernel
theorem dX7_isHitFrom_84 : decode cX7_isHitFrom 84 = .ok (.aload_n 0, 1) := by decide +kernel
theorem dX7_isHitFrom_85 : decode cX7_isHitFrom 85 = .ok (.getfield 23, 3) := by decide +kernel
theorem dX7_isHitFrom_88 : decode cX7_isHitFrom 88 = .ok (.i2l, 1) := by decide +kernel
theorem dX7_isHitFrom_89 : decode cX7_isHitFrom 89 = .ok (.aload_n 0, 1) := by decide +kernel
theorem dX7_isHitFrom_90 : decode cX7_isHitFrom 90 = .ok (.getfield 17, 3) := by decide +kernel
theorem dX7_isHitFrom_93 : decode cX7_isHitFrom 93 = .ok (.i2l, 1) := by decide +kernel
theorem dX7_isHitFrom_94 : decode cX7_isHitFrom 94 = .ok (.lsub, 1) := by decide +kernel
theorem dX7_isHitFrom_95 : decode cX7_isHitFrom 95 = .ok (.lload 5, 2) := by decide +kernel
theorem dX7_isHitFrom_97 : decode cX7_isHitFrom 97 = .ok (.lmul, 1) := by decide +kernel
theorem dX7_isHitFrom_98 : decode cX7_isHitFrom 98 = .ok (.aload_n 0, 1) := by decide +kernel
theorem dX7_isHitFrom_99 : decode cX7_isHitFrom 99 = .ok (.getfield 26, 3) := by decide +kernel
theorem dX7_isHitFrom_102 : decode cX7_isHitFrom 102 = .ok (.i2l, 1) := by decide +kernel
theorem dX7_isHitFrom_103 : decode cX7_isHitFrom 103 = .ok (.aload_n 0, 1) := by decide +kernel
theorem dX7_isHitFrom_104 : decode cX7_isHitFrom 104 = .ok (.getfield 20, 3) := by decide +kernel
theorem dX7_isHitFrom_107 : decode cX7_isHitFrom 107 = .ok (.i2l, 1) := by decide +kernel
theorem dX7_isHitFrom_108 : decode cX7_isHitFrom 108 = .ok (.lsub, 1) := by decide +kernel
theorem dX7_isHitFrom_109 : decode cX7_isHitFrom 109 = .ok (.lload_n 3, 1) := by decide +kernel
theorem dX7_isHitFrom_110 : decode cX7_isHitFrom 110 = .ok (.lmul, 1) := by decide +kernel
theorem dX7_isHitFrom_111 : decode cX7_isHitFrom 111 = .ok (.lsub, 1) := by decide +kernel
theorem dX7_isHitFrom_112 : decode cX7_isHitFrom 112 = .ok (.lstore 9, 2) := by decide +kernel
theorem dX7_isHitFrom_114 : decode cX7_isHitFrom 114 = .ok (.iload 8, 2) := by decide +kernel
theorem dX7_isHitFrom_116 : decode cX7_isHitFrom 116 = .ok (.ifCond .eq 18, 3) := by decide +kernel
theorem dX7_isHitFrom_119 : decode cX7_isHitFrom 119 = .ok (.lload 9, 2) := by decide +kernel
theorem dX7_isHitFrom_121 : decode cX7_isHitFrom 121 = .ok (.lconst 0, 1) := by decide +kernel
theorem dX7_isHitFrom_122 : decode cX7_isHitFrom 122 = .ok (.lcmp, 1) := by decide +kernel
theorem dX7_isHitFrom_123 : decode cX7_isHitFrom 123 = .ok (.ifCond .le 7, 3) := by decide +kernel
theorem dX7_isHitFrom_126 : decode cX7_isHitFrom 126 = .ok (.iconst 1, 1) := by decide +kernel
theorem dX7_isHitFrom_127 : decode cX7_isHitFrom 127 = .ok (.goto 19, 3) := by decide +kernel
theorem dX7_isHitFrom_130 : decode cX7_isHitFrom 130 = .ok (.iconst 0, 1) := by decide +kernel
theorem dX7_isHitFrom_131 : decode cX7_isHitFrom 131 = .ok (.goto 15, 3) := by decide +kernel
theorem dX7_isHitFrom_134 : decode cX7_isHitFrom 134 = .ok (.lload 9, 2) := by decide +kernel
theorem dX7_isHitFrom_136 : decode cX7_isHitFrom 136 = .ok (.lconst 0, 1) := by decide +kernel
theorem dX7_isHitFrom_137 : decode cX7_isHitFrom 137 = .ok (.lcmp, 1) := by decide +kernel
theorem dX7_isHitFrom_138 : decode cX7_isHitFrom 138 = .ok (.ifCond .ge 7, 3) := by decide +kernel
theorem dX7_isHitFrom_141 : decode cX7_isHitFrom 141 = .ok (.iconst 1, 1) := by decide +kernel
theorem dX7_isHitFrom_142 : decode cX7_isHitFrom 142 = .ok (.goto 4, 3) := by decide +kernel
theorem dX7_isHitFrom_145 : decode cX7_isHitFrom 145 = .ok (.iconst 0, 1) := by decide +kernel
theorem dX7_isHitFrom_146 : decode cX7_isHitFrom 146 = .ok (.ireturn, 1) := by decide +kernel
theorem dX7_hasOnLeft_0 : decode cX7_hasOnLeft 0 = .ok (.aload_n 0, 1) := by decide +kernel
theorem dX7_hasOnLeft_1 : decode cX7_hasOnLeft 1 = .ok (.getfield 23, 3) := by decide +kernel
theorem dX7_hasOnLeft_4 : decode cX7_hasOnLeft 4 = .ok (.iload_n 1, 1) := by decide +kernel
theorem dX7_hasOnLeft_5 : decode cX7_hasOnLeft 5 = .ok (.if_icmp .ne 25, 3) := by decide +kernel
theorem dX7_hasOnLeft_8 : decode cX7_hasOnLeft 8 = .ok (.aload_n 0, 1) := by decide +kernel
theorem dX7_hasOnLeft_9 : decode cX7_hasOnLeft 9 = .ok (.getfield 26, 3) := by decide +kernel
theorem dX7_hasOnLeft_12 : decode cX7_hasOnLeft 12 = .ok (.iload_n 2, 1) := by decide +kernel
theorem dX7_hasOnLeft_13 : decode cX7_hasOnLeft 13 = .ok (.if_icmp .ne 17, 3) := by decide +kernel
theorem dX7_hasOnLeft_16 : decode cX7_hasOnLeft 16 = .ok (.aload_n 0, 1) := by decide +kernel
theorem dX7_hasOnLeft_17 : decode cX7_hasOnLeft 17 = .ok (.getfield 40, 3) := by decide +kernel
theorem dX7_hasOnLeft_20 : decode cX7_hasOnLeft 20 = .ok (.ifnull 10, 3) := by decide +kernel
theorem dX7_hasOnLeft_23 : decode cX7_hasOnLeft 23 = .ok (.aload_n 0, 1) := by decide +kernel
theorem dX7_hasOnLeft_24 : decode cX7_hasOnLeft 24 = .ok (.getfield 40, 3) := by decide +kernel
theorem dX7_hasOnLeft_27 : decode cX7_hasOnLeft 27 = .ok (.goto 4, 3) := by decide +kernel
theorem dX7_hasOnLeft_30 : decode cX7_hasOnLeft 30 = .ok (.aload_n 0, 1) := by decide +kernel
theorem dX7_hasOnLeft_31 : decode cX7_hasOnLeft 31 = .ok (.astore 5, 2) := by decide +kernel
theorem dX7_hasOnLeft_33 : decode cX7_hasOnLeft 33 = .ok (.aload 5, 2) := by decide +kernel
theorem dX7_hasOnLeft_35 : decode cX7_hasOnLeft 35 = .ok (.getfield 23, 3) := by decide +kernel
theorem dX7_hasOnLeft_38 : decode cX7_hasOnLeft 38 = .ok (.i2l, 1) := by decide +kernel
theorem dX7_hasOnLeft_39 : decode cX7_hasOnLeft 39 = .ok (.iload_n 1, 1) := by decide +kernel
theorem dX7_hasOnLeft_40 : decode cX7_hasOnLeft 40 = .ok (.i2l, 1) := by decide +kernel
theorem dX7_hasOnLeft_41 : decode cX7_hasOnLeft 41 = .ok (.lsub, 1) := by decide +kernel
theorem dX7_hasOnLeft_42 : decode cX7_hasOnLeft 42 = .ok (.lstore 6, 2) := by decide +kernel
theorem dX7_hasOnLeft_44 : decode cX7_hasOnLeft 44 = .ok (.aload 5, 2) := by decide +kernel
theorem dX7_hasOnLeft_46 : decode cX7_hasOnLeft 46 = .ok (.getfield 26, 3) := by decide +kernel
theorem dX7_hasOnLeft_49 : decode cX7_hasOnLeft 49 = .ok (.i2l, 1) := by decide +kernel
theorem dX7_hasOnLeft_50 : decode cX7_hasOnLeft 50 = .ok (.iload_n 2, 1) := by decide +kernel
theorem dX7_hasOnLeft_51 : decode cX7_hasOnLeft 51 = .ok (.i2l, 1) := by decide +kernel
theorem dX7_hasOnLeft_52 : decode cX7_hasOnLeft 52 = .ok (.lsub, 1) := by decide +kernel
theorem dX7_hasOnLeft_53 : decode cX7_hasOnLeft 53 = .ok (.lstore 8, 2) := by decide +kernel
theorem dX7_hasOnLeft_55 : decode cX7_hasOnLeft 55 = .ok (.aload_n 0, 1) := by decide +kernel
theorem dX7_hasOnLeft_56 : decode cX7_hasOnLeft 56 = .ok (.getfield 17, 3) := by decide +kernel
theorem dX7_hasOnLeft_59 : decode cX7_hasOnLeft 59 = .ok (.i2l, 1) := by decide +kernel
theorem dX7_hasOnLeft_60 : decode cX7_hasOnLeft 60 = .ok (.iload_n 1, 1) := by decide +kernel
theorem dX7_hasOnLeft_61 : decode cX7_hasOnLeft 61 = .ok (.i2l, 1) := by decide +kernel
theorem dX7_hasOnLeft_62 : decode cX7_hasOnLeft 62 = .ok (.lsub, 1) := by decide +kernel
theorem dX7_hasOnLeft_63 : decode cX7_hasOnLeft 63 = .ok (.lstore 10, 2) := by decide +kernel
theorem dX7_hasOnLeft_65 : decode cX7_hasOnLeft 65 = .ok (.aload_n 0, 1) := by decide +kernel
theorem dX7_hasOnLeft_66 : decode cX7_hasOnLeft 66 = .ok (.getfield 20, 3) := by decide +kernel
theorem dX7_hasOnLeft_69 : decode cX7_hasOnLeft 69 = .ok (.i2l, 1) := by decide +kernel
theorem dX7_hasOnLeft_70 : decode cX7_hasOnLeft 70 = .ok (.iload_n 2, 1) := by decide +kernel
theorem dX7_hasOnLeft_71 : decode cX7_hasOnLeft 71 = .ok (.i2l, 1) := by decide +kernel
theorem dX7_hasOnLeft_72 : decode cX7_hasOnLeft 72 = .ok (.lsub, 1) := by decide +kernel
theorem dX7_hasOnLeft_73 : decode cX7_hasOnLeft 73 = .ok (.lstore 12, 2) := by decide +kernel
theorem dX7_hasOnLeft_75 : decode cX7_hasOnLeft 75 = .ok (.iload_n 3, 1) := by decide +kernel
theorem dX7_hasOnLeft_76 : decode cX7_hasOnLeft 76 = .ok (.i2l, 1) := by decide +kernel
theorem dX7_hasOnLeft_77 : decode cX7_hasOnLeft 77 = .ok (.iload_n 1, 1) := by decide +kernel
theorem dX7_hasOnLeft_78 : decode cX7_hasOnLeft 78 = .ok (.i2l, 1) := by decide +kernel
theorem dX7_hasOnLeft_79 : decode cX7_hasOnLeft 79 = .ok (.lsub, 1) := by decide +kernel
theorem dX7_hasOnLeft_80 : decode cX7_hasOnLeft 80 = .ok (.lstore 14, 2) := by decide +kernel
theorem dX7_hasOnLeft_82 : decode cX7_hasOnLeft 82 = .ok (.iload 4, 2) := by decide +kernel
theorem dX7_hasOnLeft_84 : decode cX7_hasOnLeft 84 = .ok (.i2l, 1) := by decide +kernel
theorem dX7_hasOnLeft_85 : decode cX7_hasOnLeft 85 = .ok (.iload_n 2, 1) := by decide +kernel
theorem dX7_hasOnLeft_86 : decode cX7_hasOnLeft 86 = .ok (.i2l, 1) := by decide +kernel
theorem dX7_hasOnLeft_87 : decode cX7_hasOnLeft 87 = .ok (.lsub, 1) := by decide +kernel
theorem dX7_hasOnLeft_88 : decode cX7_hasOnLeft 88 = .ok (.lstore 16, 2) := by decide +kernel
theorem dX7_hasOnLeft_90 : decode cX7_hasOnLeft 90 = .ok (.lload 6, 2) := by decide +kernel
theorem dX7_hasOnLeft_92 : decode cX7_hasOnLeft 92 = .ok (.lload 12, 2) := by decide +kernel
theorem dX7_hasOnLeft_94 : decode cX7_hasOnLeft 94 = .ok (.lmul, 1) := by decide +kernel
theorem dX7_hasOnLeft_95 : decode cX7_hasOnLeft 95 = .ok (.lload 8, 2) := by decide +kernel
theorem dX7_hasOnLeft_97 : decode cX7_hasOnLeft 97 = .ok (.lload 10, 2) := by decide +kernel
theorem dX7_hasOnLeft_99 : decode cX7_hasOnLeft 99 = .ok (.lmul, 1) := by decide +kernel
theorem dX7_hasOnLeft_100 : decode cX7_hasOnLeft 100 = .ok (.lsub, 1) := by decide +kernel
theorem dX7_hasOnLeft_101 : decode cX7_hasOnLeft 101 = .ok (.lstore 18, 2) := by decide +kernel
theorem dX7_hasOnLeft_103 : decode cX7_hasOnLeft 103 = .ok (.lload 6, 2) := by decide +kernel
theorem dX7_hasOnLeft_105 : decode cX7_hasOnLeft 105 = .ok (.lload 16, 2) := by decide +kernel
theorem dX7_hasOnLeft_107 : decode cX7_hasOnLeft 107 = .ok (.lmul, 1) := by decide +kernel
theorem dX7_hasOnLeft_108 : decode cX7_hasOnLeft 108 = .ok (.lload 8, 2) := by decide +kernel
theorem dX7_hasOnLeft_110 : decode cX7_hasOnLeft 110 = .ok (.lload 14, 2) := by decide +kernel
theorem dX7_hasOnLeft_112 : decode cX7_hasOnLeft 112 = .ok (.lmul, 1) := by decide +kernel
theorem dX7_hasOnLeft_113 : decode cX7_hasOnLeft 113 = .ok (.lsub, 1) := by decide +kernel
theorem dX7_hasOnLeft_114 : decode cX7_hasOnLeft 114 = .ok (.lconst 0, 1) := by decide +kernel
theorem dX7_hasOnLeft_115 : decode cX7_hasOnLeft 115 = .ok (.lcmp, 1) := by decide +kernel
theorem dX7_hasOnLeft_116 : decode cX7_hasOnLeft 116 = .ok (.ifCond .le 7, 3) := by decide +kernel
theorem dX7_hasOnLeft_119 : decode cX7_hasOnLeft 119 = .ok (.iconst 1, 1) := by decide +kernel
theorem dX7_hasOnLeft_120 : decode cX7_hasOnLeft 120 = .ok (.goto 4, 3) := by decide +kernel
theorem dX7_hasOnLeft_123 : decode cX7_hasOnLeft 123 = .ok (.iconst 0, 1) := by decide +kernel
theorem dX7_hasOnLeft_124 : decode cX7_hasOnLeft 124 = .ok (.istore 20, 2) := by decide +kernel
theorem dX7_hasOnLeft_126 : decode cX7_hasOnLeft 126 = .ok (.lload 14, 2) := by decide +kernel
theorem dX7_hasOnLeft_128 : decode cX7_hasOnLeft 128 = .ok (.lload 12, 2) := by decide +kernel
theorem dX7_hasOnLeft_130 : decode cX7_hasOnLeft 130 = .ok (.lmul, 1) := by decide +kernel
theorem dX7_hasOnLeft_131 : decode cX7_hasOnLeft 131 = .ok (.lload 16, 2) := by decide +kernel
theorem dX7_hasOnLeft_133 : decode cX7_hasOnLeft 133 = .ok (.lload 10, 2) := by decide +kernel
theorem dX7_hasOnLeft_135 : decode cX7_hasOnLeft 135 = .ok (.lmul, 1) := by decide +kernel
theorem dX7_hasOnLeft_136 : decode cX7_hasOnLeft 136 = .ok (.lsub, 1) := by decide +kernel
theorem dX7_hasOnLeft_137 : decode cX7_hasOnLeft 137 = .ok (.lconst 0, 1) := by decide +kernel
theorem dX7_hasOnLeft_138 : decode cX7_hasOnLeft 138 = .ok (.lcmp, 1) := by decide +kernel
theorem dX7_hasOnLeft_139 : decode cX7_hasOnLeft 139 = .ok (.ifCond .le 7, 3) := by decide +kernel
theorem dX7_hasOnLeft_142 : decode cX7_hasOnLeft 142 = .ok (.iconst 1, 1) := by decide +kernel
theorem dX7_hasOnLeft_143 : decode cX7_hasOnLeft 143 = .ok (.goto 4, 3) := by decide +kernel
theorem dX7_hasOnLeft_146 : decode cX7_hasOnLeft 146 = .ok (.iconst 0, 1) := by decide +kernel
theorem dX7_hasOnLeft_147 : decode cX7_hasOnLeft 147 = .ok (.istore 21, 2) := by decide +kernel
theorem dX7_hasOnLeft_149 : decode cX7_hasOnLeft 149 = .ok (.lload 18, 2) := by decide +kernel
theorem dX7_hasOnLeft_151 : decode cX7_hasOnLeft 151 = .ok (.lconst 0, 1) := by decide +kernel
theorem dX7_hasOnLeft_152 : decode cX7_hasOnLeft 152 = .ok (.lcmp, 1) := by decide +kernel
theorem dX7_hasOnLeft_153 : decode cX7_hasOnLeft 153 = .ok (.ifCond .le 19, 3) := by decide +kernel
theorem dX7_hasOnLeft_156 : decode cX7_hasOnLeft 156 = .ok (.iload 20, 2) := by decide +kernel
theorem dX7_hasOnLeft_158 : decode cX7_hasOnLeft 158 = .ok (.ifCond .eq 12, 3) := by decide +kernel
theorem dX7_hasOnLeft_161 : decode cX7_hasOnLeft 161 = .ok (.iload 21, 2) := by decide +kernel
theorem dX7_hasOnLeft_163 : decode cX7_hasOnLeft 163 = .ok (.ifCond .eq 7, 3) := by decide +kernel
theorem dX7_hasOnLeft_166 : decode cX7_hasOnLeft 166 = .ok (.iconst 1, 1) := by decide +kernel
theorem dX7_hasOnLeft_167 : decode cX7_hasOnLeft 167 = .ok (.goto 4, 3) := by decide +kernel
theorem dX7_hasOnLeft_170 : decode cX7_hasOnLeft 170 = .ok (.iconst 0, 1) := by decide +kernel
theorem dX7_hasOnLeft_171 : decode cX7_hasOnLeft 171 = .ok (.ireturn, 1) := by decide +kernel
theorem dX7_hasOnLeft_172 : decode cX7_hasOnLeft 172 = .ok (.lload 18, 2) := by decide +kernel
theorem dX7_hasOnLeft_174 : decode cX7_hasOnLeft 174 = .ok (.lconst 0, 1) := by decide +kernel
theorem dX7_hasOnLeft_175 : decode cX7_hasOnLeft 175 = .ok (.lcmp, 1) := by decide +kernel
theorem dX7_hasOnLeft_176 : decode cX7_hasOnLeft 176 = .ok (.ifCond .ge 19, 3) := by decide +kernel
theorem dX7_hasOnLeft_179 : decode cX7_hasOnLeft 179 = .ok (.iload 20, 2) := by decide +kernel
theorem dX7_hasOnLeft_181 : decode cX7_hasOnLeft 181 = .ok (.ifCond .ne 8, 3) := by decide +kernel
theorem dX7_hasOnLeft_184 : decode cX7_hasOnLeft 184 = .ok (.iload 21, 2) := by decide +kernel
theorem dX7_hasOnLeft_186 : decode cX7_hasOnLeft 186 = .ok (.ifCond .eq 7, 3) := by decide +kernel
theorem dX7_hasOnLeft_189 : decode cX7_hasOnLeft 189 = .ok (.iconst 1, 1) := by decide +kernel
theorem dX7_hasOnLeft_190 : decode cX7_hasOnLeft 190 = .ok (.goto 4, 3) := by decide +kernel
theorem dX7_hasOnLeft_193 : decode cX7_hasOnLeft 193 = .ok (.iconst 0, 1) := by decide +kernel
theorem dX7_hasOnLeft_194 : decode cX7_hasOnLeft 194 = .ok (.ireturn, 1) := by decide +kernel
theorem dX7_hasOnLeft_195 : decode cX7_hasOnLeft 195 = .ok (.lload 6, 2) := by decide +kernel
theorem dX7_hasOnLeft_197 : decode cX7_hasOnLeft 197 = .ok (.lload 10, 2) := by decide +kernel
theorem dX7_hasOnLeft_199 : decode cX7_hasOnLeft 199 = .ok (.lmul, 1) := by decide +kernel
theorem dX7_hasOnLeft_200 : decode cX7_hasOnLeft 200 = .ok (.lload 8, 2) := by decide +kernel
theorem dX7_hasOnLeft_202 : decode cX7_hasOnLeft 202 = .ok (.lload 12, 2) := by decide +kernel
theorem dX7_hasOnLeft_204 : decode cX7_hasOnLeft 204 = .ok (.lmul, 1) := by decide +kernel
theorem dX7_hasOnLeft_205 : decode cX7_hasOnLeft 205 = .ok (.ladd, 1) := by decide +kernel
theorem dX7_hasOnLeft_206 : decode cX7_hasOnLeft 206 = .ok (.lconst 0, 1) := by decide +kernel
theorem dX7_hasOnLeft_207 : decode cX7_hasOnLeft 207 = .ok (.lcmp, 1) := by decide +kernel
theorem dX7_hasOnLeft_208 : decode cX7_hasOnLeft 208 = .ok (.ifCond .ge 7, 3) := by decide +kernel
theorem dX7_hasOnLeft_211 : decode cX7_hasOnLeft 211 = .ok (.iconst 1, 1) := by decide +kernel
theorem dX7_hasOnLeft_212 : decode cX7_hasOnLeft 212 = .ok (.goto 4, 3) := by decide +kernel
theorem dX7_hasOnLeft_215 : decode cX7_hasOnLeft 215 = .ok (.iconst 0, 1) := by decide +kernel
theorem dX7_hasOnLeft_216 : decode cX7_hasOnLeft 216 = .ok (.istore 22, 2) := by decide +kernel
theorem dX7_hasOnLeft_218 : decode cX7_hasOnLeft 218 = .ok (.iload 22, 2) := by decide +kernel
theorem dX7_hasOnLeft_220 : decode cX7_hasOnLeft 220 = .ok (.ifCond .eq 12, 3) := by decide +kernel
theorem dX7_hasOnLeft_223 : decode cX7_hasOnLeft 223 = .ok (.iload 20, 2) := by decide +kernel
theorem dX7_hasOnLeft_225 : decode cX7_hasOnLeft 225 = .ok (.ifCond .eq 7, 3) := by decide +kernel
theorem dX7_hasOnLeft_228 : decode cX7_hasOnLeft 228 = .ok (.iconst 1, 1) := by decide +kernel
theorem dX7_hasOnLeft_229 : decode cX7_hasOnLeft 229 = .ok (.goto 4, 3) := by decide +kernel
theorem dX7_hasOnLeft_232 : decode cX7_hasOnLeft 232 = .ok (.iconst 0, 1) := by decide +kernel
theorem dX7_hasOnLeft_233 : decode cX7_hasOnLeft 233 = .ok (.ireturn, 1) := by decide +kernel
theorem dX8_init_0 : decode cX8_init 0 = .ok (.aload_n 0, 1) := by decide +kernel
theorem dX8_init_1 : decode cX8_init 1 = .ok (.invokespecial 3, 3) := by decide +kernel
theorem dX8_init_4 : decode cX8_init 4 = .ok (.aload_n 0, 1) := by decide +kernel
theorem dX8_init_5 : decode cX8_init 5 = .ok (.new 9, 3) := by decide +kernel
theorem dX8_init_8 : decode cX8_init 8 = .ok (.dup, 1) := by decide +kernel
theorem dX8_init_9 : decode cX8_init 9 = .ok (.invokespecial 11, 3) := by decide +kernel
theorem dX8_init_12 : decode cX8_init 12 = .ok (.putfield 12, 3) := by decide +kernel
theorem dX8_init_15 : decode cX8_init 15 = .ok (.aload_n 0, 1) := by decide +kernel
theorem dX8_init_16 : decode cX8_init 16 = .ok (.new 9, 3) := by decide +kernel
theorem dX8_init_19 : decode cX8_init 19 = .ok (.dup, 1) := by decide +kernel
theorem dX8_init_20 : decode cX8_init 20 = .ok (.invokespecial 11, 3) := by decide +kernel
theorem dX8_init_23 : decode cX8_init 23 = .ok (.putfield 18, 3) := by decide +kernel
theorem dX8_init_26 : decode cX8_init 26 = .ok (.aload_n 0, 1) := by decide +kernel
theorem dX8_init_27 : decode cX8_init 27 = .ok (.new 9, 3) := by decide +kernel
theorem dX8_init_30 : decode cX8_init 30 = .ok (.dup, 1) := by decide +kernel
theorem dX8_init_31 : decode cX8_init 31 = .ok (.invokespecial 11, 3) := by decide +kernel
theorem dX8_init_34 : decode cX8_init 34 = .ok (.putfield 21, 3) := by decide +kernel
theorem dX8_init_37 : decode cX8_init 37 = .ok (.aload_n 0, 1) := by decide +kernel
theorem dX8_init_38 : decode cX8_init 38 = .ok (.new 9, 3) := by decide +kernel
theorem dX8_init_41 : decode cX8_init 41 = .ok (.dup, 1) := by decide +kernel
theorem dX8_init_42 : decode cX8_init 42 = .ok (.invokespecial 11, 3) := by decide +kernel
theorem dX8_init_45 : decode cX8_init 45 = .ok (.putfield 24, 3) := by decide +kernel
theorem dX8_init_48 : decode cX8_init 48 = .ok (.aload_n 0, 1) := by decide +kernel
theorem dX8_init_49 : decode cX8_init 49 = .ok (.new 9, 3) := by decide +kernel
theorem dX8_init_52 : decode cX8_init 52 = .ok (.dup, 1) := by decide +kernel
theorem dX8_init_53 : decode cX8_init 53 = .ok (.invokespecial 11, 3) := by decide +kernel
theorem dX8_init_56 : decode cX8_init 56 = .ok (.putfield 27, 3) := by decide +kernel
theorem dX8_init_59 : decode cX8_init 59 = .ok (.aload_n 0, 1) := by decide +kernel
theorem dX8_init_60 : decode cX8_init 60 = .ok (.new 9, 3) := by decide +kernel
theorem dX8_init_63 : decode cX8_init 63 = .ok (.dup, 1) := by decide +kernel
theorem dX8_init_64 : decode cX8_init 64 = .ok (.invokespecial 11, 3) := by decide +kernel
theorem dX8_init_67 : decode cX8_init 67 = .ok (.putfield 30, 3) := by decide +kernel
theorem dX8_init_70 : decode cX8_init 70 = .ok (.aload_n 0, 1) := by decide +kernel
theorem dX8_init_71 : decode cX8_init 71 = .ok (.new 9, 3) := by decide +kernel
theorem dX8_init_74 : decode cX8_init 74 = .ok (.dup, 1) := by decide +kernel
theorem dX8_init_75 : decode cX8_init 75 = .ok (.invokespecial 11, 3) := by decide +kernel
theorem dX8_init_78 : decode cX8_init 78 = .ok (.putfield 33, 3) := by decide +kernel
theorem dX8_init_81 : decode cX8_init 81 = .ok (.return_, 1) := by decide +kernel
theorem dX8_forget_0 : decode cX8_forget 0 = .ok (.aload_n 0, 1) := by decide +kernel
theorem dX8_forget_1 : decode cX8_forget 1 = .ok (.getfield 12, 3) := by decide +kernel
theorem dX8_forget_4 : decode cX8_forget 4 = .ok (.invokevirtual 36, 3) := by decide +kernel
theorem dX8_forget_7 : decode cX8_forget 7 = .ok (.aload_n 0, 1) := by decide +kernel
theorem dX8_forget_8 : decode cX8_forget 8 = .ok (.getfield 18, 3) := by decide +kernel
theorem dX8_forget_11 : decode cX8_forget 11 = .ok (.invokevirtual 36, 3) := by decide +kernel
theorem dX8_forget_14 : decode cX8_forget 14 = .ok (.aload_n 0, 1) := by decide +kernel
theorem dX8_forget_15 : decode cX8_forget 15 = .ok (.getfield 21, 3) := by decide +kernel
theorem dX8_forget_18 : decode cX8_forget 18 = .ok (.invokevirtual 36, 3) := by decide +kernel
theorem dX8_forget_21 : decode cX8_forget 21 = .ok (.aload_n 0, 1) := by decide +kernel
theorem dX8_forget_22 : decode cX8_forget 22 = .ok (.getfield 24, 3) := by decide +kernel
theorem dX8_forget_25 : decode cX8_forget 25 = .ok (.invokevirtual 36, 3) := by decide +kernel
theorem dX8_forget_28 : decode cX8_forget 28 = .ok (.aload_n 0, 1) := by decide +kernel
theorem dX8_forget_29 : decode cX8_forget 29 = .ok (.getfield 27, 3) := by decide +kernel
theorem dX8_forget_32 : decode cX8_forget 32 = .ok (.invokevirtual 36, 3) := by decide +kernel
theorem dX8_forget_35 : decode cX8_forget 35 = .ok (.aload_n 0, 1) := by decide +kernel
theorem dX8_forget_36 : decode cX8_forget 36 = .ok (.getfield 30, 3) := by decide +kernel
theorem dX8_forget_39 : decode cX8_forget 39 = .ok (.invokevirtual 36, 3) := by decide +kernel
theorem dX8_forget_42 : decode cX8_forget 42 = .ok (.aload_n 0, 1) := by decide +kernel
theorem dX8_forget_43 : decode cX8_forget 43 = .ok (.getfield 33, 3) := by decide +kernel
theorem dX8_forget_46 : decode cX8_forget 46 = .ok (.invokevirtual 36, 3) := by decide +kernel
theorem dX8_forget_49 : decode cX8_forget 49 = .ok (.aload_n 0, 1) := by decide +kernel
theorem dX8_forget_50 : decode cX8_forget 50 = .ok (.iconst 0, 1) := by decide +kernel
theorem dX8_forget_51 : decode cX8_forget 51 = .ok (.putfield 39, 3) := by decide +kernel
theorem dX8_forget_54 : decode cX8_forget 54 = .ok (.return_, 1) := by decide +kernel
theorem dX8_numbers_0 : decode cX8_numbers 0 = .ok (.iconst 2, 1) := by decide +kernel
theorem dX8_numbers_1 : decode cX8_numbers 1 = .ok (.aload_n 0, 1) := by decide +kernel
theorem dX8_numbers_2 : decode cX8_numbers 2 = .ok (.getfield 12, 3) := by decide +kernel
theorem dX8_numbers_5 : decode cX8_numbers 5 = .ok (.invokevirtual 43, 3) := by decide +kernel
theorem dX8_numbers_8 : decode cX8_numbers 8 = .ok (.imul, 1) := by decide +kernel
theorem dX8_numbers_9 : decode cX8_numbers 9 = .ok (.iconst 1, 1) := by decide +kernel
theorem dX8_numbers_10 : decode cX8_numbers 10 = .ok (.aload_n 0, 1) := by decide +kernel
theorem dX8_numbers_11 : decode cX8_numbers 11 = .ok (.getfield 39, 3) := by decide +kernel
theorem dX8_numbers_14 : decode cX8_numbers 14 = .ok (.imul, 1) := by decide +kernel
theorem dX8_numbers_15 : decode cX8_numbers 15 = .ok (.iadd, 1) := by decide +kernel
theorem dX8_numbers_16 : decode cX8_numbers 16 = .ok (.ireturn, 1) := by decide +kernel
theorem dX8_count_0 : decode cX8_count 0 = .ok (.aload_n 0, 1) := by decide +kernel
theorem dX8_count_1 : decode cX8_count 1 = .ok (.getfield 12, 3) := by decide +kernel
theorem dX8_count_4 : decode cX8_count 4 = .ok (.invokevirtual 43, 3) := by decide +kernel
theorem dX8_count_7 : decode cX8_count 7 = .ok (.ireturn, 1) := by decide +kernel
theorem dX8_kind_0 : decode cX8_kind 0 = .ok (.aload_n 0, 1) := by decide +kernel
theorem dX8_kind_1 : decode cX8_kind 1 = .ok (.getfield 12, 3) := by decide +kernel
theorem dX8_kind_4 : decode cX8_kind 4 = .ok (.iload_n 1, 1) := by decide +kernel
theorem dX8_kind_5 : decode cX8_kind 5 = .ok (.invokevirtual 47, 3) := by decide +kernel
theorem dX8_kind_8 : decode cX8_kind 8 = .ok (.ireturn, 1) := by decide +kernel
theorem dX8_pointCount_0 : decode cX8_pointCount 0 = .ok (.aload_n 0, 1) := by decide +kernel
theorem dX8_pointCount_1 : decode cX8_pointCount 1 = .ok (.getfield 27, 3) := by decide +kernel
theorem dX8_pointCount_4 : decode cX8_pointCount 4 = .ok (.invokevirtual 43, 3) := by decide +kernel
theorem dX8_pointCount_7 : decode cX8_pointCount 7 = .ok (.ireturn, 1) := by decide +kernel
theorem dX8_openCount_0 : decode cX8_openCount 0 = .ok (.aload_n 0, 1) := by decide +kernel
theorem dX8_openCount_1 : decode cX8_openCount 1 = .ok (.getfield 33, 3) := by decide +kernel
theorem dX8_openCount_4 : decode cX8_openCount 4 = .ok (.invokevirtual 43, 3) := by decide +kernel
theorem dX8_openCount_7 : decode cX8_openCount 7 = .ok (.ireturn, 1) := by decide +kernel
theorem dX8_openKind_0 : decode cX8_openKind 0 = .ok (.aload_n 0, 1) := by decide +kernel
theorem dX8_openKind_1 : decode cX8_openKind 1 = .ok (.getfield 33, 3) := by decide +kernel
theorem dX8_openKind_4 : decode cX8_openKind 4 = .ok (.invokevirtual 43, 3) := by decide +kernel
theorem dX8_openKind_7 : decode cX8_openKind 7 = .ok (.ifCond .le 20, 3) := by decide +kernel
theorem dX8_openKind_10 : decode cX8_openKind 10 = .ok (.aload_n 0, 1) := by decide +kernel
theorem dX8_openKind_11 : decode cX8_openKind 11 = .ok (.getfield 12, 3) := by decide +kernel
theorem dX8_openKind_14 : decode cX8_openKind 14 = .ok (.aload_n 0, 1) := by decide +kernel
theorem dX8_openKind_15 : decode cX8_openKind 15 = .ok (.getfield 33, 3) := by decide +kernel
theorem dX8_openKind_18 : decode cX8_openKind 18 = .ok (.invokevirtual 51, 3) := by decide +kernel
theorem dX8_openKind_21 : decode cX8_openKind 21 = .ok (.invokevirtual 47, 3) := by decide +kernel
theorem dX8_openKind_24 : decode cX8_openKind 24 = .ok (.goto 4, 3) := by decide +kernel
theorem dX8_openKind_27 : decode cX8_openKind 27 = .ok (.iconst 0, 1) := by decide +kernel
theorem dX8_openKind_28 : decode cX8_openKind 28 = .ok (.ireturn, 1) := by decide +kernel
theorem dX8_isWhole_0 : decode cX8_isWhole 0 = .ok (.aload_n 0, 1) := by decide +kernel
theorem dX8_isWhole_1 : decode cX8_isWhole 1 = .ok (.getfield 12, 3) := by decide +kernel
theorem dX8_isWhole_4 : decode cX8_isWhole 4 = .ok (.invokevirtual 43, 3) := by decide +kernel
theorem dX8_isWhole_7 : decode cX8_isWhole 7 = .ok (.ifCond .le 17, 3) := by decide +kernel
theorem dX8_isWhole_10 : decode cX8_isWhole 10 = .ok (.aload_n 0, 1) := by decide +kernel
theorem dX8_isWhole_11 : decode cX8_isWhole 11 = .ok (.getfield 33, 3) := by decide +kernel
theorem dX8_isWhole_14 : decode cX8_isWhole 14 = .ok (.invokevirtual 43, 3) := by decide +kernel
theorem dX8_isWhole_17 : decode cX8_isWhole 17 = .ok (.ifCond .ne 7, 3) := by decide +kernel
theorem dX8_isWhole_20 : decode cX8_isWhole 20 = .ok (.iconst 1, 1) := by decide +kernel
theorem dX8_isWhole_21 : decode cX8_isWhole 21 = .ok (.goto 4, 3) := by decide +kernel
theorem dX8_isWhole_24 : decode cX8_isWhole 24 = .ok (.iconst 0, 1) := by decide +kernel
theorem dX8_isWhole_25 : decode cX8_isWhole 25 = .ok (.ireturn, 1) := by decide +kernel
theorem dX8_canTake_0 : decode cX8_canTake 0 = .ok (.aload_n 0, 1) := by decide +kernel
theorem dX8_canTake_1 : decode cX8_canTake 1 = .ok (.getfield 12, 3) := by decide +kernel
theorem dX8_canTake_4 : decode cX8_canTake 4 = .ok (.invokevirtual 43, 3) := by decide +kernel
theorem dX8_canTake_7 : decode cX8_canTake 7 = .ok (.ifCond .ne 5, 3) := by decide +kernel
theorem dX8_canTake_10 : decode cX8_canTake 10 = .ok (.iconst 1, 1) := by decide +kernel
theorem dX8_canTake_11 : decode cX8_canTake 11 = .ok (.ireturn, 1) := by decide +kernel
theorem dX8_canTake_12 : decode cX8_canTake 12 = .ok (.aload_n 0, 1) := by decide +kernel
theorem dX8_canTake_13 : decode cX8_canTake 13 = .ok (.getfield 33, 3) := by decide +kernel
theorem dX8_canTake_16 : decode cX8_canTake 16 = .ok (.invokevirtual 43, 3) := by decide +kernel
theorem dX8_canTake_19 : decode cX8_canTake 19 = .ok (.bipush 50, 2) := by decide +kernel
theorem dX8_canTake_21 : decode cX8_canTake 21 = .ok (.if_icmp .lt 5, 3) := by decide +kernel
theorem dX8_canTake_24 : decode cX8_canTake 24 = .ok (.iconst 0, 1) := by decide +kernel
theorem dX8_canTake_25 : decode cX8_canTake 25 = .ok (.ireturn, 1) := by decide +kernel
theorem dX8_canTake_26 : decode cX8_canTake 26 = .ok (.aload_n 0, 1) := by decide +kernel
theorem dX8_canTake_27 : decode cX8_canTake 27 = .ok (.invokevirtual 54, 3) := by decide +kernel
theorem dX8_canTake_30 : decode cX8_canTake 30 = .ok (.istore_n 2, 1) := by decide +kernel
theorem dX8_canTake_31 : decode cX8_canTake 31 = .ok (.iload_n 2, 1) := by decide +kernel
theorem dX8_canTake_32 : decode cX8_canTake 32 = .ok (.bipush 7, 2) := by decide +kernel
theorem dX8_canTake_34 : decode cX8_canTake 34 = .ok (.if_icmp .ne 5, 3) := by decide +kernel
theorem dX8_canTake_37 : decode cX8_canTake 37 = .ok (.iconst 1, 1) := by decide +kernel
theorem dX8_canTake_38 : decode cX8_canTake 38 = .ok (.ireturn, 1) := by decide +kernel
theorem dX8_canTake_39 : decode cX8_canTake 39 = .ok (.iload_n 2, 1) := by decide +kernel
theorem dX8_canTake_40 : decode cX8_canTake 40 = .ok (.iconst 4, 1) := by decide +kernel
theorem dX8_canTake_41 : decode cX8_canTake 41 = .ok (.if_icmp .lt 16, 3) := by decide +kernel
theorem dX8_canTake_44 : decode cX8_canTake 44 = .ok (.iload_n 1, 1) := by decide +kernel
theorem dX8_canTake_45 : decode cX8_canTake 45 = .ok (.iconst 1, 1) := by decide +kernel
theorem dX8_canTake_46 : decode cX8_canTake 46 = .ok (.isub, 1) := by decide +kernel
theorem dX8_canTake_47 : decode cX8_canTake 47 = .ok (.iload_n 2, 1) := by decide +kernel
theorem dX8_canTake_48 : decode cX8_canTake 48 = .ok (.iconst 4, 1) := by decide +kernel
theorem dX8_canTake_49 : decode cX8_canTake 49 = .ok (.isub, 1) := by decide +kernel
theorem dX8_canTake_50 : decode cX8_canTake 50 = .ok (.if_icmp .ne 7, 3) := by decide +kernel
theorem dX8_canTake_53 : decode cX8_canTake 53 = .ok (.iconst 1, 1) := by decide +kernel
theorem dX8_canTake_54 : decode cX8_canTake 54 = .ok (.goto 4, 3) := by decide +kernel
theorem dX8_canTake_57 : decode cX8_canTake 57 = .ok (.iconst 0, 1) := by decide +kernel
theorem dX8_canTake_58 : decode cX8_canTake 58 = .ok (.ireturn, 1) := by decide +kernel
theorem dX8_canTakePoint_0 : decode cX8_canTakePoint 0 = .ok (.aload_n 0, 1) := by decide +kernel
theorem dX8_canTakePoint_1 : decode cX8_canTakePoint 1 = .ok (.invokevirtual 54, 3) := by decide +kernel
theorem dX8_canTakePoint_4 : decode cX8_canTakePoint 4 = .ok (.istore_n 1, 1) := by decide +kernel
theorem dX8_canTakePoint_5 : decode cX8_canTakePoint 5 = .ok (.iload_n 1, 1) := by decide +kernel
theorem dX8_canTakePoint_6 : decode cX8_canTakePoint 6 = .ok (.iconst 1, 1) := by decide +kernel
theorem dX8_canTakePoint_7 : decode cX8_canTakePoint 7 = .ok (.if_icmp .ne 26, 3) := by decide +kernel
theorem dX8_canTakePoint_10 : decode cX8_canTakePoint 10 = .ok (.aload_n 0, 1) := by decide +kernel
theorem dX8_canTakePoint_11 : decode cX8_canTakePoint 11 = .ok (.getfield 24, 3) := by decide +kernel
theorem dX8_canTakePoint_14 : decode cX8_canTakePoint 14 = .ok (.invokevirtual 51, 3) := by decide +kernel
theorem dX8_canTakePoint_17 : decode cX8_canTakePoint 17 = .ok (.aload_n 0, 1) := by decide +kernel
theorem dX8_canTakePoint_18 : decode cX8_canTakePoint 18 = .ok (.getfield 27, 3) := by decide +kernel
theorem dX8_canTakePoint_21 : decode cX8_canTakePoint 21 = .ok (.invokevirtual 43, 3) := by decide +kernel
theorem dX8_canTakePoint_24 : decode cX8_canTakePoint 24 = .ok (.if_icmp .ne 7, 3) := by decide +kernel
theorem dX8_canTakePoint_27 : decode cX8_canTakePoint 27 = .ok (.iconst 1, 1) := by decide +kernel
theorem dX8_canTakePoint_28 : decode cX8_canTakePoint 28 = .ok (.goto 4, 3) := by decide +kernel
theorem dX8_canTakePoint_31 : decode cX8_canTakePoint 31 = .ok (.iconst 0, 1) := by decide +kernel
theorem dX8_canTakePoint_32 : decode cX8_canTakePoint 32 = .ok (.ireturn, 1) := by decide +kernel
theorem dX8_canTakePoint_33 : decode cX8_canTakePoint 33 = .ok (.iload_n 1, 1) := by decide +kernel
theorem dX8_canTakePoint_34 : decode cX8_canTakePoint 34 = .ok (.iconst 3, 1) := by decide +kernel
theorem dX8_canTakePoint_35 : decode cX8_canTakePoint 35 = .ok (.if_icmp .ne 33, 3) := by decide +kernel
theorem dX8_canTakePoint_38 : decode cX8_canTakePoint 38 = .ok (.aload_n 0, 1) := by decide +kernel
theorem dX8_canTakePoint_39 : decode cX8_canTakePoint 39 = .ok (.getfield 21, 3) := by decide +kernel
theorem dX8_canTakePoint_42 : decode cX8_canTakePoint 42 = .ok (.aload_n 0, 1) := by decide +kernel
theorem dX8_canTakePoint_43 : decode cX8_canTakePoint 43 = .ok (.getfield 33, 3) := by decide +kernel
theorem dX8_canTakePoint_46 : decode cX8_canTakePoint 46 = .ok (.invokevirtual 51, 3) := by decide +kernel
theorem dX8_canTakePoint_49 : decode cX8_canTakePoint 49 = .ok (.invokevirtual 47, 3) := by decide +kernel
theorem dX8_canTakePoint_52 : decode cX8_canTakePoint 52 = .ok (.aload_n 0, 1) := by decide +kernel
theorem dX8_canTakePoint_53 : decode cX8_canTakePoint 53 = .ok (.getfield 24, 3) := by decide +kernel
theorem dX8_canTakePoint_56 : decode cX8_canTakePoint 56 = .ok (.invokevirtual 43, 3) := by decide +kernel
theorem dX8_canTakePoint_59 : decode cX8_canTakePoint 59 = .ok (.if_icmp .ge 7, 3) := by decide +kernel
theorem dX8_canTakePoint_62 : decode cX8_canTakePoint 62 = .ok (.iconst 1, 1) := by decide +kernel
theorem dX8_canTakePoint_63 : decode cX8_canTakePoint 63 = .ok (.goto 4, 3) := by decide +kernel
theorem dX8_canTakePoint_66 : decode cX8_canTakePoint 66 = .ok (.iconst 0, 1) := by decide +kernel
theorem dX8_canTakePoint_67 : decode cX8_canTakePoint 67 = .ok (.ireturn, 1) := by decide +kernel
theorem dX8_canTakePoint_68 : decode cX8_canTakePoint 68 = .ok (.iload_n 1, 1) := by decide +kernel
theorem dX8_canTakePoint_69 : decode cX8_canTakePoint 69 = .ok (.iconst 2, 1) := by decide +kernel
theorem dX8_canTakePoint_70 : decode cX8_canTakePoint 70 = .ok (.if_icmp .ne 7, 3) := by decide +kernel
theorem dX8_canTakePoint_73 : decode cX8_canTakePoint 73 = .ok (.iconst 1, 1) := by decide +kernel
theorem dX8_canTakePoint_74 : decode cX8_canTakePoint 74 = .ok (.goto 4, 3) := by decide +kernel
theorem dX8_canTakePoint_77 : decode cX8_canTakePoint 77 = .ok (.iconst 0, 1) := by decide +kernel
theorem dX8_canTakePoint_78 : decode cX8_canTakePoint 78 = .ok (.ireturn, 1) := by decide +kernel
theorem dX8_begin_0 : decode cX8_begin 0 = .ok (.aload_n 0, 1) := by decide +kernel
theorem dX8_begin_1 : decode cX8_begin 1 = .ok (.getfield 18, 3) := by decide +kernel
theorem dX8_begin_4 : decode cX8_begin 4 = .ok (.aload_n 0, 1) := by decide +kernel
theorem dX8_begin_5 : decode cX8_begin 5 = .ok (.getfield 33, 3) := by decide +kernel
theorem dX8_begin_8 : decode cX8_begin 8 = .ok (.invokevirtual 43, 3) := by decide +kernel
theorem dX8_begin_11 : decode cX8_begin 11 = .ok (.ifCond .le 13, 3) := by decide +kernel
theorem dX8_begin_14 : decode cX8_begin 14 = .ok (.aload_n 0, 1) := by decide +kernel
theorem dX8_begin_15 : decode cX8_begin 15 = .ok (.getfield 33, 3) := by decide +kernel
theorem dX8_begin_18 : decode cX8_begin 18 = .ok (.invokevirtual 51, 3) := by decide +kernel
theorem dX8_begin_21 : decode cX8_begin 21 = .ok (.goto 4, 3) := by decide +kernel
theorem dX8_begin_24 : decode cX8_begin 24 = .ok (.iconst (-1), 1) := by decide +kernel
theorem dX8_begin_25 : decode cX8_begin 25 = .ok (.invokevirtual 57, 3) := by decide +kernel
theorem dX8_begin_28 : decode cX8_begin 28 = .ok (.aload_n 0, 1) := by decide +kernel
theorem dX8_begin_29 : decode cX8_begin 29 = .ok (.getfield 33, 3) := by decide +kernel
theorem dX8_begin_32 : decode cX8_begin 32 = .ok (.aload_n 0, 1) := by decide +kernel
theorem dX8_begin_33 : decode cX8_begin 33 = .ok (.getfield 12, 3) := by decide +kernel
theorem dX8_begin_36 : decode cX8_begin 36 = .ok (.invokevirtual 43, 3) := by decide +kernel
theorem dX8_begin_39 : decode cX8_begin 39 = .ok (.invokevirtual 57, 3) := by decide +kernel
theorem dX8_begin_42 : decode cX8_begin 42 = .ok (.aload_n 0, 1) := by decide +kernel
theorem dX8_begin_43 : decode cX8_begin 43 = .ok (.getfield 12, 3) := by decide +kernel
theorem dX8_begin_46 : decode cX8_begin 46 = .ok (.iload_n 1, 1) := by decide +kernel
theorem dX8_begin_47 : decode cX8_begin 47 = .ok (.invokevirtual 57, 3) := by decide +kernel
theorem dX8_begin_50 : decode cX8_begin 50 = .ok (.aload_n 0, 1) := by decide +kernel
theorem dX8_begin_51 : decode cX8_begin 51 = .ok (.getfield 21, 3) := by decide +kernel
theorem dX8_begin_54 : decode cX8_begin 54 = .ok (.aload_n 0, 1) := by decide +kernel
theorem dX8_begin_55 : decode cX8_begin 55 = .ok (.getfield 24, 3) := by decide +kernel
theorem dX8_begin_58 : decode cX8_begin 58 = .ok (.invokevirtual 43, 3) := by decide +kernel
theorem dX8_begin_61 : decode cX8_begin 61 = .ok (.invokevirtual 57, 3) := by decide +kernel
theorem dX8_begin_64 : decode cX8_begin 64 = .ok (.iload_n 1, 1) := by decide +kernel
theorem dX8_begin_65 : decode cX8_begin 65 = .ok (.iconst 1, 1) := by decide +kernel
theorem dX8_begin_66 : decode cX8_begin 66 = .ok (.if_icmp .eq 8, 3) := by decide +kernel
theorem dX8_begin_69 : decode cX8_begin 69 = .ok (.iload_n 1, 1) := by decide +kernel
theorem dX8_begin_70 : decode cX8_begin 70 = .ok (.iconst 2, 1) := by decide +kernel
theorem dX8_begin_71 : decode cX8_begin 71 = .ok (.if_icmp .ne 17, 3) := by decide +kernel
theorem dX8_begin_74 : decode cX8_begin 74 = .ok (.aload_n 0, 1) := by decide +kernel
theorem dX8_begin_75 : decode cX8_begin 75 = .ok (.getfield 24, 3) := by decide +kernel
theorem dX8_begin_78 : decode cX8_begin 78 = .ok (.aload_n 0, 1) := by decide +kernel
theorem dX8_begin_79 : decode cX8_begin 79 = .ok (.getfield 27, 3) := by decide +kernel
theorem dX8_begin_82 : decode cX8_begin 82 = .ok (.invokevirtual 43, 3) := by decide +kernel
theorem dX8_begin_85 : decode cX8_begin 85 = .ok (.invokevirtual 57, 3) := by decide +kernel
theorem dX8_begin_88 : decode cX8_begin 88 = .ok (.aload_n 0, 1) := by decide +kernel
theorem dX8_begin_89 : decode cX8_begin 89 = .ok (.getfield 33, 3) := by decide +kernel
theorem dX8_begin_92 : decode cX8_begin 92 = .ok (.invokevirtual 43, 3) := by decide +kernel
theorem dX8_begin_95 : decode cX8_begin 95 = .ok (.ireturn, 1) := by decide +kernel
theorem dX8_beginRing_0 : decode cX8_beginRing 0 = .ok (.aload_n 0, 1) := by decide +kernel
theorem dX8_beginRing_1 : decode cX8_beginRing 1 = .ok (.dup, 1) := by decide +kernel
theorem dX8_beginRing_2 : decode cX8_beginRing 2 = .ok (.getfield 39, 3) := by decide +kernel
theorem dX8_beginRing_5 : decode cX8_beginRing 5 = .ok (.iconst 1, 1) := by decide +kernel
theorem dX8_beginRing_6 : decode cX8_beginRing 6 = .ok (.iadd, 1) := by decide +kernel
theorem dX8_beginRing_7 : decode cX8_beginRing 7 = .ok (.putfield 39, 3) := by decide +kernel
theorem dX8_beginRing_10 : decode cX8_beginRing 10 = .ok (.aload_n 0, 1) := by decide +kernel
theorem dX8_beginRing_11 : decode cX8_beginRing 11 = .ok (.getfield 24, 3) := by decide +kernel
theorem dX8_beginRing_14 : decode cX8_beginRing 14 = .ok (.aload_n 0, 1) := by decide +kernel
theorem dX8_beginRing_15 : decode cX8_beginRing 15 = .ok (.getfield 27, 3) := by decide +kernel
theorem dX8_beginRing_18 : decode cX8_beginRing 18 = .ok (.invokevirtual 43, 3) := by decide +kernel
theorem dX8_beginRing_21 : decode cX8_beginRing 21 = .ok (.invokevirtual 57, 3) := by decide +kernel
theorem dX8_beginRing_24 : decode cX8_beginRing 24 = .ok (.return_, 1) := by decide +kernel
theorem dX8_addPoint_0 : decode cX8_addPoint 0 = .ok (.aload_n 0, 1) := by decide +kernel
theorem dX8_addPoint_1 : decode cX8_addPoint 1 = .ok (.getfield 27, 3) := by decide +kernel
theorem dX8_addPoint_4 : decode cX8_addPoint 4 = .ok (.iload_n 1, 1) := by decide +kernel
theorem dX8_addPoint_5 : decode cX8_addPoint 5 = .ok (.invokevirtual 57, 3) := by decide +kernel
theorem dX8_addPoint_8 : decode cX8_addPoint 8 = .ok (.aload_n 0, 1) := by decide +kernel
theorem dX8_addPoint_9 : decode cX8_addPoint 9 = .ok (.getfield 30, 3) := by decide +kernel
theorem dX8_addPoint_12 : decode cX8_addPoint 12 = .ok (.iload_n 2, 1) := by decide +kernel
theorem dX8_addPoint_13 : decode cX8_addPoint 13 = .ok (.invokevirtual 57, 3) := by decide +kernel
theorem dX8_addPoint_16 : decode cX8_addPoint 16 = .ok (.aload_n 0, 1) := by decide +kernel
theorem dX8_addPoint_17 : decode cX8_addPoint 17 = .ok (.getfield 27, 3) := by decide +kernel
theorem dX8_addPoint_20 : decode cX8_addPoint 20 = .ok (.invokevirtual 43, 3) := by decide +kernel
theorem dX8_addPoint_23 : decode cX8_addPoint 23 = .ok (.ireturn, 1) := by decide +kernel
theorem dX8_finish_0 : decode cX8_finish 0 = .ok (.aload_n 0, 1) := by decide +kernel
theorem dX8_finish_1 : decode cX8_finish 1 = .ok (.getfield 33, 3) := by decide +kernel
theorem dX8_finish_4 : decode cX8_finish 4 = .ok (.invokevirtual 61, 3) := by decide +kernel
theorem dX8_finish_7 : decode cX8_finish 7 = .ok (.aload_n 0, 1) := by decide +kernel
theorem dX8_finish_8 : decode cX8_finish 8 = .ok (.getfield 33, 3) := by decide +kernel
theorem dX8_finish_11 : decode cX8_finish 11 = .ok (.invokevirtual 43, 3) := by decide +kernel
theorem dX8_finish_14 : decode cX8_finish 14 = .ok (.ireturn, 1) := by decide +kernel
theorem dX8_differentInLine_0 : decode cX8_differentInLine 0 = .ok (.aload_n 0, 1) := by decide +kernel
theorem dX8_differentInLine_1 : decode cX8_differentInLine 1 = .ok (.aload_n 0, 1) := by decide +kernel
theorem dX8_differentInLine_2 : decode cX8_differentInLine 2 = .ok (.getfield 21, 3) := by decide +kernel
theorem dX8_differentInLine_5 : decode cX8_differentInLine 5 = .ok (.iload_n 1, 1) := by decide +kernel
theorem dX8_differentInLine_6 : decode cX8_differentInLine 6 = .ok (.invokevirtual 47, 3) := by decide +kernel
theorem dX8_differentInLine_9 : decode cX8_differentInLine 9 = .ok (.invokevirtual 64, 3) := by decide +kernel
theorem dX8_differentInLine_12 : decode cX8_differentInLine 12 = .ok (.ireturn, 1) := by decide +kernel
theorem dX8_polygonsOf_0 : decode cX8_polygonsOf 0 = .ok (.aload_n 0, 1) := by decide +kernel
theorem dX8_polygonsOf_1 : decode cX8_polygonsOf 1 = .ok (.iload_n 1, 1) := by decide +kernel
theorem dX8_polygonsOf_2 : decode cX8_polygonsOf 2 = .ok (.invokevirtual 67, 3) := by decide +kernel
theorem dX8_polygonsOf_5 : decode cX8_polygonsOf 5 = .ok (.istore_n 2, 1) := by decide +kernel
theorem dX8_polygonsOf_6 : decode cX8_polygonsOf 6 = .ok (.aload_n 0, 1) := by decide +kernel
theorem dX8_polygonsOf_7 : decode cX8_polygonsOf 7 = .ok (.getfield 12, 3) := by decide +kernel
theorem dX8_polygonsOf_10 : decode cX8_polygonsOf 10 = .ok (.iload_n 1, 1) := by decide +kernel
theorem dX8_polygonsOf_11 : decode cX8_polygonsOf 11 = .ok (.invokevirtual 47, 3) := by decide +kernel
theorem dX8_polygonsOf_14 : decode cX8_polygonsOf 14 = .ok (.bipush 6, 2) := by decide +kernel
theorem dX8_polygonsOf_16 : decode cX8_polygonsOf 16 = .ok (.if_icmp .ne 9, 3) := by decide +kernel
theorem dX8_polygonsOf_19 : decode cX8_polygonsOf 19 = .ok (.iload_n 1, 1) := by decide +kernel
theorem dX8_polygonsOf_20 : decode cX8_polygonsOf 20 = .ok (.iconst 1, 1) := by decide +kernel
theorem dX8_polygonsOf_21 : decode cX8_polygonsOf 21 = .ok (.iadd, 1) := by decide +kernel
theorem dX8_polygonsOf_22 : decode cX8_polygonsOf 22 = .ok (.goto 4, 3) := by decide +kernel
theorem dX8_polygonsOf_25 : decode cX8_polygonsOf 25 = .ok (.iload_n 1, 1) := by decide +kernel
theorem dX8_polygonsOf_26 : decode cX8_polygonsOf 26 = .ok (.istore_n 3, 1) := by decide +kernel
theorem dX8_polygonsOf_27 : decode cX8_polygonsOf 27 = .ok (.iconst 0, 1) := by decide +kernel
theorem dX8_polygonsOf_28 : decode cX8_polygonsOf 28 = .ok (.iload_n 2, 1) := by decide +kernel
theorem dX8_polygonsOf_29 : decode cX8_polygonsOf 29 = .ok (.invokestatic 70, 3) := by decide +kernel
theorem dX8_polygonsOf_32 : decode cX8_polygonsOf 32 = .ok (.anewarray 76, 3) := by decide +kernel
theorem dX8_polygonsOf_35 : decode cX8_polygonsOf 35 = .ok (.astore 4, 2) := by decide +kernel
theorem dX8_polygonsOf_37 : decode cX8_polygonsOf 37 = .ok (.iconst 0, 1) := by decide +kernel
theorem dX8_polygonsOf_38 : decode cX8_polygonsOf 38 = .ok (.istore 5, 2) := by decide +kernel
theorem dX8_polygonsOf_40 : decode cX8_polygonsOf 40 = .ok (.iload 5, 2) := by decide +kernel
theorem dX8_polygonsOf_42 : decode cX8_polygonsOf 42 = .ok (.iload_n 2, 1) := by decide +kernel
theorem dX8_polygonsOf_43 : decode cX8_polygonsOf 43 = .ok (.if_icmp .ge 24, 3) := by decide +kernel
theorem dX8_polygonsOf_46 : decode cX8_polygonsOf 46 = .ok (.aload 4, 2) := by decide +kernel
theorem dX8_polygonsOf_48 : decode cX8_polygonsOf 48 = .ok (.iload 5, 2) := by decide +kernel
theorem dX8_polygonsOf_50 : decode cX8_polygonsOf 50 = .ok (.aload_n 0, 1) := by decide +kernel
theorem dX8_polygonsOf_51 : decode cX8_polygonsOf 51 = .ok (.iload_n 3, 1) := by decide +kernel
theorem dX8_polygonsOf_52 : decode cX8_polygonsOf 52 = .ok (.iload 5, 2) := by decide +kernel
theorem dX8_polygonsOf_54 : decode cX8_polygonsOf 54 = .ok (.iadd, 1) := by decide +kernel
theorem dX8_polygonsOf_55 : decode cX8_polygonsOf 55 = .ok (.iload 5, 2) := by decide +kernel
theorem dX8_polygonsOf_57 : decode cX8_polygonsOf 57 = .ok (.invokevirtual 78, 3) := by decide +kernel
theorem dX8_polygonsOf_60 : decode cX8_polygonsOf 60 = .ok (.aastore, 1) := by decide +kernel
theorem dX8_polygonsOf_61 : decode cX8_polygonsOf 61 = .ok (.iinc 5 1, 3) := by decide +kernel
theorem dX8_polygonsOf_64 : decode cX8_polygonsOf 64 = .ok (.goto (-24), 3) := by decide +kernel
theorem dX8_polygonsOf_67 : decode cX8_polygonsOf 67 = .ok (.aload 4, 2) := by decide +kernel
theorem dX8_polygonsOf_69 : decode cX8_polygonsOf 69 = .ok (.areturn, 1) := by decide +kernel
theorem dX8_countPolygons_0 : decode cX8_countPolygons 0 = .ok (.aload_n 0, 1) := by decide +kernel
theorem dX8_countPolygons_1 : decode cX8_countPolygons 1 = .ok (.getfield 12, 3) := by decide +kernel
theorem dX8_countPolygons_4 : decode cX8_countPolygons 4 = .ok (.iload_n 1, 1) := by decide +kernel
theorem dX8_countPolygons_5 : decode cX8_countPolygons 5 = .ok (.invokevirtual 47, 3) := by decide +kernel
theorem dX8_countPolygons_8 : decode cX8_countPolygons 8 = .ok (.iconst 3, 1) := by decide +kernel
theorem dX8_countPolygons_9 : decode cX8_countPolygons 9 = .ok (.if_icmp .ne 29, 3) := by decide +kernel
theorem dX8_countPolygons_12 : decode cX8_countPolygons 12 = .ok (.aload_n 0, 1) := by decide +kernel
theorem dX8_countPolygons_13 : decode cX8_countPolygons 13 = .ok (.getfield 12, 3) := by decide +kernel
theorem dX8_countPolygons_16 : decode cX8_countPolygons 16 = .ok (.aload_n 0, 1) := by decide +kernel
theorem dX8_countPolygons_17 : decode cX8_countPolygons 17 = .ok (.getfield 18, 3) := by decide +kernel
theorem dX8_countPolygons_20 : decode cX8_countPolygons 20 = .ok (.iload_n 1, 1) := by decide +kernel
theorem dX8_countPolygons_21 : decode cX8_countPolygons 21 = .ok (.invokevirtual 47, 3) := by decide +kernel
theorem dX8_countPolygons_24 : decode cX8_countPolygons 24 = .ok (.invokevirtual 47, 3) := by decide +kernel
theorem dX8_countPolygons_27 : decode cX8_countPolygons 27 = .ok (.bipush 6, 2) := by decide +kernel
theorem dX8_countPolygons_29 : decode cX8_countPolygons 29 = .ok (.if_icmp .ne 7, 3) := by decide +kernel
theorem dX8_countPolygons_32 : decode cX8_countPolygons 32 = .ok (.iconst 0, 1) := by decide +kernel
theorem dX8_countPolygons_33 : decode cX8_countPolygons 33 = .ok (.goto 4, 3) := by decide +kernel
theorem dX8_countPolygons_36 : decode cX8_countPolygons 36 = .ok (.iconst 1, 1) := by decide +kernel
theorem dX8_countPolygons_37 : decode cX8_countPolygons 37 = .ok (.ireturn, 1) := by decide +kernel
theorem dX8_countPolygons_38 : decode cX8_countPolygons 38 = .ok (.aload_n 0, 1) := by decide +kernel
theorem dX8_countPolygons_39 : decode cX8_countPolygons 39 = .ok (.getfield 12, 3) := by decide +kernel
theorem dX8_countPolygons_42 : decode cX8_countPolygons 42 = .ok (.iload_n 1, 1) := by decide +kernel
theorem dX8_countPolygons_43 : decode cX8_countPolygons 43 = .ok (.invokevirtual 47, 3) := by decide +kernel
theorem dX8_countPolygons_46 : decode cX8_countPolygons 46 = .ok (.bipush 6, 2) := by decide +kernel
theorem dX8_countPolygons_48 : decode cX8_countPolygons 48 = .ok (.if_icmp .eq 5, 3) := by decide +kernel
theorem dX8_countPolygons_51 : decode cX8_countPolygons 51 = .ok (.iconst 0, 1) := by decide +kernel
theorem dX8_countPolygons_52 : decode cX8_countPolygons 52 = .ok (.ireturn, 1) := by decide +kernel
theorem dX8_countPolygons_53 : decode cX8_countPolygons 53 = .ok (.iload_n 1, 1) := by decide +kernel
theorem dX8_countPolygons_54 : decode cX8_countPolygons 54 = .ok (.iconst 1, 1) := by decide +kernel
theorem dX8_countPolygons_55 : decode cX8_countPolygons 55 = .ok (.iadd, 1) := by decide +kernel
theorem dX8_countPolygons_56 : decode cX8_countPolygons 56 = .ok (.istore_n 2, 1) := by decide +kernel
theorem dX8_countPolygons_57 : decode cX8_countPolygons 57 = .ok (.iload_n 2, 1) := by decide +kernel
theorem dX8_countPolygons_58 : decode cX8_countPolygons 58 = .ok (.aload_n 0, 1) := by decide +kernel
theorem dX8_countPolygons_59 : decode cX8_countPolygons 59 = .ok (.getfield 12, 3) := by decide +kernel
theorem dX8_countPolygons_62 : decode cX8_countPolygons 62 = .ok (.invokevirtual 43, 3) := by decide +kernel
theorem dX8_countPolygons_65 : decode cX8_countPolygons 65 = .ok (.if_icmp .ge 21, 3) := by decide +kernel
theorem dX8_countPolygons_68 : decode cX8_countPolygons 68 = .ok (.aload_n 0, 1) := by decide +kernel
theorem dX8_countPolygons_69 : decode cX8_countPolygons 69 = .ok (.getfield 18, 3) := by decide +kernel
theorem dX8_countPolygons_72 : decode cX8_countPolygons 72 = .ok (.iload_n 2, 1) := by decide +kernel
theorem dX8_countPolygons_73 : decode cX8_countPolygons 73 = .ok (.invokevirtual 47, 3) := by decide +kernel
theorem dX8_countPolygons_76 : decode cX8_countPolygons 76 = .ok (.iload_n 1, 1) := by decide +kernel
theorem dX8_countPolygons_77 : decode cX8_countPolygons 77 = .ok (.if_icmp .ne 9, 3) := by decide +kernel
theorem dX8_countPolygons_80 : decode cX8_countPolygons 80 = .ok (.iinc 2 1, 3) := by decide +kernel
theorem dX8_countPolygons_83 : decode cX8_countPolygons 83 = .ok (.goto (-26), 3) := by decide +kernel
theorem dX8_countPolygons_86 : decode cX8_countPolygons 86 = .ok (.iload_n 2, 1) := by decide +kernel
theorem dX8_countPolygons_87 : decode cX8_countPolygons 87 = .ok (.iload_n 1, 1) := by decide +kernel
theorem dX8_countPolygons_88 : decode cX8_countPolygons 88 = .ok (.isub, 1) := by decide +kernel
theorem dX8_countPolygons_89 : decode cX8_countPolygons 89 = .ok (.iconst 1, 1) := by decide +kernel
theorem dX8_countPolygons_90 : decode cX8_countPolygons 90 = .ok (.isub, 1) := by decide +kernel
theorem dX8_countPolygons_91 : decode cX8_countPolygons 91 = .ok (.ireturn, 1) := by decide +kernel
theorem dX8_toPolygon_0 : decode cX8_toPolygon 0 = .ok (.aload_n 0, 1) := by decide +kernel
theorem dX8_toPolygon_1 : decode cX8_toPolygon 1 = .ok (.getfield 21, 3) := by decide +kernel
theorem dX8_toPolygon_4 : decode cX8_toPolygon 4 = .ok (.iload_n 1, 1) := by decide +kernel
theorem dX8_toPolygon_5 : decode cX8_toPolygon 5 = .ok (.invokevirtual 47, 3) := by decide +kernel
theorem dX8_toPolygon_8 : decode cX8_toPolygon 8 = .ok (.istore_n 3, 1) := by decide +kernel
theorem dX8_toPolygon_9 : decode cX8_toPolygon 9 = .ok (.iload_n 1, 1) := by decide +kernel
theorem dX8_toPolygon_10 : decode cX8_toPolygon 10 = .ok (.iconst 1, 1) := by decide +kernel
theorem dX8_toPolygon_11 : decode cX8_toPolygon 11 = .ok (.iadd, 1) := by decide +kernel
theorem dX8_toPolygon_12 : decode cX8_toPolygon 12 = .ok (.aload_n 0, 1) := by decide +kernel
theorem dX8_toPolygon_13 : decode cX8_toPolygon 13 = .ok (.getfield 12, 3) := by decide +kernel
theorem dX8_toPolygon_16 : decode cX8_toPolygon 16 = .ok (.invokevirtual 43, 3) := by decide +kernel
theorem dX8_toPolygon_19 : decode cX8_toPolygon 19 = .ok (.if_icmp .ge 16, 3) := by decide +kernel
theorem dX8_toPolygon_22 : decode cX8_toPolygon 22 = .ok (.aload_n 0, 1) := by decide +kernel
theorem dX8_toPolygon_23 : decode cX8_toPolygon 23 = .ok (.getfield 21, 3) := by decide +kernel
theorem dX8_toPolygon_26 : decode cX8_toPolygon 26 = .ok (.iload_n 1, 1) := by decide +kernel
theorem dX8_toPolygon_27 : decode cX8_toPolygon 27 = .ok (.iconst 1, 1) := by decide +kernel
theorem dX8_toPolygon_28 : decode cX8_toPolygon 28 = .ok (.iadd, 1) := by decide +kernel
theorem dX8_toPolygon_29 : decode cX8_toPolygon 29 = .ok (.invokevirtual 47, 3) := by decide +kernel
theorem dX8_toPolygon_32 : decode cX8_toPolygon 32 = .ok (.goto 10, 3) := by decide +kernel
theorem dX8_toPolygon_35 : decode cX8_toPolygon 35 = .ok (.aload_n 0, 1) := by decide +kernel
theorem dX8_toPolygon_36 : decode cX8_toPolygon 36 = .ok (.getfield 24, 3) := by decide +kernel
theorem dX8_toPolygon_39 : decode cX8_toPolygon 39 = .ok (.invokevirtual 43, 3) := by decide +kernel
theorem dX8_toPolygon_42 : decode cX8_toPolygon 42 = .ok (.istore 4, 2) := by decide +kernel
theorem dX8_toPolygon_44 : decode cX8_toPolygon 44 = .ok (.iconst 0, 1) := by decide +kernel
theorem dX8_toPolygon_45 : decode cX8_toPolygon 45 = .ok (.iload 4, 2) := by decide +kernel
theorem dX8_toPolygon_47 : decode cX8_toPolygon 47 = .ok (.iload_n 3, 1) := by decide +kernel
theorem dX8_toPolygon_48 : decode cX8_toPolygon 48 = .ok (.isub, 1) := by decide +kernel
theorem dX8_toPolygon_49 : decode cX8_toPolygon 49 = .ok (.invokestatic 70, 3) := by decide +kernel
theorem dX8_toPolygon_52 : decode cX8_toPolygon 52 = .ok (.anewarray 82, 3) := by decide +kernel
theorem dX8_toPolygon_55 : decode cX8_toPolygon 55 = .ok (.astore 5, 2) := by decide +kernel
theorem dX8_toPolygon_57 : decode cX8_toPolygon 57 = .ok (.iconst 0, 1) := by decide +kernel
theorem dX8_toPolygon_58 : decode cX8_toPolygon 58 = .ok (.istore 6, 2) := by decide +kernel
theorem dX8_toPolygon_60 : decode cX8_toPolygon 60 = .ok (.iload 6, 2) := by decide +kernel
theorem dX8_toPolygon_62 : decode cX8_toPolygon 62 = .ok (.aload 5, 2) := by decide +kernel
theorem dX8_toPolygon_64 : decode cX8_toPolygon 64 = .ok (.arraylength, 1) := by decide +kernel
theorem dX8_toPolygon_65 : decode cX8_toPolygon 65 = .ok (.if_icmp .ge 25, 3) := by decide +kernel
theorem dX8_toPolygon_68 : decode cX8_toPolygon 68 = .ok (.aload 5, 2) := by decide +kernel
theorem dX8_toPolygon_70 : decode cX8_toPolygon 70 = .ok (.iload 6, 2) := by decide +kernel
theorem dX8_toPolygon_72 : decode cX8_toPolygon 72 = .ok (.aload_n 0, 1) := by decide +kernel
theorem dX8_toPolygon_73 : decode cX8_toPolygon 73 = .ok (.iload_n 3, 1) := by decide +kernel
theorem dX8_toPolygon_74 : decode cX8_toPolygon 74 = .ok (.iload 6, 2) := by decide +kernel
theorem dX8_toPolygon_76 : decode cX8_toPolygon 76 = .ok (.iadd, 1) := by decide +kernel
theorem dX8_toPolygon_77 : decode cX8_toPolygon 77 = .ok (.iload_n 2, 1) := by decide +kernel
theorem dX8_toPolygon_78 : decode cX8_toPolygon 78 = .ok (.iload 6, 2) := by decide +kernel
theorem dX8_toPolygon_80 : decode cX8_toPolygon 80 = .ok (.invokevirtual 84, 3) := by decide +kernel
theorem dX8_toPolygon_83 : decode cX8_toPolygon 83 = .ok (.aastore, 1) := by decide +kernel
theorem dX8_toPolygon_84 : decode cX8_toPolygon 84 = .ok (.iinc 6 1, 3) := by decide +kernel
theorem dX8_toPolygon_87 : decode cX8_toPolygon 87 = .ok (.goto (-27), 3) := by decide +kernel
theorem dX8_toPolygon_90 : decode cX8_toPolygon 90 = .ok (.new 76, 3) := by decide +kernel
theorem dX8_toPolygon_93 : decode cX8_toPolygon 93 = .ok (.dup, 1) := by decide +kernel
theorem dX8_toPolygon_94 : decode cX8_toPolygon 94 = .ok (.iload_n 2, 1) := by decide +kernel
theorem dX8_toPolygon_95 : decode cX8_toPolygon 95 = .ok (.aload 5, 2) := by decide +kernel
theorem dX8_toPolygon_97 : decode cX8_toPolygon 97 = .ok (.invokespecial 88, 3) := by decide +kernel
theorem dX8_toPolygon_100 : decode cX8_toPolygon 100 = .ok (.areturn, 1) := by decide +kernel
theorem dX8_toRing_0 : decode cX8_toRing 0 = .ok (.aload_n 0, 1) := by decide +kernel
theorem dX8_toRing_1 : decode cX8_toRing 1 = .ok (.getfield 24, 3) := by decide +kernel
theorem dX8_toRing_4 : decode cX8_toRing 4 = .ok (.iload_n 1, 1) := by decide +kernel
theorem dX8_toRing_5 : decode cX8_toRing 5 = .ok (.invokevirtual 47, 3) := by decide +kernel
theorem dX8_toRing_8 : decode cX8_toRing 8 = .ok (.istore 4, 2) := by decide +kernel
theorem dX8_toRing_10 : decode cX8_toRing 10 = .ok (.aload_n 0, 1) := by decide +kernel
theorem dX8_toRing_11 : decode cX8_toRing 11 = .ok (.iload_n 1, 1) := by decide +kernel
theorem dX8_toRing_12 : decode cX8_toRing 12 = .ok (.invokevirtual 91, 3) := by decide +kernel
theorem dX8_toRing_15 : decode cX8_toRing 15 = .ok (.istore 5, 2) := by decide +kernel
theorem dX8_toRing_17 : decode cX8_toRing 17 = .ok (.new 82, 3) := by decide +kernel
theorem dX8_toRing_20 : decode cX8_toRing 20 = .ok (.dup, 1) := by decide +kernel
theorem dX8_toRing_21 : decode cX8_toRing 21 = .ok (.iload_n 2, 1) := by decide +kernel
theorem dX8_toRing_22 : decode cX8_toRing 22 = .ok (.iload_n 3, 1) := by decide +kernel
theorem dX8_toRing_23 : decode cX8_toRing 23 = .ok (.iconst 0, 1) := by decide +kernel
theorem dX8_toRing_24 : decode cX8_toRing 24 = .ok (.iload 5, 2) := by decide +kernel
theorem dX8_toRing_26 : decode cX8_toRing 26 = .ok (.iload 4, 2) := by decide +kernel
theorem dX8_toRing_28 : decode cX8_toRing 28 = .ok (.isub, 1) := by decide +kernel
theorem dX8_toRing_29 : decode cX8_toRing 29 = .ok (.invokestatic 70, 3) := by decide +kernel
theorem dX8_toRing_32 : decode cX8_toRing 32 = .ok (.invokespecial 94, 3) := by decide +kernel
theorem dX8_toRing_35 : decode cX8_toRing 35 = .ok (.astore 6, 2) := by decide +kernel
theorem dX8_toRing_37 : decode cX8_toRing 37 = .ok (.aload 6, 2) := by decide +kernel
theorem dX8_toRing_39 : decode cX8_toRing 39 = .ok (.iload 4, 2) := by decide +kernel
theorem dX8_toRing_41 : decode cX8_toRing 41 = .ok (.iload 5, 2) := by decide +kernel
theorem dX8_toRing_43 : decode cX8_toRing 43 = .ok (.if_icmp .ge 20, 3) := by decide +kernel
theorem dX8_toRing_46 : decode cX8_toRing 46 = .ok (.aload_n 0, 1) := by decide +kernel
theorem dX8_toRing_47 : decode cX8_toRing 47 = .ok (.iload 4, 2) := by decide +kernel
theorem dX8_toRing_49 : decode cX8_toRing 49 = .ok (.iload 5, 2) := by decide +kernel
theorem dX8_toRing_51 : decode cX8_toRing 51 = .ok (.iconst 1, 1) := by decide +kernel
theorem dX8_toRing_52 : decode cX8_toRing 52 = .ok (.isub, 1) := by decide +kernel
theorem dX8_toRing_53 : decode cX8_toRing 53 = .ok (.invokevirtual 97, 3) := by decide +kernel
theorem dX8_toRing_56 : decode cX8_toRing 56 = .ok (.ifCond .eq 7, 3) := by decide +kernel
theorem dX8_toRing_59 : decode cX8_toRing 59 = .ok (.iconst 1, 1) := by decide +kernel
theorem dX8_toRing_60 : decode cX8_toRing 60 = .ok (.goto 4, 3) := by decide +kernel
theorem dX8_toRing_63 : decode cX8_toRing 63 = .ok (.iconst 0, 1) := by decide +kernel
theorem dX8_toRing_64 : decode cX8_toRing 64 = .ok (.putfield 101, 3) := by decide +kernel
theorem dX8_toRing_67 : decode cX8_toRing 67 = .ok (.aload 6, 2) := by decide +kernel
theorem dX8_toRing_69 : decode cX8_toRing 69 = .ok (.aload_n 0, 1) := by decide +kernel
theorem dX8_toRing_70 : decode cX8_toRing 70 = .ok (.iload_n 1, 1) := by decide +kernel
theorem dX8_toRing_71 : decode cX8_toRing 71 = .ok (.invokevirtual 64, 3) := by decide +kernel
theorem dX8_toRing_74 : decode cX8_toRing 74 = .ok (.putfield 105, 3) := by decide +kernel
theorem dX8_toRing_77 : decode cX8_toRing 77 = .ok (.iload 4, 2) := by decide +kernel
theorem dX8_toRing_79 : decode cX8_toRing 79 = .ok (.istore 7, 2) := by decide +kernel
theorem dX8_toRing_81 : decode cX8_toRing 81 = .ok (.iload 7, 2) := by decide +kernel
theorem dX8_toRing_83 : decode cX8_toRing 83 = .ok (.iconst 1, 1) := by decide +kernel
theorem dX8_toRing_84 : decode cX8_toRing 84 = .ok (.iadd, 1) := by decide +kernel
theorem dX8_toRing_85 : decode cX8_toRing 85 = .ok (.iload 5, 2) := by decide +kernel
theorem dX8_toRing_87 : decode cX8_toRing 87 = .ok (.if_icmp .ge 81, 3) := by decide +kernel
theorem dX8_toRing_90 : decode cX8_toRing 90 = .ok (.aload_n 0, 1) := by decide +kernel
theorem dX8_toRing_91 : decode cX8_toRing 91 = .ok (.iload 7, 2) := by decide +kernel
theorem dX8_toRing_93 : decode cX8_toRing 93 = .ok (.iload 7, 2) := by decide +kernel
theorem dX8_toRing_95 : decode cX8_toRing 95 = .ok (.iconst 1, 1) := by decide +kernel
theorem dX8_toRing_96 : decode cX8_toRing 96 = .ok (.iadd, 1) := by decide +kernel
theorem dX8_toRing_97 : decode cX8_toRing 97 = .ok (.invokevirtual 97, 3) := by decide +kernel
theorem dX8_toRing_100 : decode cX8_toRing 100 = .ok (.ifCond .ne 62, 3) := by decide +kernel
theorem dX8_toRing_103 : decode cX8_toRing 103 = .ok (.aload 6, 2) := by decide +kernel
theorem dX8_toRing_105 : decode cX8_toRing 105 = .ok (.new 107, 3) := by decide +kernel
theorem dX8_toRing_108 : decode cX8_toRing 108 = .ok (.dup, 1) := by decide +kernel
theorem dX8_toRing_109 : decode cX8_toRing 109 = .ok (.aload 6, 2) := by decide +kernel
theorem dX8_toRing_111 : decode cX8_toRing 111 = .ok (.iload 7, 2) := by decide +kernel
theorem dX8_toRing_113 : decode cX8_toRing 113 = .ok (.iload 4, 2) := by decide +kernel
theorem dX8_toRing_115 : decode cX8_toRing 115 = .ok (.isub, 1) := by decide +kernel
theorem dX8_toRing_116 : decode cX8_toRing 116 = .ok (.aload_n 0, 1) := by decide +kernel
theorem dX8_toRing_117 : decode cX8_toRing 117 = .ok (.getfield 27, 3) := by decide +kernel
theorem dX8_toRing_120 : decode cX8_toRing 120 = .ok (.iload 7, 2) := by decide +kernel
theorem dX8_toRing_122 : decode cX8_toRing 122 = .ok (.invokevirtual 47, 3) := by decide +kernel
theorem dX8_toRing_125 : decode cX8_toRing 125 = .ok (.aload_n 0, 1) := by decide +kernel
theorem dX8_toRing_126 : decode cX8_toRing 126 = .ok (.getfield 30, 3) := by decide +kernel
theorem dX8_toRing_129 : decode cX8_toRing 129 = .ok (.iload 7, 2) := by decide +kernel
theorem dX8_toRing_131 : decode cX8_toRing 131 = .ok (.invokevirtual 47, 3) := by decide +kernel
theorem dX8_toRing_134 : decode cX8_toRing 134 = .ok (.aload_n 0, 1) := by decide +kernel
theorem dX8_toRing_135 : decode cX8_toRing 135 = .ok (.getfield 27, 3) := by decide +kernel
theorem dX8_toRing_138 : decode cX8_toRing 138 = .ok (.iload 7, 2) := by decide +kernel
theorem dX8_toRing_140 : decode cX8_toRing 140 = .ok (.iconst 1, 1) := by decide +kernel
theorem dX8_toRing_141 : decode cX8_toRing 141 = .ok (.iadd, 1) := by decide +kernel
theorem dX8_toRing_142 : decode cX8_toRing 142 = .ok (.invokevirtual 47, 3) := by decide +kernel
theorem dX8_toRing_145 : decode cX8_toRing 145 = .ok (.aload_n 0, 1) := by decide +kernel
theorem dX8_toRing_146 : decode cX8_toRing 146 = .ok (.getfield 30, 3) := by decide +kernel
theorem dX8_toRing_149 : decode cX8_toRing 149 = .ok (.iload 7, 2) := by decide +kernel
theorem dX8_toRing_151 : decode cX8_toRing 151 = .ok (.iconst 1, 1) := by decide +kernel
theorem dX8_toRing_152 : decode cX8_toRing 152 = .ok (.iadd, 1) := by decide +kernel
theorem dX8_toRing_153 : decode cX8_toRing 153 = .ok (.invokevirtual 47, 3) := by decide +kernel
theorem dX8_toRing_156 : decode cX8_toRing 156 = .ok (.invokespecial 109, 3) := by decide +kernel
theorem dX8_toRing_159 : decode cX8_toRing 159 = .ok (.invokevirtual 112, 3) := by decide +kernel
theorem dX8_toRing_162 : decode cX8_toRing 162 = .ok (.iinc 7 1, 3) := by decide +kernel
theorem dX8_toRing_165 : decode cX8_toRing 165 = .ok (.goto (-84), 3) := by decide +kernel
theorem dX8_toRing_168 : decode cX8_toRing 168 = .ok (.aload 6, 2) := by decide +kernel
theorem dX8_toRing_170 : decode cX8_toRing 170 = .ok (.areturn, 1) := by decide +kernel
theorem dX8_behindChain_0 : decode cX8_behindChain 0 = .ok (.iload_n 1, 1) := by decide +kernel
theorem dX8_behindChain_1 : decode cX8_behindChain 1 = .ok (.iconst 1, 1) := by decide +kernel
theorem dX8_behindChain_2 : decode cX8_behindChain 2 = .ok (.iadd, 1) := by decide +kernel
theorem dX8_behindChain_3 : decode cX8_behindChain 3 = .ok (.aload_n 0, 1) := by decide +kernel
theorem dX8_behindChain_4 : decode cX8_behindChain 4 = .ok (.getfield 24, 3) := by decide +kernel
theorem dX8_behindChain_7 : decode cX8_behindChain 7 = .ok (.invokevirtual 43, 3) := by decide +kernel
theorem dX8_behindChain_10 : decode cX8_behindChain 10 = .ok (.if_icmp .ge 16, 3) := by decide +kernel
theorem dX8_behindChain_13 : decode cX8_behindChain 13 = .ok (.aload_n 0, 1) := by decide +kernel
theorem dX8_behindChain_14 : decode cX8_behindChain 14 = .ok (.getfield 24, 3) := by decide +kernel
theorem dX8_behindChain_17 : decode cX8_behindChain 17 = .ok (.iload_n 1, 1) := by decide +kernel
theorem dX8_behindChain_18 : decode cX8_behindChain 18 = .ok (.iconst 1, 1) := by decide +kernel
theorem dX8_behindChain_19 : decode cX8_behindChain 19 = .ok (.iadd, 1) := by decide +kernel
theorem dX8_behindChain_20 : decode cX8_behindChain 20 = .ok (.invokevirtual 47, 3) := by decide +kernel
theorem dX8_behindChain_23 : decode cX8_behindChain 23 = .ok (.goto 10, 3) := by decide +kernel
theorem dX8_behindChain_26 : decode cX8_behindChain 26 = .ok (.aload_n 0, 1) := by decide +kernel
theorem dX8_behindChain_27 : decode cX8_behindChain 27 = .ok (.getfield 27, 3) := by decide +kernel
theorem dX8_behindChain_30 : decode cX8_behindChain 30 = .ok (.invokevirtual 43, 3) := by decide +kernel
theorem dX8_behindChain_33 : decode cX8_behindChain 33 = .ok (.ireturn, 1) := by decide +kernel
theorem dX8_differentPoints_0 : decode cX8_differentPoints 0 = .ok (.aload_n 0, 1) := by decide +kernel
theorem dX8_differentPoints_1 : decode cX8_differentPoints 1 = .ok (.getfield 24, 3) := by decide +kernel
theorem dX8_differentPoints_4 : decode cX8_differentPoints 4 = .ok (.iload_n 1, 1) := by decide +kernel
theorem dX8_differentPoints_5 : decode cX8_differentPoints 5 = .ok (.invokevirtual 47, 3) := by decide +kernel
theorem dX8_differentPoints_8 : decode cX8_differentPoints 8 = .ok (.istore_n 2, 1) := by decide +kernel
theorem dX8_differentPoints_9 : decode cX8_differentPoints 9 = .ok (.aload_n 0, 1) := by decide +kernel
theorem dX8_differentPoints_10 : decode cX8_differentPoints 10 = .ok (.iload_n 1, 1) := by decide +kernel
theorem dX8_differentPoints_11 : decode cX8_differentPoints 11 = .ok (.invokevirtual 91, 3) := by decide +kernel
theorem dX8_differentPoints_14 : decode cX8_differentPoints 14 = .ok (.istore_n 3, 1) := by decide +kernel
theorem dX8_differentPoints_15 : decode cX8_differentPoints 15 = .ok (.iconst (-1), 1) := by decide +kernel
theorem dX8_differentPoints_16 : decode cX8_differentPoints 16 = .ok (.istore 4, 2) := by decide +kernel
theorem dX8_differentPoints_18 : decode cX8_differentPoints 18 = .ok (.iload_n 2, 1) := by decide +kernel
theorem dX8_differentPoints_19 : decode cX8_differentPoints 19 = .ok (.iconst 1, 1) := by decide +kernel
theorem dX8_differentPoints_20 : decode cX8_differentPoints 20 = .ok (.iadd, 1) := by decide +kernel
theorem dX8_differentPoints_21 : decode cX8_differentPoints 21 = .ok (.istore 5, 2) := by decide +kernel
theorem dX8_differentPoints_23 : decode cX8_differentPoints 23 = .ok (.iload 5, 2) := by decide +kernel
theorem dX8_differentPoints_25 : decode cX8_differentPoints 25 = .ok (.iload_n 3, 1) := by decide +kernel
theorem dX8_differentPoints_26 : decode cX8_differentPoints 26 = .ok (.if_icmp .ge 48, 3) := by decide +kernel
theorem dX8_differentPoints_29 : decode cX8_differentPoints 29 = .ok (.aload_n 0, 1) := by decide +kernel
theorem dX8_differentPoints_30 : decode cX8_differentPoints 30 = .ok (.iload 5, 2) := by decide +kernel
theorem dX8_differentPoints_32 : decode cX8_differentPoints 32 = .ok (.iload_n 2, 1) := by decide +kernel
theorem dX8_differentPoints_33 : decode cX8_differentPoints 33 = .ok (.invokevirtual 97, 3) := by decide +kernel
theorem dX8_differentPoints_36 : decode cX8_differentPoints 36 = .ok (.ifCond .eq 6, 3) := by decide +kernel
theorem dX8_differentPoints_39 : decode cX8_differentPoints 39 = .ok (.goto 29, 3) := by decide +kernel
theorem dX8_differentPoints_42 : decode cX8_differentPoints 42 = .ok (.iload 4, 2) := by decide +kernel
theorem dX8_differentPoints_44 : decode cX8_differentPoints 44 = .ok (.iconst (-1), 1) := by decide +kernel
theorem dX8_differentPoints_45 : decode cX8_differentPoints 45 = .ok (.if_icmp .ne 10, 3) := by decide +kernel
theorem dX8_differentPoints_48 : decode cX8_differentPoints 48 = .ok (.iload 5, 2) := by decide +kernel
theorem dX8_differentPoints_50 : decode cX8_differentPoints 50 = .ok (.istore 4, 2) := by decide +kernel
theorem dX8_differentPoints_52 : decode cX8_differentPoints 52 = .ok (.goto 16, 3) := by decide +kernel
theorem dX8_differentPoints_55 : decode cX8_differentPoints 55 = .ok (.aload_n 0, 1) := by decide +kernel
theorem dX8_differentPoints_56 : decode cX8_differentPoints 56 = .ok (.iload 5, 2) := by decide +kernel
theorem dX8_differentPoints_58 : decode cX8_differentPoints 58 = .ok (.iload 4, 2) := by decide +kernel
theorem dX8_differentPoints_60 : decode cX8_differentPoints 60 = .ok (.invokevirtual 97, 3) := by decide +kernel
theorem dX8_differentPoints_63 : decode cX8_differentPoints 63 = .ok (.ifCond .ne 5, 3) := by decide +kernel
theorem dX8_differentPoints_66 : decode cX8_differentPoints 66 = .ok (.iconst 3, 1) := by decide +kernel
theorem dX8_differentPoints_67 : decode cX8_differentPoints 67 = .ok (.ireturn, 1) := by decide +kernel
theorem dX8_differentPoints_68 : decode cX8_differentPoints 68 = .ok (.iinc 5 1, 3) := by decide +kernel
theorem dX8_differentPoints_71 : decode cX8_differentPoints 71 = .ok (.goto (-48), 3) := by decide +kernel
theorem dX8_differentPoints_74 : decode cX8_differentPoints 74 = .ok (.iload_n 2, 1) := by decide +kernel
theorem dX8_differentPoints_75 : decode cX8_differentPoints 75 = .ok (.iload_n 3, 1) := by decide +kernel
theorem dX8_differentPoints_76 : decode cX8_differentPoints 76 = .ok (.if_icmp .lt 5, 3) := by decide +kernel
theorem dX8_differentPoints_79 : decode cX8_differentPoints 79 = .ok (.iconst 0, 1) := by decide +kernel
theorem dX8_differentPoints_80 : decode cX8_differentPoints 80 = .ok (.ireturn, 1) := by decide +kernel
theorem dX8_differentPoints_81 : decode cX8_differentPoints 81 = .ok (.iload 4, 2) := by decide +kernel
theorem dX8_differentPoints_83 : decode cX8_differentPoints 83 = .ok (.iconst (-1), 1) := by decide +kernel
theorem dX8_differentPoints_84 : decode cX8_differentPoints 84 = .ok (.if_icmp .ne 7, 3) := by decide +kernel
theorem dX8_differentPoints_87 : decode cX8_differentPoints 87 = .ok (.iconst 1, 1) := by decide +kernel
theorem dX8_differentPoints_88 : decode cX8_differentPoints 88 = .ok (.goto 4, 3) := by decide +kernel
theorem dX8_differentPoints_91 : decode cX8_differentPoints 91 = .ok (.iconst 2, 1) := by decide +kernel
theorem dX8_differentPoints_92 : decode cX8_differentPoints 92 = .ok (.ireturn, 1) := by decide +kernel
theorem dX8_isSame_0 : decode cX8_isSame 0 = .ok (.aload_n 0, 1) := by decide +kernel
theorem dX8_isSame_1 : decode cX8_isSame 1 = .ok (.getfield 27, 3) := by decide +kernel
theorem dX8_isSame_4 : decode cX8_isSame 4 = .ok (.iload_n 1, 1) := by decide +kernel
theorem dX8_isSame_5 : decode cX8_isSame 5 = .ok (.invokevirtual 47, 3) := by decide +kernel
theorem dX8_isSame_8 : decode cX8_isSame 8 = .ok (.aload_n 0, 1) := by decide +kernel
theorem dX8_isSame_9 : decode cX8_isSame 9 = .ok (.getfield 27, 3) := by decide +kernel
theorem dX8_isSame_12 : decode cX8_isSame 12 = .ok (.iload_n 2, 1) := by decide +kernel
theorem dX8_isSame_13 : decode cX8_isSame 13 = .ok (.invokevirtual 47, 3) := by decide +kernel
theorem dX8_isSame_16 : decode cX8_isSame 16 = .ok (.if_icmp .ne 26, 3) := by decide +kernel
theorem dX8_isSame_19 : decode cX8_isSame 19 = .ok (.aload_n 0, 1) := by decide +kernel
theorem dX8_isSame_20 : decode cX8_isSame 20 = .ok (.getfield 30, 3) := by decide +kernel
theorem dX8_isSame_23 : decode cX8_isSame 23 = .ok (.iload_n 1, 1) := by decide +kernel
theorem dX8_isSame_24 : decode cX8_isSame 24 = .ok (.invokevirtual 47, 3) := by decide +kernel
theorem dX8_isSame_27 : decode cX8_isSame 27 = .ok (.aload_n 0, 1) := by decide +kernel
theorem dX8_isSame_28 : decode cX8_isSame 28 = .ok (.getfield 30, 3) := by decide +kernel
theorem dX8_isSame_31 : decode cX8_isSame 31 = .ok (.iload_n 2, 1) := by decide +kernel
theorem dX8_isSame_32 : decode cX8_isSame 32 = .ok (.invokevirtual 47, 3) := by decide +kernel
theorem dX8_isSame_35 : decode cX8_isSame 35 = .ok (.if_icmp .ne 7, 3) := by decide +kernel
theorem dX8_isSame_38 : decode cX8_isSame 38 = .ok (.iconst 1, 1) := by decide +kernel
theorem dX8_isSame_39 : decode cX8_isSame 39 = .ok (.goto 4, 3) := by decide +kernel
theorem dX8_isSame_42 : decode cX8_isSame 42 = .ok (.iconst 0, 1) := by decide +kernel
theorem dX8_isSame_43 : decode cX8_isSame 43 = .ok (.ireturn, 1) := by decide +kernel
theorem dX9_init_0 : decode cX9_init 0 = .ok (.aload_n 0, 1) := by decide +kernel
theorem dX9_init_1 : decode cX9_init 1 = .ok (.invokespecial 1, 3) := by decide +kernel
theorem dX9_init_4 : decode cX9_init 4 = .ok (.aload_n 0, 1) := by decide +kernel
theorem dX9_init_5 : decode cX9_init 5 = .ok (.new 7, 3) := by decide +kernel
theorem dX9_init_8 : decode cX9_init 8 = .ok (.dup, 1) := by decide +kernel
theorem dX9_init_9 : decode cX9_init 9 = .ok (.invokespecial 9, 3) := by decide +kernel
theorem dX9_init_12 : decode cX9_init 12 = .ok (.putfield 10, 3) := by decide +kernel
theorem dX9_init_15 : decode cX9_init 15 = .ok (.aload_n 0, 1) := by decide +kernel
theorem dX9_init_16 : decode cX9_init 16 = .ok (.new 16, 3) := by decide +kernel
theorem dX9_init_19 : decode cX9_init 19 = .ok (.dup, 1) := by decide +kernel
theorem dX9_init_20 : decode cX9_init 20 = .ok (.invokespecial 18, 3) := by decide +kernel
theorem dX9_init_23 : decode cX9_init 23 = .ok (.putfield 19, 3) := by decide +kernel
theorem dX9_init_26 : decode cX9_init 26 = .ok (.aload_n 0, 1) := by decide +kernel
theorem dX9_init_27 : decode cX9_init 27 = .ok (.new 23, 3) := by decide +kernel
theorem dX9_init_30 : decode cX9_init 30 = .ok (.dup, 1) := by decide +kernel
theorem dX9_init_31 : decode cX9_init 31 = .ok (.aload_n 0, 1) := by decide +kernel
theorem dX9_init_32 : decode cX9_init 32 = .ok (.getfield 10, 3) := by decide +kernel
theorem dX9_init_35 : decode cX9_init 35 = .ok (.aload_n 0, 1) := by decide +kernel
theorem dX9_init_36 : decode cX9_init 36 = .ok (.getfield 19, 3) := by decide +kernel
theorem dX9_init_39 : decode cX9_init 39 = .ok (.invokespecial 25, 3) := by decide +kernel
theorem dX9_init_42 : decode cX9_init 42 = .ok (.putfield 28, 3) := by decide +kernel
theorem dX9_init_45 : decode cX9_init 45 = .ok (.return_, 1) := by decide +kernel
theorem dX9_clear_0 : decode cX9_clear 0 = .ok (.aload_n 0, 1) := by decide +kernel
theorem dX9_clear_1 : decode cX9_clear 1 = .ok (.getfield 10, 3) := by decide +kernel
theorem dX9_clear_4 : decode cX9_clear 4 = .ok (.invokevirtual 32, 3) := by decide +kernel
theorem dX9_clear_7 : decode cX9_clear 7 = .ok (.istore_n 1, 1) := by decide +kernel
theorem dX9_clear_8 : decode cX9_clear 8 = .ok (.aload_n 0, 1) := by decide +kernel
theorem dX9_clear_9 : decode cX9_clear 9 = .ok (.getfield 10, 3) := by decide +kernel
theorem dX9_clear_12 : decode cX9_clear 12 = .ok (.invokevirtual 36, 3) := by decide +kernel
theorem dX9_clear_15 : decode cX9_clear 15 = .ok (.aload_n 0, 1) := by decide +kernel
theorem dX9_clear_16 : decode cX9_clear 16 = .ok (.getfield 19, 3) := by decide +kernel
theorem dX9_clear_19 : decode cX9_clear 19 = .ok (.invokevirtual 39, 3) := by decide +kernel
theorem dX9_clear_22 : decode cX9_clear 22 = .ok (.aload_n 0, 1) := by decide +kernel
theorem dX9_clear_23 : decode cX9_clear 23 = .ok (.iconst 0, 1) := by decide +kernel
theorem dX9_clear_24 : decode cX9_clear 24 = .ok (.putfield 40, 3) := by decide +kernel
theorem dX9_clear_27 : decode cX9_clear 27 = .ok (.iload_n 1, 1) := by decide +kernel
theorem dX9_clear_28 : decode cX9_clear 28 = .ok (.ireturn, 1) := by decide +kernel
theorem dX9_open_0 : decode cX9_open 0 = .ok (.iload_n 1, 1) := by decide +kernel
theorem dX9_open_1 : decode cX9_open 1 = .ok (.iconst 1, 1) := by decide +kernel
theorem dX9_open_2 : decode cX9_open 2 = .ok (.if_icmp .lt 9, 3) := by decide +kernel
theorem dX9_open_5 : decode cX9_open 5 = .ok (.iload_n 1, 1) := by decide +kernel
theorem dX9_open_6 : decode cX9_open 6 = .ok (.bipush 7, 2) := by decide +kernel
theorem dX9_open_8 : decode cX9_open 8 = .ok (.if_icmp .le 13, 3) := by decide +kernel
theorem dX9_open_11 : decode cX9_open 11 = .ok (.new 44, 3) := by decide +kernel
theorem dX9_open_14 : decode cX9_open 14 = .ok (.dup, 1) := by decide +kernel
theorem dX9_open_15 : decode cX9_open 15 = .ok (.ldc 46, 2) := by decide +kernel
theorem dX9_open_17 : decode cX9_open 17 = .ok (.invokespecial 48, 3) := by decide +kernel
theorem dX9_open_20 : decode cX9_open 20 = .ok (.athrow, 1) := by decide +kernel
theorem dX9_open_21 : decode cX9_open 21 = .ok (.aload_n 0, 1) := by decide +kernel
theorem dX9_open_22 : decode cX9_open 22 = .ok (.getfield 10, 3) := by decide +kernel
theorem dX9_open_25 : decode cX9_open 25 = .ok (.iload_n 1, 1) := by decide +kernel
theorem dX9_open_26 : decode cX9_open 26 = .ok (.invokevirtual 51, 3) := by decide +kernel
theorem dX9_open_29 : decode cX9_open 29 = .ok (.ifCond .ne 13, 3) := by decide +kernel
theorem dX9_open_32 : decode cX9_open 32 = .ok (.new 55, 3) := by decide +kernel
theorem dX9_open_35 : decode cX9_open 35 = .ok (.dup, 1) := by decide +kernel
theorem dX9_open_36 : decode cX9_open 36 = .ok (.ldc 57, 2) := by decide +kernel
theorem dX9_open_38 : decode cX9_open 38 = .ok (.invokespecial 59, 3) := by decide +kernel
theorem dX9_open_41 : decode cX9_open 41 = .ok (.athrow, 1) := by decide +kernel
theorem dX9_open_42 : decode cX9_open 42 = .ok (.aload_n 0, 1) := by decide +kernel
theorem dX9_open_43 : decode cX9_open 43 = .ok (.getfield 10, 3) := by decide +kernel
theorem dX9_open_46 : decode cX9_open 46 = .ok (.invokevirtual 32, 3) := by decide +kernel
theorem dX9_open_49 : decode cX9_open 49 = .ok (.sipush 4094, 3) := by decide +kernel
theorem dX9_open_52 : decode cX9_open 52 = .ok (.if_icmp .le 13, 3) := by decide +kernel
theorem dX9_open_55 : decode cX9_open 55 = .ok (.new 60, 3) := by decide +kernel
theorem dX9_open_58 : decode cX9_open 58 = .ok (.dup, 1) := by decide +kernel
theorem dX9_open_59 : decode cX9_open 59 = .ok (.ldc 62, 2) := by decide +kernel
theorem dX9_open_61 : decode cX9_open 61 = .ok (.invokespecial 64, 3) := by decide +kernel
theorem dX9_open_64 : decode cX9_open 64 = .ok (.athrow, 1) := by decide +kernel
theorem dX9_open_65 : decode cX9_open 65 = .ok (.aload_n 0, 1) := by decide +kernel
theorem dX9_open_66 : decode cX9_open 66 = .ok (.getfield 10, 3) := by decide +kernel
theorem dX9_open_69 : decode cX9_open 69 = .ok (.iload_n 1, 1) := by decide +kernel
theorem dX9_open_70 : decode cX9_open 70 = .ok (.invokevirtual 65, 3) := by decide +kernel
theorem dX9_open_73 : decode cX9_open 73 = .ok (.ireturn, 1) := by decide +kernel
theorem dX9_ring_0 : decode cX9_ring 0 = .ok (.aload_n 0, 1) := by decide +kernel
theorem dX9_ring_1 : decode cX9_ring 1 = .ok (.getfield 10, 3) := by decide +kernel
theorem dX9_ring_4 : decode cX9_ring 4 = .ok (.invokevirtual 69, 3) := by decide +kernel
theorem dX9_ring_7 : decode cX9_ring 7 = .ok (.iconst 3, 1) := by decide +kernel
theorem dX9_ring_8 : decode cX9_ring 8 = .ok (.if_icmp .eq 13, 3) := by decide +kernel
theorem dX9_ring_11 : decode cX9_ring 11 = .ok (.new 55, 3) := by decide +kernel
theorem dX9_ring_14 : decode cX9_ring 14 = .ok (.dup, 1) := by decide +kernel
theorem dX9_ring_15 : decode cX9_ring 15 = .ok (.ldc 72, 2) := by decide +kernel
theorem dX9_ring_17 : decode cX9_ring 17 = .ok (.invokespecial 59, 3) := by decide +kernel
theorem dX9_ring_20 : decode cX9_ring 20 = .ok (.athrow, 1) := by decide +kernel
theorem dX9_ring_21 : decode cX9_ring 21 = .ok (.aload_n 0, 1) := by decide +kernel
theorem dX9_ring_22 : decode cX9_ring 22 = .ok (.getfield 10, 3) := by decide +kernel
theorem dX9_ring_25 : decode cX9_ring 25 = .ok (.invokevirtual 32, 3) := by decide +kernel
theorem dX9_ring_28 : decode cX9_ring 28 = .ok (.sipush 4095, 3) := by decide +kernel
theorem dX9_ring_31 : decode cX9_ring 31 = .ok (.if_icmp .le 13, 3) := by decide +kernel
theorem dX9_ring_34 : decode cX9_ring 34 = .ok (.new 60, 3) := by decide +kernel
theorem dX9_ring_37 : decode cX9_ring 37 = .ok (.dup, 1) := by decide +kernel
theorem dX9_ring_38 : decode cX9_ring 38 = .ok (.ldc 62, 2) := by decide +kernel
theorem dX9_ring_40 : decode cX9_ring 40 = .ok (.invokespecial 64, 3) := by decide +kernel
theorem dX9_ring_43 : decode cX9_ring 43 = .ok (.athrow, 1) := by decide +kernel
theorem dX9_ring_44 : decode cX9_ring 44 = .ok (.aload_n 0, 1) := by decide +kernel
theorem dX9_ring_45 : decode cX9_ring 45 = .ok (.getfield 10, 3) := by decide +kernel
theorem dX9_ring_48 : decode cX9_ring 48 = .ok (.invokevirtual 74, 3) := by decide +kernel
theorem dX9_ring_51 : decode cX9_ring 51 = .ok (.return_, 1) := by decide +kernel
theorem dX9_point_0 : decode cX9_point 0 = .ok (.iload_n 1, 1) := by decide +kernel
theorem dX9_point_1 : decode cX9_point 1 = .ok (.invokestatic 77, 3) := by decide +kernel
theorem dX9_point_4 : decode cX9_point 4 = .ok (.ifCond .eq 10, 3) := by decide +kernel
theorem dX9_point_7 : decode cX9_point 7 = .ok (.iload_n 2, 1) := by decide +kernel
theorem dX9_point_8 : decode cX9_point 8 = .ok (.invokestatic 77, 3) := by decide +kernel
theorem dX9_point_11 : decode cX9_point 11 = .ok (.ifCond .ne 13, 3) := by decide +kernel
theorem dX9_point_14 : decode cX9_point 14 = .ok (.new 44, 3) := by decide +kernel
theorem dX9_point_17 : decode cX9_point 17 = .ok (.dup, 1) := by decide +kernel
theorem dX9_point_18 : decode cX9_point 18 = .ok (.ldc 80, 2) := by decide +kernel
theorem dX9_point_20 : decode cX9_point 20 = .ok (.invokespecial 48, 3) := by decide +kernel
theorem dX9_point_23 : decode cX9_point 23 = .ok (.athrow, 1) := by decide +kernel
theorem dX9_point_24 : decode cX9_point 24 = .ok (.aload_n 0, 1) := by decide +kernel
theorem dX9_point_25 : decode cX9_point 25 = .ok (.getfield 10, 3) := by decide +kernel
theorem dX9_point_28 : decode cX9_point 28 = .ok (.invokevirtual 82, 3) := by decide +kernel
theorem dX9_point_31 : decode cX9_point 31 = .ok (.ifCond .ne 13, 3) := by decide +kernel
theorem dX9_point_34 : decode cX9_point 34 = .ok (.new 55, 3) := by decide +kernel
theorem dX9_point_37 : decode cX9_point 37 = .ok (.dup, 1) := by decide +kernel
theorem dX9_point_38 : decode cX9_point 38 = .ok (.ldc 86, 2) := by decide +kernel
theorem dX9_point_40 : decode cX9_point 40 = .ok (.invokespecial 59, 3) := by decide +kernel
theorem dX9_point_43 : decode cX9_point 43 = .ok (.athrow, 1) := by decide +kernel
theorem dX9_point_44 : decode cX9_point 44 = .ok (.aload_n 0, 1) := by decide +kernel
theorem dX9_point_45 : decode cX9_point 45 = .ok (.getfield 10, 3) := by decide +kernel
theorem dX9_point_48 : decode cX9_point 48 = .ok (.invokevirtual 88, 3) := by decide +kernel
theorem dX9_point_51 : decode cX9_point 51 = .ok (.sipush 4096, 3) := by decide +kernel
theorem dX9_point_54 : decode cX9_point 54 = .ok (.if_icmp .lt 13, 3) := by decide +kernel
theorem dX9_point_57 : decode cX9_point 57 = .ok (.new 60, 3) := by decide +kernel
theorem dX9_point_60 : decode cX9_point 60 = .ok (.dup, 1) := by decide +kernel
theorem dX9_point_61 : decode cX9_point 61 = .ok (.ldc 91, 2) := by decide +kernel
theorem dX9_point_63 : decode cX9_point 63 = .ok (.invokespecial 64, 3) := by decide +kernel
theorem dX9_point_66 : decode cX9_point 66 = .ok (.athrow, 1) := by decide +kernel
theorem dX9_point_67 : decode cX9_point 67 = .ok (.aload_n 0, 1) := by decide +kernel
theorem dX9_point_68 : decode cX9_point 68 = .ok (.getfield 10, 3) := by decide +kernel
theorem dX9_point_71 : decode cX9_point 71 = .ok (.iload_n 1, 1) := by decide +kernel
theorem dX9_point_72 : decode cX9_point 72 = .ok (.iload_n 2, 1) := by decide +kernel
theorem dX9_point_73 : decode cX9_point 73 = .ok (.invokevirtual 93, 3) := by decide +kernel
theorem dX9_point_76 : decode cX9_point 76 = .ok (.ireturn, 1) := by decide +kernel
theorem dX9_close_0 : decode cX9_close 0 = .ok (.aload_n 0, 1) := by decide +kernel
theorem dX9_close_1 : decode cX9_close 1 = .ok (.getfield 10, 3) := by decide +kernel
theorem dX9_close_4 : decode cX9_close 4 = .ok (.invokevirtual 97, 3) := by decide +kernel
theorem dX9_close_7 : decode cX9_close 7 = .ok (.ifCond .ne 13, 3) := by decide +kernel
theorem dX9_close_10 : decode cX9_close 10 = .ok (.new 55, 3) := by decide +kernel
theorem dX9_close_13 : decode cX9_close 13 = .ok (.dup, 1) := by decide +kernel
theorem dX9_close_14 : decode cX9_close 14 = .ok (.ldc 100, 2) := by decide +kernel
theorem dX9_close_16 : decode cX9_close 16 = .ok (.invokespecial 59, 3) := by decide +kernel
theorem dX9_close_19 : decode cX9_close 19 = .ok (.athrow, 1) := by decide +kernel
theorem dX9_close_20 : decode cX9_close 20 = .ok (.aload_n 0, 1) := by decide +kernel
theorem dX9_close_21 : decode cX9_close 21 = .ok (.getfield 10, 3) := by decide +kernel
theorem dX9_close_24 : decode cX9_close 24 = .ok (.invokevirtual 102, 3) := by decide +kernel
theorem dX9_close_27 : decode cX9_close 27 = .ok (.ireturn, 1) := by decide +kernel
theorem dX9_judge_0 : decode cX9_judge 0 = .ok (.aload_n 0, 1) := by decide +kernel
theorem dX9_judge_1 : decode cX9_judge 1 = .ok (.getfield 10, 3) := by decide +kernel
theorem dX9_judge_4 : decode cX9_judge 4 = .ok (.invokevirtual 105, 3) := by decide +kernel
theorem dX9_judge_7 : decode cX9_judge 7 = .ok (.ifCond .ne 13, 3) := by decide +kernel
theorem dX9_judge_10 : decode cX9_judge 10 = .ok (.new 55, 3) := by decide +kernel
theorem dX9_judge_13 : decode cX9_judge 13 = .ok (.dup, 1) := by decide +kernel
theorem dX9_judge_14 : decode cX9_judge 14 = .ok (.ldc 108, 2) := by decide +kernel
theorem dX9_judge_16 : decode cX9_judge 16 = .ok (.invokespecial 59, 3) := by decide +kernel
theorem dX9_judge_19 : decode cX9_judge 19 = .ok (.athrow, 1) := by decide +kernel
theorem dX9_judge_20 : decode cX9_judge 20 = .ok (.aload_n 0, 1) := by decide +kernel
theorem dX9_judge_21 : decode cX9_judge 21 = .ok (.getfield 40, 3) := by decide +kernel
theorem dX9_judge_24 : decode cX9_judge 24 = .ok (.ifCond .ne 45, 3) := by decide +kernel
theorem dX9_judge_27 : decode cX9_judge 27 = .ok (.aload_n 0, 1) := by decide +kernel
theorem dX9_judge_28 : decode cX9_judge 28 = .ok (.iconst 1, 1) := by decide +kernel
theorem dX9_judge_29 : decode cX9_judge 29 = .ok (.putfield 40, 3) := by decide +kernel
theorem dX9_judge_32 : decode cX9_judge 32 = .ok (.iconst 0, 1) := by decide +kernel
theorem dX9_judge_33 : decode cX9_judge 33 = .ok (.istore_n 1, 1) := by decide +kernel
theorem dX9_judge_34 : decode cX9_judge 34 = .ok (.iload_n 1, 1) := by decide +kernel
theorem dX9_judge_35 : decode cX9_judge 35 = .ok (.aload_n 0, 1) := by decide +kernel
theorem dX9_judge_36 : decode cX9_judge 36 = .ok (.getfield 10, 3) := by decide +kernel
theorem dX9_judge_39 : decode cX9_judge 39 = .ok (.invokevirtual 110, 3) := by decide +kernel
theorem dX9_judge_42 : decode cX9_judge 42 = .ok (.if_icmp .ge 27, 3) := by decide +kernel
theorem dX9_judge_45 : decode cX9_judge 45 = .ok (.aload_n 0, 1) := by decide +kernel
theorem dX9_judge_46 : decode cX9_judge 46 = .ok (.getfield 19, 3) := by decide +kernel
theorem dX9_judge_49 : decode cX9_judge 49 = .ok (.invokevirtual 113, 3) := by decide +kernel
theorem dX9_judge_52 : decode cX9_judge 52 = .ok (.ifCond .ne 17, 3) := by decide +kernel
theorem dX9_judge_55 : decode cX9_judge 55 = .ok (.aload_n 0, 1) := by decide +kernel
theorem dX9_judge_56 : decode cX9_judge 56 = .ok (.getfield 28, 3) := by decide +kernel
theorem dX9_judge_59 : decode cX9_judge 59 = .ok (.iload_n 1, 1) := by decide +kernel
theorem dX9_judge_60 : decode cX9_judge 60 = .ok (.invokevirtual 116, 3) := by decide +kernel
theorem dX9_judge_63 : decode cX9_judge 63 = .ok (.iinc 1 1, 3) := by decide +kernel
theorem dX9_judge_66 : decode cX9_judge 66 = .ok (.goto (-32), 3) := by decide +kernel
theorem dX9_judge_69 : decode cX9_judge 69 = .ok (.aload_n 0, 1) := by decide +kernel
theorem dX9_judge_70 : decode cX9_judge 70 = .ok (.getfield 19, 3) := by decide +kernel
theorem dX9_judge_73 : decode cX9_judge 73 = .ok (.invokevirtual 120, 3) := by decide +kernel
theorem dX9_judge_76 : decode cX9_judge 76 = .ok (.ireturn, 1) := by decide +kernel
theorem dX9_place_0 : decode cX9_place 0 = .ok (.iload_n 1, 1) := by decide +kernel
theorem dX9_place_1 : decode cX9_place 1 = .ok (.ifCond .lt 9, 3) := by decide +kernel
theorem dX9_place_4 : decode cX9_place 4 = .ok (.iload_n 1, 1) := by decide +kernel
theorem dX9_place_5 : decode cX9_place 5 = .ok (.bipush 7, 2) := by decide +kernel
theorem dX9_place_7 : decode cX9_place 7 = .ok (.if_icmp .lt 13, 3) := by decide +kernel
theorem dX9_place_10 : decode cX9_place 10 = .ok (.new 123, 3) := by decide +kernel
theorem dX9_place_13 : decode cX9_place 13 = .ok (.dup, 1) := by decide +kernel
theorem dX9_place_14 : decode cX9_place 14 = .ok (.ldc 125, 2) := by decide +kernel
theorem dX9_place_16 : decode cX9_place 16 = .ok (.invokespecial 127, 3) := by decide +kernel
theorem dX9_place_19 : decode cX9_place 19 = .ok (.athrow, 1) := by decide +kernel
theorem dX9_place_20 : decode cX9_place 20 = .ok (.aload_n 0, 1) := by decide +kernel
theorem dX9_place_21 : decode cX9_place 21 = .ok (.getfield 19, 3) := by decide +kernel
theorem dX9_place_24 : decode cX9_place 24 = .ok (.iload_n 1, 1) := by decide +kernel
theorem dX9_place_25 : decode cX9_place 25 = .ok (.invokevirtual 128, 3) := by decide +kernel
theorem dX9_place_28 : decode cX9_place 28 = .ok (.ireturn, 1) := by decide +kernel
theorem dX9_isCoordinate_0 : decode cX9_isCoordinate 0 = .ok (.iload_n 0, 1) := by decide +kernel
theorem dX9_isCoordinate_1 : decode cX9_isCoordinate 1 = .ok (.ldc 131, 2) := by decide +kernel
theorem dX9_isCoordinate_3 : decode cX9_isCoordinate 3 = .ok (.if_icmp .lt 13, 3) := by decide +kernel
theorem dX9_isCoordinate_6 : decode cX9_isCoordinate 6 = .ok (.iload_n 0, 1) := by decide +kernel
theorem dX9_isCoordinate_7 : decode cX9_isCoordinate 7 = .ok (.ldc 132, 2) := by decide +kernel
theorem dX9_isCoordinate_9 : decode cX9_isCoordinate 9 = .ok (.if_icmp .gt 7, 3) := by decide +kernel
theorem dX9_isCoordinate_12 : decode cX9_isCoordinate 12 = .ok (.iconst 1, 1) := by decide +kernel
theorem dX9_isCoordinate_13 : decode cX9_isCoordinate 13 = .ok (.goto 4, 3) := by decide +kernel
theorem dX9_isCoordinate_16 : decode cX9_isCoordinate 16 = .ok (.iconst 0, 1) := by decide +kernel
theorem dX9_isCoordinate_17 : decode cX9_isCoordinate 17 = .ok (.ireturn, 1) := by decide +kernel
