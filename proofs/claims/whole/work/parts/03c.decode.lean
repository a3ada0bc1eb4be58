theorem dX0_init_0 : decode cX0_init 0 = .ok (.aload_n 0, 1) := by decide +kernel
theorem dX0_init_1 : decode cX0_init 1 = .ok (.iload_n 1, 1) := by decide +kernel
theorem dX0_init_2 : decode cX0_init 2 = .ok (.invokespecial 1, 3) := by decide +kernel
theorem dX0_init_5 : decode cX0_init 5 = .ok (.return_, 1) := by decide +kernel
theorem dX0_kind_0 : decode cX0_kind 0 = .ok (.iconst 4, 1) := by decide +kernel
theorem dX0_kind_1 : decode cX0_kind 1 = .ok (.ireturn, 1) := by decide +kernel
theorem dX0_takes_0 : decode cX0_takes 0 = .ok (.iconst 2, 1) := by decide +kernel
theorem dX0_takes_1 : decode cX0_takes 1 = .ok (.aload_n 0, 1) := by decide +kernel
theorem dX0_takes_2 : decode cX0_takes 2 = .ok (.iload_n 1, 1) := by decide +kernel
theorem dX0_takes_3 : decode cX0_takes 3 = .ok (.iload_n 2, 1) := by decide +kernel
theorem dX0_takes_4 : decode cX0_takes 4 = .ok (.invokespecial 7, 3) := by decide +kernel
theorem dX0_takes_7 : decode cX0_takes 7 = .ok (.imul, 1) := by decide +kernel
theorem dX0_takes_8 : decode cX0_takes 8 = .ok (.ireturn, 1) := by decide +kernel
theorem dX0_gives_0 : decode cX0_gives 0 = .ok (.aload_n 0, 1) := by decide +kernel
theorem dX0_gives_1 : decode cX0_gives 1 = .ok (.iload_n 1, 1) := by decide +kernel
theorem dX0_gives_2 : decode cX0_gives 2 = .ok (.iload_n 2, 1) := by decide +kernel
theorem dX0_gives_3 : decode cX0_gives 3 = .ok (.iload_n 3, 1) := by decide +kernel
theorem dX0_gives_4 : decode cX0_gives 4 = .ok (.invokespecial 11, 3) := by decide +kernel
theorem dX0_gives_7 : decode cX0_gives 7 = .ok (.iload_n 2, 1) := by decide +kernel
theorem dX0_gives_8 : decode cX0_gives 8 = .ok (.ifCond .ne 7, 3) := by decide +kernel
theorem dX0_gives_11 : decode cX0_gives 11 = .ok (.iconst 2, 1) := by decide +kernel
theorem dX0_gives_12 : decode cX0_gives 12 = .ok (.goto 4, 3) := by decide +kernel
theorem dX0_gives_15 : decode cX0_gives 15 = .ok (.iconst 0, 1) := by decide +kernel
theorem dX0_gives_16 : decode cX0_gives 16 = .ok (.iadd, 1) := by decide +kernel
theorem dX0_gives_17 : decode cX0_gives 17 = .ok (.ireturn, 1) := by decide +kernel
theorem dX1_init_0 : decode cX1_init 0 = .ok (.aload_n 0, 1) := by decide +kernel
theorem dX1_init_1 : decode cX1_init 1 = .ok (.iload_n 1, 1) := by decide +kernel
theorem dX1_init_2 : decode cX1_init 2 = .ok (.invokespecial 1, 3) := by decide +kernel
theorem dX1_init_5 : decode cX1_init 5 = .ok (.return_, 1) := by decide +kernel
theorem dX1_kind_0 : decode cX1_kind 0 = .ok (.iconst 2, 1) := by decide +kernel
theorem dX1_kind_1 : decode cX1_kind 1 = .ok (.ireturn, 1) := by decide +kernel
theorem dX1_takes_0 : decode cX1_takes 0 = .ok (.aload_n 0, 1) := by decide +kernel
theorem dX1_takes_1 : decode cX1_takes 1 = .ok (.iload_n 1, 1) := by decide +kernel
theorem dX1_takes_2 : decode cX1_takes 2 = .ok (.iload_n 2, 1) := by decide +kernel
theorem dX1_takes_3 : decode cX1_takes 3 = .ok (.invokespecial 7, 3) := by decide +kernel
theorem dX1_takes_6 : decode cX1_takes 6 = .ok (.aload_n 0, 1) := by decide +kernel
theorem dX1_takes_7 : decode cX1_takes 7 = .ok (.getfield 11, 3) := by decide +kernel
theorem dX1_takes_10 : decode cX1_takes 10 = .ok (.iconst 2, 1) := by decide +kernel
theorem dX1_takes_11 : decode cX1_takes 11 = .ok (.irem, 1) := by decide +kernel
theorem dX1_takes_12 : decode cX1_takes 12 = .ok (.iconst 1, 1) := by decide +kernel
theorem dX1_takes_13 : decode cX1_takes 13 = .ok (.if_icmp .ne 7, 3) := by decide +kernel
theorem dX1_takes_16 : decode cX1_takes 16 = .ok (.iconst 3, 1) := by decide +kernel
theorem dX1_takes_17 : decode cX1_takes 17 = .ok (.goto 4, 3) := by decide +kernel
theorem dX1_takes_20 : decode cX1_takes 20 = .ok (.iconst 0, 1) := by decide +kernel
theorem dX1_takes_21 : decode cX1_takes 21 = .ok (.iadd, 1) := by decide +kernel
theorem dX1_takes_22 : decode cX1_takes 22 = .ok (.ireturn, 1) := by decide +kernel
theorem dX1_gives_0 : decode cX1_gives 0 = .ok (.aload_n 0, 1) := by decide +kernel
theorem dX1_gives_1 : decode cX1_gives 1 = .ok (.iload_n 1, 1) := by decide +kernel
theorem dX1_gives_2 : decode cX1_gives 2 = .ok (.iload_n 2, 1) := by decide +kernel
theorem dX1_gives_3 : decode cX1_gives 3 = .ok (.iload_n 3, 1) := by decide +kernel
theorem dX1_gives_4 : decode cX1_gives 4 = .ok (.invokespecial 17, 3) := by decide +kernel
theorem dX1_gives_7 : decode cX1_gives 7 = .ok (.iconst 2, 1) := by decide +kernel
theorem dX1_gives_8 : decode cX1_gives 8 = .ok (.idiv, 1) := by decide +kernel
theorem dX1_gives_9 : decode cX1_gives 9 = .ok (.ireturn, 1) := by decide +kernel
theorem dX2_init_0 : decode cX2_init 0 = .ok (.aload_n 0, 1) := by decide +kernel
theorem dX2_init_1 : decode cX2_init 1 = .ok (.invokespecial 3, 3) := by decide +kernel
theorem dX2_init_4 : decode cX2_init 4 = .ok (.aload_n 0, 1) := by decide +kernel
theorem dX2_init_5 : decode cX2_init 5 = .ok (.iconst 0, 1) := by decide +kernel
theorem dX2_init_6 : decode cX2_init 6 = .ok (.putfield 9, 3) := by decide +kernel
theorem dX2_init_9 : decode cX2_init 9 = .ok (.aload_n 0, 1) := by decide +kernel
theorem dX2_init_10 : decode cX2_init 10 = .ok (.iconst 0, 1) := by decide +kernel
theorem dX2_init_11 : decode cX2_init 11 = .ok (.putfield 15, 3) := by decide +kernel
theorem dX2_init_14 : decode cX2_init 14 = .ok (.aload_n 0, 1) := by decide +kernel
theorem dX2_init_15 : decode cX2_init 15 = .ok (.iconst 0, 1) := by decide +kernel
theorem dX2_init_16 : decode cX2_init 16 = .ok (.putfield 18, 3) := by decide +kernel
theorem dX2_init_19 : decode cX2_init 19 = .ok (.aload_n 0, 1) := by decide +kernel
theorem dX2_init_20 : decode cX2_init 20 = .ok (.iconst 0, 1) := by decide +kernel
theorem dX2_init_21 : decode cX2_init 21 = .ok (.putfield 21, 3) := by decide +kernel
theorem dX2_init_24 : decode cX2_init 24 = .ok (.aload_n 0, 1) := by decide +kernel
theorem dX2_init_25 : decode cX2_init 25 = .ok (.iload_n 1, 1) := by decide +kernel
theorem dX2_init_26 : decode cX2_init 26 = .ok (.putfield 24, 3) := by decide +kernel
theorem dX2_init_29 : decode cX2_init 29 = .ok (.return_, 1) := by decide +kernel
theorem dX2_kind_0 : decode cX2_kind 0 = .ok (.iconst 0, 1) := by decide +kernel
theorem dX2_kind_1 : decode cX2_kind 1 = .ok (.ireturn, 1) := by decide +kernel
theorem dX2_takes_0 : decode cX2_takes 0 = .ok (.iconst 1, 1) := by decide +kernel
theorem dX2_takes_1 : decode cX2_takes 1 = .ok (.ireturn, 1) := by decide +kernel
theorem dX2_gives_0 : decode cX2_gives 0 = .ok (.iload_n 1, 1) := by decide +kernel
theorem dX2_gives_1 : decode cX2_gives 1 = .ok (.iload_n 2, 1) := by decide +kernel
theorem dX2_gives_2 : decode cX2_gives 2 = .ok (.isub, 1) := by decide +kernel
theorem dX2_gives_3 : decode cX2_gives 3 = .ok (.ireturn, 1) := by decide +kernel
theorem dX2_fact_0 : decode cX2_fact 0 = .ok (.iload_n 1, 1) := by decide +kernel
theorem dX2_fact_1 : decode cX2_fact 1 = .ok (.tableswitch 42 0 2 #[27, 32, 37], 27) := by decide +kernel
theorem dX2_fact_28 : decode cX2_fact 28 = .ok (.aload_n 0, 1) := by decide +kernel
theorem dX2_fact_29 : decode cX2_fact 29 = .ok (.getfield 9, 3) := by decide +kernel
theorem dX2_fact_32 : decode cX2_fact 32 = .ok (.ireturn, 1) := by decide +kernel
theorem dX2_fact_33 : decode cX2_fact 33 = .ok (.aload_n 0, 1) := by decide +kernel
theorem dX2_fact_34 : decode cX2_fact 34 = .ok (.getfield 15, 3) := by decide +kernel
theorem dX2_fact_37 : decode cX2_fact 37 = .ok (.ireturn, 1) := by decide +kernel
theorem dX2_fact_38 : decode cX2_fact 38 = .ok (.aload_n 0, 1) := by decide +kernel
theorem dX2_fact_39 : decode cX2_fact 39 = .ok (.getfield 18, 3) := by decide +kernel
theorem dX2_fact_42 : decode cX2_fact 42 = .ok (.ireturn, 1) := by decide +kernel
theorem dX2_fact_43 : decode cX2_fact 43 = .ok (.aload_n 0, 1) := by decide +kernel
theorem dX2_fact_44 : decode cX2_fact 44 = .ok (.getfield 21, 3) := by decide +kernel
theorem dX2_fact_47 : decode cX2_fact 47 = .ok (.ireturn, 1) := by decide +kernel
theorem dX2_change_0 : decode cX2_change 0 = .ok (.iload_n 1, 1) := by decide +kernel
theorem dX2_change_1 : decode cX2_change 1 = .ok (.tableswitch 51 0 2 #[27, 35, 43], 27) := by decide +kernel
theorem dX2_change_28 : decode cX2_change 28 = .ok (.aload_n 0, 1) := by decide +kernel
theorem dX2_change_29 : decode cX2_change 29 = .ok (.iload_n 2, 1) := by decide +kernel
theorem dX2_change_30 : decode cX2_change 30 = .ok (.putfield 9, 3) := by decide +kernel
theorem dX2_change_33 : decode cX2_change 33 = .ok (.goto 24, 3) := by decide +kernel
theorem dX2_change_36 : decode cX2_change 36 = .ok (.aload_n 0, 1) := by decide +kernel
theorem dX2_change_37 : decode cX2_change 37 = .ok (.iload_n 2, 1) := by decide +kernel
theorem dX2_change_38 : decode cX2_change 38 = .ok (.putfield 15, 3) := by decide +kernel
theorem dX2_change_41 : decode cX2_change 41 = .ok (.goto 16, 3) := by decide +kernel
theorem dX2_change_44 : decode cX2_change 44 = .ok (.aload_n 0, 1) := by decide +kernel
theorem dX2_change_45 : decode cX2_change 45 = .ok (.iload_n 2, 1) := by decide +kernel
theorem dX2_change_46 : decode cX2_change 46 = .ok (.putfield 18, 3) := by decide +kernel
theorem dX2_change_49 : decode cX2_change 49 = .ok (.goto 8, 3) := by decide +kernel
theorem dX2_change_52 : decode cX2_change 52 = .ok (.aload_n 0, 1) := by decide +kernel
theorem dX2_change_53 : decode cX2_change 53 = .ok (.iload_n 2, 1) := by decide +kernel
theorem dX2_change_54 : decode cX2_change 54 = .ok (.putfield 21, 3) := by decide +kernel
theorem dX2_change_57 : decode cX2_change 57 = .ok (.return_, 1) := by decide +kernel
theorem dX3_init_0 : decode cX3_init 0 = .ok (.aload_n 0, 1) := by decide +kernel
theorem dX3_init_1 : decode cX3_init 1 = .ok (.iload_n 1, 1) := by decide +kernel
theorem dX3_init_2 : decode cX3_init 2 = .ok (.invokespecial 1, 3) := by decide +kernel
theorem dX3_init_5 : decode cX3_init 5 = .ok (.return_, 1) := by decide +kernel
theorem dX3_kind_0 : decode cX3_kind 0 = .ok (.iconst 1, 1) := by decide +kernel
theorem dX3_kind_1 : decode cX3_kind 1 = .ok (.ireturn, 1) := by decide +kernel
theorem dX3_takes_0 : decode cX3_takes 0 = .ok (.aload_n 0, 1) := by decide +kernel
theorem dX3_takes_1 : decode cX3_takes 1 = .ok (.iload_n 1, 1) := by decide +kernel
theorem dX3_takes_2 : decode cX3_takes 2 = .ok (.iload_n 2, 1) := by decide +kernel
theorem dX3_takes_3 : decode cX3_takes 3 = .ok (.invokespecial 7, 3) := by decide +kernel
theorem dX3_takes_6 : decode cX3_takes 6 = .ok (.aload_n 0, 1) := by decide +kernel
theorem dX3_takes_7 : decode cX3_takes 7 = .ok (.getfield 11, 3) := by decide +kernel
theorem dX3_takes_10 : decode cX3_takes 10 = .ok (.iadd, 1) := by decide +kernel
theorem dX3_takes_11 : decode cX3_takes 11 = .ok (.ireturn, 1) := by decide +kernel
theorem dX4_init_0 : decode cX4_init 0 = .ok (.aload_n 0, 1) := by decide +kernel
theorem dX4_init_1 : decode cX4_init 1 = .ok (.invokespecial 3, 3) := by decide +kernel
theorem dX4_init_4 : decode cX4_init 4 = .ok (.aload_n 0, 1) := by decide +kernel
theorem dX4_init_5 : decode cX4_init 5 = .ok (.iconst 0, 1) := by decide +kernel
theorem dX4_init_6 : decode cX4_init 6 = .ok (.putfield 9, 3) := by decide +kernel
theorem dX4_init_9 : decode cX4_init 9 = .ok (.aload_n 0, 1) := by decide +kernel
theorem dX4_init_10 : decode cX4_init 10 = .ok (.iconst 0, 1) := by decide +kernel
theorem dX4_init_11 : decode cX4_init 11 = .ok (.putfield 15, 3) := by decide +kernel
theorem dX4_init_14 : decode cX4_init 14 = .ok (.aload_n 0, 1) := by decide +kernel
theorem dX4_init_15 : decode cX4_init 15 = .ok (.sipush 160, 3) := by decide +kernel
theorem dX4_init_18 : decode cX4_init 18 = .ok (.newarray .int, 2) := by decide +kernel
theorem dX4_init_20 : decode cX4_init 20 = .ok (.putfield 18, 3) := by decide +kernel
theorem dX4_init_23 : decode cX4_init 23 = .ok (.aload_n 0, 1) := by decide +kernel
theorem dX4_init_24 : decode cX4_init 24 = .ok (.sipush 160, 3) := by decide +kernel
theorem dX4_init_27 : decode cX4_init 27 = .ok (.newarray .int, 2) := by decide +kernel
theorem dX4_init_29 : decode cX4_init 29 = .ok (.putfield 22, 3) := by decide +kernel
theorem dX4_init_32 : decode cX4_init 32 = .ok (.aload_n 0, 1) := by decide +kernel
theorem dX4_init_33 : decode cX4_init 33 = .ok (.iconst 0, 1) := by decide +kernel
theorem dX4_init_34 : decode cX4_init 34 = .ok (.putfield 25, 3) := by decide +kernel
theorem dX4_init_37 : decode cX4_init 37 = .ok (.aload_n 0, 1) := by decide +kernel
theorem dX4_init_38 : decode cX4_init 38 = .ok (.iconst 0, 1) := by decide +kernel
theorem dX4_init_39 : decode cX4_init 39 = .ok (.putfield 28, 3) := by decide +kernel
theorem dX4_init_42 : decode cX4_init 42 = .ok (.aload_n 0, 1) := by decide +kernel
theorem dX4_init_43 : decode cX4_init 43 = .ok (.iconst 0, 1) := by decide +kernel
theorem dX4_init_44 : decode cX4_init 44 = .ok (.putfield 31, 3) := by decide +kernel
theorem dX4_init_47 : decode cX4_init 47 = .ok (.aload_n 0, 1) := by decide +kernel
theorem dX4_init_48 : decode cX4_init 48 = .ok (.iconst 0, 1) := by decide +kernel
theorem dX4_init_49 : decode cX4_init 49 = .ok (.putfield 34, 3) := by decide +kernel
theorem dX4_init_52 : decode cX4_init 52 = .ok (.return_, 1) := by decide +kernel
theorem dX4_isJoint_0 : decode cX4_isJoint 0 = .ok (.iload_n 0, 1) := by decide +kernel
theorem dX4_isJoint_1 : decode cX4_isJoint 1 = .ok (.bipush 6, 2) := by decide +kernel
theorem dX4_isJoint_3 : decode cX4_isJoint 3 = .ok (.if_icmp .eq 39, 3) := by decide +kernel
theorem dX4_isJoint_6 : decode cX4_isJoint 6 = .ok (.iload_n 0, 1) := by decide +kernel
theorem dX4_isJoint_7 : decode cX4_isJoint 7 = .ok (.bipush 7, 2) := by decide +kernel
theorem dX4_isJoint_9 : decode cX4_isJoint 9 = .ok (.if_icmp .eq 33, 3) := by decide +kernel
theorem dX4_isJoint_12 : decode cX4_isJoint 12 = .ok (.iload_n 0, 1) := by decide +kernel
theorem dX4_isJoint_13 : decode cX4_isJoint 13 = .ok (.bipush 60, 2) := by decide +kernel
theorem dX4_isJoint_15 : decode cX4_isJoint 15 = .ok (.if_icmp .eq 27, 3) := by decide +kernel
theorem dX4_isJoint_18 : decode cX4_isJoint 18 = .ok (.iload_n 0, 1) := by decide +kernel
theorem dX4_isJoint_19 : decode cX4_isJoint 19 = .ok (.bipush 61, 2) := by decide +kernel
theorem dX4_isJoint_21 : decode cX4_isJoint 21 = .ok (.if_icmp .eq 21, 3) := by decide +kernel
theorem dX4_isJoint_24 : decode cX4_isJoint 24 = .ok (.iload_n 0, 1) := by decide +kernel
theorem dX4_isJoint_25 : decode cX4_isJoint 25 = .ok (.bipush 43, 2) := by decide +kernel
theorem dX4_isJoint_27 : decode cX4_isJoint 27 = .ok (.if_icmp .eq 15, 3) := by decide +kernel
theorem dX4_isJoint_30 : decode cX4_isJoint 30 = .ok (.iload_n 0, 1) := by decide +kernel
theorem dX4_isJoint_31 : decode cX4_isJoint 31 = .ok (.bipush 45, 2) := by decide +kernel
theorem dX4_isJoint_33 : decode cX4_isJoint 33 = .ok (.if_icmp .eq 9, 3) := by decide +kernel
theorem dX4_isJoint_36 : decode cX4_isJoint 36 = .ok (.iload_n 0, 1) := by decide +kernel
theorem dX4_isJoint_37 : decode cX4_isJoint 37 = .ok (.bipush 42, 2) := by decide +kernel
theorem dX4_isJoint_39 : decode cX4_isJoint 39 = .ok (.if_icmp .ne 7, 3) := by decide +kernel
theorem dX4_isJoint_42 : decode cX4_isJoint 42 = .ok (.iconst 1, 1) := by decide +kernel
theorem dX4_isJoint_43 : decode cX4_isJoint 43 = .ok (.goto 4, 3) := by decide +kernel
theorem dX4_isJoint_46 : decode cX4_isJoint 46 = .ok (.iconst 0, 1) := by decide +kernel
theorem dX4_isJoint_47 : decode cX4_isJoint 47 = .ok (.ireturn, 1) := by decide +kernel
theorem dX4_append_0 : decode cX4_append 0 = .ok (.aload_n 0, 1) := by decide +kernel
theorem dX4_append_1 : decode cX4_append 1 = .ok (.getfield 9, 3) := by decide +kernel
theorem dX4_append_4 : decode cX4_append 4 = .ok (.sipush 160, 3) := by decide +kernel
theorem dX4_append_7 : decode cX4_append 7 = .ok (.if_icmp .ge 23, 3) := by decide +kernel
theorem dX4_append_10 : decode cX4_append 10 = .ok (.aload_n 0, 1) := by decide +kernel
theorem dX4_append_11 : decode cX4_append 11 = .ok (.getfield 18, 3) := by decide +kernel
theorem dX4_append_14 : decode cX4_append 14 = .ok (.aload_n 0, 1) := by decide +kernel
theorem dX4_append_15 : decode cX4_append 15 = .ok (.getfield 9, 3) := by decide +kernel
theorem dX4_append_18 : decode cX4_append 18 = .ok (.iload_n 1, 1) := by decide +kernel
theorem dX4_append_19 : decode cX4_append 19 = .ok (.iastore, 1) := by decide +kernel
theorem dX4_append_20 : decode cX4_append 20 = .ok (.aload_n 0, 1) := by decide +kernel
theorem dX4_append_21 : decode cX4_append 21 = .ok (.dup, 1) := by decide +kernel
theorem dX4_append_22 : decode cX4_append 22 = .ok (.getfield 9, 3) := by decide +kernel
theorem dX4_append_25 : decode cX4_append 25 = .ok (.iconst 1, 1) := by decide +kernel
theorem dX4_append_26 : decode cX4_append 26 = .ok (.iadd, 1) := by decide +kernel
theorem dX4_append_27 : decode cX4_append 27 = .ok (.putfield 9, 3) := by decide +kernel
theorem dX4_append_30 : decode cX4_append 30 = .ok (.return_, 1) := by decide +kernel
theorem dX4_clear_0 : decode cX4_clear 0 = .ok (.aload_n 0, 1) := by decide +kernel
theorem dX4_clear_1 : decode cX4_clear 1 = .ok (.iconst 0, 1) := by decide +kernel
theorem dX4_clear_2 : decode cX4_clear 2 = .ok (.putfield 9, 3) := by decide +kernel
theorem dX4_clear_5 : decode cX4_clear 5 = .ok (.return_, 1) := by decide +kernel
theorem dX4_read_0 : decode cX4_read 0 = .ok (.aload_n 0, 1) := by decide +kernel
theorem dX4_read_1 : decode cX4_read 1 = .ok (.iconst 0, 1) := by decide +kernel
theorem dX4_read_2 : decode cX4_read 2 = .ok (.putfield 28, 3) := by decide +kernel
theorem dX4_read_5 : decode cX4_read 5 = .ok (.aload_n 0, 1) := by decide +kernel
theorem dX4_read_6 : decode cX4_read 6 = .ok (.iconst 0, 1) := by decide +kernel
theorem dX4_read_7 : decode cX4_read 7 = .ok (.putfield 25, 3) := by decide +kernel
theorem dX4_read_10 : decode cX4_read 10 = .ok (.aload_n 0, 1) := by decide +kernel
theorem dX4_read_11 : decode cX4_read 11 = .ok (.invokevirtual 37, 3) := by decide +kernel
theorem dX4_read_14 : decode cX4_read 14 = .ok (.aload_n 0, 1) := by decide +kernel
theorem dX4_read_15 : decode cX4_read 15 = .ok (.iconst 3, 1) := by decide +kernel
theorem dX4_read_16 : decode cX4_read 16 = .ok (.invokevirtual 40, 3) := by decide +kernel
theorem dX4_read_19 : decode cX4_read 19 = .ok (.ifCond .ne 5, 3) := by decide +kernel
theorem dX4_read_22 : decode cX4_read 22 = .ok (.aconst_null, 1) := by decide +kernel
theorem dX4_read_23 : decode cX4_read 23 = .ok (.areturn, 1) := by decide +kernel
theorem dX4_read_24 : decode cX4_read 24 = .ok (.aload_n 0, 1) := by decide +kernel
theorem dX4_read_25 : decode cX4_read 25 = .ok (.getfield 25, 3) := by decide +kernel
theorem dX4_read_28 : decode cX4_read 28 = .ok (.istore_n 1, 1) := by decide +kernel
theorem dX4_read_29 : decode cX4_read 29 = .ok (.aload_n 0, 1) := by decide +kernel
theorem dX4_read_30 : decode cX4_read 30 = .ok (.iconst 4, 1) := by decide +kernel
theorem dX4_read_31 : decode cX4_read 31 = .ok (.invokevirtual 40, 3) := by decide +kernel
theorem dX4_read_34 : decode cX4_read 34 = .ok (.ifCond .ne 5, 3) := by decide +kernel
theorem dX4_read_37 : decode cX4_read 37 = .ok (.aconst_null, 1) := by decide +kernel
theorem dX4_read_38 : decode cX4_read 38 = .ok (.areturn, 1) := by decide +kernel
theorem dX4_read_39 : decode cX4_read 39 = .ok (.aload_n 0, 1) := by decide +kernel
theorem dX4_read_40 : decode cX4_read 40 = .ok (.getfield 25, 3) := by decide +kernel
theorem dX4_read_43 : decode cX4_read 43 = .ok (.istore_n 2, 1) := by decide +kernel
theorem dX4_read_44 : decode cX4_read 44 = .ok (.aload_n 0, 1) := by decide +kernel
theorem dX4_read_45 : decode cX4_read 45 = .ok (.iconst 5, 1) := by decide +kernel
theorem dX4_read_46 : decode cX4_read 46 = .ok (.invokevirtual 40, 3) := by decide +kernel
theorem dX4_read_49 : decode cX4_read 49 = .ok (.ifCond .eq 10, 3) := by decide +kernel
theorem dX4_read_52 : decode cX4_read 52 = .ok (.aload_n 0, 1) := by decide +kernel
theorem dX4_read_53 : decode cX4_read 53 = .ok (.getfield 31, 3) := by decide +kernel
theorem dX4_read_56 : decode cX4_read 56 = .ok (.ifCond .eq 5, 3) := by decide +kernel
theorem dX4_read_59 : decode cX4_read 59 = .ok (.aconst_null, 1) := by decide +kernel
theorem dX4_read_60 : decode cX4_read 60 = .ok (.areturn, 1) := by decide +kernel
theorem dX4_read_61 : decode cX4_read 61 = .ok (.new 44, 3) := by decide +kernel
theorem dX4_read_64 : decode cX4_read 64 = .ok (.dup, 1) := by decide +kernel
theorem dX4_read_65 : decode cX4_read 65 = .ok (.aload_n 0, 1) := by decide +kernel
theorem dX4_read_66 : decode cX4_read 66 = .ok (.getfield 22, 3) := by decide +kernel
theorem dX4_read_69 : decode cX4_read 69 = .ok (.aload_n 0, 1) := by decide +kernel
theorem dX4_read_70 : decode cX4_read 70 = .ok (.getfield 25, 3) := by decide +kernel
theorem dX4_read_73 : decode cX4_read 73 = .ok (.invokestatic 46, 3) := by decide +kernel
theorem dX4_read_76 : decode cX4_read 76 = .ok (.iload_n 1, 1) := by decide +kernel
theorem dX4_read_77 : decode cX4_read 77 = .ok (.iload_n 2, 1) := by decide +kernel
theorem dX4_read_78 : decode cX4_read 78 = .ok (.invokespecial 52, 3) := by decide +kernel
theorem dX4_read_81 : decode cX4_read 81 = .ok (.areturn, 1) := by decide +kernel
theorem dX4_part_0 : decode cX4_part 0 = .ok (.aload_n 0, 1) := by decide +kernel
theorem dX4_part_1 : decode cX4_part 1 = .ok (.iload_n 1, 1) := by decide +kernel
theorem dX4_part_2 : decode cX4_part 2 = .ok (.invokevirtual 55, 3) := by decide +kernel
theorem dX4_part_5 : decode cX4_part 5 = .ok (.ifCond .eq 24, 3) := by decide +kernel
theorem dX4_part_8 : decode cX4_part 8 = .ok (.aload_n 0, 1) := by decide +kernel
theorem dX4_part_9 : decode cX4_part 9 = .ok (.iconst 0, 1) := by decide +kernel
theorem dX4_part_10 : decode cX4_part 10 = .ok (.invokevirtual 58, 3) := by decide +kernel
theorem dX4_part_13 : decode cX4_part 13 = .ok (.ifCond .eq 16, 3) := by decide +kernel
theorem dX4_part_16 : decode cX4_part 16 = .ok (.aload_n 0, 1) := by decide +kernel
theorem dX4_part_17 : decode cX4_part 17 = .ok (.bipush 59, 2) := by decide +kernel
theorem dX4_part_19 : decode cX4_part 19 = .ok (.invokevirtual 55, 3) := by decide +kernel
theorem dX4_part_22 : decode cX4_part 22 = .ok (.ifCond .eq 7, 3) := by decide +kernel
theorem dX4_part_25 : decode cX4_part 25 = .ok (.iconst 1, 1) := by decide +kernel
theorem dX4_part_26 : decode cX4_part 26 = .ok (.goto 4, 3) := by decide +kernel
theorem dX4_part_29 : decode cX4_part 29 = .ok (.iconst 0, 1) := by decide +kernel
theorem dX4_part_30 : decode cX4_part 30 = .ok (.ireturn, 1) := by decide +kernel
theorem dX4_either_0 : decode cX4_either 0 = .ok (.aload_n 0, 1) := by decide +kernel
theorem dX4_either_1 : decode cX4_either 1 = .ok (.iload_n 1, 1) := by decide +kernel
theorem dX4_either_2 : decode cX4_either 2 = .ok (.invokevirtual 61, 3) := by decide +kernel
theorem dX4_either_5 : decode cX4_either 5 = .ok (.istore_n 2, 1) := by decide +kernel
theorem dX4_either_6 : decode cX4_either 6 = .ok (.iconst 0, 1) := by decide +kernel
theorem dX4_either_7 : decode cX4_either 7 = .ok (.istore_n 3, 1) := by decide +kernel
theorem dX4_either_8 : decode cX4_either 8 = .ok (.iload_n 3, 1) := by decide +kernel
theorem dX4_either_9 : decode cX4_either 9 = .ok (.sipush 160, 3) := by decide +kernel
theorem dX4_either_12 : decode cX4_either 12 = .ok (.if_icmp .ge 49, 3) := by decide +kernel
theorem dX4_either_15 : decode cX4_either 15 = .ok (.iload_n 2, 1) := by decide +kernel
theorem dX4_either_16 : decode cX4_either 16 = .ok (.ifCond .eq 45, 3) := by decide +kernel
theorem dX4_either_19 : decode cX4_either 19 = .ok (.aload_n 0, 1) := by decide +kernel
theorem dX4_either_20 : decode cX4_either 20 = .ok (.getfield 31, 3) := by decide +kernel
theorem dX4_either_23 : decode cX4_either 23 = .ok (.bipush 6, 2) := by decide +kernel
theorem dX4_either_25 : decode cX4_either 25 = .ok (.if_icmp .ne 36, 3) := by decide +kernel
theorem dX4_either_28 : decode cX4_either 28 = .ok (.aload_n 0, 1) := by decide +kernel
theorem dX4_either_29 : decode cX4_either 29 = .ok (.invokevirtual 37, 3) := by decide +kernel
theorem dX4_either_32 : decode cX4_either 32 = .ok (.aload_n 0, 1) := by decide +kernel
theorem dX4_either_33 : decode cX4_either 33 = .ok (.iload_n 1, 1) := by decide +kernel
theorem dX4_either_34 : decode cX4_either 34 = .ok (.invokevirtual 61, 3) := by decide +kernel
theorem dX4_either_37 : decode cX4_either 37 = .ok (.ifCond .eq 16, 3) := by decide +kernel
theorem dX4_either_40 : decode cX4_either 40 = .ok (.aload_n 0, 1) := by decide +kernel
theorem dX4_either_41 : decode cX4_either 41 = .ok (.bipush 6, 2) := by decide +kernel
theorem dX4_either_43 : decode cX4_either 43 = .ok (.invokevirtual 64, 3) := by decide +kernel
theorem dX4_either_46 : decode cX4_either 46 = .ok (.ifCond .eq 7, 3) := by decide +kernel
theorem dX4_either_49 : decode cX4_either 49 = .ok (.iconst 1, 1) := by decide +kernel
theorem dX4_either_50 : decode cX4_either 50 = .ok (.goto 4, 3) := by decide +kernel
theorem dX4_either_53 : decode cX4_either 53 = .ok (.iconst 0, 1) := by decide +kernel
theorem dX4_either_54 : decode cX4_either 54 = .ok (.istore_n 2, 1) := by decide +kernel
theorem dX4_either_55 : decode cX4_either 55 = .ok (.iinc 3 1, 3) := by decide +kernel
theorem dX4_either_58 : decode cX4_either 58 = .ok (.goto (-50), 3) := by decide +kernel
theorem dX4_either_61 : decode cX4_either 61 = .ok (.iload_n 2, 1) := by decide +kernel
theorem dX4_either_62 : decode cX4_either 62 = .ok (.ireturn, 1) := by decide +kernel
theorem dX4_both_0 : decode cX4_both 0 = .ok (.aload_n 0, 1) := by decide +kernel
theorem dX4_both_1 : decode cX4_both 1 = .ok (.iload_n 1, 1) := by decide +kernel
theorem dX4_both_2 : decode cX4_both 2 = .ok (.invokevirtual 67, 3) := by decide +kernel
theorem dX4_both_5 : decode cX4_both 5 = .ok (.istore_n 2, 1) := by decide +kernel
theorem dX4_both_6 : decode cX4_both 6 = .ok (.iconst 0, 1) := by decide +kernel
theorem dX4_both_7 : decode cX4_both 7 = .ok (.istore_n 3, 1) := by decide +kernel
theorem dX4_both_8 : decode cX4_both 8 = .ok (.iload_n 3, 1) := by decide +kernel
theorem dX4_both_9 : decode cX4_both 9 = .ok (.sipush 160, 3) := by decide +kernel
theorem dX4_both_12 : decode cX4_both 12 = .ok (.if_icmp .ge 49, 3) := by decide +kernel
theorem dX4_both_15 : decode cX4_both 15 = .ok (.iload_n 2, 1) := by decide +kernel
theorem dX4_both_16 : decode cX4_both 16 = .ok (.ifCond .eq 45, 3) := by decide +kernel
theorem dX4_both_19 : decode cX4_both 19 = .ok (.aload_n 0, 1) := by decide +kernel
theorem dX4_both_20 : decode cX4_both 20 = .ok (.getfield 31, 3) := by decide +kernel
theorem dX4_both_23 : decode cX4_both 23 = .ok (.bipush 7, 2) := by decide +kernel
theorem dX4_both_25 : decode cX4_both 25 = .ok (.if_icmp .ne 36, 3) := by decide +kernel
theorem dX4_both_28 : decode cX4_both 28 = .ok (.aload_n 0, 1) := by decide +kernel
theorem dX4_both_29 : decode cX4_both 29 = .ok (.invokevirtual 37, 3) := by decide +kernel
theorem dX4_both_32 : decode cX4_both 32 = .ok (.aload_n 0, 1) := by decide +kernel
theorem dX4_both_33 : decode cX4_both 33 = .ok (.iload_n 1, 1) := by decide +kernel
theorem dX4_both_34 : decode cX4_both 34 = .ok (.invokevirtual 67, 3) := by decide +kernel
theorem dX4_both_37 : decode cX4_both 37 = .ok (.ifCond .eq 16, 3) := by decide +kernel
theorem dX4_both_40 : decode cX4_both 40 = .ok (.aload_n 0, 1) := by decide +kernel
theorem dX4_both_41 : decode cX4_both 41 = .ok (.bipush 7, 2) := by decide +kernel
theorem dX4_both_43 : decode cX4_both 43 = .ok (.invokevirtual 64, 3) := by decide +kernel
theorem dX4_both_46 : decode cX4_both 46 = .ok (.ifCond .eq 7, 3) := by decide +kernel
theorem dX4_both_49 : decode cX4_both 49 = .ok (.iconst 1, 1) := by decide +kernel
theorem dX4_both_50 : decode cX4_both 50 = .ok (.goto 4, 3) := by decide +kernel
theorem dX4_both_53 : decode cX4_both 53 = .ok (.iconst 0, 1) := by decide +kernel
theorem dX4_both_54 : decode cX4_both 54 = .ok (.istore_n 2, 1) := by decide +kernel
theorem dX4_both_55 : decode cX4_both 55 = .ok (.iinc 3 1, 3) := by decide +kernel
theorem dX4_both_58 : decode cX4_both 58 = .ok (.goto (-50), 3) := by decide +kernel
theorem dX4_both_61 : decode cX4_both 61 = .ok (.iload_n 2, 1) := by decide +kernel
theorem dX4_both_62 : decode cX4_both 62 = .ok (.ireturn, 1) := by decide +kernel
theorem dX4_negated_0 : decode cX4_negated 0 = .ok (.aload_n 0, 1) := by decide +kernel
theorem dX4_negated_1 : decode cX4_negated 1 = .ok (.getfield 31, 3) := by decide +kernel
theorem dX4_negated_4 : decode cX4_negated 4 = .ok (.bipush 8, 2) := by decide +kernel
theorem dX4_negated_6 : decode cX4_negated 6 = .ok (.if_icmp .eq 9, 3) := by decide +kernel
theorem dX4_negated_9 : decode cX4_negated 9 = .ok (.aload_n 0, 1) := by decide +kernel
theorem dX4_negated_10 : decode cX4_negated 10 = .ok (.iload_n 1, 1) := by decide +kernel
theorem dX4_negated_11 : decode cX4_negated 11 = .ok (.invokevirtual 70, 3) := by decide +kernel
theorem dX4_negated_14 : decode cX4_negated 14 = .ok (.ireturn, 1) := by decide +kernel
theorem dX4_negated_15 : decode cX4_negated 15 = .ok (.iload_n 1, 1) := by decide +kernel
theorem dX4_negated_16 : decode cX4_negated 16 = .ok (.iconst 5, 1) := by decide +kernel
theorem dX4_negated_17 : decode cX4_negated 17 = .ok (.if_icmp .ge 26, 3) := by decide +kernel
theorem dX4_negated_20 : decode cX4_negated 20 = .ok (.aload_n 0, 1) := by decide +kernel
theorem dX4_negated_21 : decode cX4_negated 21 = .ok (.bipush 8, 2) := by decide +kernel
theorem dX4_negated_23 : decode cX4_negated 23 = .ok (.invokevirtual 55, 3) := by decide +kernel
theorem dX4_negated_26 : decode cX4_negated 26 = .ok (.ifCond .eq 17, 3) := by decide +kernel
theorem dX4_negated_29 : decode cX4_negated 29 = .ok (.aload_n 0, 1) := by decide +kernel
theorem dX4_negated_30 : decode cX4_negated 30 = .ok (.iload_n 1, 1) := by decide +kernel
theorem dX4_negated_31 : decode cX4_negated 31 = .ok (.iconst 1, 1) := by decide +kernel
theorem dX4_negated_32 : decode cX4_negated 32 = .ok (.iadd, 1) := by decide +kernel
theorem dX4_negated_33 : decode cX4_negated 33 = .ok (.invokevirtual 73, 3) := by decide +kernel
theorem dX4_negated_36 : decode cX4_negated 36 = .ok (.ifCond .eq 7, 3) := by decide +kernel
theorem dX4_negated_39 : decode cX4_negated 39 = .ok (.iconst 1, 1) := by decide +kernel
theorem dX4_negated_40 : decode cX4_negated 40 = .ok (.goto 4, 3) := by decide +kernel
theorem dX4_negated_43 : decode cX4_negated 43 = .ok (.iconst 0, 1) := by decide +kernel
theorem dX4_negated_44 : decode cX4_negated 44 = .ok (.ireturn, 1) := by decide +kernel
theorem dX4_behindNot_0 : decode cX4_behindNot 0 = .ok (.aload_n 0, 1) := by decide +kernel
theorem dX4_behindNot_1 : decode cX4_behindNot 1 = .ok (.iload_n 1, 1) := by decide +kernel
theorem dX4_behindNot_2 : decode cX4_behindNot 2 = .ok (.invokevirtual 67, 3) := by decide +kernel
theorem dX4_behindNot_5 : decode cX4_behindNot 5 = .ok (.ifCond .eq 16, 3) := by decide +kernel
theorem dX4_behindNot_8 : decode cX4_behindNot 8 = .ok (.aload_n 0, 1) := by decide +kernel
theorem dX4_behindNot_9 : decode cX4_behindNot 9 = .ok (.bipush 8, 2) := by decide +kernel
theorem dX4_behindNot_11 : decode cX4_behindNot 11 = .ok (.invokevirtual 64, 3) := by decide +kernel
theorem dX4_behindNot_14 : decode cX4_behindNot 14 = .ok (.ifCond .eq 7, 3) := by decide +kernel
theorem dX4_behindNot_17 : decode cX4_behindNot 17 = .ok (.iconst 1, 1) := by decide +kernel
theorem dX4_behindNot_18 : decode cX4_behindNot 18 = .ok (.goto 4, 3) := by decide +kernel
theorem dX4_behindNot_21 : decode cX4_behindNot 21 = .ok (.iconst 0, 1) := by decide +kernel
theorem dX4_behindNot_22 : decode cX4_behindNot 22 = .ok (.ireturn, 1) := by decide +kernel
theorem dX4_compared_0 : decode cX4_compared 0 = .ok (.aload_n 0, 1) := by decide +kernel
theorem dX4_compared_1 : decode cX4_compared 1 = .ok (.iload_n 1, 1) := by decide +kernel
theorem dX4_compared_2 : decode cX4_compared 2 = .ok (.invokevirtual 76, 3) := by decide +kernel
theorem dX4_compared_5 : decode cX4_compared 5 = .ok (.ifCond .ne 5, 3) := by decide +kernel
theorem dX4_compared_8 : decode cX4_compared 8 = .ok (.iconst 0, 1) := by decide +kernel
theorem dX4_compared_9 : decode cX4_compared 9 = .ok (.ireturn, 1) := by decide +kernel
theorem dX4_compared_10 : decode cX4_compared 10 = .ok (.aload_n 0, 1) := by decide +kernel
theorem dX4_compared_11 : decode cX4_compared 11 = .ok (.getfield 31, 3) := by decide +kernel
theorem dX4_compared_14 : decode cX4_compared 14 = .ok (.istore_n 2, 1) := by decide +kernel
theorem dX4_compared_15 : decode cX4_compared 15 = .ok (.iload_n 2, 1) := by decide +kernel
theorem dX4_compared_16 : decode cX4_compared 16 = .ok (.bipush 60, 2) := by decide +kernel
theorem dX4_compared_18 : decode cX4_compared 18 = .ok (.if_icmp .eq 11, 3) := by decide +kernel
theorem dX4_compared_21 : decode cX4_compared 21 = .ok (.iload_n 2, 1) := by decide +kernel
theorem dX4_compared_22 : decode cX4_compared 22 = .ok (.bipush 61, 2) := by decide +kernel
theorem dX4_compared_24 : decode cX4_compared 24 = .ok (.if_icmp .eq 5, 3) := by decide +kernel
theorem dX4_compared_27 : decode cX4_compared 27 = .ok (.iconst 1, 1) := by decide +kernel
theorem dX4_compared_28 : decode cX4_compared 28 = .ok (.ireturn, 1) := by decide +kernel
theorem dX4_compared_29 : decode cX4_compared 29 = .ok (.aload_n 0, 1) := by decide +kernel
theorem dX4_compared_30 : decode cX4_compared 30 = .ok (.invokevirtual 37, 3) := by decide +kernel
theorem dX4_compared_33 : decode cX4_compared 33 = .ok (.aload_n 0, 1) := by decide +kernel
theorem dX4_compared_34 : decode cX4_compared 34 = .ok (.iload_n 1, 1) := by decide +kernel
theorem dX4_compared_35 : decode cX4_compared 35 = .ok (.invokevirtual 76, 3) := by decide +kernel
theorem dX4_compared_38 : decode cX4_compared 38 = .ok (.ifCond .eq 15, 3) := by decide +kernel
theorem dX4_compared_41 : decode cX4_compared 41 = .ok (.aload_n 0, 1) := by decide +kernel
theorem dX4_compared_42 : decode cX4_compared 42 = .ok (.iload_n 2, 1) := by decide +kernel
theorem dX4_compared_43 : decode cX4_compared 43 = .ok (.invokevirtual 64, 3) := by decide +kernel
theorem dX4_compared_46 : decode cX4_compared 46 = .ok (.ifCond .eq 7, 3) := by decide +kernel
theorem dX4_compared_49 : decode cX4_compared 49 = .ok (.iconst 1, 1) := by decide +kernel
theorem dX4_compared_50 : decode cX4_compared 50 = .ok (.goto 4, 3) := by decide +kernel
theorem dX4_compared_53 : decode cX4_compared 53 = .ok (.iconst 0, 1) := by decide +kernel
theorem dX4_compared_54 : decode cX4_compared 54 = .ok (.ireturn, 1) := by decide +kernel
theorem dX4_sum_0 : decode cX4_sum 0 = .ok (.aload_n 0, 1) := by decide +kernel
theorem dX4_sum_1 : decode cX4_sum 1 = .ok (.iload_n 1, 1) := by decide +kernel
theorem dX4_sum_2 : decode cX4_sum 2 = .ok (.invokevirtual 79, 3) := by decide +kernel
theorem dX4_sum_5 : decode cX4_sum 5 = .ok (.istore_n 2, 1) := by decide +kernel
theorem dX4_sum_6 : decode cX4_sum 6 = .ok (.iconst 0, 1) := by decide +kernel
theorem dX4_sum_7 : decode cX4_sum 7 = .ok (.istore_n 3, 1) := by decide +kernel
theorem dX4_sum_8 : decode cX4_sum 8 = .ok (.iload_n 3, 1) := by decide +kernel
theorem dX4_sum_9 : decode cX4_sum 9 = .ok (.sipush 160, 3) := by decide +kernel
theorem dX4_sum_12 : decode cX4_sum 12 = .ok (.if_icmp .ge 64, 3) := by decide +kernel
theorem dX4_sum_15 : decode cX4_sum 15 = .ok (.iload_n 2, 1) := by decide +kernel
theorem dX4_sum_16 : decode cX4_sum 16 = .ok (.ifCond .eq 60, 3) := by decide +kernel
theorem dX4_sum_19 : decode cX4_sum 19 = .ok (.aload_n 0, 1) := by decide +kernel
theorem dX4_sum_20 : decode cX4_sum 20 = .ok (.getfield 31, 3) := by decide +kernel
theorem dX4_sum_23 : decode cX4_sum 23 = .ok (.bipush 43, 2) := by decide +kernel
theorem dX4_sum_25 : decode cX4_sum 25 = .ok (.if_icmp .eq 12, 3) := by decide +kernel
theorem dX4_sum_28 : decode cX4_sum 28 = .ok (.aload_n 0, 1) := by decide +kernel
theorem dX4_sum_29 : decode cX4_sum 29 = .ok (.getfield 31, 3) := by decide +kernel
theorem dX4_sum_32 : decode cX4_sum 32 = .ok (.bipush 45, 2) := by decide +kernel
theorem dX4_sum_34 : decode cX4_sum 34 = .ok (.if_icmp .ne 42, 3) := by decide +kernel
theorem dX4_sum_37 : decode cX4_sum 37 = .ok (.aload_n 0, 1) := by decide +kernel
theorem dX4_sum_38 : decode cX4_sum 38 = .ok (.getfield 31, 3) := by decide +kernel
theorem dX4_sum_41 : decode cX4_sum 41 = .ok (.istore 4, 2) := by decide +kernel
theorem dX4_sum_43 : decode cX4_sum 43 = .ok (.aload_n 0, 1) := by decide +kernel
theorem dX4_sum_44 : decode cX4_sum 44 = .ok (.invokevirtual 37, 3) := by decide +kernel
theorem dX4_sum_47 : decode cX4_sum 47 = .ok (.aload_n 0, 1) := by decide +kernel
theorem dX4_sum_48 : decode cX4_sum 48 = .ok (.iload_n 1, 1) := by decide +kernel
theorem dX4_sum_49 : decode cX4_sum 49 = .ok (.invokevirtual 79, 3) := by decide +kernel
theorem dX4_sum_52 : decode cX4_sum 52 = .ok (.ifCond .eq 16, 3) := by decide +kernel
theorem dX4_sum_55 : decode cX4_sum 55 = .ok (.aload_n 0, 1) := by decide +kernel
theorem dX4_sum_56 : decode cX4_sum 56 = .ok (.iload 4, 2) := by decide +kernel
theorem dX4_sum_58 : decode cX4_sum 58 = .ok (.invokevirtual 64, 3) := by decide +kernel
theorem dX4_sum_61 : decode cX4_sum 61 = .ok (.ifCond .eq 7, 3) := by decide +kernel
theorem dX4_sum_64 : decode cX4_sum 64 = .ok (.iconst 1, 1) := by decide +kernel
theorem dX4_sum_65 : decode cX4_sum 65 = .ok (.goto 4, 3) := by decide +kernel
theorem dX4_sum_68 : decode cX4_sum 68 = .ok (.iconst 0, 1) := by decide +kernel
theorem dX4_sum_69 : decode cX4_sum 69 = .ok (.istore_n 2, 1) := by decide +kernel
theorem dX4_sum_70 : decode cX4_sum 70 = .ok (.iinc 3 1, 3) := by decide +kernel
theorem dX4_sum_73 : decode cX4_sum 73 = .ok (.goto (-65), 3) := by decide +kernel
theorem dX4_sum_76 : decode cX4_sum 76 = .ok (.iload_n 2, 1) := by decide +kernel
theorem dX4_sum_77 : decode cX4_sum 77 = .ok (.ireturn, 1) := by decide +kernel
theorem dX4_term_0 : decode cX4_term 0 = .ok (.aload_n 0, 1) := by decide +kernel
theorem dX4_term_1 : decode cX4_term 1 = .ok (.iload_n 1, 1) := by decide +kernel
theorem dX4_term_2 : decode cX4_term 2 = .ok (.invokevirtual 82, 3) := by decide +kernel
theorem dX4_term_5 : decode cX4_term 5 = .ok (.istore_n 2, 1) := by decide +kernel
theorem dX4_term_6 : decode cX4_term 6 = .ok (.iconst 0, 1) := by decide +kernel
theorem dX4_term_7 : decode cX4_term 7 = .ok (.istore_n 3, 1) := by decide +kernel
theorem dX4_term_8 : decode cX4_term 8 = .ok (.iload_n 3, 1) := by decide +kernel
theorem dX4_term_9 : decode cX4_term 9 = .ok (.sipush 160, 3) := by decide +kernel
theorem dX4_term_12 : decode cX4_term 12 = .ok (.if_icmp .ge 49, 3) := by decide +kernel
theorem dX4_term_15 : decode cX4_term 15 = .ok (.iload_n 2, 1) := by decide +kernel
theorem dX4_term_16 : decode cX4_term 16 = .ok (.ifCond .eq 45, 3) := by decide +kernel
theorem dX4_term_19 : decode cX4_term 19 = .ok (.aload_n 0, 1) := by decide +kernel
theorem dX4_term_20 : decode cX4_term 20 = .ok (.getfield 31, 3) := by decide +kernel
theorem dX4_term_23 : decode cX4_term 23 = .ok (.bipush 42, 2) := by decide +kernel
theorem dX4_term_25 : decode cX4_term 25 = .ok (.if_icmp .ne 36, 3) := by decide +kernel
theorem dX4_term_28 : decode cX4_term 28 = .ok (.aload_n 0, 1) := by decide +kernel
theorem dX4_term_29 : decode cX4_term 29 = .ok (.invokevirtual 37, 3) := by decide +kernel
theorem dX4_term_32 : decode cX4_term 32 = .ok (.aload_n 0, 1) := by decide +kernel
theorem dX4_term_33 : decode cX4_term 33 = .ok (.iload_n 1, 1) := by decide +kernel
theorem dX4_term_34 : decode cX4_term 34 = .ok (.invokevirtual 82, 3) := by decide +kernel
theorem dX4_term_37 : decode cX4_term 37 = .ok (.ifCond .eq 16, 3) := by decide +kernel
theorem dX4_term_40 : decode cX4_term 40 = .ok (.aload_n 0, 1) := by decide +kernel
theorem dX4_term_41 : decode cX4_term 41 = .ok (.bipush 42, 2) := by decide +kernel
theorem dX4_term_43 : decode cX4_term 43 = .ok (.invokevirtual 64, 3) := by decide +kernel
theorem dX4_term_46 : decode cX4_term 46 = .ok (.ifCond .eq 7, 3) := by decide +kernel
theorem dX4_term_49 : decode cX4_term 49 = .ok (.iconst 1, 1) := by decide +kernel
theorem dX4_term_50 : decode cX4_term 50 = .ok (.goto 4, 3) := by decide +kernel
theorem dX4_term_53 : decode cX4_term 53 = .ok (.iconst 0, 1) := by decide +kernel
theorem dX4_term_54 : decode cX4_term 54 = .ok (.istore_n 2, 1) := by decide +kernel
theorem dX4_term_55 : decode cX4_term 55 = .ok (.iinc 3 1, 3) := by decide +kernel
theorem dX4_term_58 : decode cX4_term 58 = .ok (.goto (-50), 3) := by decide +kernel
theorem dX4_term_61 : decode cX4_term 61 = .ok (.iload_n 2, 1) := by decide +kernel
theorem dX4_term_62 : decode cX4_term 62 = .ok (.ireturn, 1) := by decide +kernel
theorem dX4_one_0 : decode cX4_one 0 = .ok (.aload_n 0, 1) := by decide +kernel
theorem dX4_one_1 : decode cX4_one 1 = .ok (.getfield 31, 3) := by decide +kernel
theorem dX4_one_4 : decode cX4_one 4 = .ok (.iconst 2, 1) := by decide +kernel
theorem dX4_one_5 : decode cX4_one 5 = .ok (.if_icmp .ne 23, 3) := by decide +kernel
theorem dX4_one_8 : decode cX4_one 8 = .ok (.aload_n 0, 1) := by decide +kernel
theorem dX4_one_9 : decode cX4_one 9 = .ok (.iconst 2, 1) := by decide +kernel
theorem dX4_one_10 : decode cX4_one 10 = .ok (.aload_n 0, 1) := by decide +kernel
theorem dX4_one_11 : decode cX4_one 11 = .ok (.getfield 34, 3) := by decide +kernel
theorem dX4_one_14 : decode cX4_one 14 = .ok (.bipush 6, 2) := by decide +kernel
theorem dX4_one_16 : decode cX4_one 16 = .ok (.ishl, 1) := by decide +kernel
theorem dX4_one_17 : decode cX4_one 17 = .ok (.iadd, 1) := by decide +kernel
theorem dX4_one_18 : decode cX4_one 18 = .ok (.invokevirtual 64, 3) := by decide +kernel
theorem dX4_one_21 : decode cX4_one 21 = .ok (.pop, 1) := by decide +kernel
theorem dX4_one_22 : decode cX4_one 22 = .ok (.aload_n 0, 1) := by decide +kernel
theorem dX4_one_23 : decode cX4_one 23 = .ok (.iconst 2, 1) := by decide +kernel
theorem dX4_one_24 : decode cX4_one 24 = .ok (.invokevirtual 55, 3) := by decide +kernel
theorem dX4_one_27 : decode cX4_one 27 = .ok (.ireturn, 1) := by decide +kernel
theorem dX4_one_28 : decode cX4_one 28 = .ok (.aload_n 0, 1) := by decide +kernel
theorem dX4_one_29 : decode cX4_one 29 = .ok (.getfield 31, 3) := by decide +kernel
theorem dX4_one_32 : decode cX4_one 32 = .ok (.bipush 10, 2) := by decide +kernel
theorem dX4_one_34 : decode cX4_one 34 = .ok (.if_icmp .lt 30, 3) := by decide +kernel
theorem dX4_one_37 : decode cX4_one 37 = .ok (.aload_n 0, 1) := by decide +kernel
theorem dX4_one_38 : decode cX4_one 38 = .ok (.getfield 31, 3) := by decide +kernel
theorem dX4_one_41 : decode cX4_one 41 = .ok (.bipush 15, 2) := by decide +kernel
theorem dX4_one_43 : decode cX4_one 43 = .ok (.if_icmp .gt 21, 3) := by decide +kernel
theorem dX4_one_46 : decode cX4_one 46 = .ok (.aload_n 0, 1) := by decide +kernel
theorem dX4_one_47 : decode cX4_one 47 = .ok (.aload_n 0, 1) := by decide +kernel
theorem dX4_one_48 : decode cX4_one 48 = .ok (.getfield 31, 3) := by decide +kernel
theorem dX4_one_51 : decode cX4_one 51 = .ok (.invokevirtual 64, 3) := by decide +kernel
theorem dX4_one_54 : decode cX4_one 54 = .ok (.pop, 1) := by decide +kernel
theorem dX4_one_55 : decode cX4_one 55 = .ok (.aload_n 0, 1) := by decide +kernel
theorem dX4_one_56 : decode cX4_one 56 = .ok (.aload_n 0, 1) := by decide +kernel
theorem dX4_one_57 : decode cX4_one 57 = .ok (.getfield 31, 3) := by decide +kernel
theorem dX4_one_60 : decode cX4_one 60 = .ok (.invokevirtual 55, 3) := by decide +kernel
theorem dX4_one_63 : decode cX4_one 63 = .ok (.ireturn, 1) := by decide +kernel
theorem dX4_one_64 : decode cX4_one 64 = .ok (.aload_n 0, 1) := by decide +kernel
theorem dX4_one_65 : decode cX4_one 65 = .ok (.getfield 31, 3) := by decide +kernel
theorem dX4_one_68 : decode cX4_one 68 = .ok (.bipush 45, 2) := by decide +kernel
theorem dX4_one_70 : decode cX4_one 70 = .ok (.if_icmp .eq 12, 3) := by decide +kernel
theorem dX4_one_73 : decode cX4_one 73 = .ok (.aload_n 0, 1) := by decide +kernel
theorem dX4_one_74 : decode cX4_one 74 = .ok (.getfield 31, 3) := by decide +kernel
theorem dX4_one_77 : decode cX4_one 77 = .ok (.bipush 40, 2) := by decide +kernel
theorem dX4_one_79 : decode cX4_one 79 = .ok (.if_icmp .ne 8, 3) := by decide +kernel
theorem dX4_one_82 : decode cX4_one 82 = .ok (.iload_n 1, 1) := by decide +kernel
theorem dX4_one_83 : decode cX4_one 83 = .ok (.iconst 5, 1) := by decide +kernel
theorem dX4_one_84 : decode cX4_one 84 = .ok (.if_icmp .lt 5, 3) := by decide +kernel
theorem dX4_one_87 : decode cX4_one 87 = .ok (.iconst 0, 1) := by decide +kernel
theorem dX4_one_88 : decode cX4_one 88 = .ok (.ireturn, 1) := by decide +kernel
theorem dX4_one_89 : decode cX4_one 89 = .ok (.aload_n 0, 1) := by decide +kernel
theorem dX4_one_90 : decode cX4_one 90 = .ok (.bipush 45, 2) := by decide +kernel
theorem dX4_one_92 : decode cX4_one 92 = .ok (.invokevirtual 55, 3) := by decide +kernel
theorem dX4_one_95 : decode cX4_one 95 = .ok (.ifCond .eq 11, 3) := by decide +kernel
theorem dX4_one_98 : decode cX4_one 98 = .ok (.aload_n 0, 1) := by decide +kernel
theorem dX4_one_99 : decode cX4_one 99 = .ok (.iload_n 1, 1) := by decide +kernel
theorem dX4_one_100 : decode cX4_one 100 = .ok (.iconst 1, 1) := by decide +kernel
theorem dX4_one_101 : decode cX4_one 101 = .ok (.iadd, 1) := by decide +kernel
theorem dX4_one_102 : decode cX4_one 102 = .ok (.invokevirtual 85, 3) := by decide +kernel
theorem dX4_one_105 : decode cX4_one 105 = .ok (.ireturn, 1) := by decide +kernel
theorem dX4_one_106 : decode cX4_one 106 = .ok (.aload_n 0, 1) := by decide +kernel
theorem dX4_one_107 : decode cX4_one 107 = .ok (.bipush 40, 2) := by decide +kernel
theorem dX4_one_109 : decode cX4_one 109 = .ok (.invokevirtual 55, 3) := by decide +kernel
theorem dX4_one_112 : decode cX4_one 112 = .ok (.ifCond .eq 26, 3) := by decide +kernel
theorem dX4_one_115 : decode cX4_one 115 = .ok (.aload_n 0, 1) := by decide +kernel
theorem dX4_one_116 : decode cX4_one 116 = .ok (.iload_n 1, 1) := by decide +kernel
theorem dX4_one_117 : decode cX4_one 117 = .ok (.iconst 1, 1) := by decide +kernel
theorem dX4_one_118 : decode cX4_one 118 = .ok (.iadd, 1) := by decide +kernel
theorem dX4_one_119 : decode cX4_one 119 = .ok (.invokevirtual 58, 3) := by decide +kernel
theorem dX4_one_122 : decode cX4_one 122 = .ok (.ifCond .eq 16, 3) := by decide +kernel
theorem dX4_one_125 : decode cX4_one 125 = .ok (.aload_n 0, 1) := by decide +kernel
theorem dX4_one_126 : decode cX4_one 126 = .ok (.bipush 41, 2) := by decide +kernel
theorem dX4_one_128 : decode cX4_one 128 = .ok (.invokevirtual 55, 3) := by decide +kernel
theorem dX4_one_131 : decode cX4_one 131 = .ok (.ifCond .eq 7, 3) := by decide +kernel
theorem dX4_one_134 : decode cX4_one 134 = .ok (.iconst 1, 1) := by decide +kernel
theorem dX4_one_135 : decode cX4_one 135 = .ok (.goto 4, 3) := by decide +kernel
theorem dX4_one_138 : decode cX4_one 138 = .ok (.iconst 0, 1) := by decide +kernel
theorem dX4_one_139 : decode cX4_one 139 = .ok (.ireturn, 1) := by decide +kernel
theorem dX4_behindMinus_0 : decode cX4_behindMinus 0 = .ok (.aload_n 0, 1) := by decide +kernel
theorem dX4_behindMinus_1 : decode cX4_behindMinus 1 = .ok (.iload_n 1, 1) := by decide +kernel
theorem dX4_behindMinus_2 : decode cX4_behindMinus 2 = .ok (.invokevirtual 82, 3) := by decide +kernel
theorem dX4_behindMinus_5 : decode cX4_behindMinus 5 = .ok (.ifCond .eq 16, 3) := by decide +kernel
theorem dX4_behindMinus_8 : decode cX4_behindMinus 8 = .ok (.aload_n 0, 1) := by decide +kernel
theorem dX4_behindMinus_9 : decode cX4_behindMinus 9 = .ok (.bipush 9, 2) := by decide +kernel
theorem dX4_behindMinus_11 : decode cX4_behindMinus 11 = .ok (.invokevirtual 64, 3) := by decide +kernel
theorem dX4_behindMinus_14 : decode cX4_behindMinus 14 = .ok (.ifCond .eq 7, 3) := by decide +kernel
theorem dX4_behindMinus_17 : decode cX4_behindMinus 17 = .ok (.iconst 1, 1) := by decide +kernel
theorem dX4_behindMinus_18 : decode cX4_behindMinus 18 = .ok (.goto 4, 3) := by decide +kernel
theorem dX4_behindMinus_21 : decode cX4_behindMinus 21 = .ok (.iconst 0, 1) := by decide +kernel
theorem dX4_behindMinus_22 : decode cX4_behindMinus 22 = .ok (.ireturn, 1) := by decide +kernel
theorem dX4_emit_0 : decode cX4_emit 0 = .ok (.aload_n 0, 1) := by decide +kernel
theorem dX4_emit_1 : decode cX4_emit 1 = .ok (.getfield 25, 3) := by decide +kernel
theorem dX4_emit_4 : decode cX4_emit 4 = .ok (.sipush 160, 3) := by decide +kernel
theorem dX4_emit_7 : decode cX4_emit 7 = .ok (.if_icmp .ge 23, 3) := by decide +kernel
theorem dX4_emit_10 : decode cX4_emit 10 = .ok (.aload_n 0, 1) := by decide +kernel
theorem dX4_emit_11 : decode cX4_emit 11 = .ok (.getfield 22, 3) := by decide +kernel
theorem dX4_emit_14 : decode cX4_emit 14 = .ok (.aload_n 0, 1) := by decide +kernel
theorem dX4_emit_15 : decode cX4_emit 15 = .ok (.getfield 25, 3) := by decide +kernel
theorem dX4_emit_18 : decode cX4_emit 18 = .ok (.iload_n 1, 1) := by decide +kernel
theorem dX4_emit_19 : decode cX4_emit 19 = .ok (.iastore, 1) := by decide +kernel
theorem dX4_emit_20 : decode cX4_emit 20 = .ok (.aload_n 0, 1) := by decide +kernel
theorem dX4_emit_21 : decode cX4_emit 21 = .ok (.dup, 1) := by decide +kernel
theorem dX4_emit_22 : decode cX4_emit 22 = .ok (.getfield 25, 3) := by decide +kernel
theorem dX4_emit_25 : decode cX4_emit 25 = .ok (.iconst 1, 1) := by decide +kernel
theorem dX4_emit_26 : decode cX4_emit 26 = .ok (.iadd, 1) := by decide +kernel
theorem dX4_emit_27 : decode cX4_emit 27 = .ok (.putfield 25, 3) := by decide +kernel
theorem dX4_emit_30 : decode cX4_emit 30 = .ok (.iconst 1, 1) := by decide +kernel
theorem dX4_emit_31 : decode cX4_emit 31 = .ok (.ireturn, 1) := by decide +kernel
theorem dX4_passed_0 : decode cX4_passed 0 = .ok (.aload_n 0, 1) := by decide +kernel
theorem dX4_passed_1 : decode cX4_passed 1 = .ok (.getfield 31, 3) := by decide +kernel
theorem dX4_passed_4 : decode cX4_passed 4 = .ok (.iload_n 1, 1) := by decide +kernel
theorem dX4_passed_5 : decode cX4_passed 5 = .ok (.if_icmp .eq 5, 3) := by decide +kernel
theorem dX4_passed_8 : decode cX4_passed 8 = .ok (.iconst 0, 1) := by decide +kernel
theorem dX4_passed_9 : decode cX4_passed 9 = .ok (.ireturn, 1) := by decide +kernel
theorem dX4_passed_10 : decode cX4_passed 10 = .ok (.aload_n 0, 1) := by decide +kernel
theorem dX4_passed_11 : decode cX4_passed 11 = .ok (.invokevirtual 37, 3) := by decide +kernel
theorem dX4_passed_14 : decode cX4_passed 14 = .ok (.iconst 1, 1) := by decide +kernel
theorem dX4_passed_15 : decode cX4_passed 15 = .ok (.ireturn, 1) := by decide +kernel
theorem dX4_advance_0 : decode cX4_advance 0 = .ok (.aload_n 0, 1) := by decide +kernel
theorem dX4_advance_1 : decode cX4_advance 1 = .ok (.getfield 28, 3) := by decide +kernel
theorem dX4_advance_4 : decode cX4_advance 4 = .ok (.aload_n 0, 1) := by decide +kernel
theorem dX4_advance_5 : decode cX4_advance 5 = .ok (.getfield 9, 3) := by decide +kernel
theorem dX4_advance_8 : decode cX4_advance 8 = .ok (.if_icmp .ge 44, 3) := by decide +kernel
theorem dX4_advance_11 : decode cX4_advance 11 = .ok (.aload_n 0, 1) := by decide +kernel
theorem dX4_advance_12 : decode cX4_advance 12 = .ok (.getfield 18, 3) := by decide +kernel
theorem dX4_advance_15 : decode cX4_advance 15 = .ok (.aload_n 0, 1) := by decide +kernel
theorem dX4_advance_16 : decode cX4_advance 16 = .ok (.getfield 28, 3) := by decide +kernel
theorem dX4_advance_19 : decode cX4_advance 19 = .ok (.iaload, 1) := by decide +kernel
theorem dX4_advance_20 : decode cX4_advance 20 = .ok (.bipush 32, 2) := by decide +kernel
theorem dX4_advance_22 : decode cX4_advance 22 = .ok (.if_icmp .eq 17, 3) := by decide +kernel
theorem dX4_advance_25 : decode cX4_advance 25 = .ok (.aload_n 0, 1) := by decide +kernel
theorem dX4_advance_26 : decode cX4_advance 26 = .ok (.getfield 18, 3) := by decide +kernel
theorem dX4_advance_29 : decode cX4_advance 29 = .ok (.aload_n 0, 1) := by decide +kernel
theorem dX4_advance_30 : decode cX4_advance 30 = .ok (.getfield 28, 3) := by decide +kernel
theorem dX4_advance_33 : decode cX4_advance 33 = .ok (.iaload, 1) := by decide +kernel
theorem dX4_advance_34 : decode cX4_advance 34 = .ok (.bipush 10, 2) := by decide +kernel
theorem dX4_advance_36 : decode cX4_advance 36 = .ok (.if_icmp .ne 16, 3) := by decide +kernel
theorem dX4_advance_39 : decode cX4_advance 39 = .ok (.aload_n 0, 1) := by decide +kernel
theorem dX4_advance_40 : decode cX4_advance 40 = .ok (.dup, 1) := by decide +kernel
theorem dX4_advance_41 : decode cX4_advance 41 = .ok (.getfield 28, 3) := by decide +kernel
theorem dX4_advance_44 : decode cX4_advance 44 = .ok (.iconst 1, 1) := by decide +kernel
theorem dX4_advance_45 : decode cX4_advance 45 = .ok (.iadd, 1) := by decide +kernel
theorem dX4_advance_46 : decode cX4_advance 46 = .ok (.putfield 28, 3) := by decide +kernel
theorem dX4_advance_49 : decode cX4_advance 49 = .ok (.goto (-49), 3) := by decide +kernel
theorem dX4_advance_52 : decode cX4_advance 52 = .ok (.aload_n 0, 1) := by decide +kernel
theorem dX4_advance_53 : decode cX4_advance 53 = .ok (.aload_n 0, 1) := by decide +kernel
theorem dX4_advance_54 : decode cX4_advance 54 = .ok (.getfield 28, 3) := by decide +kernel
theorem dX4_advance_57 : decode cX4_advance 57 = .ok (.putfield 15, 3) := by decide +kernel
theorem dX4_advance_60 : decode cX4_advance 60 = .ok (.aload_n 0, 1) := by decide +kernel
theorem dX4_advance_61 : decode cX4_advance 61 = .ok (.getfield 28, 3) := by decide +kernel
theorem dX4_advance_64 : decode cX4_advance 64 = .ok (.aload_n 0, 1) := by decide +kernel
theorem dX4_advance_65 : decode cX4_advance 65 = .ok (.getfield 9, 3) := by decide +kernel
theorem dX4_advance_68 : decode cX4_advance 68 = .ok (.if_icmp .lt 11, 3) := by decide +kernel
theorem dX4_advance_71 : decode cX4_advance 71 = .ok (.aload_n 0, 1) := by decide +kernel
theorem dX4_advance_72 : decode cX4_advance 72 = .ok (.iconst 0, 1) := by decide +kernel
theorem dX4_advance_73 : decode cX4_advance 73 = .ok (.putfield 31, 3) := by decide +kernel
theorem dX4_advance_76 : decode cX4_advance 76 = .ok (.goto 116, 3) := by decide +kernel
theorem dX4_advance_79 : decode cX4_advance 79 = .ok (.aload_n 0, 1) := by decide +kernel
theorem dX4_advance_80 : decode cX4_advance 80 = .ok (.getfield 18, 3) := by decide +kernel
theorem dX4_advance_83 : decode cX4_advance 83 = .ok (.aload_n 0, 1) := by decide +kernel
theorem dX4_advance_84 : decode cX4_advance 84 = .ok (.getfield 28, 3) := by decide +kernel
theorem dX4_advance_87 : decode cX4_advance 87 = .ok (.iaload, 1) := by decide +kernel
theorem dX4_advance_88 : decode cX4_advance 88 = .ok (.invokestatic 88, 3) := by decide +kernel
theorem dX4_advance_91 : decode cX4_advance 91 = .ok (.ifCond .eq 53, 3) := by decide +kernel
theorem dX4_advance_94 : decode cX4_advance 94 = .ok (.aload_n 0, 1) := by decide +kernel
theorem dX4_advance_95 : decode cX4_advance 95 = .ok (.getfield 28, 3) := by decide +kernel
theorem dX4_advance_98 : decode cX4_advance 98 = .ok (.aload_n 0, 1) := by decide +kernel
theorem dX4_advance_99 : decode cX4_advance 99 = .ok (.getfield 9, 3) := by decide +kernel
theorem dX4_advance_102 : decode cX4_advance 102 = .ok (.if_icmp .ge 31, 3) := by decide +kernel
theorem dX4_advance_105 : decode cX4_advance 105 = .ok (.aload_n 0, 1) := by decide +kernel
theorem dX4_advance_106 : decode cX4_advance 106 = .ok (.getfield 18, 3) := by decide +kernel
theorem dX4_advance_109 : decode cX4_advance 109 = .ok (.aload_n 0, 1) := by decide +kernel
theorem dX4_advance_110 : decode cX4_advance 110 = .ok (.getfield 28, 3) := by decide +kernel
theorem dX4_advance_113 : decode cX4_advance 113 = .ok (.iaload, 1) := by decide +kernel
theorem dX4_advance_114 : decode cX4_advance 114 = .ok (.invokestatic 88, 3) := by decide +kernel
theorem dX4_advance_117 : decode cX4_advance 117 = .ok (.ifCond .eq 16, 3) := by decide +kernel
theorem dX4_advance_120 : decode cX4_advance 120 = .ok (.aload_n 0, 1) := by decide +kernel
theorem dX4_advance_121 : decode cX4_advance 121 = .ok (.dup, 1) := by decide +kernel
theorem dX4_advance_122 : decode cX4_advance 122 = .ok (.getfield 28, 3) := by decide +kernel
theorem dX4_advance_125 : decode cX4_advance 125 = .ok (.iconst 1, 1) := by decide +kernel
theorem dX4_advance_126 : decode cX4_advance 126 = .ok (.iadd, 1) := by decide +kernel
theorem dX4_advance_127 : decode cX4_advance 127 = .ok (.putfield 28, 3) := by decide +kernel
theorem dX4_advance_130 : decode cX4_advance 130 = .ok (.goto (-36), 3) := by decide +kernel
theorem dX4_advance_133 : decode cX4_advance 133 = .ok (.aload_n 0, 1) := by decide +kernel
theorem dX4_advance_134 : decode cX4_advance 134 = .ok (.aload_n 0, 1) := by decide +kernel
theorem dX4_advance_135 : decode cX4_advance 135 = .ok (.invokevirtual 91, 3) := by decide +kernel
theorem dX4_advance_138 : decode cX4_advance 138 = .ok (.putfield 31, 3) := by decide +kernel
theorem dX4_advance_141 : decode cX4_advance 141 = .ok (.goto 51, 3) := by decide +kernel
theorem dX4_advance_144 : decode cX4_advance 144 = .ok (.aload_n 0, 1) := by decide +kernel
theorem dX4_advance_145 : decode cX4_advance 145 = .ok (.getfield 18, 3) := by decide +kernel
theorem dX4_advance_148 : decode cX4_advance 148 = .ok (.aload_n 0, 1) := by decide +kernel
theorem dX4_advance_149 : decode cX4_advance 149 = .ok (.getfield 28, 3) := by decide +kernel
theorem dX4_advance_152 : decode cX4_advance 152 = .ok (.iaload, 1) := by decide +kernel
theorem dX4_advance_153 : decode cX4_advance 153 = .ok (.invokestatic 95, 3) := by decide +kernel
theorem dX4_advance_156 : decode cX4_advance 156 = .ok (.ifCond .eq 10, 3) := by decide +kernel
theorem dX4_advance_159 : decode cX4_advance 159 = .ok (.aload_n 0, 1) := by decide +kernel
theorem dX4_advance_160 : decode cX4_advance 160 = .ok (.invokevirtual 98, 3) := by decide +kernel
theorem dX4_advance_163 : decode cX4_advance 163 = .ok (.goto 29, 3) := by decide +kernel
theorem dX4_advance_166 : decode cX4_advance 166 = .ok (.aload_n 0, 1) := by decide +kernel
theorem dX4_advance_167 : decode cX4_advance 167 = .ok (.aload_n 0, 1) := by decide +kernel
theorem dX4_advance_168 : decode cX4_advance 168 = .ok (.getfield 18, 3) := by decide +kernel
theorem dX4_advance_171 : decode cX4_advance 171 = .ok (.aload_n 0, 1) := by decide +kernel
theorem dX4_advance_172 : decode cX4_advance 172 = .ok (.getfield 28, 3) := by decide +kernel
theorem dX4_advance_175 : decode cX4_advance 175 = .ok (.iaload, 1) := by decide +kernel
theorem dX4_advance_176 : decode cX4_advance 176 = .ok (.invokestatic 101, 3) := by decide +kernel
theorem dX4_advance_179 : decode cX4_advance 179 = .ok (.putfield 31, 3) := by decide +kernel
theorem dX4_advance_182 : decode cX4_advance 182 = .ok (.aload_n 0, 1) := by decide +kernel
theorem dX4_advance_183 : decode cX4_advance 183 = .ok (.dup, 1) := by decide +kernel
theorem dX4_advance_184 : decode cX4_advance 184 = .ok (.getfield 28, 3) := by decide +kernel
theorem dX4_advance_187 : decode cX4_advance 187 = .ok (.iconst 1, 1) := by decide +kernel
theorem dX4_advance_188 : decode cX4_advance 188 = .ok (.iadd, 1) := by decide +kernel
theorem dX4_advance_189 : decode cX4_advance 189 = .ok (.putfield 28, 3) := by decide +kernel
theorem dX4_advance_192 : decode cX4_advance 192 = .ok (.return_, 1) := by decide +kernel
theorem dX4_readDigits_0 : decode cX4_readDigits 0 = .ok (.aload_n 0, 1) := by decide +kernel
theorem dX4_readDigits_1 : decode cX4_readDigits 1 = .ok (.iconst 0, 1) := by decide +kernel
theorem dX4_readDigits_2 : decode cX4_readDigits 2 = .ok (.putfield 34, 3) := by decide +kernel
theorem dX4_readDigits_5 : decode cX4_readDigits 5 = .ok (.aload_n 0, 1) := by decide +kernel
theorem dX4_readDigits_6 : decode cX4_readDigits 6 = .ok (.getfield 28, 3) := by decide +kernel
theorem dX4_readDigits_9 : decode cX4_readDigits 9 = .ok (.aload_n 0, 1) := by decide +kernel
theorem dX4_readDigits_10 : decode cX4_readDigits 10 = .ok (.getfield 9, 3) := by decide +kernel
theorem dX4_readDigits_13 : decode cX4_readDigits 13 = .ok (.if_icmp .ge 55, 3) := by decide +kernel
theorem dX4_readDigits_16 : decode cX4_readDigits 16 = .ok (.aload_n 0, 1) := by decide +kernel
theorem dX4_readDigits_17 : decode cX4_readDigits 17 = .ok (.getfield 18, 3) := by decide +kernel
theorem dX4_readDigits_20 : decode cX4_readDigits 20 = .ok (.aload_n 0, 1) := by decide +kernel
theorem dX4_readDigits_21 : decode cX4_readDigits 21 = .ok (.getfield 28, 3) := by decide +kernel
theorem dX4_readDigits_24 : decode cX4_readDigits 24 = .ok (.iaload, 1) := by decide +kernel
theorem dX4_readDigits_25 : decode cX4_readDigits 25 = .ok (.invokestatic 95, 3) := by decide +kernel
theorem dX4_readDigits_28 : decode cX4_readDigits 28 = .ok (.ifCond .eq 40, 3) := by decide +kernel
theorem dX4_readDigits_31 : decode cX4_readDigits 31 = .ok (.aload_n 0, 1) := by decide +kernel
theorem dX4_readDigits_32 : decode cX4_readDigits 32 = .ok (.aload_n 0, 1) := by decide +kernel
theorem dX4_readDigits_33 : decode cX4_readDigits 33 = .ok (.getfield 34, 3) := by decide +kernel
theorem dX4_readDigits_36 : decode cX4_readDigits 36 = .ok (.bipush 10, 2) := by decide +kernel
theorem dX4_readDigits_38 : decode cX4_readDigits 38 = .ok (.imul, 1) := by decide +kernel
theorem dX4_readDigits_39 : decode cX4_readDigits 39 = .ok (.aload_n 0, 1) := by decide +kernel
theorem dX4_readDigits_40 : decode cX4_readDigits 40 = .ok (.getfield 18, 3) := by decide +kernel
theorem dX4_readDigits_43 : decode cX4_readDigits 43 = .ok (.aload_n 0, 1) := by decide +kernel
theorem dX4_readDigits_44 : decode cX4_readDigits 44 = .ok (.getfield 28, 3) := by decide +kernel
theorem dX4_readDigits_47 : decode cX4_readDigits 47 = .ok (.iaload, 1) := by decide +kernel
theorem dX4_readDigits_48 : decode cX4_readDigits 48 = .ok (.iadd, 1) := by decide +kernel
theorem dX4_readDigits_49 : decode cX4_readDigits 49 = .ok (.bipush 48, 2) := by decide +kernel
theorem dX4_readDigits_51 : decode cX4_readDigits 51 = .ok (.isub, 1) := by decide +kernel
theorem dX4_readDigits_52 : decode cX4_readDigits 52 = .ok (.putfield 34, 3) := by decide +kernel
theorem dX4_readDigits_55 : decode cX4_readDigits 55 = .ok (.aload_n 0, 1) := by decide +kernel
theorem dX4_readDigits_56 : decode cX4_readDigits 56 = .ok (.dup, 1) := by decide +kernel
theorem dX4_readDigits_57 : decode cX4_readDigits 57 = .ok (.getfield 28, 3) := by decide +kernel
theorem dX4_readDigits_60 : decode cX4_readDigits 60 = .ok (.iconst 1, 1) := by decide +kernel
theorem dX4_readDigits_61 : decode cX4_readDigits 61 = .ok (.iadd, 1) := by decide +kernel
theorem dX4_readDigits_62 : decode cX4_readDigits 62 = .ok (.putfield 28, 3) := by decide +kernel
theorem dX4_readDigits_65 : decode cX4_readDigits 65 = .ok (.goto (-60), 3) := by decide +kernel
theorem dX4_readDigits_68 : decode cX4_readDigits 68 = .ok (.aload_n 0, 1) := by decide +kernel
theorem dX4_readDigits_69 : decode cX4_readDigits 69 = .ok (.aload_n 0, 1) := by decide +kernel
theorem dX4_readDigits_70 : decode cX4_readDigits 70 = .ok (.getfield 28, 3) := by decide +kernel
theorem dX4_readDigits_73 : decode cX4_readDigits 73 = .ok (.aload_n 0, 1) := by decide +kernel
theorem dX4_readDigits_74 : decode cX4_readDigits 74 = .ok (.getfield 15, 3) := by decide +kernel
theorem dX4_readDigits_77 : decode cX4_readDigits 77 = .ok (.isub, 1) := by decide +kernel
theorem dX4_readDigits_78 : decode cX4_readDigits 78 = .ok (.iconst 4, 1) := by decide +kernel
theorem dX4_readDigits_79 : decode cX4_readDigits 79 = .ok (.if_icmp .le 7, 3) := by decide +kernel
theorem dX4_readDigits_82 : decode cX4_readDigits 82 = .ok (.iconst 1, 1) := by decide +kernel
theorem dX4_readDigits_83 : decode cX4_readDigits 83 = .ok (.goto 4, 3) := by decide +kernel
theorem dX4_readDigits_86 : decode cX4_readDigits 86 = .ok (.iconst 2, 1) := by decide +kernel
theorem dX4_readDigits_87 : decode cX4_readDigits 87 = .ok (.putfield 31, 3) := by decide +kernel
theorem dX4_readDigits_90 : decode cX4_readDigits 90 = .ok (.return_, 1) := by decide +kernel
theorem dX4_isLetter_0 : decode cX4_isLetter 0 = .ok (.iload_n 0, 1) := by decide +kernel
theorem dX4_isLetter_1 : decode cX4_isLetter 1 = .ok (.bipush 97, 2) := by decide +kernel
theorem dX4_isLetter_3 : decode cX4_isLetter 3 = .ok (.if_icmp .lt 13, 3) := by decide +kernel
theorem dX4_isLetter_6 : decode cX4_isLetter 6 = .ok (.iload_n 0, 1) := by decide +kernel
theorem dX4_isLetter_7 : decode cX4_isLetter 7 = .ok (.bipush 122, 2) := by decide +kernel
theorem dX4_isLetter_9 : decode cX4_isLetter 9 = .ok (.if_icmp .gt 7, 3) := by decide +kernel
theorem dX4_isLetter_12 : decode cX4_isLetter 12 = .ok (.iconst 1, 1) := by decide +kernel
theorem dX4_isLetter_13 : decode cX4_isLetter 13 = .ok (.goto 4, 3) := by decide +kernel
theorem dX4_isLetter_16 : decode cX4_isLetter 16 = .ok (.iconst 0, 1) := by decide +kernel
theorem dX4_isLetter_17 : decode cX4_isLetter 17 = .ok (.ireturn, 1) := by decide +kernel
theorem dX4_isDigit_0 : decode cX4_isDigit 0 = .ok (.iload_n 0, 1) := by decide +kernel
theorem dX4_isDigit_1 : decode cX4_isDigit 1 = .ok (.bipush 48, 2) := by decide +kernel
theorem dX4_isDigit_3 : decode cX4_isDigit 3 = .ok (.if_icmp .lt 13, 3) := by decide +kernel
theorem dX4_isDigit_6 : decode cX4_isDigit 6 = .ok (.iload_n 0, 1) := by decide +kernel
theorem dX4_isDigit_7 : decode cX4_isDigit 7 = .ok (.bipush 57, 2) := by decide +kernel
theorem dX4_isDigit_9 : decode cX4_isDigit 9 = .ok (.if_icmp .gt 7, 3) := by decide +kernel
theorem dX4_isDigit_12 : decode cX4_isDigit 12 = .ok (.iconst 1, 1) := by decide +kernel
theorem dX4_isDigit_13 : decode cX4_isDigit 13 = .ok (.goto 4, 3) := by decide +kernel
theorem dX4_isDigit_16 : decode cX4_isDigit 16 = .ok (.iconst 0, 1) := by decide +kernel
theorem dX4_isDigit_17 : decode cX4_isDigit 17 = .ok (.ireturn, 1) := by decide +kernel
theorem dX4_signKind_0 : decode cX4_signKind 0 = .ok (.iload_n 0, 1) := by decide +kernel
theorem dX4_signKind_1 : decode cX4_signKind 1 = .ok (.bipush 40, 2) := by decide +kernel
theorem dX4_signKind_3 : decode cX4_signKind 3 = .ok (.if_icmp .eq 45, 3) := by decide +kernel
theorem dX4_signKind_6 : decode cX4_signKind 6 = .ok (.iload_n 0, 1) := by decide +kernel
theorem dX4_signKind_7 : decode cX4_signKind 7 = .ok (.bipush 41, 2) := by decide +kernel
theorem dX4_signKind_9 : decode cX4_signKind 9 = .ok (.if_icmp .eq 39, 3) := by decide +kernel
theorem dX4_signKind_12 : decode cX4_signKind 12 = .ok (.iload_n 0, 1) := by decide +kernel
theorem dX4_signKind_13 : decode cX4_signKind 13 = .ok (.bipush 59, 2) := by decide +kernel
theorem dX4_signKind_15 : decode cX4_signKind 15 = .ok (.if_icmp .eq 33, 3) := by decide +kernel
theorem dX4_signKind_18 : decode cX4_signKind 18 = .ok (.iload_n 0, 1) := by decide +kernel
theorem dX4_signKind_19 : decode cX4_signKind 19 = .ok (.bipush 43, 2) := by decide +kernel
theorem dX4_signKind_21 : decode cX4_signKind 21 = .ok (.if_icmp .eq 27, 3) := by decide +kernel
theorem dX4_signKind_24 : decode cX4_signKind 24 = .ok (.iload_n 0, 1) := by decide +kernel
theorem dX4_signKind_25 : decode cX4_signKind 25 = .ok (.bipush 45, 2) := by decide +kernel
theorem dX4_signKind_27 : decode cX4_signKind 27 = .ok (.if_icmp .eq 21, 3) := by decide +kernel
theorem dX4_signKind_30 : decode cX4_signKind 30 = .ok (.iload_n 0, 1) := by decide +kernel
theorem dX4_signKind_31 : decode cX4_signKind 31 = .ok (.bipush 42, 2) := by decide +kernel
theorem dX4_signKind_33 : decode cX4_signKind 33 = .ok (.if_icmp .eq 15, 3) := by decide +kernel
theorem dX4_signKind_36 : decode cX4_signKind 36 = .ok (.iload_n 0, 1) := by decide +kernel
theorem dX4_signKind_37 : decode cX4_signKind 37 = .ok (.bipush 60, 2) := by decide +kernel
theorem dX4_signKind_39 : decode cX4_signKind 39 = .ok (.if_icmp .eq 9, 3) := by decide +kernel
theorem dX4_signKind_42 : decode cX4_signKind 42 = .ok (.iload_n 0, 1) := by decide +kernel
theorem dX4_signKind_43 : decode cX4_signKind 43 = .ok (.bipush 61, 2) := by decide +kernel
theorem dX4_signKind_45 : decode cX4_signKind 45 = .ok (.if_icmp .ne 7, 3) := by decide +kernel
theorem dX4_signKind_48 : decode cX4_signKind 48 = .ok (.iconst 1, 1) := by decide +kernel
theorem dX4_signKind_49 : decode cX4_signKind 49 = .ok (.goto 4, 3) := by decide +kernel
theorem dX4_signKind_52 : decode cX4_signKind 52 = .ok (.iconst 0, 1) := by decide +kernel
theorem dX4_signKind_53 : decode cX4_signKind 53 = .ok (.istore_n 1, 1) := by decide +kernel
theorem dX4_signKind_54 : decode cX4_signKind 54 = .ok (.iload_n 1, 1) := by decide +kernel
theorem dX4_signKind_55 : decode cX4_signKind 55 = .ok (.ifCond .eq 7, 3) := by decide +kernel
theorem dX4_signKind_58 : decode cX4_signKind 58 = .ok (.iload_n 0, 1) := by decide +kernel
theorem dX4_signKind_59 : decode cX4_signKind 59 = .ok (.goto 4, 3) := by decide +kernel
theorem dX4_signKind_62 : decode cX4_signKind 62 = .ok (.iconst 1, 1) := by decide +kernel
theorem dX4_signKind_63 : decode cX4_signKind 63 = .ok (.ireturn, 1) := by decide +kernel
theorem dX4_wordKind_0 : decode cX4_wordKind 0 = .ok (.aload_n 0, 1) := by decide +kernel
theorem dX4_wordKind_1 : decode cX4_wordKind 1 = .ok (.ldc 105, 2) := by decide +kernel
theorem dX4_wordKind_3 : decode cX4_wordKind 3 = .ok (.invokevirtual 107, 3) := by decide +kernel
theorem dX4_wordKind_6 : decode cX4_wordKind 6 = .ok (.ifCond .eq 5, 3) := by decide +kernel
theorem dX4_wordKind_9 : decode cX4_wordKind 9 = .ok (.iconst 3, 1) := by decide +kernel
theorem dX4_wordKind_10 : decode cX4_wordKind 10 = .ok (.ireturn, 1) := by decide +kernel
theorem dX4_wordKind_11 : decode cX4_wordKind 11 = .ok (.aload_n 0, 1) := by decide +kernel
theorem dX4_wordKind_12 : decode cX4_wordKind 12 = .ok (.ldc 111, 2) := by decide +kernel
theorem dX4_wordKind_14 : decode cX4_wordKind 14 = .ok (.invokevirtual 107, 3) := by decide +kernel
theorem dX4_wordKind_17 : decode cX4_wordKind 17 = .ok (.ifCond .eq 5, 3) := by decide +kernel
theorem dX4_wordKind_20 : decode cX4_wordKind 20 = .ok (.iconst 4, 1) := by decide +kernel
theorem dX4_wordKind_21 : decode cX4_wordKind 21 = .ok (.ireturn, 1) := by decide +kernel
theorem dX4_wordKind_22 : decode cX4_wordKind 22 = .ok (.aload_n 0, 1) := by decide +kernel
theorem dX4_wordKind_23 : decode cX4_wordKind 23 = .ok (.ldc 113, 2) := by decide +kernel
theorem dX4_wordKind_25 : decode cX4_wordKind 25 = .ok (.invokevirtual 107, 3) := by decide +kernel
theorem dX4_wordKind_28 : decode cX4_wordKind 28 = .ok (.ifCond .eq 5, 3) := by decide +kernel
theorem dX4_wordKind_31 : decode cX4_wordKind 31 = .ok (.iconst 5, 1) := by decide +kernel
theorem dX4_wordKind_32 : decode cX4_wordKind 32 = .ok (.ireturn, 1) := by decide +kernel
theorem dX4_wordKind_33 : decode cX4_wordKind 33 = .ok (.aload_n 0, 1) := by decide +kernel
theorem dX4_wordKind_34 : decode cX4_wordKind 34 = .ok (.ldc 115, 2) := by decide +kernel
theorem dX4_wordKind_36 : decode cX4_wordKind 36 = .ok (.invokevirtual 107, 3) := by decide +kernel
theorem dX4_wordKind_39 : decode cX4_wordKind 39 = .ok (.ifCond .eq 6, 3) := by decide +kernel
theorem dX4_wordKind_42 : decode cX4_wordKind 42 = .ok (.bipush 6, 2) := by decide +kernel
theorem dX4_wordKind_44 : decode cX4_wordKind 44 = .ok (.ireturn, 1) := by decide +kernel
theorem dX4_wordKind_45 : decode cX4_wordKind 45 = .ok (.aload_n 0, 1) := by decide +kernel
theorem dX4_wordKind_46 : decode cX4_wordKind 46 = .ok (.ldc 117, 2) := by decide +kernel
theorem dX4_wordKind_48 : decode cX4_wordKind 48 = .ok (.invokevirtual 107, 3) := by decide +kernel
theorem dX4_wordKind_51 : decode cX4_wordKind 51 = .ok (.ifCond .eq 6, 3) := by decide +kernel
theorem dX4_wordKind_54 : decode cX4_wordKind 54 = .ok (.bipush 7, 2) := by decide +kernel
theorem dX4_wordKind_56 : decode cX4_wordKind 56 = .ok (.ireturn, 1) := by decide +kernel
theorem dX4_wordKind_57 : decode cX4_wordKind 57 = .ok (.aload_n 0, 1) := by decide +kernel
theorem dX4_wordKind_58 : decode cX4_wordKind 58 = .ok (.ldc 119, 2) := by decide +kernel
theorem dX4_wordKind_60 : decode cX4_wordKind 60 = .ok (.invokevirtual 107, 3) := by decide +kernel
theorem dX4_wordKind_63 : decode cX4_wordKind 63 = .ok (.ifCond .eq 6, 3) := by decide +kernel
theorem dX4_wordKind_66 : decode cX4_wordKind 66 = .ok (.bipush 8, 2) := by decide +kernel
theorem dX4_wordKind_68 : decode cX4_wordKind 68 = .ok (.ireturn, 1) := by decide +kernel
theorem dX4_wordKind_69 : decode cX4_wordKind 69 = .ok (.aload_n 0, 1) := by decide +kernel
theorem dX4_wordKind_70 : decode cX4_wordKind 70 = .ok (.ldc 121, 2) := by decide +kernel
theorem dX4_wordKind_72 : decode cX4_wordKind 72 = .ok (.invokevirtual 107, 3) := by decide +kernel
theorem dX4_wordKind_75 : decode cX4_wordKind 75 = .ok (.ifCond .eq 6, 3) := by decide +kernel
theorem dX4_wordKind_78 : decode cX4_wordKind 78 = .ok (.bipush 10, 2) := by decide +kernel
theorem dX4_wordKind_80 : decode cX4_wordKind 80 = .ok (.ireturn, 1) := by decide +kernel
theorem dX4_wordKind_81 : decode cX4_wordKind 81 = .ok (.aload_n 0, 1) := by decide +kernel
theorem dX4_wordKind_82 : decode cX4_wordKind 82 = .ok (.ldc 123, 2) := by decide +kernel
theorem dX4_wordKind_84 : decode cX4_wordKind 84 = .ok (.invokevirtual 107, 3) := by decide +kernel
theorem dX4_wordKind_87 : decode cX4_wordKind 87 = .ok (.ifCond .eq 6, 3) := by decide +kernel
theorem dX4_wordKind_90 : decode cX4_wordKind 90 = .ok (.bipush 11, 2) := by decide +kernel
theorem dX4_wordKind_92 : decode cX4_wordKind 92 = .ok (.ireturn, 1) := by decide +kernel
theorem dX4_wordKind_93 : decode cX4_wordKind 93 = .ok (.aload_n 0, 1) := by decide +kernel
theorem dX4_wordKind_94 : decode cX4_wordKind 94 = .ok (.ldc 125, 2) := by decide +kernel
theorem dX4_wordKind_96 : decode cX4_wordKind 96 = .ok (.invokevirtual 107, 3) := by decide +kernel
theorem dX4_wordKind_99 : decode cX4_wordKind 99 = .ok (.ifCond .eq 6, 3) := by decide +kernel
theorem dX4_wordKind_102 : decode cX4_wordKind 102 = .ok (.bipush 12, 2) := by decide +kernel
theorem dX4_wordKind_104 : decode cX4_wordKind 104 = .ok (.ireturn, 1) := by decide +kernel
theorem dX4_wordKind_105 : decode cX4_wordKind 105 = .ok (.aload_n 0, 1) := by decide +kernel
theorem dX4_wordKind_106 : decode cX4_wordKind 106 = .ok (.ldc 127, 2) := by decide +kernel
theorem dX4_wordKind_108 : decode cX4_wordKind 108 = .ok (.invokevirtual 107, 3) := by decide +kernel
theorem dX4_wordKind_111 : decode cX4_wordKind 111 = .ok (.ifCond .eq 6, 3) := by decide +kernel
theorem dX4_wordKind_114 : decode cX4_wordKind 114 = .ok (.bipush 13, 2) := by decide +kernel
theorem dX4_wordKind_116 : decode cX4_wordKind 116 = .ok (.ireturn, 1) := by decide +kernel
theorem dX4_wordKind_117 : decode cX4_wordKind 117 = .ok (.aload_n 0, 1) := by decide +kernel
theorem dX4_wordKind_118 : decode cX4_wordKind 118 = .ok (.ldc 129, 2) := by decide +kernel
theorem dX4_wordKind_120 : decode cX4_wordKind 120 = .ok (.invokevirtual 107, 3) := by decide +kernel
theorem dX4_wordKind_123 : decode cX4_wordKind 123 = .ok (.ifCond .eq 6, 3) := by decide +kernel
theorem dX4_wordKind_126 : decode cX4_wordKind 126 = .ok (.bipush 14, 2) := by decide +kernel
theorem dX4_wordKind_128 : decode cX4_wordKind 128 = .ok (.ireturn, 1) := by decide +kernel
theorem dX4_wordKind_129 : decode cX4_wordKind 129 = .ok (.aload_n 0, 1) := by decide +kernel
theorem dX4_wordKind_130 : decode cX4_wordKind 130 = .ok (.ldc 131, 2) := by decide +kernel
theorem dX4_wordKind_132 : decode cX4_wordKind 132 = .ok (.invokevirtual 107, 3) := by decide +kernel
theorem dX4_wordKind_135 : decode cX4_wordKind 135 = .ok (.ifCond .eq 8, 3) := by decide +kernel
theorem dX4_wordKind_138 : decode cX4_wordKind 138 = .ok (.bipush 15, 2) := by decide +kernel
theorem dX4_wordKind_140 : decode cX4_wordKind 140 = .ok (.goto 4, 3) := by decide +kernel
theorem dX4_wordKind_143 : decode cX4_wordKind 143 = .ok (.iconst 1, 1) := by decide +kernel
theorem dX4_wordKind_144 : decode cX4_wordKind 144 = .ok (.ireturn, 1) := by decide +kernel
theorem dX4_spells_0 : decode cX4_spells 0 = .ok (.aload_n 0, 1) := by decide +kernel
theorem dX4_spells_1 : decode cX4_spells 1 = .ok (.getfield 28, 3) := by decide +kernel
theorem dX4_spells_4 : decode cX4_spells 4 = .ok (.aload_n 0, 1) := by decide +kernel
theorem dX4_spells_5 : decode cX4_spells 5 = .ok (.getfield 15, 3) := by decide +kernel
theorem dX4_spells_8 : decode cX4_spells 8 = .ok (.isub, 1) := by decide +kernel
theorem dX4_spells_9 : decode cX4_spells 9 = .ok (.aload_n 1, 1) := by decide +kernel
theorem dX4_spells_10 : decode cX4_spells 10 = .ok (.invokevirtual 133, 3) := by decide +kernel
theorem dX4_spells_13 : decode cX4_spells 13 = .ok (.if_icmp .eq 5, 3) := by decide +kernel
theorem dX4_spells_16 : decode cX4_spells 16 = .ok (.iconst 0, 1) := by decide +kernel
theorem dX4_spells_17 : decode cX4_spells 17 = .ok (.ireturn, 1) := by decide +kernel
theorem dX4_spells_18 : decode cX4_spells 18 = .ok (.iconst 0, 1) := by decide +kernel
theorem dX4_spells_19 : decode cX4_spells 19 = .ok (.istore_n 2, 1) := by decide +kernel
theorem dX4_spells_20 : decode cX4_spells 20 = .ok (.iload_n 2, 1) := by decide +kernel
theorem dX4_spells_21 : decode cX4_spells 21 = .ok (.aload_n 1, 1) := by decide +kernel
theorem dX4_spells_22 : decode cX4_spells 22 = .ok (.invokevirtual 133, 3) := by decide +kernel
theorem dX4_spells_25 : decode cX4_spells 25 = .ok (.if_icmp .ge 30, 3) := by decide +kernel
theorem dX4_spells_28 : decode cX4_spells 28 = .ok (.aload_n 0, 1) := by decide +kernel
theorem dX4_spells_29 : decode cX4_spells 29 = .ok (.getfield 18, 3) := by decide +kernel
theorem dX4_spells_32 : decode cX4_spells 32 = .ok (.aload_n 0, 1) := by decide +kernel
theorem dX4_spells_33 : decode cX4_spells 33 = .ok (.getfield 15, 3) := by decide +kernel
theorem dX4_spells_36 : decode cX4_spells 36 = .ok (.iload_n 2, 1) := by decide +kernel
theorem dX4_spells_37 : decode cX4_spells 37 = .ok (.iadd, 1) := by decide +kernel
theorem dX4_spells_38 : decode cX4_spells 38 = .ok (.iaload, 1) := by decide +kernel
theorem dX4_spells_39 : decode cX4_spells 39 = .ok (.aload_n 1, 1) := by decide +kernel
theorem dX4_spells_40 : decode cX4_spells 40 = .ok (.iload_n 2, 1) := by decide +kernel
theorem dX4_spells_41 : decode cX4_spells 41 = .ok (.invokevirtual 138, 3) := by decide +kernel
theorem dX4_spells_44 : decode cX4_spells 44 = .ok (.if_icmp .eq 5, 3) := by decide +kernel
theorem dX4_spells_47 : decode cX4_spells 47 = .ok (.iconst 0, 1) := by decide +kernel
theorem dX4_spells_48 : decode cX4_spells 48 = .ok (.ireturn, 1) := by decide +kernel
theorem dX4_spells_49 : decode cX4_spells 49 = .ok (.iinc 2 1, 3) := by decide +kernel
theorem dX4_spells_52 : decode cX4_spells 52 = .ok (.goto (-32), 3) := by decide +kernel
theorem dX4_spells_55 : decode cX4_spells 55 = .ok (.iconst 1, 1) := by decide +kernel
theorem dX4_spells_56 : decode cX4_spells 56 = .ok (.ireturn, 1) := by decide +kernel
theorem dX5_init_0 : decode cX5_init 0 = .ok (.aload_n 0, 1) := by decide +kernel
theorem dX5_init_1 : decode cX5_init 1 = .ok (.invokespecial 3, 3) := by decide +kernel
theorem dX5_init_4 : decode cX5_init 4 = .ok (.aload_n 0, 1) := by decide +kernel
theorem dX5_init_5 : decode cX5_init 5 = .ok (.bipush 32, 2) := by decide +kernel
theorem dX5_init_7 : decode cX5_init 7 = .ok (.newarray .int, 2) := by decide +kernel
theorem dX5_init_9 : decode cX5_init 9 = .ok (.putfield 11, 3) := by decide +kernel
theorem dX5_init_12 : decode cX5_init 12 = .ok (.aload_n 0, 1) := by decide +kernel
theorem dX5_init_13 : decode cX5_init 13 = .ok (.aload_n 1, 1) := by decide +kernel
theorem dX5_init_14 : decode cX5_init 14 = .ok (.putfield 15, 3) := by decide +kernel
theorem dX5_init_17 : decode cX5_init 17 = .ok (.aload_n 0, 1) := by decide +kernel
theorem dX5_init_18 : decode cX5_init 18 = .ok (.iload_n 2, 1) := by decide +kernel
theorem dX5_init_19 : decode cX5_init 19 = .ok (.putfield 18, 3) := by decide +kernel
theorem dX5_init_22 : decode cX5_init 22 = .ok (.aload_n 0, 1) := by decide +kernel
theorem dX5_init_23 : decode cX5_init 23 = .ok (.iload_n 3, 1) := by decide +kernel
theorem dX5_init_24 : decode cX5_init 24 = .ok (.putfield 22, 3) := by decide +kernel
theorem dX5_init_27 : decode cX5_init 27 = .ok (.return_, 1) := by decide +kernel
theorem dX5_wantedBy_0 : decode cX5_wantedBy 0 = .ok (.aload_n 0, 1) := by decide +kernel
theorem dX5_wantedBy_1 : decode cX5_wantedBy 1 = .ok (.iconst 0, 1) := by decide +kernel
theorem dX5_wantedBy_2 : decode cX5_wantedBy 2 = .ok (.aload_n 0, 1) := by decide +kernel
theorem dX5_wantedBy_3 : decode cX5_wantedBy 3 = .ok (.getfield 18, 3) := by decide +kernel
theorem dX5_wantedBy_6 : decode cX5_wantedBy 6 = .ok (.aload_n 1, 1) := by decide +kernel
theorem dX5_wantedBy_7 : decode cX5_wantedBy 7 = .ok (.iconst 0, 1) := by decide +kernel
theorem dX5_wantedBy_8 : decode cX5_wantedBy 8 = .ok (.iload_n 2, 1) := by decide +kernel
theorem dX5_wantedBy_9 : decode cX5_wantedBy 9 = .ok (.invokevirtual 25, 3) := by decide +kernel
theorem dX5_wantedBy_12 : decode cX5_wantedBy 12 = .ok (.sipush 999, 3) := by decide +kernel
theorem dX5_wantedBy_15 : decode cX5_wantedBy 15 = .ok (.invokestatic 29, 3) := by decide +kernel
theorem dX5_wantedBy_18 : decode cX5_wantedBy 18 = .ok (.ireturn, 1) := by decide +kernel
theorem dX5_rings_0 : decode cX5_rings 0 = .ok (.aload_n 0, 1) := by decide +kernel
theorem dX5_rings_1 : decode cX5_rings 1 = .ok (.aload_n 0, 1) := by decide +kernel
theorem dX5_rings_2 : decode cX5_rings 2 = .ok (.getfield 18, 3) := by decide +kernel
theorem dX5_rings_5 : decode cX5_rings 5 = .ok (.aload_n 0, 1) := by decide +kernel
theorem dX5_rings_6 : decode cX5_rings 6 = .ok (.getfield 22, 3) := by decide +kernel
theorem dX5_rings_9 : decode cX5_rings 9 = .ok (.aload_n 1, 1) := by decide +kernel
theorem dX5_rings_10 : decode cX5_rings 10 = .ok (.iload_n 2, 1) := by decide +kernel
theorem dX5_rings_11 : decode cX5_rings 11 = .ok (.iload_n 3, 1) := by decide +kernel
theorem dX5_rings_12 : decode cX5_rings 12 = .ok (.invokevirtual 25, 3) := by decide +kernel
theorem dX5_rings_15 : decode cX5_rings 15 = .ok (.ifCond .eq 7, 3) := by decide +kernel
theorem dX5_rings_18 : decode cX5_rings 18 = .ok (.iconst 1, 1) := by decide +kernel
theorem dX5_rings_19 : decode cX5_rings 19 = .ok (.goto 4, 3) := by decide +kernel
theorem dX5_rings_22 : decode cX5_rings 22 = .ok (.iconst 0, 1) := by decide +kernel
theorem dX5_rings_23 : decode cX5_rings 23 = .ok (.ireturn, 1) := by decide +kernel
theorem dX5_gift_0 : decode cX5_gift 0 = .ok (.aload_n 0, 1) := by decide +kernel
theorem dX5_gift_1 : decode cX5_gift 1 = .ok (.aload_n 0, 1) := by decide +kernel
theorem dX5_gift_2 : decode cX5_gift 2 = .ok (.getfield 22, 3) := by decide +kernel
theorem dX5_gift_5 : decode cX5_gift 5 = .ok (.aload_n 0, 1) := by decide +kernel
theorem dX5_gift_6 : decode cX5_gift 6 = .ok (.getfield 15, 3) := by decide +kernel
theorem dX5_gift_9 : decode cX5_gift 9 = .ok (.arraylength, 1) := by decide +kernel
theorem dX5_gift_10 : decode cX5_gift 10 = .ok (.aload_n 1, 1) := by decide +kernel
theorem dX5_gift_11 : decode cX5_gift 11 = .ok (.iload_n 2, 1) := by decide +kernel
theorem dX5_gift_12 : decode cX5_gift 12 = .ok (.iload_n 3, 1) := by decide +kernel
theorem dX5_gift_13 : decode cX5_gift 13 = .ok (.invokevirtual 25, 3) := by decide +kernel
theorem dX5_gift_16 : decode cX5_gift 16 = .ok (.bipush 99, 2) := by decide +kernel
theorem dX5_gift_18 : decode cX5_gift 18 = .ok (.invokestatic 29, 3) := by decide +kernel
theorem dX5_gift_21 : decode cX5_gift 21 = .ok (.istore 4, 2) := by decide +kernel
theorem dX5_gift_23 : decode cX5_gift 23 = .ok (.iconst 0, 1) := by decide +kernel
theorem dX5_gift_24 : decode cX5_gift 24 = .ok (.aload_n 1, 1) := by decide +kernel
theorem dX5_gift_25 : decode cX5_gift 25 = .ok (.iload 4, 2) := by decide +kernel
theorem dX5_gift_27 : decode cX5_gift 27 = .ok (.iload_n 2, 1) := by decide +kernel
theorem dX5_gift_28 : decode cX5_gift 28 = .ok (.iload_n 3, 1) := by decide +kernel
theorem dX5_gift_29 : decode cX5_gift 29 = .ok (.invokevirtual 33, 3) := by decide +kernel
theorem dX5_gift_32 : decode cX5_gift 32 = .ok (.invokestatic 39, 3) := by decide +kernel
theorem dX5_gift_35 : decode cX5_gift 35 = .ok (.ireturn, 1) := by decide +kernel
theorem dX5_within_0 : decode cX5_within 0 = .ok (.iconst 0, 1) := by decide +kernel
theorem dX5_within_1 : decode cX5_within 1 = .ok (.iload_n 1, 1) := by decide +kernel
theorem dX5_within_2 : decode cX5_within 2 = .ok (.iload_n 0, 1) := by decide +kernel
theorem dX5_within_3 : decode cX5_within 3 = .ok (.invokestatic 44, 3) := by decide +kernel
theorem dX5_within_6 : decode cX5_within 6 = .ok (.invokestatic 39, 3) := by decide +kernel
theorem dX5_within_9 : decode cX5_within 9 = .ok (.ireturn, 1) := by decide +kernel
theorem dX5_answer_0 : decode cX5_answer 0 = .ok (.iconst 0, 1) := by decide +kernel
theorem dX5_answer_1 : decode cX5_answer 1 = .ok (.istore 6, 2) := by decide +kernel
theorem dX5_answer_3 : decode cX5_answer 3 = .ok (.iload_n 1, 1) := by decide +kernel
theorem dX5_answer_4 : decode cX5_answer 4 = .ok (.istore 7, 2) := by decide +kernel
theorem dX5_answer_6 : decode cX5_answer 6 = .ok (.iload 7, 2) := by decide +kernel
theorem dX5_answer_8 : decode cX5_answer 8 = .ok (.iload_n 2, 1) := by decide +kernel
theorem dX5_answer_9 : decode cX5_answer 9 = .ok (.if_icmp .ge 186, 3) := by decide +kernel
theorem dX5_answer_12 : decode cX5_answer 12 = .ok (.aload_n 0, 1) := by decide +kernel
theorem dX5_answer_13 : decode cX5_answer 13 = .ok (.getfield 15, 3) := by decide +kernel
theorem dX5_answer_16 : decode cX5_answer 16 = .ok (.iload 7, 2) := by decide +kernel
theorem dX5_answer_18 : decode cX5_answer 18 = .ok (.iaload, 1) := by decide +kernel
theorem dX5_answer_19 : decode cX5_answer 19 = .ok (.bipush 63, 2) := by decide +kernel
theorem dX5_answer_21 : decode cX5_answer 21 = .ok (.iand, 1) := by decide +kernel
theorem dX5_answer_22 : decode cX5_answer 22 = .ok (.istore 8, 2) := by decide +kernel
theorem dX5_answer_24 : decode cX5_answer 24 = .ok (.iload 8, 2) := by decide +kernel
theorem dX5_answer_26 : decode cX5_answer 26 = .ok (.bipush 8, 2) := by decide +kernel
theorem dX5_answer_28 : decode cX5_answer 28 = .ok (.if_icmp .eq 10, 3) := by decide +kernel
theorem dX5_answer_31 : decode cX5_answer 31 = .ok (.iload 8, 2) := by decide +kernel
theorem dX5_answer_33 : decode cX5_answer 33 = .ok (.bipush 9, 2) := by decide +kernel
theorem dX5_answer_35 : decode cX5_answer 35 = .ok (.if_icmp .ne 58, 3) := by decide +kernel
theorem dX5_answer_38 : decode cX5_answer 38 = .ok (.iload 6, 2) := by decide +kernel
theorem dX5_answer_40 : decode cX5_answer 40 = .ok (.iconst 1, 1) := by decide +kernel
theorem dX5_answer_41 : decode cX5_answer 41 = .ok (.if_icmp .lt 148, 3) := by decide +kernel
theorem dX5_answer_44 : decode cX5_answer 44 = .ok (.aload_n 0, 1) := by decide +kernel
theorem dX5_answer_45 : decode cX5_answer 45 = .ok (.getfield 11, 3) := by decide +kernel
theorem dX5_answer_48 : decode cX5_answer 48 = .ok (.iload 6, 2) := by decide +kernel
theorem dX5_answer_50 : decode cX5_answer 50 = .ok (.iconst 1, 1) := by decide +kernel
theorem dX5_answer_51 : decode cX5_answer 51 = .ok (.isub, 1) := by decide +kernel
theorem dX5_answer_52 : decode cX5_answer 52 = .ok (.iaload, 1) := by decide +kernel
theorem dX5_answer_53 : decode cX5_answer 53 = .ok (.istore 9, 2) := by decide +kernel
theorem dX5_answer_55 : decode cX5_answer 55 = .ok (.aload_n 0, 1) := by decide +kernel
theorem dX5_answer_56 : decode cX5_answer 56 = .ok (.getfield 11, 3) := by decide +kernel
theorem dX5_answer_59 : decode cX5_answer 59 = .ok (.iload 6, 2) := by decide +kernel
theorem dX5_answer_61 : decode cX5_answer 61 = .ok (.iconst 1, 1) := by decide +kernel
theorem dX5_answer_62 : decode cX5_answer 62 = .ok (.isub, 1) := by decide +kernel
theorem dX5_answer_63 : decode cX5_answer 63 = .ok (.iload 8, 2) := by decide +kernel
theorem dX5_answer_65 : decode cX5_answer 65 = .ok (.bipush 9, 2) := by decide +kernel
theorem dX5_answer_67 : decode cX5_answer 67 = .ok (.if_icmp .ne 9, 3) := by decide +kernel
theorem dX5_answer_70 : decode cX5_answer 70 = .ok (.iload 9, 2) := by decide +kernel
theorem dX5_answer_72 : decode cX5_answer 72 = .ok (.ineg, 1) := by decide +kernel
theorem dX5_answer_73 : decode cX5_answer 73 = .ok (.goto 16, 3) := by decide +kernel
theorem dX5_answer_76 : decode cX5_answer 76 = .ok (.iload 9, 2) := by decide +kernel
theorem dX5_answer_78 : decode cX5_answer 78 = .ok (.ifCond .ne 7, 3) := by decide +kernel
theorem dX5_answer_81 : decode cX5_answer 81 = .ok (.iconst 1, 1) := by decide +kernel
theorem dX5_answer_82 : decode cX5_answer 82 = .ok (.goto 4, 3) := by decide +kernel
theorem dX5_answer_85 : decode cX5_answer 85 = .ok (.iconst 0, 1) := by decide +kernel
theorem dX5_answer_86 : decode cX5_answer 86 = .ok (.invokestatic 49, 3) := by decide +kernel
theorem dX5_answer_89 : decode cX5_answer 89 = .ok (.iastore, 1) := by decide +kernel
theorem dX5_answer_90 : decode cX5_answer 90 = .ok (.goto 99, 3) := by decide +kernel
theorem dX5_answer_93 : decode cX5_answer 93 = .ok (.iload 8, 2) := by decide +kernel
theorem dX5_answer_95 : decode cX5_answer 95 = .ok (.invokestatic 53, 3) := by decide +kernel
theorem dX5_answer_98 : decode cX5_answer 98 = .ok (.ifCond .eq 45, 3) := by decide +kernel
theorem dX5_answer_101 : decode cX5_answer 101 = .ok (.iload 6, 2) := by decide +kernel
theorem dX5_answer_103 : decode cX5_answer 103 = .ok (.iconst 2, 1) := by decide +kernel
theorem dX5_answer_104 : decode cX5_answer 104 = .ok (.if_icmp .lt 85, 3) := by decide +kernel
theorem dX5_answer_107 : decode cX5_answer 107 = .ok (.iinc 6 (-1), 3) := by decide +kernel
theorem dX5_answer_110 : decode cX5_answer 110 = .ok (.aload_n 0, 1) := by decide +kernel
theorem dX5_answer_111 : decode cX5_answer 111 = .ok (.getfield 11, 3) := by decide +kernel
theorem dX5_answer_114 : decode cX5_answer 114 = .ok (.iload 6, 2) := by decide +kernel
theorem dX5_answer_116 : decode cX5_answer 116 = .ok (.iconst 1, 1) := by decide +kernel
theorem dX5_answer_117 : decode cX5_answer 117 = .ok (.isub, 1) := by decide +kernel
theorem dX5_answer_118 : decode cX5_answer 118 = .ok (.iload 8, 2) := by decide +kernel
theorem dX5_answer_120 : decode cX5_answer 120 = .ok (.aload_n 0, 1) := by decide +kernel
theorem dX5_answer_121 : decode cX5_answer 121 = .ok (.getfield 11, 3) := by decide +kernel
theorem dX5_answer_124 : decode cX5_answer 124 = .ok (.iload 6, 2) := by decide +kernel
theorem dX5_answer_126 : decode cX5_answer 126 = .ok (.iconst 1, 1) := by decide +kernel
theorem dX5_answer_127 : decode cX5_answer 127 = .ok (.isub, 1) := by decide +kernel
theorem dX5_answer_128 : decode cX5_answer 128 = .ok (.iaload, 1) := by decide +kernel
theorem dX5_answer_129 : decode cX5_answer 129 = .ok (.aload_n 0, 1) := by decide +kernel
theorem dX5_answer_130 : decode cX5_answer 130 = .ok (.getfield 11, 3) := by decide +kernel
theorem dX5_answer_133 : decode cX5_answer 133 = .ok (.iload 6, 2) := by decide +kernel
theorem dX5_answer_135 : decode cX5_answer 135 = .ok (.iaload, 1) := by decide +kernel
theorem dX5_answer_136 : decode cX5_answer 136 = .ok (.invokestatic 57, 3) := by decide +kernel
theorem dX5_answer_139 : decode cX5_answer 139 = .ok (.iastore, 1) := by decide +kernel
theorem dX5_answer_140 : decode cX5_answer 140 = .ok (.goto 49, 3) := by decide +kernel
theorem dX5_answer_143 : decode cX5_answer 143 = .ok (.iload 6, 2) := by decide +kernel
theorem dX5_answer_145 : decode cX5_answer 145 = .ok (.bipush 32, 2) := by decide +kernel
theorem dX5_answer_147 : decode cX5_answer 147 = .ok (.if_icmp .ge 42, 3) := by decide +kernel
theorem dX5_answer_150 : decode cX5_answer 150 = .ok (.aload_n 0, 1) := by decide +kernel
theorem dX5_answer_151 : decode cX5_answer 151 = .ok (.getfield 11, 3) := by decide +kernel
theorem dX5_answer_154 : decode cX5_answer 154 = .ok (.iload 6, 2) := by decide +kernel
theorem dX5_answer_156 : decode cX5_answer 156 = .ok (.iload 8, 2) := by decide +kernel
theorem dX5_answer_158 : decode cX5_answer 158 = .ok (.iconst 2, 1) := by decide +kernel
theorem dX5_answer_159 : decode cX5_answer 159 = .ok (.if_icmp .ne 16, 3) := by decide +kernel
theorem dX5_answer_162 : decode cX5_answer 162 = .ok (.aload_n 0, 1) := by decide +kernel
theorem dX5_answer_163 : decode cX5_answer 163 = .ok (.getfield 15, 3) := by decide +kernel
theorem dX5_answer_166 : decode cX5_answer 166 = .ok (.iload 7, 2) := by decide +kernel
theorem dX5_answer_168 : decode cX5_answer 168 = .ok (.iaload, 1) := by decide +kernel
theorem dX5_answer_169 : decode cX5_answer 169 = .ok (.bipush 6, 2) := by decide +kernel
theorem dX5_answer_171 : decode cX5_answer 171 = .ok (.ishr, 1) := by decide +kernel
theorem dX5_answer_172 : decode cX5_answer 172 = .ok (.goto 13, 3) := by decide +kernel
theorem dX5_answer_175 : decode cX5_answer 175 = .ok (.iload 8, 2) := by decide +kernel
theorem dX5_answer_177 : decode cX5_answer 177 = .ok (.aload_n 3, 1) := by decide +kernel
theorem dX5_answer_178 : decode cX5_answer 178 = .ok (.iload 4, 2) := by decide +kernel
theorem dX5_answer_180 : decode cX5_answer 180 = .ok (.iload 5, 2) := by decide +kernel
theorem dX5_answer_182 : decode cX5_answer 182 = .ok (.invokestatic 60, 3) := by decide +kernel
theorem dX5_answer_185 : decode cX5_answer 185 = .ok (.iastore, 1) := by decide +kernel
theorem dX5_answer_186 : decode cX5_answer 186 = .ok (.iinc 6 1, 3) := by decide +kernel
theorem dX5_answer_189 : decode cX5_answer 189 = .ok (.iinc 7 1, 3) := by decide +kernel
theorem dX5_answer_192 : decode cX5_answer 192 = .ok (.goto (-186), 3) := by decide +kernel
theorem dX5_answer_195 : decode cX5_answer 195 = .ok (.aload_n 0, 1) := by decide +kernel
theorem dX5_answer_196 : decode cX5_answer 196 = .ok (.getfield 11, 3) := by decide +kernel
theorem dX5_answer_199 : decode cX5_answer 199 = .ok (.iconst 0, 1) := by decide +kernel
theorem dX5_answer_200 : decode cX5_answer 200 = .ok (.iaload, 1) := by decide +kernel
theorem dX5_answer_201 : decode cX5_answer 201 = .ok (.ireturn, 1) := by decide +kernel
theorem dX5_bit_0 : decode cX5_bit 0 = .ok (.iload_n 0, 1) := by decide +kernel
theorem dX5_bit_1 : decode cX5_bit 1 = .ok (.ifCond .eq 7, 3) := by decide +kernel
theorem dX5_bit_4 : decode cX5_bit 4 = .ok (.iconst 1, 1) := by decide +kernel
theorem dX5_bit_5 : decode cX5_bit 5 = .ok (.goto 4, 3) := by decide +kernel
theorem dX5_bit_8 : decode cX5_bit 8 = .ok (.iconst 0, 1) := by decide +kernel
theorem dX5_bit_9 : decode cX5_bit 9 = .ok (.ireturn, 1) := by decide +kernel
theorem dX5_joined_0 : decode cX5_joined 0 = .ok (.iload_n 0, 1) := by decide +kernel
theorem dX5_joined_1 : decode cX5_joined 1 = .ok (.lookupswitch 129 #[(6, 59), (7, 76), (43, 121), (45, 125), (60, 93), (61, 107)], 59) := by decide +kernel
theorem dX5_joined_60 : decode cX5_joined 60 = .ok (.iload_n 1, 1) := by decide +kernel
theorem dX5_joined_61 : decode cX5_joined 61 = .ok (.ifCond .ne 7, 3) := by decide +kernel
theorem dX5_joined_64 : decode cX5_joined 64 = .ok (.iload_n 2, 1) := by decide +kernel
theorem dX5_joined_65 : decode cX5_joined 65 = .ok (.ifCond .eq 7, 3) := by decide +kernel
theorem dX5_joined_68 : decode cX5_joined 68 = .ok (.iconst 1, 1) := by decide +kernel
theorem dX5_joined_69 : decode cX5_joined 69 = .ok (.goto 4, 3) := by decide +kernel
theorem dX5_joined_72 : decode cX5_joined 72 = .ok (.iconst 0, 1) := by decide +kernel
theorem dX5_joined_73 : decode cX5_joined 73 = .ok (.invokestatic 49, 3) := by decide +kernel
theorem dX5_joined_76 : decode cX5_joined 76 = .ok (.ireturn, 1) := by decide +kernel
theorem dX5_joined_77 : decode cX5_joined 77 = .ok (.iload_n 1, 1) := by decide +kernel
theorem dX5_joined_78 : decode cX5_joined 78 = .ok (.ifCond .eq 11, 3) := by decide +kernel
theorem dX5_joined_81 : decode cX5_joined 81 = .ok (.iload_n 2, 1) := by decide +kernel
theorem dX5_joined_82 : decode cX5_joined 82 = .ok (.ifCond .eq 7, 3) := by decide +kernel
theorem dX5_joined_85 : decode cX5_joined 85 = .ok (.iconst 1, 1) := by decide +kernel
theorem dX5_joined_86 : decode cX5_joined 86 = .ok (.goto 4, 3) := by decide +kernel
theorem dX5_joined_89 : decode cX5_joined 89 = .ok (.iconst 0, 1) := by decide +kernel
theorem dX5_joined_90 : decode cX5_joined 90 = .ok (.invokestatic 49, 3) := by decide +kernel
theorem dX5_joined_93 : decode cX5_joined 93 = .ok (.ireturn, 1) := by decide +kernel
theorem dX5_joined_94 : decode cX5_joined 94 = .ok (.iload_n 1, 1) := by decide +kernel
theorem dX5_joined_95 : decode cX5_joined 95 = .ok (.iload_n 2, 1) := by decide +kernel
theorem dX5_joined_96 : decode cX5_joined 96 = .ok (.if_icmp .ge 7, 3) := by decide +kernel
theorem dX5_joined_99 : decode cX5_joined 99 = .ok (.iconst 1, 1) := by decide +kernel
theorem dX5_joined_100 : decode cX5_joined 100 = .ok (.goto 4, 3) := by decide +kernel
theorem dX5_joined_103 : decode cX5_joined 103 = .ok (.iconst 0, 1) := by decide +kernel
theorem dX5_joined_104 : decode cX5_joined 104 = .ok (.invokestatic 49, 3) := by decide +kernel
theorem dX5_joined_107 : decode cX5_joined 107 = .ok (.ireturn, 1) := by decide +kernel
theorem dX5_joined_108 : decode cX5_joined 108 = .ok (.iload_n 1, 1) := by decide +kernel
theorem dX5_joined_109 : decode cX5_joined 109 = .ok (.iload_n 2, 1) := by decide +kernel
theorem dX5_joined_110 : decode cX5_joined 110 = .ok (.if_icmp .ne 7, 3) := by decide +kernel
theorem dX5_joined_113 : decode cX5_joined 113 = .ok (.iconst 1, 1) := by decide +kernel
theorem dX5_joined_114 : decode cX5_joined 114 = .ok (.goto 4, 3) := by decide +kernel
theorem dX5_joined_117 : decode cX5_joined 117 = .ok (.iconst 0, 1) := by decide +kernel
theorem dX5_joined_118 : decode cX5_joined 118 = .ok (.invokestatic 49, 3) := by decide +kernel
theorem dX5_joined_121 : decode cX5_joined 121 = .ok (.ireturn, 1) := by decide +kernel
theorem dX5_joined_122 : decode cX5_joined 122 = .ok (.iload_n 1, 1) := by decide +kernel
theorem dX5_joined_123 : decode cX5_joined 123 = .ok (.iload_n 2, 1) := by decide +kernel
theorem dX5_joined_124 : decode cX5_joined 124 = .ok (.iadd, 1) := by decide +kernel
theorem dX5_joined_125 : decode cX5_joined 125 = .ok (.ireturn, 1) := by decide +kernel
theorem dX5_joined_126 : decode cX5_joined 126 = .ok (.iload_n 1, 1) := by decide +kernel
theorem dX5_joined_127 : decode cX5_joined 127 = .ok (.iload_n 2, 1) := by decide +kernel
theorem dX5_joined_128 : decode cX5_joined 128 = .ok (.isub, 1) := by decide +kernel
theorem dX5_joined_129 : decode cX5_joined 129 = .ok (.ireturn, 1) := by decide +kernel
theorem dX5_joined_130 : decode cX5_joined 130 = .ok (.iload_n 1, 1) := by decide +kernel
theorem dX5_joined_131 : decode cX5_joined 131 = .ok (.iload_n 2, 1) := by decide +kernel
theorem dX5_joined_132 : decode cX5_joined 132 = .ok (.imul, 1) := by decide +kernel
theorem dX5_joined_133 : decode cX5_joined 133 = .ok (.ireturn, 1) := by decide +kernel
theorem dX5_named_0 : decode cX5_named 0 = .ok (.iload_n 0, 1) := by decide +kernel
theorem dX5_named_1 : decode cX5_named 1 = .ok (.tableswitch 54 10 14 #[35, 40, 45, 50, 52], 35) := by decide +kernel
theorem dX5_named_36 : decode cX5_named 36 = .ok (.aload_n 1, 1) := by decide +kernel
theorem dX5_named_37 : decode cX5_named 37 = .ok (.getfield 64, 3) := by decide +kernel
theorem dX5_named_40 : decode cX5_named 40 = .ok (.ireturn, 1) := by decide +kernel
theorem dX5_named_41 : decode cX5_named 41 = .ok (.aload_n 1, 1) := by decide +kernel
theorem dX5_named_42 : decode cX5_named 42 = .ok (.getfield 67, 3) := by decide +kernel
theorem dX5_named_45 : decode cX5_named 45 = .ok (.ireturn, 1) := by decide +kernel
theorem dX5_named_46 : decode cX5_named 46 = .ok (.aload_n 1, 1) := by decide +kernel
theorem dX5_named_47 : decode cX5_named 47 = .ok (.getfield 70, 3) := by decide +kernel
theorem dX5_named_50 : decode cX5_named 50 = .ok (.ireturn, 1) := by decide +kernel
theorem dX5_named_51 : decode cX5_named 51 = .ok (.iload_n 2, 1) := by decide +kernel
theorem dX5_named_52 : decode cX5_named 52 = .ok (.ireturn, 1) := by decide +kernel
theorem dX5_named_53 : decode cX5_named 53 = .ok (.iload_n 3, 1) := by decide +kernel
theorem dX5_named_54 : decode cX5_named 54 = .ok (.ireturn, 1) := by decide +kernel
theorem dX5_named_55 : decode cX5_named 55 = .ok (.aload_n 1, 1) := by decide +kernel
theorem dX5_named_56 : decode cX5_named 56 = .ok (.getfield 73, 3) := by decide +kernel
theorem dX5_named_59 : decode cX5_named 59 = .ok (.ireturn, 1) := by decide +kernel
theorem dX6_init_0 : decode cX6_init 0 = .ok (.aload_n 0, 1) := by decide +kernel
theorem dX6_init_1 : decode cX6_init 1 = .ok (.invokespecial 3, 3) := by decide +kernel
theorem dX6_init_4 : decode cX6_init 4 = .ok (.aload_n 0, 1) := by decide +kernel
theorem dX6_init_5 : decode cX6_init 5 = .ok (.bipush 7, 2) := by decide +kernel
theorem dX6_init_7 : decode cX6_init 7 = .ok (.newarray .int, 2) := by decide +kernel
theorem dX6_init_9 : decode cX6_init 9 = .ok (.putfield 9, 3) := by decide +kernel
theorem dX6_init_12 : decode cX6_init 12 = .ok (.aload_n 0, 1) := by decide +kernel
theorem dX6_init_13 : decode cX6_init 13 = .ok (.iconst 0, 1) := by decide +kernel
theorem dX6_init_14 : decode cX6_init 14 = .ok (.putfield 15, 3) := by decide +kernel
theorem dX6_init_17 : decode cX6_init 17 = .ok (.aload_n 0, 1) := by decide +kernel
theorem dX6_init_18 : decode cX6_init 18 = .ok (.iconst 0, 1) := by decide +kernel
theorem dX6_init_19 : decode cX6_init 19 = .ok (.putfield 19, 3) := by decide +kernel
theorem dX6_init_22 : decode cX6_init 22 = .ok (.aload_n 0, 1) := by decide +kernel
theorem dX6_init_23 : decode cX6_init 23 = .ok (.bipush 8, 2) := by decide +kernel
theorem dX6_init_25 : decode cX6_init 25 = .ok (.anewarray 23, 3) := by decide +kernel
theorem dX6_init_28 : decode cX6_init 28 = .ok (.putfield 25, 3) := by decide +kernel
theorem dX6_init_31 : decode cX6_init 31 = .ok (.aload_n 0, 1) := by decide +kernel
theorem dX6_init_32 : decode cX6_init 32 = .ok (.bipush 7, 2) := by decide +kernel
theorem dX6_init_34 : decode cX6_init 34 = .ok (.newarray .int, 2) := by decide +kernel
theorem dX6_init_36 : decode cX6_init 36 = .ok (.putfield 29, 3) := by decide +kernel
theorem dX6_init_39 : decode cX6_init 39 = .ok (.aload_n 0, 1) := by decide +kernel
theorem dX6_init_40 : decode cX6_init 40 = .ok (.bipush 7, 2) := by decide +kernel
theorem dX6_init_42 : decode cX6_init 42 = .ok (.newarray .int, 2) := by decide +kernel
theorem dX6_init_44 : decode cX6_init 44 = .ok (.putfield 32, 3) := by decide +kernel
theorem dX6_init_47 : decode cX6_init 47 = .ok (.aload_n 0, 1) := by decide +kernel
theorem dX6_init_48 : decode cX6_init 48 = .ok (.iconst 0, 1) := by decide +kernel
theorem dX6_init_49 : decode cX6_init 49 = .ok (.anewarray 35, 3) := by decide +kernel
theorem dX6_init_52 : decode cX6_init 52 = .ok (.putfield 37, 3) := by decide +kernel
theorem dX6_init_55 : decode cX6_init 55 = .ok (.aload_n 0, 1) := by decide +kernel
theorem dX6_init_56 : decode cX6_init 56 = .ok (.iconst 0, 1) := by decide +kernel
theorem dX6_init_57 : decode cX6_init 57 = .ok (.putfield 41, 3) := by decide +kernel
theorem dX6_init_60 : decode cX6_init 60 = .ok (.aload_n 0, 1) := by decide +kernel
theorem dX6_init_61 : decode cX6_init 61 = .ok (.bipush 10, 2) := by decide +kernel
theorem dX6_init_63 : decode cX6_init 63 = .ok (.newarray .int, 2) := by decide +kernel
theorem dX6_init_65 : decode cX6_init 65 = .ok (.putfield 44, 3) := by decide +kernel
theorem dX6_init_68 : decode cX6_init 68 = .ok (.aload_n 0, 1) := by decide +kernel
theorem dX6_init_69 : decode cX6_init 69 = .ok (.iload_n 1, 1) := by decide +kernel
theorem dX6_init_70 : decode cX6_init 70 = .ok (.putfield 47, 3) := by decide +kernel
theorem dX6_init_73 : decode cX6_init 73 = .ok (.iconst 0, 1) := by decide +kernel
theorem dX6_init_74 : decode cX6_init 74 = .ok (.istore_n 2, 1) := by decide +kernel
theorem dX6_init_75 : decode cX6_init 75 = .ok (.iload_n 2, 1) := by decide +kernel
theorem dX6_init_76 : decode cX6_init 76 = .ok (.bipush 7, 2) := by decide +kernel
theorem dX6_init_78 : decode cX6_init 78 = .ok (.if_icmp .gt 22, 3) := by decide +kernel
theorem dX6_init_81 : decode cX6_init 81 = .ok (.aload_n 0, 1) := by decide +kernel
theorem dX6_init_82 : decode cX6_init 82 = .ok (.getfield 25, 3) := by decide +kernel
theorem dX6_init_85 : decode cX6_init 85 = .ok (.iload_n 2, 1) := by decide +kernel
theorem dX6_init_86 : decode cX6_init 86 = .ok (.new 23, 3) := by decide +kernel
theorem dX6_init_89 : decode cX6_init 89 = .ok (.dup, 1) := by decide +kernel
theorem dX6_init_90 : decode cX6_init 90 = .ok (.invokespecial 50, 3) := by decide +kernel
theorem dX6_init_93 : decode cX6_init 93 = .ok (.aastore, 1) := by decide +kernel
theorem dX6_init_94 : decode cX6_init 94 = .ok (.iinc 2 1, 3) := by decide +kernel
theorem dX6_init_97 : decode cX6_init 97 = .ok (.goto (-22), 3) := by decide +kernel
theorem dX6_init_100 : decode cX6_init 100 = .ok (.iload_n 1, 1) := by decide +kernel
theorem dX6_init_101 : decode cX6_init 101 = .ok (.ifCond .ne 7, 3) := by decide +kernel
theorem dX6_init_104 : decode cX6_init 104 = .ok (.iconst 0, 1) := by decide +kernel
theorem dX6_init_105 : decode cX6_init 105 = .ok (.goto 6, 3) := by decide +kernel
theorem dX6_init_108 : decode cX6_init 108 = .ok (.sipush 756, 3) := by decide +kernel
theorem dX6_init_111 : decode cX6_init 111 = .ok (.istore_n 2, 1) := by decide +kernel
theorem dX6_init_112 : decode cX6_init 112 = .ok (.aload_n 0, 1) := by decide +kernel
theorem dX6_init_113 : decode cX6_init 113 = .ok (.iload_n 2, 1) := by decide +kernel
theorem dX6_init_114 : decode cX6_init 114 = .ok (.newarray .int, 2) := by decide +kernel
theorem dX6_init_116 : decode cX6_init 116 = .ok (.putfield 51, 3) := by decide +kernel
theorem dX6_init_119 : decode cX6_init 119 = .ok (.aload_n 0, 1) := by decide +kernel
theorem dX6_init_120 : decode cX6_init 120 = .ok (.iload_n 2, 1) := by decide +kernel
theorem dX6_init_121 : decode cX6_init 121 = .ok (.newarray .int, 2) := by decide +kernel
theorem dX6_init_123 : decode cX6_init 123 = .ok (.putfield 54, 3) := by decide +kernel
theorem dX6_init_126 : decode cX6_init 126 = .ok (.return_, 1) := by decide +kernel
theorem dX6_find_0 : decode cX6_find 0 = .ok (.aload_n 0, 1) := by decide +kernel
theorem dX6_find_1 : decode cX6_find 1 = .ok (.getfield 19, 3) := by decide +kernel
theorem dX6_find_4 : decode cX6_find 4 = .ok (.ifCond .eq 4, 3) := by decide +kernel
theorem dX6_find_7 : decode cX6_find 7 = .ok (.return_, 1) := by decide +kernel
theorem dX6_find_8 : decode cX6_find 8 = .ok (.aload_n 0, 1) := by decide +kernel
theorem dX6_find_9 : decode cX6_find 9 = .ok (.aload_n 1, 1) := by decide +kernel
theorem dX6_find_10 : decode cX6_find 10 = .ok (.putfield 37, 3) := by decide +kernel
theorem dX6_find_13 : decode cX6_find 13 = .ok (.aload_n 0, 1) := by decide +kernel
theorem dX6_find_14 : decode cX6_find 14 = .ok (.iload_n 2, 1) := by decide +kernel
theorem dX6_find_15 : decode cX6_find 15 = .ok (.bipush 7, 2) := by decide +kernel
theorem dX6_find_17 : decode cX6_find 17 = .ok (.invokestatic 57, 3) := by decide +kernel
theorem dX6_find_20 : decode cX6_find 20 = .ok (.putfield 41, 3) := by decide +kernel
theorem dX6_find_23 : decode cX6_find 23 = .ok (.aload_n 0, 1) := by decide +kernel
theorem dX6_find_24 : decode cX6_find 24 = .ok (.aload_n 3, 1) := by decide +kernel
theorem dX6_find_25 : decode cX6_find 25 = .ok (.putfield 44, 3) := by decide +kernel
theorem dX6_find_28 : decode cX6_find 28 = .ok (.aload_n 0, 1) := by decide +kernel
theorem dX6_find_29 : decode cX6_find 29 = .ok (.getfield 47, 3) := by decide +kernel
theorem dX6_find_32 : decode cX6_find 32 = .ok (.iconst 1, 1) := by decide +kernel
theorem dX6_find_33 : decode cX6_find 33 = .ok (.if_icmp .ne 9, 3) := by decide +kernel
theorem dX6_find_36 : decode cX6_find 36 = .ok (.aload_n 0, 1) := by decide +kernel
theorem dX6_find_37 : decode cX6_find 37 = .ok (.aload 4, 2) := by decide +kernel
theorem dX6_find_39 : decode cX6_find 39 = .ok (.invokevirtual 63, 3) := by decide +kernel
theorem dX6_find_42 : decode cX6_find 42 = .ok (.aload_n 0, 1) := by decide +kernel
theorem dX6_find_43 : decode cX6_find 43 = .ok (.ldc 67, 2) := by decide +kernel
theorem dX6_find_45 : decode cX6_find 45 = .ok (.putfield 15, 3) := by decide +kernel
theorem dX6_find_48 : decode cX6_find 48 = .ok (.aload_n 0, 1) := by decide +kernel
theorem dX6_find_49 : decode cX6_find 49 = .ok (.getfield 25, 3) := by decide +kernel
theorem dX6_find_52 : decode cX6_find 52 = .ok (.iconst 0, 1) := by decide +kernel
theorem dX6_find_53 : decode cX6_find 53 = .ok (.aaload, 1) := by decide +kernel
theorem dX6_find_54 : decode cX6_find 54 = .ok (.aload_n 0, 1) := by decide +kernel
theorem dX6_find_55 : decode cX6_find 55 = .ok (.getfield 44, 3) := by decide +kernel
theorem dX6_find_58 : decode cX6_find 58 = .ok (.invokevirtual 68, 3) := by decide +kernel
theorem dX6_find_61 : decode cX6_find 61 = .ok (.aload_n 0, 1) := by decide +kernel
theorem dX6_find_62 : decode cX6_find 62 = .ok (.iconst 0, 1) := by decide +kernel
theorem dX6_find_63 : decode cX6_find 63 = .ok (.iconst 0, 1) := by decide +kernel
theorem dX6_find_64 : decode cX6_find 64 = .ok (.iconst 0, 1) := by decide +kernel
theorem dX6_find_65 : decode cX6_find 65 = .ok (.invokevirtual 72, 3) := by decide +kernel
theorem dX6_find_68 : decode cX6_find 68 = .ok (.aload_n 0, 1) := by decide +kernel
theorem dX6_find_69 : decode cX6_find 69 = .ok (.iconst 1, 1) := by decide +kernel
theorem dX6_find_70 : decode cX6_find 70 = .ok (.putfield 19, 3) := by decide +kernel
theorem dX6_find_73 : decode cX6_find 73 = .ok (.return_, 1) := by decide +kernel
theorem dX6_fillGifts_0 : decode cX6_fillGifts 0 = .ok (.aload_n 0, 1) := by decide +kernel
theorem dX6_fillGifts_1 : decode cX6_fillGifts 1 = .ok (.getfield 44, 3) := by decide +kernel
theorem dX6_fillGifts_4 : decode cX6_fillGifts 4 = .ok (.iconst 5, 1) := by decide +kernel
theorem dX6_fillGifts_5 : decode cX6_fillGifts 5 = .ok (.iaload, 1) := by decide +kernel
theorem dX6_fillGifts_6 : decode cX6_fillGifts 6 = .ok (.istore_n 2, 1) := by decide +kernel
theorem dX6_fillGifts_7 : decode cX6_fillGifts 7 = .ok (.iconst 0, 1) := by decide +kernel
theorem dX6_fillGifts_8 : decode cX6_fillGifts 8 = .ok (.istore_n 3, 1) := by decide +kernel
theorem dX6_fillGifts_9 : decode cX6_fillGifts 9 = .ok (.iload_n 3, 1) := by decide +kernel
theorem dX6_fillGifts_10 : decode cX6_fillGifts 10 = .ok (.aload_n 0, 1) := by decide +kernel
theorem dX6_fillGifts_11 : decode cX6_fillGifts 11 = .ok (.getfield 41, 3) := by decide +kernel
theorem dX6_fillGifts_14 : decode cX6_fillGifts 14 = .ok (.if_icmp .ge 112, 3) := by decide +kernel
theorem dX6_fillGifts_17 : decode cX6_fillGifts 17 = .ok (.aload_n 0, 1) := by decide +kernel
theorem dX6_fillGifts_18 : decode cX6_fillGifts 18 = .ok (.getfield 37, 3) := by decide +kernel
theorem dX6_fillGifts_21 : decode cX6_fillGifts 21 = .ok (.iload_n 3, 1) := by decide +kernel
theorem dX6_fillGifts_22 : decode cX6_fillGifts 22 = .ok (.aaload, 1) := by decide +kernel
theorem dX6_fillGifts_23 : decode cX6_fillGifts 23 = .ok (.astore 4, 2) := by decide +kernel
theorem dX6_fillGifts_25 : decode cX6_fillGifts 25 = .ok (.aload_n 0, 1) := by decide +kernel
theorem dX6_fillGifts_26 : decode cX6_fillGifts 26 = .ok (.getfield 32, 3) := by decide +kernel
theorem dX6_fillGifts_29 : decode cX6_fillGifts 29 = .ok (.iload_n 3, 1) := by decide +kernel
theorem dX6_fillGifts_30 : decode cX6_fillGifts 30 = .ok (.aload_n 1, 1) := by decide +kernel
theorem dX6_fillGifts_31 : decode cX6_fillGifts 31 = .ok (.aload 4, 2) := by decide +kernel
theorem dX6_fillGifts_33 : decode cX6_fillGifts 33 = .ok (.iload_n 2, 1) := by decide +kernel
theorem dX6_fillGifts_34 : decode cX6_fillGifts 34 = .ok (.invokevirtual 76, 3) := by decide +kernel
theorem dX6_fillGifts_37 : decode cX6_fillGifts 37 = .ok (.iastore, 1) := by decide +kernel
theorem dX6_fillGifts_38 : decode cX6_fillGifts 38 = .ok (.iconst 0, 1) := by decide +kernel
theorem dX6_fillGifts_39 : decode cX6_fillGifts 39 = .ok (.istore 5, 2) := by decide +kernel
theorem dX6_fillGifts_41 : decode cX6_fillGifts 41 = .ok (.bipush 107, 2) := by decide +kernel
theorem dX6_fillGifts_43 : decode cX6_fillGifts 43 = .ok (.istore 6, 2) := by decide +kernel
theorem dX6_fillGifts_45 : decode cX6_fillGifts 45 = .ok (.iload 6, 2) := by decide +kernel
theorem dX6_fillGifts_47 : decode cX6_fillGifts 47 = .ok (.ifCond .lt 73, 3) := by decide +kernel
theorem dX6_fillGifts_50 : decode cX6_fillGifts 50 = .ok (.aload_n 1, 1) := by decide +kernel
theorem dX6_fillGifts_51 : decode cX6_fillGifts 51 = .ok (.aload 4, 2) := by decide +kernel
theorem dX6_fillGifts_53 : decode cX6_fillGifts 53 = .ok (.iload 6, 2) := by decide +kernel
theorem dX6_fillGifts_55 : decode cX6_fillGifts 55 = .ok (.iload_n 2, 1) := by decide +kernel
theorem dX6_fillGifts_56 : decode cX6_fillGifts 56 = .ok (.invokevirtual 82, 3) := by decide +kernel
theorem dX6_fillGifts_59 : decode cX6_fillGifts 59 = .ok (.ifCond .eq 7, 3) := by decide +kernel
theorem dX6_fillGifts_62 : decode cX6_fillGifts 62 = .ok (.iconst 0, 1) := by decide +kernel
theorem dX6_fillGifts_63 : decode cX6_fillGifts 63 = .ok (.goto 12, 3) := by decide +kernel
theorem dX6_fillGifts_66 : decode cX6_fillGifts 66 = .ok (.aload_n 1, 1) := by decide +kernel
theorem dX6_fillGifts_67 : decode cX6_fillGifts 67 = .ok (.aload 4, 2) := by decide +kernel
theorem dX6_fillGifts_69 : decode cX6_fillGifts 69 = .ok (.iload 6, 2) := by decide +kernel
theorem dX6_fillGifts_71 : decode cX6_fillGifts 71 = .ok (.iload_n 2, 1) := by decide +kernel
theorem dX6_fillGifts_72 : decode cX6_fillGifts 72 = .ok (.invokevirtual 86, 3) := by decide +kernel
theorem dX6_fillGifts_75 : decode cX6_fillGifts 75 = .ok (.istore 7, 2) := by decide +kernel
theorem dX6_fillGifts_77 : decode cX6_fillGifts 77 = .ok (.iload 5, 2) := by decide +kernel
theorem dX6_fillGifts_79 : decode cX6_fillGifts 79 = .ok (.iload 7, 2) := by decide +kernel
theorem dX6_fillGifts_81 : decode cX6_fillGifts 81 = .ok (.invokestatic 90, 3) := by decide +kernel
theorem dX6_fillGifts_84 : decode cX6_fillGifts 84 = .ok (.istore 5, 2) := by decide +kernel
theorem dX6_fillGifts_86 : decode cX6_fillGifts 86 = .ok (.aload_n 0, 1) := by decide +kernel
theorem dX6_fillGifts_87 : decode cX6_fillGifts 87 = .ok (.getfield 51, 3) := by decide +kernel
theorem dX6_fillGifts_90 : decode cX6_fillGifts 90 = .ok (.iload_n 3, 1) := by decide +kernel
theorem dX6_fillGifts_91 : decode cX6_fillGifts 91 = .ok (.bipush 108, 2) := by decide +kernel
theorem dX6_fillGifts_93 : decode cX6_fillGifts 93 = .ok (.imul, 1) := by decide +kernel
theorem dX6_fillGifts_94 : decode cX6_fillGifts 94 = .ok (.iload 6, 2) := by decide +kernel
theorem dX6_fillGifts_96 : decode cX6_fillGifts 96 = .ok (.iadd, 1) := by decide +kernel
theorem dX6_fillGifts_97 : decode cX6_fillGifts 97 = .ok (.iload 7, 2) := by decide +kernel
theorem dX6_fillGifts_99 : decode cX6_fillGifts 99 = .ok (.iastore, 1) := by decide +kernel
theorem dX6_fillGifts_100 : decode cX6_fillGifts 100 = .ok (.aload_n 0, 1) := by decide +kernel
theorem dX6_fillGifts_101 : decode cX6_fillGifts 101 = .ok (.getfield 54, 3) := by decide +kernel
theorem dX6_fillGifts_104 : decode cX6_fillGifts 104 = .ok (.iload_n 3, 1) := by decide +kernel
theorem dX6_fillGifts_105 : decode cX6_fillGifts 105 = .ok (.bipush 108, 2) := by decide +kernel
theorem dX6_fillGifts_107 : decode cX6_fillGifts 107 = .ok (.imul, 1) := by decide +kernel
theorem dX6_fillGifts_108 : decode cX6_fillGifts 108 = .ok (.iload 6, 2) := by decide +kernel
theorem dX6_fillGifts_110 : decode cX6_fillGifts 110 = .ok (.iadd, 1) := by decide +kernel
theorem dX6_fillGifts_111 : decode cX6_fillGifts 111 = .ok (.iload 5, 2) := by decide +kernel
theorem dX6_fillGifts_113 : decode cX6_fillGifts 113 = .ok (.iastore, 1) := by decide +kernel
theorem dX6_fillGifts_114 : decode cX6_fillGifts 114 = .ok (.iinc 6 (-1), 3) := by decide +kernel
theorem dX6_fillGifts_117 : decode cX6_fillGifts 117 = .ok (.goto (-72), 3) := by decide +kernel
theorem dX6_fillGifts_120 : decode cX6_fillGifts 120 = .ok (.iinc 3 1, 3) := by decide +kernel
theorem dX6_fillGifts_123 : decode cX6_fillGifts 123 = .ok (.goto (-114), 3) := by decide +kernel
theorem dX6_fillGifts_126 : decode cX6_fillGifts 126 = .ok (.return_, 1) := by decide +kernel
theorem dX6_grow_0 : decode cX6_grow 0 = .ok (.aload_n 0, 1) := by decide +kernel
theorem dX6_grow_1 : decode cX6_grow 1 = .ok (.aload_n 0, 1) := by decide +kernel
theorem dX6_grow_2 : decode cX6_grow 2 = .ok (.getfield 25, 3) := by decide +kernel
theorem dX6_grow_5 : decode cX6_grow 5 = .ok (.iload_n 1, 1) := by decide +kernel
theorem dX6_grow_6 : decode cX6_grow 6 = .ok (.aaload, 1) := by decide +kernel
theorem dX6_grow_7 : decode cX6_grow 7 = .ok (.getfield 93, 3) := by decide +kernel
theorem dX6_grow_10 : decode cX6_grow 10 = .ok (.iload_n 2, 1) := by decide +kernel
theorem dX6_grow_11 : decode cX6_grow 11 = .ok (.iload_n 3, 1) := by decide +kernel
theorem dX6_grow_12 : decode cX6_grow 12 = .ok (.invokevirtual 96, 3) := by decide +kernel
theorem dX6_grow_15 : decode cX6_grow 15 = .ok (.istore 4, 2) := by decide +kernel
theorem dX6_grow_17 : decode cX6_grow 17 = .ok (.iload 4, 2) := by decide +kernel
theorem dX6_grow_19 : decode cX6_grow 19 = .ok (.aload_n 0, 1) := by decide +kernel
theorem dX6_grow_20 : decode cX6_grow 20 = .ok (.getfield 15, 3) := by decide +kernel
theorem dX6_grow_23 : decode cX6_grow 23 = .ok (.if_icmp .gt 4, 3) := by decide +kernel
theorem dX6_grow_26 : decode cX6_grow 26 = .ok (.return_, 1) := by decide +kernel
theorem dX6_grow_27 : decode cX6_grow 27 = .ok (.iload_n 1, 1) := by decide +kernel
theorem dX6_grow_28 : decode cX6_grow 28 = .ok (.aload_n 0, 1) := by decide +kernel
theorem dX6_grow_29 : decode cX6_grow 29 = .ok (.getfield 41, 3) := by decide +kernel
theorem dX6_grow_32 : decode cX6_grow 32 = .ok (.if_icmp .lt 27, 3) := by decide +kernel
theorem dX6_grow_35 : decode cX6_grow 35 = .ok (.aload_n 0, 1) := by decide +kernel
theorem dX6_grow_36 : decode cX6_grow 36 = .ok (.iload 4, 2) := by decide +kernel
theorem dX6_grow_38 : decode cX6_grow 38 = .ok (.putfield 15, 3) := by decide +kernel
theorem dX6_grow_41 : decode cX6_grow 41 = .ok (.aload_n 0, 1) := by decide +kernel
theorem dX6_grow_42 : decode cX6_grow 42 = .ok (.getfield 29, 3) := by decide +kernel
theorem dX6_grow_45 : decode cX6_grow 45 = .ok (.iconst 0, 1) := by decide +kernel
theorem dX6_grow_46 : decode cX6_grow 46 = .ok (.aload_n 0, 1) := by decide +kernel
theorem dX6_grow_47 : decode cX6_grow 47 = .ok (.getfield 9, 3) := by decide +kernel
theorem dX6_grow_50 : decode cX6_grow 50 = .ok (.iconst 0, 1) := by decide +kernel
theorem dX6_grow_51 : decode cX6_grow 51 = .ok (.aload_n 0, 1) := by decide +kernel
theorem dX6_grow_52 : decode cX6_grow 52 = .ok (.getfield 41, 3) := by decide +kernel
theorem dX6_grow_55 : decode cX6_grow 55 = .ok (.invokestatic 100, 3) := by decide +kernel
theorem dX6_grow_58 : decode cX6_grow 58 = .ok (.return_, 1) := by decide +kernel
theorem dX6_grow_59 : decode cX6_grow 59 = .ok (.iconst 0, 1) := by decide +kernel
theorem dX6_grow_60 : decode cX6_grow 60 = .ok (.istore 5, 2) := by decide +kernel
theorem dX6_grow_62 : decode cX6_grow 62 = .ok (.iload 5, 2) := by decide +kernel
theorem dX6_grow_64 : decode cX6_grow 64 = .ok (.aload_n 0, 1) := by decide +kernel
theorem dX6_grow_65 : decode cX6_grow 65 = .ok (.getfield 41, 3) := by decide +kernel
theorem dX6_grow_68 : decode cX6_grow 68 = .ok (.if_icmp .ge 27, 3) := by decide +kernel
theorem dX6_grow_71 : decode cX6_grow 71 = .ok (.iload_n 2, 1) := by decide +kernel
theorem dX6_grow_72 : decode cX6_grow 72 = .ok (.iload 5, 2) := by decide +kernel
theorem dX6_grow_74 : decode cX6_grow 74 = .ok (.ishr, 1) := by decide +kernel
theorem dX6_grow_75 : decode cX6_grow 75 = .ok (.iconst 1, 1) := by decide +kernel
theorem dX6_grow_76 : decode cX6_grow 76 = .ok (.iand, 1) := by decide +kernel
theorem dX6_grow_77 : decode cX6_grow 77 = .ok (.ifCond .ne 12, 3) := by decide +kernel
theorem dX6_grow_80 : decode cX6_grow 80 = .ok (.aload_n 0, 1) := by decide +kernel
theorem dX6_grow_81 : decode cX6_grow 81 = .ok (.iload_n 1, 1) := by decide +kernel
theorem dX6_grow_82 : decode cX6_grow 82 = .ok (.iload_n 2, 1) := by decide +kernel
theorem dX6_grow_83 : decode cX6_grow 83 = .ok (.iload_n 3, 1) := by decide +kernel
theorem dX6_grow_84 : decode cX6_grow 84 = .ok (.iload 5, 2) := by decide +kernel
theorem dX6_grow_86 : decode cX6_grow 86 = .ok (.invokevirtual 106, 3) := by decide +kernel
theorem dX6_grow_89 : decode cX6_grow 89 = .ok (.iinc 5 1, 3) := by decide +kernel
theorem dX6_grow_92 : decode cX6_grow 92 = .ok (.goto (-30), 3) := by decide +kernel
theorem dX6_grow_95 : decode cX6_grow 95 = .ok (.return_, 1) := by decide +kernel
theorem dX6_goOn_0 : decode cX6_goOn 0 = .ok (.aload_n 0, 1) := by decide +kernel
theorem dX6_goOn_1 : decode cX6_goOn 1 = .ok (.getfield 25, 3) := by decide +kernel
theorem dX6_goOn_4 : decode cX6_goOn 4 = .ok (.iload_n 1, 1) := by decide +kernel
theorem dX6_goOn_5 : decode cX6_goOn 5 = .ok (.iconst 1, 1) := by decide +kernel
theorem dX6_goOn_6 : decode cX6_goOn 6 = .ok (.iadd, 1) := by decide +kernel
theorem dX6_goOn_7 : decode cX6_goOn 7 = .ok (.aaload, 1) := by decide +kernel
theorem dX6_goOn_8 : decode cX6_goOn 8 = .ok (.astore 5, 2) := by decide +kernel
theorem dX6_goOn_10 : decode cX6_goOn 10 = .ok (.aload 5, 2) := by decide +kernel
theorem dX6_goOn_12 : decode cX6_goOn 12 = .ok (.aload_n 0, 1) := by decide +kernel
theorem dX6_goOn_13 : decode cX6_goOn 13 = .ok (.getfield 25, 3) := by decide +kernel
theorem dX6_goOn_16 : decode cX6_goOn 16 = .ok (.iload_n 1, 1) := by decide +kernel
theorem dX6_goOn_17 : decode cX6_goOn 17 = .ok (.aaload, 1) := by decide +kernel
theorem dX6_goOn_18 : decode cX6_goOn 18 = .ok (.invokevirtual 110, 3) := by decide +kernel
theorem dX6_goOn_21 : decode cX6_goOn 21 = .ok (.aload 5, 2) := by decide +kernel
theorem dX6_goOn_23 : decode cX6_goOn 23 = .ok (.aload_n 0, 1) := by decide +kernel
theorem dX6_goOn_24 : decode cX6_goOn 24 = .ok (.getfield 37, 3) := by decide +kernel
theorem dX6_goOn_27 : decode cX6_goOn 27 = .ok (.iload 4, 2) := by decide +kernel
theorem dX6_goOn_29 : decode cX6_goOn 29 = .ok (.aaload, 1) := by decide +kernel
theorem dX6_goOn_30 : decode cX6_goOn 30 = .ok (.aload_n 0, 1) := by decide +kernel
theorem dX6_goOn_31 : decode cX6_goOn 31 = .ok (.getfield 44, 3) := by decide +kernel
theorem dX6_goOn_34 : decode cX6_goOn 34 = .ok (.invokevirtual 114, 3) := by decide +kernel
theorem dX6_goOn_37 : decode cX6_goOn 37 = .ok (.istore 6, 2) := by decide +kernel
theorem dX6_goOn_39 : decode cX6_goOn 39 = .ok (.aload_n 0, 1) := by decide +kernel
theorem dX6_goOn_40 : decode cX6_goOn 40 = .ok (.getfield 29, 3) := by decide +kernel
theorem dX6_goOn_43 : decode cX6_goOn 43 = .ok (.iload_n 1, 1) := by decide +kernel
theorem dX6_goOn_44 : decode cX6_goOn 44 = .ok (.iload 4, 2) := by decide +kernel
theorem dX6_goOn_46 : decode cX6_goOn 46 = .ok (.iastore, 1) := by decide +kernel
theorem dX6_goOn_47 : decode cX6_goOn 47 = .ok (.aload_n 0, 1) := by decide +kernel
theorem dX6_goOn_48 : decode cX6_goOn 48 = .ok (.iload_n 1, 1) := by decide +kernel
theorem dX6_goOn_49 : decode cX6_goOn 49 = .ok (.iconst 1, 1) := by decide +kernel
theorem dX6_goOn_50 : decode cX6_goOn 50 = .ok (.iadd, 1) := by decide +kernel
theorem dX6_goOn_51 : decode cX6_goOn 51 = .ok (.iload_n 2, 1) := by decide +kernel
theorem dX6_goOn_52 : decode cX6_goOn 52 = .ok (.iconst 1, 1) := by decide +kernel
theorem dX6_goOn_53 : decode cX6_goOn 53 = .ok (.iload 4, 2) := by decide +kernel
theorem dX6_goOn_55 : decode cX6_goOn 55 = .ok (.ishl, 1) := by decide +kernel
theorem dX6_goOn_56 : decode cX6_goOn 56 = .ok (.ior, 1) := by decide +kernel
theorem dX6_goOn_57 : decode cX6_goOn 57 = .ok (.iload_n 3, 1) := by decide +kernel
theorem dX6_goOn_58 : decode cX6_goOn 58 = .ok (.aload_n 0, 1) := by decide +kernel
theorem dX6_goOn_59 : decode cX6_goOn 59 = .ok (.aload_n 0, 1) := by decide +kernel
theorem dX6_goOn_60 : decode cX6_goOn 60 = .ok (.getfield 51, 3) := by decide +kernel
theorem dX6_goOn_63 : decode cX6_goOn 63 = .ok (.iload 4, 2) := by decide +kernel
theorem dX6_goOn_65 : decode cX6_goOn 65 = .ok (.iload 6, 2) := by decide +kernel
theorem dX6_goOn_67 : decode cX6_goOn 67 = .ok (.invokevirtual 118, 3) := by decide +kernel
theorem dX6_goOn_70 : decode cX6_goOn 70 = .ok (.iadd, 1) := by decide +kernel
theorem dX6_goOn_71 : decode cX6_goOn 71 = .ok (.invokevirtual 72, 3) := by decide +kernel
theorem dX6_goOn_74 : decode cX6_goOn 74 = .ok (.return_, 1) := by decide +kernel
theorem dX6_hopeOf_0 : decode cX6_hopeOf 0 = .ok (.iload_n 1, 1) := by decide +kernel
theorem dX6_hopeOf_1 : decode cX6_hopeOf 1 = .ok (.istore 4, 2) := by decide +kernel
theorem dX6_hopeOf_3 : decode cX6_hopeOf 3 = .ok (.iload_n 3, 1) := by decide +kernel
theorem dX6_hopeOf_4 : decode cX6_hopeOf 4 = .ok (.istore 5, 2) := by decide +kernel
theorem dX6_hopeOf_6 : decode cX6_hopeOf 6 = .ok (.iconst 0, 1) := by decide +kernel
theorem dX6_hopeOf_7 : decode cX6_hopeOf 7 = .ok (.istore 6, 2) := by decide +kernel
theorem dX6_hopeOf_9 : decode cX6_hopeOf 9 = .ok (.iload 6, 2) := by decide +kernel
theorem dX6_hopeOf_11 : decode cX6_hopeOf 11 = .ok (.aload_n 0, 1) := by decide +kernel
theorem dX6_hopeOf_12 : decode cX6_hopeOf 12 = .ok (.getfield 41, 3) := by decide +kernel
theorem dX6_hopeOf_15 : decode cX6_hopeOf 15 = .ok (.if_icmp .ge 72, 3) := by decide +kernel
theorem dX6_hopeOf_18 : decode cX6_hopeOf 18 = .ok (.iload_n 2, 1) := by decide +kernel
theorem dX6_hopeOf_19 : decode cX6_hopeOf 19 = .ok (.iload 6, 2) := by decide +kernel
theorem dX6_hopeOf_21 : decode cX6_hopeOf 21 = .ok (.ishr, 1) := by decide +kernel
theorem dX6_hopeOf_22 : decode cX6_hopeOf 22 = .ok (.iconst 1, 1) := by decide +kernel
theorem dX6_hopeOf_23 : decode cX6_hopeOf 23 = .ok (.iand, 1) := by decide +kernel
theorem dX6_hopeOf_24 : decode cX6_hopeOf 24 = .ok (.ifCond .ne 57, 3) := by decide +kernel
theorem dX6_hopeOf_27 : decode cX6_hopeOf 27 = .ok (.iload 4, 2) := by decide +kernel
theorem dX6_hopeOf_29 : decode cX6_hopeOf 29 = .ok (.aload_n 0, 1) := by decide +kernel
theorem dX6_hopeOf_30 : decode cX6_hopeOf 30 = .ok (.getfield 37, 3) := by decide +kernel
theorem dX6_hopeOf_33 : decode cX6_hopeOf 33 = .ok (.iload 6, 2) := by decide +kernel
theorem dX6_hopeOf_35 : decode cX6_hopeOf 35 = .ok (.aaload, 1) := by decide +kernel
theorem dX6_hopeOf_36 : decode cX6_hopeOf 36 = .ok (.aload_n 0, 1) := by decide +kernel
theorem dX6_hopeOf_37 : decode cX6_hopeOf 37 = .ok (.getfield 44, 3) := by decide +kernel
theorem dX6_hopeOf_40 : decode cX6_hopeOf 40 = .ok (.aload_n 0, 1) := by decide +kernel
theorem dX6_hopeOf_41 : decode cX6_hopeOf 41 = .ok (.getfield 37, 3) := by decide +kernel
theorem dX6_hopeOf_44 : decode cX6_hopeOf 44 = .ok (.iload 6, 2) := by decide +kernel
theorem dX6_hopeOf_46 : decode cX6_hopeOf 46 = .ok (.aaload, 1) := by decide +kernel
theorem dX6_hopeOf_47 : decode cX6_hopeOf 47 = .ok (.getfield 122, 3) := by decide +kernel
theorem dX6_hopeOf_50 : decode cX6_hopeOf 50 = .ok (.invokestatic 123, 3) := by decide +kernel
theorem dX6_hopeOf_53 : decode cX6_hopeOf 53 = .ok (.aload_n 0, 1) := by decide +kernel
theorem dX6_hopeOf_54 : decode cX6_hopeOf 54 = .ok (.getfield 44, 3) := by decide +kernel
theorem dX6_hopeOf_57 : decode cX6_hopeOf 57 = .ok (.iconst 5, 1) := by decide +kernel
theorem dX6_hopeOf_58 : decode cX6_hopeOf 58 = .ok (.iaload, 1) := by decide +kernel
theorem dX6_hopeOf_59 : decode cX6_hopeOf 59 = .ok (.invokevirtual 127, 3) := by decide +kernel
theorem dX6_hopeOf_62 : decode cX6_hopeOf 62 = .ok (.iadd, 1) := by decide +kernel
theorem dX6_hopeOf_63 : decode cX6_hopeOf 63 = .ok (.istore 4, 2) := by decide +kernel
theorem dX6_hopeOf_65 : decode cX6_hopeOf 65 = .ok (.iload 5, 2) := by decide +kernel
theorem dX6_hopeOf_67 : decode cX6_hopeOf 67 = .ok (.aload_n 0, 1) := by decide +kernel
theorem dX6_hopeOf_68 : decode cX6_hopeOf 68 = .ok (.aload_n 0, 1) := by decide +kernel
theorem dX6_hopeOf_69 : decode cX6_hopeOf 69 = .ok (.getfield 54, 3) := by decide +kernel
theorem dX6_hopeOf_72 : decode cX6_hopeOf 72 = .ok (.iload 6, 2) := by decide +kernel
theorem dX6_hopeOf_74 : decode cX6_hopeOf 74 = .ok (.iload_n 1, 1) := by decide +kernel
theorem dX6_hopeOf_75 : decode cX6_hopeOf 75 = .ok (.invokevirtual 118, 3) := by decide +kernel
theorem dX6_hopeOf_78 : decode cX6_hopeOf 78 = .ok (.iadd, 1) := by decide +kernel
theorem dX6_hopeOf_79 : decode cX6_hopeOf 79 = .ok (.istore 5, 2) := by decide +kernel
theorem dX6_hopeOf_81 : decode cX6_hopeOf 81 = .ok (.iinc 6 1, 3) := by decide +kernel
theorem dX6_hopeOf_84 : decode cX6_hopeOf 84 = .ok (.goto (-75), 3) := by decide +kernel
theorem dX6_hopeOf_87 : decode cX6_hopeOf 87 = .ok (.aload_n 0, 1) := by decide +kernel
theorem dX6_hopeOf_88 : decode cX6_hopeOf 88 = .ok (.getfield 47, 3) := by decide +kernel
theorem dX6_hopeOf_91 : decode cX6_hopeOf 91 = .ok (.ifCond .ne 9, 3) := by decide +kernel
theorem dX6_hopeOf_94 : decode cX6_hopeOf 94 = .ok (.iload 4, 2) := by decide +kernel
theorem dX6_hopeOf_96 : decode cX6_hopeOf 96 = .ok (.ineg, 1) := by decide +kernel
theorem dX6_hopeOf_97 : decode cX6_hopeOf 97 = .ok (.goto 5, 3) := by decide +kernel
theorem dX6_hopeOf_100 : decode cX6_hopeOf 100 = .ok (.iload 5, 2) := by decide +kernel
theorem dX6_hopeOf_102 : decode cX6_hopeOf 102 = .ok (.ireturn, 1) := by decide +kernel
theorem dX6_worth_0 : decode cX6_worth 0 = .ok (.iconst 0, 1) := by decide +kernel
theorem dX6_worth_1 : decode cX6_worth 1 = .ok (.iload_n 3, 1) := by decide +kernel
theorem dX6_worth_2 : decode cX6_worth 2 = .ok (.aload_n 0, 1) := by decide +kernel
theorem dX6_worth_3 : decode cX6_worth 3 = .ok (.getfield 32, 3) := by decide +kernel
theorem dX6_worth_6 : decode cX6_worth 6 = .ok (.iload_n 2, 1) := by decide +kernel
theorem dX6_worth_7 : decode cX6_worth 7 = .ok (.iaload, 1) := by decide +kernel
theorem dX6_worth_8 : decode cX6_worth 8 = .ok (.isub, 1) := by decide +kernel
theorem dX6_worth_9 : decode cX6_worth 9 = .ok (.invokestatic 90, 3) := by decide +kernel
theorem dX6_worth_12 : decode cX6_worth 12 = .ok (.istore 4, 2) := by decide +kernel
theorem dX6_worth_14 : decode cX6_worth 14 = .ok (.iload_n 2, 1) := by decide +kernel
theorem dX6_worth_15 : decode cX6_worth 15 = .ok (.bipush 108, 2) := by decide +kernel
theorem dX6_worth_17 : decode cX6_worth 17 = .ok (.imul, 1) := by decide +kernel
theorem dX6_worth_18 : decode cX6_worth 18 = .ok (.iload 4, 2) := by decide +kernel
theorem dX6_worth_20 : decode cX6_worth 20 = .ok (.iadd, 1) := by decide +kernel
theorem dX6_worth_21 : decode cX6_worth 21 = .ok (.istore 5, 2) := by decide +kernel
theorem dX6_worth_23 : decode cX6_worth 23 = .ok (.iload 4, 2) := by decide +kernel
theorem dX6_worth_25 : decode cX6_worth 25 = .ok (.bipush 108, 2) := by decide +kernel
theorem dX6_worth_27 : decode cX6_worth 27 = .ok (.if_icmp .ge 10, 3) := by decide +kernel
theorem dX6_worth_30 : decode cX6_worth 30 = .ok (.iload 5, 2) := by decide +kernel
theorem dX6_worth_32 : decode cX6_worth 32 = .ok (.aload_n 1, 1) := by decide +kernel
theorem dX6_worth_33 : decode cX6_worth 33 = .ok (.arraylength, 1) := by decide +kernel
theorem dX6_worth_34 : decode cX6_worth 34 = .ok (.if_icmp .lt 7, 3) := by decide +kernel
theorem dX6_worth_37 : decode cX6_worth 37 = .ok (.iconst 0, 1) := by decide +kernel
theorem dX6_worth_38 : decode cX6_worth 38 = .ok (.goto 7, 3) := by decide +kernel
theorem dX6_worth_41 : decode cX6_worth 41 = .ok (.aload_n 1, 1) := by decide +kernel
theorem dX6_worth_42 : decode cX6_worth 42 = .ok (.iload 5, 2) := by decide +kernel
theorem dX6_worth_44 : decode cX6_worth 44 = .ok (.iaload, 1) := by decide +kernel
theorem dX6_worth_45 : decode cX6_worth 45 = .ok (.ireturn, 1) := by decide +kernel
theorem dX7_init_0 : decode cX7_init 0 = .ok (.aload_n 0, 1) := by decide +kernel
theorem dX7_init_1 : decode cX7_init 1 = .ok (.invokespecial 3, 3) := by decide +kernel
theorem dX7_init_4 : decode cX7_init 4 = .ok (.aload_n 0, 1) := by decide +kernel
theorem dX7_init_5 : decode cX7_init 5 = .ok (.iconst (-1), 1) := by decide +kernel
theorem dX7_init_6 : decode cX7_init 6 = .ok (.putfield 11, 3) := by decide +kernel
theorem dX7_init_9 : decode cX7_init 9 = .ok (.aload_n 0, 1) := by decide +kernel
theorem dX7_init_10 : decode cX7_init 10 = .ok (.iconst 0, 1) := by decide +kernel
theorem dX7_init_11 : decode cX7_init 11 = .ok (.putfield 15, 3) := by decide +kernel
theorem dX7_init_14 : decode cX7_init 14 = .ok (.aload_n 0, 1) := by decide +kernel
theorem dX7_init_15 : decode cX7_init 15 = .ok (.bipush 40, 2) := by decide +kernel
theorem dX7_init_17 : decode cX7_init 17 = .ok (.newarray .int, 2) := by decide +kernel
theorem dX7_init_19 : decode cX7_init 19 = .ok (.putfield 18, 3) := by decide +kernel
theorem dX7_init_22 : decode cX7_init 22 = .ok (.return_, 1) := by decide +kernel
theorem dX7_isMissing_0 : decode cX7_isMissing 0 = .ok (.aload_n 0, 1) := by decide +kernel
theorem dX7_isMissing_1 : decode cX7_isMissing 1 = .ok (.getfield 11, 3) := by decide +kernel
theorem dX7_isMissing_4 : decode cX7_isMissing 4 = .ok (.iconst (-1), 1) := by decide +kernel
theorem dX7_isMissing_5 : decode cX7_isMissing 5 = .ok (.if_icmp .ne 7, 3) := by decide +kernel
theorem dX7_isMissing_8 : decode cX7_isMissing 8 = .ok (.iconst 1, 1) := by decide +kernel
theorem dX7_isMissing_9 : decode cX7_isMissing 9 = .ok (.goto 4, 3) := by decide +kernel
theorem dX7_isMissing_12 : decode cX7_isMissing 12 = .ok (.iconst 0, 1) := by decide +kernel
theorem dX7_isMissing_13 : decode cX7_isMissing 13 = .ok (.ireturn, 1) := by decide +kernel
theorem dX7_become_0 : decode cX7_become 0 = .ok (.aload_n 0, 1) := by decide +kernel
theorem dX7_become_1 : decode cX7_become 1 = .ok (.iload_n 1, 1) := by decide +kernel
theorem dX7_become_2 : decode cX7_become 2 = .ok (.putfield 11, 3) := by decide +kernel
theorem dX7_become_5 : decode cX7_become 5 = .ok (.aload_n 0, 1) := by decide +kernel
theorem dX7_become_6 : decode cX7_become 6 = .ok (.iload_n 2, 1) := by decide +kernel
theorem dX7_become_7 : decode cX7_become 7 = .ok (.putfield 15, 3) := by decide +kernel
theorem dX7_become_10 : decode cX7_become 10 = .ok (.aload_n 0, 1) := by decide +kernel
theorem dX7_become_11 : decode cX7_become 11 = .ok (.getfield 18, 3) := by decide +kernel
theorem dX7_become_14 : decode cX7_become 14 = .ok (.iconst 0, 1) := by decide +kernel
theorem dX7_become_15 : decode cX7_become 15 = .ok (.invokestatic 22, 3) := by decide +kernel
theorem dX7_become_18 : decode cX7_become 18 = .ok (.return_, 1) := by decide +kernel
theorem dX7_has_0 : decode cX7_has 0 = .ok (.iload_n 1, 1) := by decide +kernel
theorem dX7_has_1 : decode cX7_has 1 = .ok (.ifCond .lt 29, 3) := by decide +kernel
theorem dX7_has_4 : decode cX7_has 4 = .ok (.iload_n 2, 1) := by decide +kernel
theorem dX7_has_5 : decode cX7_has 5 = .ok (.ifCond .lt 25, 3) := by decide +kernel
theorem dX7_has_8 : decode cX7_has 8 = .ok (.iload_n 2, 1) := by decide +kernel
theorem dX7_has_9 : decode cX7_has 9 = .ok (.aload_n 0, 1) := by decide +kernel
theorem dX7_has_10 : decode cX7_has 10 = .ok (.getfield 15, 3) := by decide +kernel
theorem dX7_has_13 : decode cX7_has 13 = .ok (.if_icmp .gt 17, 3) := by decide +kernel
theorem dX7_has_16 : decode cX7_has 16 = .ok (.iload_n 1, 1) := by decide +kernel
theorem dX7_has_17 : decode cX7_has 17 = .ok (.aload_n 0, 1) := by decide +kernel
theorem dX7_has_18 : decode cX7_has 18 = .ok (.getfield 15, 3) := by decide +kernel
theorem dX7_has_21 : decode cX7_has 21 = .ok (.iload_n 2, 1) := by decide +kernel
theorem dX7_has_22 : decode cX7_has 22 = .ok (.isub, 1) := by decide +kernel
theorem dX7_has_23 : decode cX7_has 23 = .ok (.if_icmp .gt 7, 3) := by decide +kernel
theorem dX7_has_26 : decode cX7_has 26 = .ok (.iconst 1, 1) := by decide +kernel
theorem dX7_has_27 : decode cX7_has 27 = .ok (.goto 4, 3) := by decide +kernel
theorem dX7_has_30 : decode cX7_has 30 = .ok (.iconst 0, 1) := by decide +kernel
theorem dX7_has_31 : decode cX7_has 31 = .ok (.ireturn, 1) := by decide +kernel
theorem dX7_item_0 : decode cX7_item 0 = .ok (.aload_n 0, 1) := by decide +kernel
theorem dX7_item_1 : decode cX7_item 1 = .ok (.iload_n 1, 1) := by decide +kernel
theorem dX7_item_2 : decode cX7_item 2 = .ok (.iconst 1, 1) := by decide +kernel
theorem dX7_item_3 : decode cX7_item 3 = .ok (.invokevirtual 28, 3) := by decide +kernel
theorem dX7_item_6 : decode cX7_item 6 = .ok (.ifCond .eq 12, 3) := by decide +kernel
theorem dX7_item_9 : decode cX7_item 9 = .ok (.aload_n 0, 1) := by decide +kernel
theorem dX7_item_10 : decode cX7_item 10 = .ok (.getfield 18, 3) := by decide +kernel
theorem dX7_item_13 : decode cX7_item 13 = .ok (.iload_n 1, 1) := by decide +kernel
theorem dX7_item_14 : decode cX7_item 14 = .ok (.iaload, 1) := by decide +kernel
theorem dX7_item_15 : decode cX7_item 15 = .ok (.goto 4, 3) := by decide +kernel
theorem dX7_item_18 : decode cX7_item 18 = .ok (.iconst 0, 1) := by decide +kernel
theorem dX7_item_19 : decode cX7_item 19 = .ok (.ireturn, 1) := by decide +kernel
theorem dX7_put_0 : decode cX7_put 0 = .ok (.aload_n 0, 1) := by decide +kernel
theorem dX7_put_1 : decode cX7_put 1 = .ok (.iload_n 1, 1) := by decide +kernel
theorem dX7_put_2 : decode cX7_put 2 = .ok (.iconst 1, 1) := by decide +kernel
theorem dX7_put_3 : decode cX7_put 3 = .ok (.invokevirtual 28, 3) := by decide +kernel
theorem dX7_put_6 : decode cX7_put 6 = .ok (.ifCond .eq 35, 3) := by decide +kernel
theorem dX7_put_9 : decode cX7_put 9 = .ok (.aload_n 0, 1) := by decide +kernel
theorem dX7_put_10 : decode cX7_put 10 = .ok (.getfield 18, 3) := by decide +kernel
theorem dX7_put_13 : decode cX7_put 13 = .ok (.iload_n 1, 1) := by decide +kernel
theorem dX7_put_14 : decode cX7_put 14 = .ok (.aload_n 0, 1) := by decide +kernel
theorem dX7_put_15 : decode cX7_put 15 = .ok (.getfield 11, 3) := by decide +kernel
theorem dX7_put_18 : decode cX7_put 18 = .ok (.ifCond .ne 8, 3) := by decide +kernel
theorem dX7_put_21 : decode cX7_put 21 = .ok (.iload_n 2, 1) := by decide +kernel
theorem dX7_put_22 : decode cX7_put 22 = .ok (.i2b, 1) := by decide +kernel
theorem dX7_put_23 : decode cX7_put 23 = .ok (.goto 17, 3) := by decide +kernel
theorem dX7_put_26 : decode cX7_put 26 = .ok (.aload_n 0, 1) := by decide +kernel
theorem dX7_put_27 : decode cX7_put 27 = .ok (.getfield 11, 3) := by decide +kernel
theorem dX7_put_30 : decode cX7_put 30 = .ok (.iconst 1, 1) := by decide +kernel
theorem dX7_put_31 : decode cX7_put 31 = .ok (.if_icmp .ne 8, 3) := by decide +kernel
theorem dX7_put_34 : decode cX7_put 34 = .ok (.iload_n 2, 1) := by decide +kernel
theorem dX7_put_35 : decode cX7_put 35 = .ok (.i2s, 1) := by decide +kernel
theorem dX7_put_36 : decode cX7_put 36 = .ok (.goto 4, 3) := by decide +kernel
theorem dX7_put_39 : decode cX7_put 39 = .ok (.iload_n 2, 1) := by decide +kernel
theorem dX7_put_40 : decode cX7_put 40 = .ok (.iastore, 1) := by decide +kernel
theorem dX7_put_41 : decode cX7_put 41 = .ok (.return_, 1) := by decide +kernel
theorem dX8_init_0 : decode cX8_init 0 = .ok (.aload_n 0, 1) := by decide +kernel
theorem dX8_init_1 : decode cX8_init 1 = .ok (.iload_n 1, 1) := by decide +kernel
theorem dX8_init_2 : decode cX8_init 2 = .ok (.invokespecial 1, 3) := by decide +kernel
theorem dX8_init_5 : decode cX8_init 5 = .ok (.return_, 1) := by decide +kernel
theorem dX8_kind_0 : decode cX8_kind 0 = .ok (.iconst 5, 1) := by decide +kernel
theorem dX8_kind_1 : decode cX8_kind 1 = .ok (.ireturn, 1) := by decide +kernel
theorem dX8_takes_0 : decode cX8_takes 0 = .ok (.aload_n 0, 1) := by decide +kernel
theorem dX8_takes_1 : decode cX8_takes 1 = .ok (.iload_n 1, 1) := by decide +kernel
theorem dX8_takes_2 : decode cX8_takes 2 = .ok (.iload_n 2, 1) := by decide +kernel
theorem dX8_takes_3 : decode cX8_takes 3 = .ok (.invokespecial 7, 3) := by decide +kernel
theorem dX8_takes_6 : decode cX8_takes 6 = .ok (.iload_n 2, 1) := by decide +kernel
theorem dX8_takes_7 : decode cX8_takes 7 = .ok (.ifCond .le 7, 3) := by decide +kernel
theorem dX8_takes_10 : decode cX8_takes 10 = .ok (.iconst 1, 1) := by decide +kernel
theorem dX8_takes_11 : decode cX8_takes 11 = .ok (.goto 4, 3) := by decide +kernel
theorem dX8_takes_14 : decode cX8_takes 14 = .ok (.iconst 0, 1) := by decide +kernel
theorem dX8_takes_15 : decode cX8_takes 15 = .ok (.iadd, 1) := by decide +kernel
theorem dX8_takes_16 : decode cX8_takes 16 = .ok (.ireturn, 1) := by decide +kernel
theorem dX8_gives_0 : decode cX8_gives 0 = .ok (.aload_n 0, 1) := by decide +kernel
theorem dX8_gives_1 : decode cX8_gives 1 = .ok (.iload_n 1, 1) := by decide +kernel
theorem dX8_gives_2 : decode cX8_gives 2 = .ok (.iload_n 2, 1) := by decide +kernel
theorem dX8_gives_3 : decode cX8_gives 3 = .ok (.iload_n 3, 1) := by decide +kernel
theorem dX8_gives_4 : decode cX8_gives 4 = .ok (.invokespecial 11, 3) := by decide +kernel
theorem dX8_gives_7 : decode cX8_gives 7 = .ok (.iload_n 3, 1) := by decide +kernel
theorem dX8_gives_8 : decode cX8_gives 8 = .ok (.isub, 1) := by decide +kernel
theorem dX8_gives_9 : decode cX8_gives 9 = .ok (.ireturn, 1) := by decide +kernel
theorem dX9_init_0 : decode cX9_init 0 = .ok (.aload_n 0, 1) := by decide +kernel
theorem dX9_init_1 : decode cX9_init 1 = .ok (.iload_n 1, 1) := by decide +kernel
theorem dX9_init_2 : decode cX9_init 2 = .ok (.invokespecial 1, 3) := by decide +kernel
theorem dX9_init_5 : decode cX9_init 5 = .ok (.return_, 1) := by decide +kernel
theorem dX9_kind_0 : decode cX9_kind 0 = .ok (.iconst 3, 1) := by decide +kernel
theorem dX9_kind_1 : decode cX9_kind 1 = .ok (.ireturn, 1) := by decide +kernel
theorem dX9_takes_0 : decode cX9_takes 0 = .ok (.aload_n 0, 1) := by decide +kernel
theorem dX9_takes_1 : decode cX9_takes 1 = .ok (.iload_n 1, 1) := by decide +kernel
theorem dX9_takes_2 : decode cX9_takes 2 = .ok (.iload_n 2, 1) := by decide +kernel
theorem dX9_takes_3 : decode cX9_takes 3 = .ok (.invokespecial 7, 3) := by decide +kernel
theorem dX9_takes_6 : decode cX9_takes 6 = .ok (.iload_n 1, 1) := by decide +kernel
theorem dX9_takes_7 : decode cX9_takes 7 = .ok (.iadd, 1) := by decide +kernel
theorem dX9_takes_8 : decode cX9_takes 8 = .ok (.ireturn, 1) := by decide +kernel
theorem dX9_gives_0 : decode cX9_gives 0 = .ok (.aload_n 0, 1) := by decide +kernel
theorem dX9_gives_1 : decode cX9_gives 1 = .ok (.iload_n 1, 1) := by decide +kernel
theorem dX9_gives_2 : decode cX9_gives 2 = .ok (.iload_n 2, 1) := by decide +kernel
theorem dX9_gives_3 : decode cX9_gives 3 = .ok (.iload_n 3, 1) := by decide +kernel
theorem dX9_gives_4 : decode cX9_gives 4 = .ok (.invokespecial 11, 3) := by decide +kernel
theorem dX9_gives_7 : decode cX9_gives 7 = .ok (.aload_n 0, 1) := by decide +kernel
theorem dX9_gives_8 : decode cX9_gives 8 = .ok (.getfield 15, 3) := by decide +kernel
theorem dX9_gives_11 : decode cX9_gives 11 = .ok (.iadd, 1) := by decide +kernel
theorem dX9_gives_12 : decode cX9_gives 12 = .ok (.ireturn, 1) := by decide +kernel
theorem dX10_init_0 : decode cX10_init 0 = .ok (.aload_n 0, 1) := by decide +kernel
theorem dX10_init_1 : decode cX10_init 1 = .ok (.invokespecial 3, 3) := by decide +kernel
theorem dX10_init_4 : decode cX10_init 4 = .ok (.aload_n 0, 1) := by decide +kernel
theorem dX10_init_5 : decode cX10_init 5 = .ok (.iconst 0, 1) := by decide +kernel
theorem dX10_init_6 : decode cX10_init 6 = .ok (.putfield 9, 3) := by decide +kernel
theorem dX10_init_9 : decode cX10_init 9 = .ok (.aload_n 0, 1) := by decide +kernel
theorem dX10_init_10 : decode cX10_init 10 = .ok (.iconst 0, 1) := by decide +kernel
theorem dX10_init_11 : decode cX10_init 11 = .ok (.putfield 15, 3) := by decide +kernel
theorem dX10_init_14 : decode cX10_init 14 = .ok (.aload_n 0, 1) := by decide +kernel
theorem dX10_init_15 : decode cX10_init 15 = .ok (.iconst 0, 1) := by decide +kernel
theorem dX10_init_16 : decode cX10_init 16 = .ok (.putfield 18, 3) := by decide +kernel
theorem dX10_init_19 : decode cX10_init 19 = .ok (.aload_n 0, 1) := by decide +kernel
theorem dX10_init_20 : decode cX10_init 20 = .ok (.iconst 0, 1) := by decide +kernel
theorem dX10_init_21 : decode cX10_init 21 = .ok (.putfield 21, 3) := by decide +kernel
theorem dX10_init_24 : decode cX10_init 24 = .ok (.aload_n 0, 1) := by decide +kernel
theorem dX10_init_25 : decode cX10_init 25 = .ok (.iconst 0, 1) := by decide +kernel
theorem dX10_init_26 : decode cX10_init 26 = .ok (.putfield 24, 3) := by decide +kernel
theorem dX10_init_29 : decode cX10_init 29 = .ok (.aload_n 0, 1) := by decide +kernel
theorem dX10_init_30 : decode cX10_init 30 = .ok (.iconst 1, 1) := by decide +kernel
theorem dX10_init_31 : decode cX10_init 31 = .ok (.putfield 27, 3) := by decide +kernel
theorem dX10_init_34 : decode cX10_init 34 = .ok (.return_, 1) := by decide +kernel
theorem dX10_start_0 : decode cX10_start 0 = .ok (.aload_n 0, 1) := by decide +kernel
theorem dX10_start_1 : decode cX10_start 1 = .ok (.aload_n 1, 1) := by decide +kernel
theorem dX10_start_2 : decode cX10_start 2 = .ok (.iconst 2, 1) := by decide +kernel
theorem dX10_start_3 : decode cX10_start 3 = .ok (.iaload, 1) := by decide +kernel
theorem dX10_start_4 : decode cX10_start 4 = .ok (.putfield 9, 3) := by decide +kernel
theorem dX10_start_7 : decode cX10_start 7 = .ok (.aload_n 0, 1) := by decide +kernel
theorem dX10_start_8 : decode cX10_start 8 = .ok (.iconst 0, 1) := by decide +kernel
theorem dX10_start_9 : decode cX10_start 9 = .ok (.putfield 15, 3) := by decide +kernel
theorem dX10_start_12 : decode cX10_start 12 = .ok (.aload_n 0, 1) := by decide +kernel
theorem dX10_start_13 : decode cX10_start 13 = .ok (.iconst 0, 1) := by decide +kernel
theorem dX10_start_14 : decode cX10_start 14 = .ok (.putfield 21, 3) := by decide +kernel
theorem dX10_start_17 : decode cX10_start 17 = .ok (.aload_n 0, 1) := by decide +kernel
theorem dX10_start_18 : decode cX10_start 18 = .ok (.aload_n 1, 1) := by decide +kernel
theorem dX10_start_19 : decode cX10_start 19 = .ok (.invokevirtual 31, 3) := by decide +kernel
theorem dX10_start_22 : decode cX10_start 22 = .ok (.return_, 1) := by decide +kernel
theorem dX10_follow_0 : decode cX10_follow 0 = .ok (.aload_n 0, 1) := by decide +kernel
theorem dX10_follow_1 : decode cX10_follow 1 = .ok (.aload_n 1, 1) := by decide +kernel
theorem dX10_follow_2 : decode cX10_follow 2 = .ok (.getfield 9, 3) := by decide +kernel
theorem dX10_follow_5 : decode cX10_follow 5 = .ok (.putfield 9, 3) := by decide +kernel
theorem dX10_follow_8 : decode cX10_follow 8 = .ok (.aload_n 0, 1) := by decide +kernel
theorem dX10_follow_9 : decode cX10_follow 9 = .ok (.aload_n 1, 1) := by decide +kernel
theorem dX10_follow_10 : decode cX10_follow 10 = .ok (.getfield 15, 3) := by decide +kernel
theorem dX10_follow_13 : decode cX10_follow 13 = .ok (.putfield 15, 3) := by decide +kernel
theorem dX10_follow_16 : decode cX10_follow 16 = .ok (.aload_n 0, 1) := by decide +kernel
theorem dX10_follow_17 : decode cX10_follow 17 = .ok (.aload_n 1, 1) := by decide +kernel
theorem dX10_follow_18 : decode cX10_follow 18 = .ok (.getfield 18, 3) := by decide +kernel
theorem dX10_follow_21 : decode cX10_follow 21 = .ok (.putfield 18, 3) := by decide +kernel
theorem dX10_follow_24 : decode cX10_follow 24 = .ok (.aload_n 0, 1) := by decide +kernel
theorem dX10_follow_25 : decode cX10_follow 25 = .ok (.aload_n 1, 1) := by decide +kernel
theorem dX10_follow_26 : decode cX10_follow 26 = .ok (.getfield 21, 3) := by decide +kernel
theorem dX10_follow_29 : decode cX10_follow 29 = .ok (.putfield 21, 3) := by decide +kernel
theorem dX10_follow_32 : decode cX10_follow 32 = .ok (.aload_n 0, 1) := by decide +kernel
theorem dX10_follow_33 : decode cX10_follow 33 = .ok (.aload_n 1, 1) := by decide +kernel
theorem dX10_follow_34 : decode cX10_follow 34 = .ok (.getfield 24, 3) := by decide +kernel
theorem dX10_follow_37 : decode cX10_follow 37 = .ok (.putfield 24, 3) := by decide +kernel
theorem dX10_follow_40 : decode cX10_follow 40 = .ok (.aload_n 0, 1) := by decide +kernel
theorem dX10_follow_41 : decode cX10_follow 41 = .ok (.aload_n 1, 1) := by decide +kernel
theorem dX10_follow_42 : decode cX10_follow 42 = .ok (.getfield 27, 3) := by decide +kernel
theorem dX10_follow_45 : decode cX10_follow 45 = .ok (.putfield 27, 3) := by decide +kernel
theorem dX10_follow_48 : decode cX10_follow 48 = .ok (.return_, 1) := by decide +kernel
theorem dX10_visit_0 : decode cX10_visit 0 = .ok (.aload_n 2, 1) := by decide +kernel
theorem dX10_visit_1 : decode cX10_visit 1 = .ok (.aload_n 1, 1) := by decide +kernel
theorem dX10_visit_2 : decode cX10_visit 2 = .ok (.getfield 35, 3) := by decide +kernel
theorem dX10_visit_5 : decode cX10_visit 5 = .ok (.invokestatic 40, 3) := by decide +kernel
theorem dX10_visit_8 : decode cX10_visit 8 = .ok (.istore_n 3, 1) := by decide +kernel
theorem dX10_visit_9 : decode cX10_visit 9 = .ok (.aload_n 0, 1) := by decide +kernel
theorem dX10_visit_10 : decode cX10_visit 10 = .ok (.getfield 27, 3) := by decide +kernel
theorem dX10_visit_13 : decode cX10_visit 13 = .ok (.ifCond .ne 34, 3) := by decide +kernel
theorem dX10_visit_16 : decode cX10_visit 16 = .ok (.iload_n 3, 1) := by decide +kernel
theorem dX10_visit_17 : decode cX10_visit 17 = .ok (.aload_n 0, 1) := by decide +kernel
theorem dX10_visit_18 : decode cX10_visit 18 = .ok (.getfield 24, 3) := by decide +kernel
theorem dX10_visit_21 : decode cX10_visit 21 = .ok (.if_icmp .le 26, 3) := by decide +kernel
theorem dX10_visit_24 : decode cX10_visit 24 = .ok (.aload_n 0, 1) := by decide +kernel
theorem dX10_visit_25 : decode cX10_visit 25 = .ok (.aload_n 2, 1) := by decide +kernel
theorem dX10_visit_26 : decode cX10_visit 26 = .ok (.iconst 1, 1) := by decide +kernel
theorem dX10_visit_27 : decode cX10_visit 27 = .ok (.iaload, 1) := by decide +kernel
theorem dX10_visit_28 : decode cX10_visit 28 = .ok (.aload_n 2, 1) := by decide +kernel
theorem dX10_visit_29 : decode cX10_visit 29 = .ok (.invokevirtual 44, 3) := by decide +kernel
theorem dX10_visit_32 : decode cX10_visit 32 = .ok (.aload_n 0, 1) := by decide +kernel
theorem dX10_visit_33 : decode cX10_visit 33 = .ok (.dup, 1) := by decide +kernel
theorem dX10_visit_34 : decode cX10_visit 34 = .ok (.getfield 15, 3) := by decide +kernel
theorem dX10_visit_37 : decode cX10_visit 37 = .ok (.iconst 1, 1) := by decide +kernel
theorem dX10_visit_38 : decode cX10_visit 38 = .ok (.iadd, 1) := by decide +kernel
theorem dX10_visit_39 : decode cX10_visit 39 = .ok (.putfield 15, 3) := by decide +kernel
theorem dX10_visit_42 : decode cX10_visit 42 = .ok (.aload_n 0, 1) := by decide +kernel
theorem dX10_visit_43 : decode cX10_visit 43 = .ok (.aload_n 2, 1) := by decide +kernel
theorem dX10_visit_44 : decode cX10_visit 44 = .ok (.invokevirtual 31, 3) := by decide +kernel
theorem dX10_visit_47 : decode cX10_visit 47 = .ok (.aload_n 0, 1) := by decide +kernel
theorem dX10_visit_48 : decode cX10_visit 48 = .ok (.dup, 1) := by decide +kernel
theorem dX10_visit_49 : decode cX10_visit 49 = .ok (.getfield 24, 3) := by decide +kernel
theorem dX10_visit_52 : decode cX10_visit 52 = .ok (.iload_n 3, 1) := by decide +kernel
theorem dX10_visit_53 : decode cX10_visit 53 = .ok (.isub, 1) := by decide +kernel
theorem dX10_visit_54 : decode cX10_visit 54 = .ok (.putfield 24, 3) := by decide +kernel
theorem dX10_visit_57 : decode cX10_visit 57 = .ok (.aload_n 0, 1) := by decide +kernel
theorem dX10_visit_58 : decode cX10_visit 58 = .ok (.iconst 0, 1) := by decide +kernel
theorem dX10_visit_59 : decode cX10_visit 59 = .ok (.putfield 27, 3) := by decide +kernel
theorem dX10_visit_62 : decode cX10_visit 62 = .ok (.aload_n 0, 1) := by decide +kernel
theorem dX10_visit_63 : decode cX10_visit 63 = .ok (.aload_n 1, 1) := by decide +kernel
theorem dX10_visit_64 : decode cX10_visit 64 = .ok (.getfield 48, 3) := by decide +kernel
theorem dX10_visit_67 : decode cX10_visit 67 = .ok (.aload_n 2, 1) := by decide +kernel
theorem dX10_visit_68 : decode cX10_visit 68 = .ok (.invokevirtual 44, 3) := by decide +kernel
theorem dX10_visit_71 : decode cX10_visit 71 = .ok (.aload_n 0, 1) := by decide +kernel
theorem dX10_visit_72 : decode cX10_visit 72 = .ok (.getfield 21, 3) := by decide +kernel
theorem dX10_visit_75 : decode cX10_visit 75 = .ok (.aload_n 1, 1) := by decide +kernel
theorem dX10_visit_76 : decode cX10_visit 76 = .ok (.getfield 49, 3) := by decide +kernel
theorem dX10_visit_79 : decode cX10_visit 79 = .ok (.if_icmp .eq 23, 3) := by decide +kernel
theorem dX10_visit_82 : decode cX10_visit 82 = .ok (.aload_n 0, 1) := by decide +kernel
theorem dX10_visit_83 : decode cX10_visit 83 = .ok (.dup, 1) := by decide +kernel
theorem dX10_visit_84 : decode cX10_visit 84 = .ok (.getfield 9, 3) := by decide +kernel
theorem dX10_visit_87 : decode cX10_visit 87 = .ok (.aload_n 2, 1) := by decide +kernel
theorem dX10_visit_88 : decode cX10_visit 88 = .ok (.iconst 4, 1) := by decide +kernel
theorem dX10_visit_89 : decode cX10_visit 89 = .ok (.iaload, 1) := by decide +kernel
theorem dX10_visit_90 : decode cX10_visit 90 = .ok (.iadd, 1) := by decide +kernel
theorem dX10_visit_91 : decode cX10_visit 91 = .ok (.putfield 9, 3) := by decide +kernel
theorem dX10_visit_94 : decode cX10_visit 94 = .ok (.aload_n 0, 1) := by decide +kernel
theorem dX10_visit_95 : decode cX10_visit 95 = .ok (.aload_n 1, 1) := by decide +kernel
theorem dX10_visit_96 : decode cX10_visit 96 = .ok (.getfield 49, 3) := by decide +kernel
theorem dX10_visit_99 : decode cX10_visit 99 = .ok (.putfield 21, 3) := by decide +kernel
theorem dX10_visit_102 : decode cX10_visit 102 = .ok (.aload_n 0, 1) := by decide +kernel
theorem dX10_visit_103 : decode cX10_visit 103 = .ok (.getfield 9, 3) := by decide +kernel
theorem dX10_visit_106 : decode cX10_visit 106 = .ok (.istore 4, 2) := by decide +kernel
theorem dX10_visit_108 : decode cX10_visit 108 = .ok (.aload_n 0, 1) := by decide +kernel
theorem dX10_visit_109 : decode cX10_visit 109 = .ok (.dup, 1) := by decide +kernel
theorem dX10_visit_110 : decode cX10_visit 110 = .ok (.getfield 9, 3) := by decide +kernel
theorem dX10_visit_113 : decode cX10_visit 113 = .ok (.aload_n 1, 1) := by decide +kernel
theorem dX10_visit_114 : decode cX10_visit 114 = .ok (.iload_n 3, 1) := by decide +kernel
theorem dX10_visit_115 : decode cX10_visit 115 = .ok (.aload_n 2, 1) := by decide +kernel
theorem dX10_visit_116 : decode cX10_visit 116 = .ok (.iconst 5, 1) := by decide +kernel
theorem dX10_visit_117 : decode cX10_visit 117 = .ok (.iaload, 1) := by decide +kernel
theorem dX10_visit_118 : decode cX10_visit 118 = .ok (.invokevirtual 50, 3) := by decide +kernel
theorem dX10_visit_121 : decode cX10_visit 121 = .ok (.iadd, 1) := by decide +kernel
theorem dX10_visit_122 : decode cX10_visit 122 = .ok (.putfield 9, 3) := by decide +kernel
theorem dX10_visit_125 : decode cX10_visit 125 = .ok (.iload 4, 2) := by decide +kernel
theorem dX10_visit_127 : decode cX10_visit 127 = .ok (.ireturn, 1) := by decide +kernel
theorem dX10_fill_0 : decode cX10_fill 0 = .ok (.aload_n 0, 1) := by decide +kernel
theorem dX10_fill_1 : decode cX10_fill 1 = .ok (.aload_n 1, 1) := by decide +kernel
theorem dX10_fill_2 : decode cX10_fill 2 = .ok (.iconst 1, 1) := by decide +kernel
theorem dX10_fill_3 : decode cX10_fill 3 = .ok (.iaload, 1) := by decide +kernel
theorem dX10_fill_4 : decode cX10_fill 4 = .ok (.putfield 18, 3) := by decide +kernel
theorem dX10_fill_7 : decode cX10_fill 7 = .ok (.aload_n 0, 1) := by decide +kernel
theorem dX10_fill_8 : decode cX10_fill 8 = .ok (.aload_n 1, 1) := by decide +kernel
theorem dX10_fill_9 : decode cX10_fill 9 = .ok (.iconst 0, 1) := by decide +kernel
theorem dX10_fill_10 : decode cX10_fill 10 = .ok (.iaload, 1) := by decide +kernel
theorem dX10_fill_11 : decode cX10_fill 11 = .ok (.putfield 24, 3) := by decide +kernel
theorem dX10_fill_14 : decode cX10_fill 14 = .ok (.aload_n 0, 1) := by decide +kernel
theorem dX10_fill_15 : decode cX10_fill 15 = .ok (.iconst 1, 1) := by decide +kernel
theorem dX10_fill_16 : decode cX10_fill 16 = .ok (.putfield 27, 3) := by decide +kernel
theorem dX10_fill_19 : decode cX10_fill 19 = .ok (.return_, 1) := by decide +kernel
theorem dX10_go_0 : decode cX10_go 0 = .ok (.iload_n 1, 1) := by decide +kernel
theorem dX10_go_1 : decode cX10_go 1 = .ok (.aload_n 0, 1) := by decide +kernel
theorem dX10_go_2 : decode cX10_go 2 = .ok (.getfield 18, 3) := by decide +kernel
theorem dX10_go_5 : decode cX10_go 5 = .ok (.isub, 1) := by decide +kernel
theorem dX10_go_6 : decode cX10_go 6 = .ok (.invokestatic 54, 3) := by decide +kernel
theorem dX10_go_9 : decode cX10_go 9 = .ok (.istore_n 3, 1) := by decide +kernel
theorem dX10_go_10 : decode cX10_go 10 = .ok (.iconst 1, 1) := by decide +kernel
theorem dX10_go_11 : decode cX10_go 11 = .ok (.aload_n 2, 1) := by decide +kernel
theorem dX10_go_12 : decode cX10_go 12 = .ok (.iconst 3, 1) := by decide +kernel
theorem dX10_go_13 : decode cX10_go 13 = .ok (.iaload, 1) := by decide +kernel
theorem dX10_go_14 : decode cX10_go 14 = .ok (.invokestatic 60, 3) := by decide +kernel
theorem dX10_go_17 : decode cX10_go 17 = .ok (.istore 4, 2) := by decide +kernel
theorem dX10_go_19 : decode cX10_go 19 = .ok (.aload_n 0, 1) := by decide +kernel
theorem dX10_go_20 : decode cX10_go 20 = .ok (.dup, 1) := by decide +kernel
theorem dX10_go_21 : decode cX10_go 21 = .ok (.getfield 9, 3) := by decide +kernel
theorem dX10_go_24 : decode cX10_go 24 = .ok (.iload_n 3, 1) := by decide +kernel
theorem dX10_go_25 : decode cX10_go 25 = .ok (.iload 4, 2) := by decide +kernel
theorem dX10_go_27 : decode cX10_go 27 = .ok (.iadd, 1) := by decide +kernel
theorem dX10_go_28 : decode cX10_go 28 = .ok (.iconst 1, 1) := by decide +kernel
theorem dX10_go_29 : decode cX10_go 29 = .ok (.isub, 1) := by decide +kernel
theorem dX10_go_30 : decode cX10_go 30 = .ok (.iload 4, 2) := by decide +kernel
theorem dX10_go_32 : decode cX10_go 32 = .ok (.idiv, 1) := by decide +kernel
theorem dX10_go_33 : decode cX10_go 33 = .ok (.iadd, 1) := by decide +kernel
theorem dX10_go_34 : decode cX10_go 34 = .ok (.putfield 9, 3) := by decide +kernel
theorem dX10_go_37 : decode cX10_go 37 = .ok (.aload_n 0, 1) := by decide +kernel
theorem dX10_go_38 : decode cX10_go 38 = .ok (.iload_n 1, 1) := by decide +kernel
theorem dX10_go_39 : decode cX10_go 39 = .ok (.putfield 18, 3) := by decide +kernel
theorem dX10_go_42 : decode cX10_go 42 = .ok (.return_, 1) := by decide +kernel
theorem dJ9_abs_0f7a4_0 : decode cJ9_abs_0f7a4 0 = .ok (.iload_n 0, 1) := by decide +kernel
theorem dJ9_abs_0f7a4_1 : decode cJ9_abs_0f7a4 1 = .ok (.ifCond .ge 8, 3) := by decide +kernel
theorem dJ9_abs_0f7a4_4 : decode cJ9_abs_0f7a4 4 = .ok (.iload_n 0, 1) := by decide +kernel
theorem dJ9_abs_0f7a4_5 : decode cJ9_abs_0f7a4 5 = .ok (.ineg, 1) := by decide +kernel
theorem dJ9_abs_0f7a4_6 : decode cJ9_abs_0f7a4 6 = .ok (.goto 4, 3) := by decide +kernel
theorem dJ9_abs_0f7a4_9 : decode cJ9_abs_0f7a4 9 = .ok (.iload_n 0, 1) := by decide +kernel
theorem dJ9_abs_0f7a4_10 : decode cJ9_abs_0f7a4 10 = .ok (.ireturn, 1) := by decide +kernel
theorem dJ9_max_7cf53_0 : decode cJ9_max_7cf53 0 = .ok (.iload_n 0, 1) := by decide +kernel
theorem dJ9_max_7cf53_1 : decode cJ9_max_7cf53 1 = .ok (.iload_n 1, 1) := by decide +kernel
theorem dJ9_max_7cf53_2 : decode cJ9_max_7cf53 2 = .ok (.if_icmp .lt 7, 3) := by decide +kernel
theorem dJ9_max_7cf53_5 : decode cJ9_max_7cf53 5 = .ok (.iload_n 0, 1) := by decide +kernel
theorem dJ9_max_7cf53_6 : decode cJ9_max_7cf53 6 = .ok (.goto 4, 3) := by decide +kernel
theorem dJ9_max_7cf53_9 : decode cJ9_max_7cf53 9 = .ok (.iload_n 1, 1) := by decide +kernel
theorem dJ9_max_7cf53_10 : decode cJ9_max_7cf53 10 = .ok (.ireturn, 1) := by decide +kernel
theorem dJ9_min_7cf53_0 : decode cJ9_min_7cf53 0 = .ok (.iload_n 0, 1) := by decide +kernel
theorem dJ9_min_7cf53_1 : decode cJ9_min_7cf53 1 = .ok (.iload_n 1, 1) := by decide +kernel
theorem dJ9_min_7cf53_2 : decode cJ9_min_7cf53 2 = .ok (.if_icmp .gt 7, 3) := by decide +kernel
theorem dJ9_min_7cf53_5 : decode cJ9_min_7cf53 5 = .ok (.iload_n 0, 1) := by decide +kernel
theorem dJ9_min_7cf53_6 : decode cJ9_min_7cf53 6 = .ok (.goto 4, 3) := by decide +kernel
theorem dJ9_min_7cf53_9 : decode cJ9_min_7cf53 9 = .ok (.iload_n 1, 1) := by decide +kernel
theorem dJ9_min_7cf53_10 : decode cJ9_min_7cf53 10 = .ok (.ireturn, 1) := by decide +kernel
theorem dJ0_length_8abf5_0 : decode cJ0_length_8abf5 0 = .ok (.aload_n 0, 1) := by decide +kernel
theorem dJ0_length_8abf5_1 : decode cJ0_length_8abf5 1 = .ok (.getfield 9, 3) := by decide +kernel
theorem dJ0_length_8abf5_4 : decode cJ0_length_8abf5 4 = .ok (.arraylength, 1) := by decide +kernel
theorem dJ0_length_8abf5_5 : decode cJ0_length_8abf5 5 = .ok (.aload_n 0, 1) := by decide +kernel
theorem dJ0_length_8abf5_6 : decode cJ0_length_8abf5 6 = .ok (.invokevirtual 335, 3) := by decide +kernel
theorem dJ0_length_8abf5_9 : decode cJ0_length_8abf5 9 = .ok (.ishr, 1) := by decide +kernel
theorem dJ0_length_8abf5_10 : decode cJ0_length_8abf5 10 = .ok (.ireturn, 1) := by decide +kernel
theorem dJ0_charAt_5068e_0 : decode cJ0_charAt_5068e 0 = .ok (.aload_n 0, 1) := by decide +kernel
theorem dJ0_charAt_5068e_1 : decode cJ0_charAt_5068e 1 = .ok (.invokevirtual 492, 3) := by decide +kernel
theorem dJ0_charAt_5068e_4 : decode cJ0_charAt_5068e 4 = .ok (.ifCond .eq 12, 3) := by decide +kernel
theorem dJ0_charAt_5068e_7 : decode cJ0_charAt_5068e 7 = .ok (.aload_n 0, 1) := by decide +kernel
theorem dJ0_charAt_5068e_8 : decode cJ0_charAt_5068e 8 = .ok (.getfield 9, 3) := by decide +kernel
theorem dJ0_charAt_5068e_11 : decode cJ0_charAt_5068e 11 = .ok (.iload_n 1, 1) := by decide +kernel
theorem dJ0_charAt_5068e_12 : decode cJ0_charAt_5068e 12 = .ok (.invokestatic 495, 3) := by decide +kernel
theorem dJ0_charAt_5068e_15 : decode cJ0_charAt_5068e 15 = .ok (.ireturn, 1) := by decide +kernel
theorem dJ0_charAt_5068e_16 : decode cJ0_charAt_5068e 16 = .ok (.aload_n 0, 1) := by decide +kernel
theorem dJ0_charAt_5068e_17 : decode cJ0_charAt_5068e 17 = .ok (.getfield 9, 3) := by decide +kernel
theorem dJ0_charAt_5068e_20 : decode cJ0_charAt_5068e 20 = .ok (.iload_n 1, 1) := by decide +kernel
theorem dJ0_charAt_5068e_21 : decode cJ0_charAt_5068e 21 = .ok (.invokestatic 498, 3) := by decide +kernel
theorem dJ0_charAt_5068e_24 : decode cJ0_charAt_5068e 24 = .ok (.ireturn, 1) := by decide +kernel
theorem dJ0_coder_7d493_0 : decode cJ0_coder_7d493 0 = .ok (.getstatic 38, 3) := by decide +kernel
theorem dJ0_coder_7d493_3 : decode cJ0_coder_7d493 3 = .ok (.ifCond .eq 10, 3) := by decide +kernel
theorem dJ0_coder_7d493_6 : decode cJ0_coder_7d493 6 = .ok (.aload_n 0, 1) := by decide +kernel
theorem dJ0_coder_7d493_7 : decode cJ0_coder_7d493 7 = .ok (.getfield 15, 3) := by decide +kernel
theorem dJ0_coder_7d493_10 : decode cJ0_coder_7d493 10 = .ok (.goto 4, 3) := by decide +kernel
theorem dJ0_coder_7d493_13 : decode cJ0_coder_7d493 13 = .ok (.iconst 1, 1) := by decide +kernel
theorem dJ0_coder_7d493_14 : decode cJ0_coder_7d493 14 = .ok (.ireturn, 1) := by decide +kernel
theorem dJ0_isLatin1_aae02_0 : decode cJ0_isLatin1_aae02 0 = .ok (.getstatic 38, 3) := by decide +kernel
theorem dJ0_isLatin1_aae02_3 : decode cJ0_isLatin1_aae02 3 = .ok (.ifCond .eq 14, 3) := by decide +kernel
theorem dJ0_isLatin1_aae02_6 : decode cJ0_isLatin1_aae02 6 = .ok (.aload_n 0, 1) := by decide +kernel
theorem dJ0_isLatin1_aae02_7 : decode cJ0_isLatin1_aae02 7 = .ok (.getfield 15, 3) := by decide +kernel
theorem dJ0_isLatin1_aae02_10 : decode cJ0_isLatin1_aae02 10 = .ok (.ifCond .ne 7, 3) := by decide +kernel
theorem dJ0_isLatin1_aae02_13 : decode cJ0_isLatin1_aae02 13 = .ok (.iconst 1, 1) := by decide +kernel
theorem dJ0_isLatin1_aae02_14 : decode cJ0_isLatin1_aae02 14 = .ok (.goto 4, 3) := by decide +kernel
theorem dJ0_isLatin1_aae02_17 : decode cJ0_isLatin1_aae02 17 = .ok (.iconst 0, 1) := by decide +kernel
theorem dJ0_isLatin1_aae02_18 : decode cJ0_isLatin1_aae02 18 = .ok (.ireturn, 1) := by decide +kernel
theorem dJ0_checkIndex_df160_0 : decode cJ0_checkIndex_df160 0 = .ok (.iload_n 0, 1) := by decide +kernel
theorem dJ0_checkIndex_df160_1 : decode cJ0_checkIndex_df160 1 = .ok (.iload_n 1, 1) := by decide +kernel
theorem dJ0_checkIndex_df160_2 : decode cJ0_checkIndex_df160 2 = .ok (.getstatic 1053, 3) := by decide +kernel
theorem dJ0_checkIndex_df160_5 : decode cJ0_checkIndex_df160 5 = .ok (.invokestatic 1059, 3) := by decide +kernel
theorem dJ0_checkIndex_df160_8 : decode cJ0_checkIndex_df160 8 = .ok (.pop, 1) := by decide +kernel
theorem dJ0_checkIndex_df160_9 : decode cJ0_checkIndex_df160 9 = .ok (.return_, 1) := by decide +kernel
theorem dJ1_charAt_3b067_0 : decode cJ1_charAt_3b067 0 = .ok (.iload_n 1, 1) := by decide +kernel
theorem dJ1_charAt_3b067_1 : decode cJ1_charAt_3b067 1 = .ok (.aload_n 0, 1) := by decide +kernel
theorem dJ1_charAt_3b067_2 : decode cJ1_charAt_3b067 2 = .ok (.arraylength, 1) := by decide +kernel
theorem dJ1_charAt_3b067_3 : decode cJ1_charAt_3b067 3 = .ok (.invokestatic 9, 3) := by decide +kernel
theorem dJ1_charAt_3b067_6 : decode cJ1_charAt_3b067 6 = .ok (.aload_n 0, 1) := by decide +kernel
theorem dJ1_charAt_3b067_7 : decode cJ1_charAt_3b067 7 = .ok (.iload_n 1, 1) := by decide +kernel
theorem dJ1_charAt_3b067_8 : decode cJ1_charAt_3b067 8 = .ok (.baload, 1) := by decide +kernel
theorem dJ1_charAt_3b067_9 : decode cJ1_charAt_3b067 9 = .ok (.sipush 255, 3) := by decide +kernel
theorem dJ1_charAt_3b067_12 : decode cJ1_charAt_3b067 12 = .ok (.iand, 1) := by decide +kernel
theorem dJ1_charAt_3b067_13 : decode cJ1_charAt_3b067 13 = .ok (.i2c, 1) := by decide +kernel
theorem dJ1_charAt_3b067_14 : decode cJ1_charAt_3b067 14 = .ok (.ireturn, 1) := by decide +kernel
theorem dJ2_getChar_3b067_0 : decode cJ2_getChar_3b067 0 = .ok (.getstatic 44, 3) := by decide +kernel
theorem dJ2_getChar_3b067_3 : decode cJ2_getChar_3b067 3 = .ok (.ifCond .ne 25, 3) := by decide +kernel
theorem dJ2_getChar_3b067_6 : decode cJ2_getChar_3b067 6 = .ok (.iload_n 1, 1) := by decide +kernel
theorem dJ2_getChar_3b067_7 : decode cJ2_getChar_3b067 7 = .ok (.ifCond .lt 11, 3) := by decide +kernel
theorem dJ2_getChar_3b067_10 : decode cJ2_getChar_3b067 10 = .ok (.iload_n 1, 1) := by decide +kernel
theorem dJ2_getChar_3b067_11 : decode cJ2_getChar_3b067 11 = .ok (.aload_n 0, 1) := by decide +kernel
theorem dJ2_getChar_3b067_12 : decode cJ2_getChar_3b067 12 = .ok (.invokestatic 48, 3) := by decide +kernel
theorem dJ2_getChar_3b067_15 : decode cJ2_getChar_3b067 15 = .ok (.if_icmp .lt 13, 3) := by decide +kernel
theorem dJ2_getChar_3b067_18 : decode cJ2_getChar_3b067 18 = .ok (.new 52, 3) := by decide +kernel
theorem dJ2_getChar_3b067_21 : decode cJ2_getChar_3b067 21 = .ok (.dup, 1) := by decide +kernel
theorem dJ2_getChar_3b067_22 : decode cJ2_getChar_3b067 22 = .ok (.ldc 54, 2) := by decide +kernel
theorem dJ2_getChar_3b067_24 : decode cJ2_getChar_3b067 24 = .ok (.invokespecial 56, 3) := by decide +kernel
theorem dJ2_getChar_3b067_27 : decode cJ2_getChar_3b067 27 = .ok (.athrow, 1) := by decide +kernel
theorem dJ2_getChar_3b067_28 : decode cJ2_getChar_3b067 28 = .ok (.iload_n 1, 1) := by decide +kernel
theorem dJ2_getChar_3b067_29 : decode cJ2_getChar_3b067 29 = .ok (.iconst 1, 1) := by decide +kernel
theorem dJ2_getChar_3b067_30 : decode cJ2_getChar_3b067 30 = .ok (.ishl, 1) := by decide +kernel
theorem dJ2_getChar_3b067_31 : decode cJ2_getChar_3b067 31 = .ok (.istore_n 1, 1) := by decide +kernel
theorem dJ2_getChar_3b067_32 : decode cJ2_getChar_3b067 32 = .ok (.aload_n 0, 1) := by decide +kernel
theorem dJ2_getChar_3b067_33 : decode cJ2_getChar_3b067 33 = .ok (.iload_n 1, 1) := by decide +kernel
theorem dJ2_getChar_3b067_34 : decode cJ2_getChar_3b067 34 = .ok (.iinc 1 1, 3) := by decide +kernel
theorem dJ2_getChar_3b067_37 : decode cJ2_getChar_3b067 37 = .ok (.baload, 1) := by decide +kernel
theorem dJ2_getChar_3b067_38 : decode cJ2_getChar_3b067 38 = .ok (.sipush 255, 3) := by decide +kernel
theorem dJ2_getChar_3b067_41 : decode cJ2_getChar_3b067 41 = .ok (.iand, 1) := by decide +kernel
theorem dJ2_getChar_3b067_42 : decode cJ2_getChar_3b067 42 = .ok (.getstatic 59, 3) := by decide +kernel
theorem dJ2_getChar_3b067_45 : decode cJ2_getChar_3b067 45 = .ok (.ishl, 1) := by decide +kernel
theorem dJ2_getChar_3b067_46 : decode cJ2_getChar_3b067 46 = .ok (.aload_n 0, 1) := by decide +kernel
theorem dJ2_getChar_3b067_47 : decode cJ2_getChar_3b067 47 = .ok (.iload_n 1, 1) := by decide +kernel
theorem dJ2_getChar_3b067_48 : decode cJ2_getChar_3b067 48 = .ok (.baload, 1) := by decide +kernel
theorem dJ2_getChar_3b067_49 : decode cJ2_getChar_3b067 49 = .ok (.sipush 255, 3) := by decide +kernel
theorem dJ2_getChar_3b067_52 : decode cJ2_getChar_3b067 52 = .ok (.iand, 1) := by decide +kernel
theorem dJ2_getChar_3b067_53 : decode cJ2_getChar_3b067 53 = .ok (.getstatic 63, 3) := by decide +kernel
theorem dJ2_getChar_3b067_56 : decode cJ2_getChar_3b067 56 = .ok (.ishl, 1) := by decide +kernel
theorem dJ2_getChar_3b067_57 : decode cJ2_getChar_3b067 57 = .ok (.ior, 1) := by decide +kernel
theorem dJ2_getChar_3b067_58 : decode cJ2_getChar_3b067 58 = .ok (.i2c, 1) := by decide +kernel
theorem dJ2_getChar_3b067_59 : decode cJ2_getChar_3b067 59 = .ok (.ireturn, 1) := by decide +kernel
theorem dJ2_length_9d52b_0 : decode cJ2_length_9d52b 0 = .ok (.aload_n 0, 1) := by decide +kernel
theorem dJ2_length_9d52b_1 : decode cJ2_length_9d52b 1 = .ok (.arraylength, 1) := by decide +kernel
theorem dJ2_length_9d52b_2 : decode cJ2_length_9d52b 2 = .ok (.iconst 1, 1) := by decide +kernel
theorem dJ2_length_9d52b_3 : decode cJ2_length_9d52b 3 = .ok (.ishr, 1) := by decide +kernel
theorem dJ2_length_9d52b_4 : decode cJ2_length_9d52b 4 = .ok (.ireturn, 1) := by decide +kernel
theorem dJ2_charAt_3b067_0 : decode cJ2_charAt_3b067 0 = .ok (.iload_n 1, 1) := by decide +kernel
theorem dJ2_charAt_3b067_1 : decode cJ2_charAt_3b067 1 = .ok (.aload_n 0, 1) := by decide +kernel
theorem dJ2_charAt_3b067_2 : decode cJ2_charAt_3b067 2 = .ok (.invokestatic 67, 3) := by decide +kernel
theorem dJ2_charAt_3b067_5 : decode cJ2_charAt_3b067 5 = .ok (.aload_n 0, 1) := by decide +kernel
theorem dJ2_charAt_3b067_6 : decode cJ2_charAt_3b067 6 = .ok (.iload_n 1, 1) := by decide +kernel
theorem dJ2_charAt_3b067_7 : decode cJ2_charAt_3b067 7 = .ok (.invokestatic 71, 3) := by decide +kernel
theorem dJ2_charAt_3b067_10 : decode cJ2_charAt_3b067 10 = .ok (.ireturn, 1) := by decide +kernel
theorem dJ2_checkIndex_2214a_0 : decode cJ2_checkIndex_2214a 0 = .ok (.iload_n 0, 1) := by decide +kernel
theorem dJ2_checkIndex_2214a_1 : decode cJ2_checkIndex_2214a 1 = .ok (.aload_n 1, 1) := by decide +kernel
theorem dJ2_checkIndex_2214a_2 : decode cJ2_checkIndex_2214a 2 = .ok (.invokestatic 48, 3) := by decide +kernel
theorem dJ2_checkIndex_2214a_5 : decode cJ2_checkIndex_2214a 5 = .ok (.invokestatic 414, 3) := by decide +kernel
theorem dJ2_checkIndex_2214a_8 : decode cJ2_checkIndex_2214a 8 = .ok (.return_, 1) := by decide +kernel
theorem dJ7_fill_53178_0 : decode cJ7_fill_53178 0 = .ok (.iconst 0, 1) := by decide +kernel
theorem dJ7_fill_53178_1 : decode cJ7_fill_53178 1 = .ok (.istore_n 2, 1) := by decide +kernel
theorem dJ7_fill_53178_2 : decode cJ7_fill_53178 2 = .ok (.aload_n 0, 1) := by decide +kernel
theorem dJ7_fill_53178_3 : decode cJ7_fill_53178 3 = .ok (.arraylength, 1) := by decide +kernel
theorem dJ7_fill_53178_4 : decode cJ7_fill_53178 4 = .ok (.istore_n 3, 1) := by decide +kernel
theorem dJ7_fill_53178_5 : decode cJ7_fill_53178 5 = .ok (.iload_n 2, 1) := by decide +kernel
theorem dJ7_fill_53178_6 : decode cJ7_fill_53178 6 = .ok (.iload_n 3, 1) := by decide +kernel
theorem dJ7_fill_53178_7 : decode cJ7_fill_53178 7 = .ok (.if_icmp .ge 13, 3) := by decide +kernel
theorem dJ7_fill_53178_10 : decode cJ7_fill_53178 10 = .ok (.aload_n 0, 1) := by decide +kernel
theorem dJ7_fill_53178_11 : decode cJ7_fill_53178 11 = .ok (.iload_n 2, 1) := by decide +kernel
theorem dJ7_fill_53178_12 : decode cJ7_fill_53178 12 = .ok (.iload_n 1, 1) := by decide +kernel
theorem dJ7_fill_53178_13 : decode cJ7_fill_53178 13 = .ok (.iastore, 1) := by decide +kernel
theorem dJ7_fill_53178_14 : decode cJ7_fill_53178 14 = .ok (.iinc 2 1, 3) := by decide +kernel
theorem dJ7_fill_53178_17 : decode cJ7_fill_53178 17 = .ok (.goto (-12), 3) := by decide +kernel
theorem dJ7_fill_53178_20 : decode cJ7_fill_53178 20 = .ok (.return_, 1) := by decide +kernel
theorem dJ7_copyOf_59c91_0 : decode cJ7_copyOf_59c91 0 = .ok (.iload_n 1, 1) := by decide +kernel
theorem dJ7_copyOf_59c91_1 : decode cJ7_copyOf_59c91 1 = .ok (.aload_n 0, 1) := by decide +kernel
theorem dJ7_copyOf_59c91_2 : decode cJ7_copyOf_59c91 2 = .ok (.arraylength, 1) := by decide +kernel
theorem dJ7_copyOf_59c91_3 : decode cJ7_copyOf_59c91 3 = .ok (.if_icmp .ne 11, 3) := by decide +kernel
theorem dJ7_copyOf_59c91_6 : decode cJ7_copyOf_59c91 6 = .ok (.aload_n 0, 1) := by decide +kernel
theorem dJ7_copyOf_59c91_7 : decode cJ7_copyOf_59c91 7 = .ok (.invokevirtual 316, 3) := by decide +kernel
theorem dJ7_copyOf_59c91_10 : decode cJ7_copyOf_59c91 10 = .ok (.checkcast 317, 3) := by decide +kernel
theorem dJ7_copyOf_59c91_13 : decode cJ7_copyOf_59c91 13 = .ok (.areturn, 1) := by decide +kernel
theorem dJ7_copyOf_59c91_14 : decode cJ7_copyOf_59c91 14 = .ok (.iload_n 1, 1) := by decide +kernel
theorem dJ7_copyOf_59c91_15 : decode cJ7_copyOf_59c91 15 = .ok (.newarray .int, 2) := by decide +kernel
theorem dJ7_copyOf_59c91_17 : decode cJ7_copyOf_59c91 17 = .ok (.astore_n 2, 1) := by decide +kernel
theorem dJ7_copyOf_59c91_18 : decode cJ7_copyOf_59c91 18 = .ok (.aload_n 0, 1) := by decide +kernel
theorem dJ7_copyOf_59c91_19 : decode cJ7_copyOf_59c91 19 = .ok (.iconst 0, 1) := by decide +kernel
theorem dJ7_copyOf_59c91_20 : decode cJ7_copyOf_59c91 20 = .ok (.aload_n 2, 1) := by decide +kernel
theorem dJ7_copyOf_59c91_21 : decode cJ7_copyOf_59c91 21 = .ok (.iconst 0, 1) := by decide +kernel
theorem dJ7_copyOf_59c91_22 : decode cJ7_copyOf_59c91 22 = .ok (.aload_n 0, 1) := by decide +kernel
theorem dJ7_copyOf_59c91_23 : decode cJ7_copyOf_59c91 23 = .ok (.arraylength, 1) := by decide +kernel
theorem dJ7_copyOf_59c91_24 : decode cJ7_copyOf_59c91 24 = .ok (.iload_n 1, 1) := by decide +kernel
theorem dJ7_copyOf_59c91_25 : decode cJ7_copyOf_59c91 25 = .ok (.invokestatic 304, 3) := by decide +kernel
theorem dJ7_copyOf_59c91_28 : decode cJ7_copyOf_59c91 28 = .ok (.invokestatic 150, 3) := by decide +kernel
theorem dJ7_copyOf_59c91_31 : decode cJ7_copyOf_59c91 31 = .ok (.aload_n 2, 1) := by decide +kernel
theorem dJ7_copyOf_59c91_32 : decode cJ7_copyOf_59c91 32 = .ok (.areturn, 1) := by decide +kernel
theorem dJ3_checkIndex_8e157_0 : decode cJ3_checkIndex_8e157 0 = .ok (.iload_n 0, 1) := by decide +kernel
theorem dJ3_checkIndex_8e157_1 : decode cJ3_checkIndex_8e157 1 = .ok (.ifCond .lt 8, 3) := by decide +kernel
theorem dJ3_checkIndex_8e157_4 : decode cJ3_checkIndex_8e157 4 = .ok (.iload_n 0, 1) := by decide +kernel
theorem dJ3_checkIndex_8e157_5 : decode cJ3_checkIndex_8e157 5 = .ok (.iload_n 1, 1) := by decide +kernel
theorem dJ3_checkIndex_8e157_6 : decode cJ3_checkIndex_8e157 6 = .ok (.if_icmp .lt 10, 3) := by decide +kernel
theorem dJ3_checkIndex_8e157_9 : decode cJ3_checkIndex_8e157 9 = .ok (.aload_n 2, 1) := by decide +kernel
theorem dJ3_checkIndex_8e157_10 : decode cJ3_checkIndex_8e157 10 = .ok (.iload_n 0, 1) := by decide +kernel
theorem dJ3_checkIndex_8e157_11 : decode cJ3_checkIndex_8e157 11 = .ok (.iload_n 1, 1) := by decide +kernel
theorem dJ3_checkIndex_8e157_12 : decode cJ3_checkIndex_8e157 12 = .ok (.invokestatic 95, 3) := by decide +kernel
theorem dJ3_checkIndex_8e157_15 : decode cJ3_checkIndex_8e157 15 = .ok (.athrow, 1) := by decide +kernel
theorem dJ3_checkIndex_8e157_16 : decode cJ3_checkIndex_8e157 16 = .ok (.iload_n 0, 1) := by decide +kernel
theorem dJ3_checkIndex_8e157_17 : decode cJ3_checkIndex_8e157 17 = .ok (.ireturn, 1) := by decide +kernel
