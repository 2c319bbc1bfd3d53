theorem dX5_init_0 : decode cX5_init 0 = .ok (.aload_n 0, 1) := by decide +kernel
theorem dX5_init_1 : decode cX5_init 1 = .ok (.invokespecial 3, 3) := by decide +kernel
theorem dX5_init_4 : decode cX5_init 4 = .ok (.aload_n 0, 1) := by decide +kernel
theorem dX5_init_5 : decode cX5_init 5 = .ok (.sipush 141, 3) := by decide +kernel
theorem dX5_init_8 : decode cX5_init 8 = .ok (.newarray .int, 2) := by decide +kernel
theorem dX5_init_10 : decode cX5_init 10 = .ok (.putfield 9, 3) := by decide +kernel
theorem dX5_init_13 : decode cX5_init 13 = .ok (.aload_n 0, 1) := by decide +kernel
theorem dX5_init_14 : decode cX5_init 14 = .ok (.sipush 141, 3) := by decide +kernel
theorem dX5_init_17 : decode cX5_init 17 = .ok (.newarray .int, 2) := by decide +kernel
theorem dX5_init_19 : decode cX5_init 19 = .ok (.putfield 13, 3) := by decide +kernel
theorem dX5_init_22 : decode cX5_init 22 = .ok (.aload_n 0, 1) := by decide +kernel
theorem dX5_init_23 : decode cX5_init 23 = .ok (.sipush 141, 3) := by decide +kernel
theorem dX5_init_26 : decode cX5_init 26 = .ok (.newarray .int, 2) := by decide +kernel
theorem dX5_init_28 : decode cX5_init 28 = .ok (.putfield 16, 3) := by decide +kernel
theorem dX5_init_31 : decode cX5_init 31 = .ok (.aload_n 0, 1) := by decide +kernel
theorem dX5_init_32 : decode cX5_init 32 = .ok (.sipush 1128, 3) := by decide +kernel
theorem dX5_init_35 : decode cX5_init 35 = .ok (.newarray .int, 2) := by decide +kernel
theorem dX5_init_37 : decode cX5_init 37 = .ok (.putfield 19, 3) := by decide +kernel
theorem dX5_init_40 : decode cX5_init 40 = .ok (.aload_n 0, 1) := by decide +kernel
theorem dX5_init_41 : decode cX5_init 41 = .ok (.bipush 24, 2) := by decide +kernel
theorem dX5_init_43 : decode cX5_init 43 = .ok (.newarray .int, 2) := by decide +kernel
theorem dX5_init_45 : decode cX5_init 45 = .ok (.putfield 22, 3) := by decide +kernel
theorem dX5_init_48 : decode cX5_init 48 = .ok (.aload_n 0, 1) := by decide +kernel
theorem dX5_init_49 : decode cX5_init 49 = .ok (.bipush 24, 2) := by decide +kernel
theorem dX5_init_51 : decode cX5_init 51 = .ok (.newarray .int, 2) := by decide +kernel
theorem dX5_init_53 : decode cX5_init 53 = .ok (.putfield 25, 3) := by decide +kernel
theorem dX5_init_56 : decode cX5_init 56 = .ok (.aload_n 0, 1) := by decide +kernel
theorem dX5_init_57 : decode cX5_init 57 = .ok (.bipush 40, 2) := by decide +kernel
theorem dX5_init_59 : decode cX5_init 59 = .ok (.newarray .char, 2) := by decide +kernel
theorem dX5_init_61 : decode cX5_init 61 = .ok (.putfield 28, 3) := by decide +kernel
theorem dX5_init_64 : decode cX5_init 64 = .ok (.aload_n 0, 1) := by decide +kernel
theorem dX5_init_65 : decode cX5_init 65 = .ok (.bipush 60, 2) := by decide +kernel
theorem dX5_init_67 : decode cX5_init 67 = .ok (.newarray .char, 2) := by decide +kernel
theorem dX5_init_69 : decode cX5_init 69 = .ok (.putfield 32, 3) := by decide +kernel
theorem dX5_init_72 : decode cX5_init 72 = .ok (.aload_n 0, 1) := by decide +kernel
theorem dX5_init_73 : decode cX5_init 73 = .ok (.iconst (-1), 1) := by decide +kernel
theorem dX5_init_74 : decode cX5_init 74 = .ok (.putfield 35, 3) := by decide +kernel
theorem dX5_init_77 : decode cX5_init 77 = .ok (.aload_n 0, 1) := by decide +kernel
theorem dX5_init_78 : decode cX5_init 78 = .ok (.sipush 180, 3) := by decide +kernel
theorem dX5_init_81 : decode cX5_init 81 = .ok (.newarray .int, 2) := by decide +kernel
theorem dX5_init_83 : decode cX5_init 83 = .ok (.putfield 39, 3) := by decide +kernel
theorem dX5_init_86 : decode cX5_init 86 = .ok (.return_, 1) := by decide +kernel
theorem dX5_thrown_0 : decode cX5_thrown 0 = .ok (.aload_n 0, 1) := by decide +kernel
theorem dX5_thrown_1 : decode cX5_thrown 1 = .ok (.getfield 42, 3) := by decide +kernel
theorem dX5_thrown_4 : decode cX5_thrown 4 = .ok (.ireturn, 1) := by decide +kernel
theorem dX5_in_0 : decode cX5_in 0 = .ok (.iload_n 0, 1) := by decide +kernel
theorem dX5_in_1 : decode cX5_in 1 = .ok (.iload_n 1, 1) := by decide +kernel
theorem dX5_in_2 : decode cX5_in 2 = .ok (.if_icmp .lt 12, 3) := by decide +kernel
theorem dX5_in_5 : decode cX5_in 5 = .ok (.iload_n 0, 1) := by decide +kernel
theorem dX5_in_6 : decode cX5_in 6 = .ok (.iload_n 2, 1) := by decide +kernel
theorem dX5_in_7 : decode cX5_in 7 = .ok (.if_icmp .gt 7, 3) := by decide +kernel
theorem dX5_in_10 : decode cX5_in 10 = .ok (.iconst 1, 1) := by decide +kernel
theorem dX5_in_11 : decode cX5_in 11 = .ok (.goto 4, 3) := by decide +kernel
theorem dX5_in_14 : decode cX5_in 14 = .ok (.iconst 0, 1) := by decide +kernel
theorem dX5_in_15 : decode cX5_in 15 = .ok (.ireturn, 1) := by decide +kernel
theorem dX5_keep_0 : decode cX5_keep 0 = .ok (.aload_n 0, 1) := by decide +kernel
theorem dX5_keep_1 : decode cX5_keep 1 = .ok (.iconst 0, 1) := by decide +kernel
theorem dX5_keep_2 : decode cX5_keep 2 = .ok (.putfield 42, 3) := by decide +kernel
theorem dX5_keep_5 : decode cX5_keep 5 = .ok (.aload_n 0, 1) := by decide +kernel
theorem dX5_keep_6 : decode cX5_keep 6 = .ok (.getfield 9, 3) := by decide +kernel
theorem dX5_keep_9 : decode cX5_keep 9 = .ok (.iconst 0, 1) := by decide +kernel
theorem dX5_keep_10 : decode cX5_keep 10 = .ok (.aload_n 0, 1) := by decide +kernel
theorem dX5_keep_11 : decode cX5_keep 11 = .ok (.getfield 13, 3) := by decide +kernel
theorem dX5_keep_14 : decode cX5_keep 14 = .ok (.iconst 0, 1) := by decide +kernel
theorem dX5_keep_15 : decode cX5_keep 15 = .ok (.sipush 141, 3) := by decide +kernel
theorem dX5_keep_18 : decode cX5_keep 18 = .ok (.invokestatic 45, 3) := by decide +kernel
theorem dX5_keep_21 : decode cX5_keep 21 = .ok (.return_, 1) := by decide +kernel
theorem dX5_ends_0 : decode cX5_ends 0 = .ok (.aload_n 0, 1) := by decide +kernel
theorem dX5_ends_1 : decode cX5_ends 1 = .ok (.getfield 42, 3) := by decide +kernel
theorem dX5_ends_4 : decode cX5_ends 4 = .ok (.ifCond .le 21, 3) := by decide +kernel
theorem dX5_ends_7 : decode cX5_ends 7 = .ok (.aload_n 0, 1) := by decide +kernel
theorem dX5_ends_8 : decode cX5_ends 8 = .ok (.getfield 13, 3) := by decide +kernel
theorem dX5_ends_11 : decode cX5_ends 11 = .ok (.iconst 0, 1) := by decide +kernel
theorem dX5_ends_12 : decode cX5_ends 12 = .ok (.aload_n 0, 1) := by decide +kernel
theorem dX5_ends_13 : decode cX5_ends 13 = .ok (.getfield 9, 3) := by decide +kernel
theorem dX5_ends_16 : decode cX5_ends 16 = .ok (.iconst 0, 1) := by decide +kernel
theorem dX5_ends_17 : decode cX5_ends 17 = .ok (.sipush 141, 3) := by decide +kernel
theorem dX5_ends_20 : decode cX5_ends 20 = .ok (.invokestatic 45, 3) := by decide +kernel
theorem dX5_ends_23 : decode cX5_ends 23 = .ok (.iconst 0, 1) := by decide +kernel
theorem dX5_ends_24 : decode cX5_ends 24 = .ok (.ireturn, 1) := by decide +kernel
theorem dX5_ends_25 : decode cX5_ends 25 = .ok (.aload_n 0, 1) := by decide +kernel
theorem dX5_ends_26 : decode cX5_ends 26 = .ok (.getfield 51, 3) := by decide +kernel
theorem dX5_ends_29 : decode cX5_ends 29 = .ok (.bipush 8, 2) := by decide +kernel
theorem dX5_ends_31 : decode cX5_ends 31 = .ok (.if_icmp .ne 31, 3) := by decide +kernel
theorem dX5_ends_34 : decode cX5_ends 34 = .ok (.aload_n 0, 1) := by decide +kernel
theorem dX5_ends_35 : decode cX5_ends 35 = .ok (.getfield 19, 3) := by decide +kernel
theorem dX5_ends_38 : decode cX5_ends 38 = .ok (.sipush 141, 3) := by decide +kernel
theorem dX5_ends_41 : decode cX5_ends 41 = .ok (.aload_n 0, 1) := by decide +kernel
theorem dX5_ends_42 : decode cX5_ends 42 = .ok (.getfield 19, 3) := by decide +kernel
theorem dX5_ends_45 : decode cX5_ends 45 = .ok (.iconst 0, 1) := by decide +kernel
theorem dX5_ends_46 : decode cX5_ends 46 = .ok (.sipush 987, 3) := by decide +kernel
theorem dX5_ends_49 : decode cX5_ends 49 = .ok (.invokestatic 45, 3) := by decide +kernel
theorem dX5_ends_52 : decode cX5_ends 52 = .ok (.aload_n 0, 1) := by decide +kernel
theorem dX5_ends_53 : decode cX5_ends 53 = .ok (.dup, 1) := by decide +kernel
theorem dX5_ends_54 : decode cX5_ends 54 = .ok (.getfield 51, 3) := by decide +kernel
theorem dX5_ends_57 : decode cX5_ends 57 = .ok (.iconst 1, 1) := by decide +kernel
theorem dX5_ends_58 : decode cX5_ends 58 = .ok (.isub, 1) := by decide +kernel
theorem dX5_ends_59 : decode cX5_ends 59 = .ok (.putfield 51, 3) := by decide +kernel
theorem dX5_ends_62 : decode cX5_ends 62 = .ok (.aload_n 0, 1) := by decide +kernel
theorem dX5_ends_63 : decode cX5_ends 63 = .ok (.getfield 13, 3) := by decide +kernel
theorem dX5_ends_66 : decode cX5_ends 66 = .ok (.iconst 0, 1) := by decide +kernel
theorem dX5_ends_67 : decode cX5_ends 67 = .ok (.aload_n 0, 1) := by decide +kernel
theorem dX5_ends_68 : decode cX5_ends 68 = .ok (.getfield 19, 3) := by decide +kernel
theorem dX5_ends_71 : decode cX5_ends 71 = .ok (.sipush 141, 3) := by decide +kernel
theorem dX5_ends_74 : decode cX5_ends 74 = .ok (.aload_n 0, 1) := by decide +kernel
theorem dX5_ends_75 : decode cX5_ends 75 = .ok (.getfield 51, 3) := by decide +kernel
theorem dX5_ends_78 : decode cX5_ends 78 = .ok (.imul, 1) := by decide +kernel
theorem dX5_ends_79 : decode cX5_ends 79 = .ok (.sipush 141, 3) := by decide +kernel
theorem dX5_ends_82 : decode cX5_ends 82 = .ok (.invokestatic 45, 3) := by decide +kernel
theorem dX5_ends_85 : decode cX5_ends 85 = .ok (.aload_n 0, 1) := by decide +kernel
theorem dX5_ends_86 : decode cX5_ends 86 = .ok (.dup, 1) := by decide +kernel
theorem dX5_ends_87 : decode cX5_ends 87 = .ok (.getfield 51, 3) := by decide +kernel
theorem dX5_ends_90 : decode cX5_ends 90 = .ok (.iconst 1, 1) := by decide +kernel
theorem dX5_ends_91 : decode cX5_ends 91 = .ok (.iadd, 1) := by decide +kernel
theorem dX5_ends_92 : decode cX5_ends 92 = .ok (.putfield 51, 3) := by decide +kernel
theorem dX5_ends_95 : decode cX5_ends 95 = .ok (.iload_n 1, 1) := by decide +kernel
theorem dX5_ends_96 : decode cX5_ends 96 = .ok (.ireturn, 1) := by decide +kernel
theorem dX5_fails_0 : decode cX5_fails 0 = .ok (.aload_n 0, 1) := by decide +kernel
theorem dX5_fails_1 : decode cX5_fails 1 = .ok (.iload_n 1, 1) := by decide +kernel
theorem dX5_fails_2 : decode cX5_fails 2 = .ok (.putfield 42, 3) := by decide +kernel
theorem dX5_fails_5 : decode cX5_fails 5 = .ok (.iconst 0, 1) := by decide +kernel
theorem dX5_fails_6 : decode cX5_fails 6 = .ok (.ireturn, 1) := by decide +kernel
theorem dX5_refuse_0 : decode cX5_refuse 0 = .ok (.aload_n 0, 1) := by decide +kernel
theorem dX5_refuse_1 : decode cX5_refuse 1 = .ok (.iload_n 1, 1) := by decide +kernel
theorem dX5_refuse_2 : decode cX5_refuse 2 = .ok (.putfield 42, 3) := by decide +kernel
theorem dX5_refuse_5 : decode cX5_refuse 5 = .ok (.aload_n 0, 1) := by decide +kernel
theorem dX5_refuse_6 : decode cX5_refuse 6 = .ok (.iconst 1, 1) := by decide +kernel
theorem dX5_refuse_7 : decode cX5_refuse 7 = .ok (.putfield 54, 3) := by decide +kernel
theorem dX5_refuse_10 : decode cX5_refuse 10 = .ok (.aload_n 0, 1) := by decide +kernel
theorem dX5_refuse_11 : decode cX5_refuse 11 = .ok (.iload_n 2, 1) := by decide +kernel
theorem dX5_refuse_12 : decode cX5_refuse 12 = .ok (.putfield 58, 3) := by decide +kernel
theorem dX5_refuse_15 : decode cX5_refuse 15 = .ok (.aload_n 0, 1) := by decide +kernel
theorem dX5_refuse_16 : decode cX5_refuse 16 = .ok (.iload_n 3, 1) := by decide +kernel
theorem dX5_refuse_17 : decode cX5_refuse 17 = .ok (.putfield 61, 3) := by decide +kernel
theorem dX5_refuse_20 : decode cX5_refuse 20 = .ok (.iconst 0, 1) := by decide +kernel
theorem dX5_refuse_21 : decode cX5_refuse 21 = .ok (.ireturn, 1) := by decide +kernel
theorem dX5_refusal_0 : decode cX5_refusal 0 = .ok (.aload_n 0, 1) := by decide +kernel
theorem dX5_refusal_1 : decode cX5_refusal 1 = .ok (.aload_n 0, 1) := by decide +kernel
theorem dX5_refusal_2 : decode cX5_refusal 2 = .ok (.getfield 58, 3) := by decide +kernel
theorem dX5_refusal_5 : decode cX5_refusal 5 = .ok (.ifCond .ne 7, 3) := by decide +kernel
theorem dX5_refusal_8 : decode cX5_refusal 8 = .ok (.iconst 1, 1) := by decide +kernel
theorem dX5_refusal_9 : decode cX5_refusal 9 = .ok (.goto 4, 3) := by decide +kernel
theorem dX5_refusal_12 : decode cX5_refusal 12 = .ok (.iconst 0, 1) := by decide +kernel
theorem dX5_refusal_13 : decode cX5_refusal 13 = .ok (.putfield 42, 3) := by decide +kernel
theorem dX5_refusal_16 : decode cX5_refusal 16 = .ok (.aload_n 0, 1) := by decide +kernel
theorem dX5_refusal_17 : decode cX5_refusal 17 = .ok (.getfield 42, 3) := by decide +kernel
theorem dX5_refusal_20 : decode cX5_refusal 20 = .ok (.ifCond .le 7, 3) := by decide +kernel
theorem dX5_refusal_23 : decode cX5_refusal 23 = .ok (.iconst 0, 1) := by decide +kernel
theorem dX5_refusal_24 : decode cX5_refusal 24 = .ok (.goto 18, 3) := by decide +kernel
theorem dX5_refusal_27 : decode cX5_refusal 27 = .ok (.iload_n 1, 1) := by decide +kernel
theorem dX5_refusal_28 : decode cX5_refusal 28 = .ok (.ifCond .eq 10, 3) := by decide +kernel
theorem dX5_refusal_31 : decode cX5_refusal 31 = .ok (.aload_n 0, 1) := by decide +kernel
theorem dX5_refusal_32 : decode cX5_refusal 32 = .ok (.getfield 61, 3) := by decide +kernel
theorem dX5_refusal_35 : decode cX5_refusal 35 = .ok (.goto 7, 3) := by decide +kernel
theorem dX5_refusal_38 : decode cX5_refusal 38 = .ok (.aload_n 0, 1) := by decide +kernel
theorem dX5_refusal_39 : decode cX5_refusal 39 = .ok (.getfield 58, 3) := by decide +kernel
theorem dX5_refusal_42 : decode cX5_refusal 42 = .ok (.ireturn, 1) := by decide +kernel
theorem dX5_has_0 : decode cX5_has 0 = .ok (.iload_n 1, 1) := by decide +kernel
theorem dX5_has_1 : decode cX5_has 1 = .ok (.iconst 0, 1) := by decide +kernel
theorem dX5_has_2 : decode cX5_has 2 = .ok (.aload_n 0, 1) := by decide +kernel
theorem dX5_has_3 : decode cX5_has 3 = .ok (.getfield 9, 3) := by decide +kernel
theorem dX5_has_6 : decode cX5_has 6 = .ok (.iconst 0, 1) := by decide +kernel
theorem dX5_has_7 : decode cX5_has 7 = .ok (.iaload, 1) := by decide +kernel
theorem dX5_has_8 : decode cX5_has 8 = .ok (.iconst 1, 1) := by decide +kernel
theorem dX5_has_9 : decode cX5_has 9 = .ok (.isub, 1) := by decide +kernel
theorem dX5_has_10 : decode cX5_has 10 = .ok (.invokestatic 64, 3) := by decide +kernel
theorem dX5_has_13 : decode cX5_has 13 = .ok (.ireturn, 1) := by decide +kernel
theorem dX5_parent_0 : decode cX5_parent 0 = .ok (.aload_n 0, 1) := by decide +kernel
theorem dX5_parent_1 : decode cX5_parent 1 = .ok (.getfield 9, 3) := by decide +kernel
theorem dX5_parent_4 : decode cX5_parent 4 = .ok (.iconst 5, 1) := by decide +kernel
theorem dX5_parent_5 : decode cX5_parent 5 = .ok (.iload_n 1, 1) := by decide +kernel
theorem dX5_parent_6 : decode cX5_parent 6 = .ok (.iadd, 1) := by decide +kernel
theorem dX5_parent_7 : decode cX5_parent 7 = .ok (.iaload, 1) := by decide +kernel
theorem dX5_parent_8 : decode cX5_parent 8 = .ok (.ireturn, 1) := by decide +kernel
theorem dX5_lives_0 : decode cX5_lives 0 = .ok (.aload_n 0, 1) := by decide +kernel
theorem dX5_lives_1 : decode cX5_lives 1 = .ok (.getfield 9, 3) := by decide +kernel
theorem dX5_lives_4 : decode cX5_lives 4 = .ok (.bipush 77, 2) := by decide +kernel
theorem dX5_lives_6 : decode cX5_lives 6 = .ok (.iload_n 1, 1) := by decide +kernel
theorem dX5_lives_7 : decode cX5_lives 7 = .ok (.iadd, 1) := by decide +kernel
theorem dX5_lives_8 : decode cX5_lives 8 = .ok (.iaload, 1) := by decide +kernel
theorem dX5_lives_9 : decode cX5_lives 9 = .ok (.iconst 1, 1) := by decide +kernel
theorem dX5_lives_10 : decode cX5_lives 10 = .ok (.if_icmp .ne 7, 3) := by decide +kernel
theorem dX5_lives_13 : decode cX5_lives 13 = .ok (.iconst 1, 1) := by decide +kernel
theorem dX5_lives_14 : decode cX5_lives 14 = .ok (.goto 4, 3) := by decide +kernel
theorem dX5_lives_17 : decode cX5_lives 17 = .ok (.iconst 0, 1) := by decide +kernel
theorem dX5_lives_18 : decode cX5_lives 18 = .ok (.ireturn, 1) := by decide +kernel
theorem dX5_depth_0 : decode cX5_depth 0 = .ok (.iconst 0, 1) := by decide +kernel
theorem dX5_depth_1 : decode cX5_depth 1 = .ok (.istore_n 2, 1) := by decide +kernel
theorem dX5_depth_2 : decode cX5_depth 2 = .ok (.iload_n 1, 1) := by decide +kernel
theorem dX5_depth_3 : decode cX5_depth 3 = .ok (.istore_n 3, 1) := by decide +kernel
theorem dX5_depth_4 : decode cX5_depth 4 = .ok (.aload_n 0, 1) := by decide +kernel
theorem dX5_depth_5 : decode cX5_depth 5 = .ok (.iload_n 3, 1) := by decide +kernel
theorem dX5_depth_6 : decode cX5_depth 6 = .ok (.invokevirtual 68, 3) := by decide +kernel
theorem dX5_depth_9 : decode cX5_depth 9 = .ok (.ifCond .lt 15, 3) := by decide +kernel
theorem dX5_depth_12 : decode cX5_depth 12 = .ok (.iinc 2 1, 3) := by decide +kernel
theorem dX5_depth_15 : decode cX5_depth 15 = .ok (.aload_n 0, 1) := by decide +kernel
theorem dX5_depth_16 : decode cX5_depth 16 = .ok (.iload_n 3, 1) := by decide +kernel
theorem dX5_depth_17 : decode cX5_depth 17 = .ok (.invokevirtual 68, 3) := by decide +kernel
theorem dX5_depth_20 : decode cX5_depth 20 = .ok (.istore_n 3, 1) := by decide +kernel
theorem dX5_depth_21 : decode cX5_depth 21 = .ok (.goto (-17), 3) := by decide +kernel
theorem dX5_depth_24 : decode cX5_depth 24 = .ok (.iload_n 2, 1) := by decide +kernel
theorem dX5_depth_25 : decode cX5_depth 25 = .ok (.ireturn, 1) := by decide +kernel
theorem dX5_rootOf_0 : decode cX5_rootOf 0 = .ok (.iload_n 1, 1) := by decide +kernel
theorem dX5_rootOf_1 : decode cX5_rootOf 1 = .ok (.istore_n 2, 1) := by decide +kernel
theorem dX5_rootOf_2 : decode cX5_rootOf 2 = .ok (.aload_n 0, 1) := by decide +kernel
theorem dX5_rootOf_3 : decode cX5_rootOf 3 = .ok (.iload_n 2, 1) := by decide +kernel
theorem dX5_rootOf_4 : decode cX5_rootOf 4 = .ok (.invokevirtual 68, 3) := by decide +kernel
theorem dX5_rootOf_7 : decode cX5_rootOf 7 = .ok (.ifCond .lt 12, 3) := by decide +kernel
theorem dX5_rootOf_10 : decode cX5_rootOf 10 = .ok (.aload_n 0, 1) := by decide +kernel
theorem dX5_rootOf_11 : decode cX5_rootOf 11 = .ok (.iload_n 2, 1) := by decide +kernel
theorem dX5_rootOf_12 : decode cX5_rootOf 12 = .ok (.invokevirtual 68, 3) := by decide +kernel
theorem dX5_rootOf_15 : decode cX5_rootOf 15 = .ok (.istore_n 2, 1) := by decide +kernel
theorem dX5_rootOf_16 : decode cX5_rootOf 16 = .ok (.goto (-14), 3) := by decide +kernel
theorem dX5_rootOf_19 : decode cX5_rootOf 19 = .ok (.iload_n 2, 1) := by decide +kernel
theorem dX5_rootOf_20 : decode cX5_rootOf 20 = .ok (.ireturn, 1) := by decide +kernel
theorem dX5_oaks_0 : decode cX5_oaks 0 = .ok (.iconst 0, 1) := by decide +kernel
theorem dX5_oaks_1 : decode cX5_oaks 1 = .ok (.istore_n 1, 1) := by decide +kernel
theorem dX5_oaks_2 : decode cX5_oaks 2 = .ok (.iconst 0, 1) := by decide +kernel
theorem dX5_oaks_3 : decode cX5_oaks 3 = .ok (.istore_n 2, 1) := by decide +kernel
theorem dX5_oaks_4 : decode cX5_oaks 4 = .ok (.iload_n 2, 1) := by decide +kernel
theorem dX5_oaks_5 : decode cX5_oaks 5 = .ok (.aload_n 0, 1) := by decide +kernel
theorem dX5_oaks_6 : decode cX5_oaks 6 = .ok (.getfield 9, 3) := by decide +kernel
theorem dX5_oaks_9 : decode cX5_oaks 9 = .ok (.iconst 0, 1) := by decide +kernel
theorem dX5_oaks_10 : decode cX5_oaks 10 = .ok (.iaload, 1) := by decide +kernel
theorem dX5_oaks_11 : decode cX5_oaks 11 = .ok (.if_icmp .ge 25, 3) := by decide +kernel
theorem dX5_oaks_14 : decode cX5_oaks 14 = .ok (.iload_n 1, 1) := by decide +kernel
theorem dX5_oaks_15 : decode cX5_oaks 15 = .ok (.aload_n 0, 1) := by decide +kernel
theorem dX5_oaks_16 : decode cX5_oaks 16 = .ok (.iload_n 2, 1) := by decide +kernel
theorem dX5_oaks_17 : decode cX5_oaks 17 = .ok (.invokevirtual 68, 3) := by decide +kernel
theorem dX5_oaks_20 : decode cX5_oaks 20 = .ok (.ifCond .ge 7, 3) := by decide +kernel
theorem dX5_oaks_23 : decode cX5_oaks 23 = .ok (.iconst 1, 1) := by decide +kernel
theorem dX5_oaks_24 : decode cX5_oaks 24 = .ok (.goto 4, 3) := by decide +kernel
theorem dX5_oaks_27 : decode cX5_oaks 27 = .ok (.iconst 0, 1) := by decide +kernel
theorem dX5_oaks_28 : decode cX5_oaks 28 = .ok (.iadd, 1) := by decide +kernel
theorem dX5_oaks_29 : decode cX5_oaks 29 = .ok (.istore_n 1, 1) := by decide +kernel
theorem dX5_oaks_30 : decode cX5_oaks 30 = .ok (.iinc 2 1, 3) := by decide +kernel
theorem dX5_oaks_33 : decode cX5_oaks 33 = .ok (.goto (-29), 3) := by decide +kernel
theorem dX5_oaks_36 : decode cX5_oaks 36 = .ok (.iload_n 1, 1) := by decide +kernel
theorem dX5_oaks_37 : decode cX5_oaks 37 = .ok (.ireturn, 1) := by decide +kernel
theorem dX5_comes_0 : decode cX5_comes 0 = .ok (.aload_n 0, 1) := by decide +kernel
theorem dX5_comes_1 : decode cX5_comes 1 = .ok (.getfield 9, 3) := by decide +kernel
theorem dX5_comes_4 : decode cX5_comes 4 = .ok (.iconst 0, 1) := by decide +kernel
theorem dX5_comes_5 : decode cX5_comes 5 = .ok (.iaload, 1) := by decide +kernel
theorem dX5_comes_6 : decode cX5_comes 6 = .ok (.istore_n 2, 1) := by decide +kernel
theorem dX5_comes_7 : decode cX5_comes 7 = .ok (.aload_n 0, 1) := by decide +kernel
theorem dX5_comes_8 : decode cX5_comes 8 = .ok (.getfield 9, 3) := by decide +kernel
theorem dX5_comes_11 : decode cX5_comes 11 = .ok (.iconst 5, 1) := by decide +kernel
theorem dX5_comes_12 : decode cX5_comes 12 = .ok (.iload_n 2, 1) := by decide +kernel
theorem dX5_comes_13 : decode cX5_comes 13 = .ok (.iadd, 1) := by decide +kernel
theorem dX5_comes_14 : decode cX5_comes 14 = .ok (.iload_n 1, 1) := by decide +kernel
theorem dX5_comes_15 : decode cX5_comes 15 = .ok (.iastore, 1) := by decide +kernel
theorem dX5_comes_16 : decode cX5_comes 16 = .ok (.aload_n 0, 1) := by decide +kernel
theorem dX5_comes_17 : decode cX5_comes 17 = .ok (.getfield 9, 3) := by decide +kernel
theorem dX5_comes_20 : decode cX5_comes 20 = .ok (.bipush 29, 2) := by decide +kernel
theorem dX5_comes_22 : decode cX5_comes 22 = .ok (.iload_n 2, 1) := by decide +kernel
theorem dX5_comes_23 : decode cX5_comes 23 = .ok (.iadd, 1) := by decide +kernel
theorem dX5_comes_24 : decode cX5_comes 24 = .ok (.iconst (-1), 1) := by decide +kernel
theorem dX5_comes_25 : decode cX5_comes 25 = .ok (.iastore, 1) := by decide +kernel
theorem dX5_comes_26 : decode cX5_comes 26 = .ok (.aload_n 0, 1) := by decide +kernel
theorem dX5_comes_27 : decode cX5_comes 27 = .ok (.getfield 9, 3) := by decide +kernel
theorem dX5_comes_30 : decode cX5_comes 30 = .ok (.bipush 53, 2) := by decide +kernel
theorem dX5_comes_32 : decode cX5_comes 32 = .ok (.iload_n 2, 1) := by decide +kernel
theorem dX5_comes_33 : decode cX5_comes 33 = .ok (.iadd, 1) := by decide +kernel
theorem dX5_comes_34 : decode cX5_comes 34 = .ok (.iconst 0, 1) := by decide +kernel
theorem dX5_comes_35 : decode cX5_comes 35 = .ok (.iastore, 1) := by decide +kernel
theorem dX5_comes_36 : decode cX5_comes 36 = .ok (.aload_n 0, 1) := by decide +kernel
theorem dX5_comes_37 : decode cX5_comes 37 = .ok (.getfield 9, 3) := by decide +kernel
theorem dX5_comes_40 : decode cX5_comes 40 = .ok (.bipush 77, 2) := by decide +kernel
theorem dX5_comes_42 : decode cX5_comes 42 = .ok (.iload_n 2, 1) := by decide +kernel
theorem dX5_comes_43 : decode cX5_comes 43 = .ok (.iadd, 1) := by decide +kernel
theorem dX5_comes_44 : decode cX5_comes 44 = .ok (.iconst 1, 1) := by decide +kernel
theorem dX5_comes_45 : decode cX5_comes 45 = .ok (.iastore, 1) := by decide +kernel
theorem dX5_comes_46 : decode cX5_comes 46 = .ok (.aload_n 0, 1) := by decide +kernel
theorem dX5_comes_47 : decode cX5_comes 47 = .ok (.getfield 9, 3) := by decide +kernel
theorem dX5_comes_50 : decode cX5_comes 50 = .ok (.iconst 0, 1) := by decide +kernel
theorem dX5_comes_51 : decode cX5_comes 51 = .ok (.dup2, 1) := by decide +kernel
theorem dX5_comes_52 : decode cX5_comes 52 = .ok (.iaload, 1) := by decide +kernel
theorem dX5_comes_53 : decode cX5_comes 53 = .ok (.iconst 1, 1) := by decide +kernel
theorem dX5_comes_54 : decode cX5_comes 54 = .ok (.iadd, 1) := by decide +kernel
theorem dX5_comes_55 : decode cX5_comes 55 = .ok (.iastore, 1) := by decide +kernel
theorem dX5_comes_56 : decode cX5_comes 56 = .ok (.iload_n 2, 1) := by decide +kernel
theorem dX5_comes_57 : decode cX5_comes 57 = .ok (.ireturn, 1) := by decide +kernel
theorem dX5_doFound_0 : decode cX5_doFound 0 = .ok (.aload_n 0, 1) := by decide +kernel
theorem dX5_doFound_1 : decode cX5_doFound 1 = .ok (.getfield 9, 3) := by decide +kernel
theorem dX5_doFound_4 : decode cX5_doFound 4 = .ok (.iconst 0, 1) := by decide +kernel
theorem dX5_doFound_5 : decode cX5_doFound 5 = .ok (.iaload, 1) := by decide +kernel
theorem dX5_doFound_6 : decode cX5_doFound 6 = .ok (.bipush 24, 2) := by decide +kernel
theorem dX5_doFound_8 : decode cX5_doFound 8 = .ok (.if_icmp .ne 14, 3) := by decide +kernel
theorem dX5_doFound_11 : decode cX5_doFound 11 = .ok (.aload_n 0, 1) := by decide +kernel
theorem dX5_doFound_12 : decode cX5_doFound 12 = .ok (.iconst 1, 1) := by decide +kernel
theorem dX5_doFound_13 : decode cX5_doFound 13 = .ok (.iconst 1, 1) := by decide +kernel
theorem dX5_doFound_14 : decode cX5_doFound 14 = .ok (.bipush 24, 2) := by decide +kernel
theorem dX5_doFound_16 : decode cX5_doFound 16 = .ok (.invokevirtual 72, 3) := by decide +kernel
theorem dX5_doFound_19 : decode cX5_doFound 19 = .ok (.goto 8, 3) := by decide +kernel
theorem dX5_doFound_22 : decode cX5_doFound 22 = .ok (.aload_n 0, 1) := by decide +kernel
theorem dX5_doFound_23 : decode cX5_doFound 23 = .ok (.iconst (-1), 1) := by decide +kernel
theorem dX5_doFound_24 : decode cX5_doFound 24 = .ok (.invokevirtual 76, 3) := by decide +kernel
theorem dX5_doFound_27 : decode cX5_doFound 27 = .ok (.ireturn, 1) := by decide +kernel
theorem dX5_found_0 : decode cX5_found 0 = .ok (.aload_n 0, 1) := by decide +kernel
theorem dX5_found_1 : decode cX5_found 1 = .ok (.invokevirtual 79, 3) := by decide +kernel
theorem dX5_found_4 : decode cX5_found 4 = .ok (.aload_n 0, 1) := by decide +kernel
theorem dX5_found_5 : decode cX5_found 5 = .ok (.aload_n 0, 1) := by decide +kernel
theorem dX5_found_6 : decode cX5_found 6 = .ok (.invokevirtual 82, 3) := by decide +kernel
theorem dX5_found_9 : decode cX5_found 9 = .ok (.invokevirtual 86, 3) := by decide +kernel
theorem dX5_found_12 : decode cX5_found 12 = .ok (.ireturn, 1) := by decide +kernel
theorem dX5_doBorn_0 : decode cX5_doBorn 0 = .ok (.aload_n 0, 1) := by decide +kernel
theorem dX5_doBorn_1 : decode cX5_doBorn 1 = .ok (.iload_n 1, 1) := by decide +kernel
theorem dX5_doBorn_2 : decode cX5_doBorn 2 = .ok (.invokevirtual 89, 3) := by decide +kernel
theorem dX5_doBorn_5 : decode cX5_doBorn 5 = .ok (.ifCond .ne 9, 3) := by decide +kernel
theorem dX5_doBorn_8 : decode cX5_doBorn 8 = .ok (.aload_n 0, 1) := by decide +kernel
theorem dX5_doBorn_9 : decode cX5_doBorn 9 = .ok (.iconst 1, 1) := by decide +kernel
theorem dX5_doBorn_10 : decode cX5_doBorn 10 = .ok (.invokevirtual 93, 3) := by decide +kernel
theorem dX5_doBorn_13 : decode cX5_doBorn 13 = .ok (.ireturn, 1) := by decide +kernel
theorem dX5_doBorn_14 : decode cX5_doBorn 14 = .ok (.aload_n 0, 1) := by decide +kernel
theorem dX5_doBorn_15 : decode cX5_doBorn 15 = .ok (.iload_n 1, 1) := by decide +kernel
theorem dX5_doBorn_16 : decode cX5_doBorn 16 = .ok (.invokevirtual 96, 3) := by decide +kernel
theorem dX5_doBorn_19 : decode cX5_doBorn 19 = .ok (.ifCond .ne 11, 3) := by decide +kernel
theorem dX5_doBorn_22 : decode cX5_doBorn 22 = .ok (.aload_n 0, 1) := by decide +kernel
theorem dX5_doBorn_23 : decode cX5_doBorn 23 = .ok (.iconst 2, 1) := by decide +kernel
theorem dX5_doBorn_24 : decode cX5_doBorn 24 = .ok (.iconst 2, 1) := by decide +kernel
theorem dX5_doBorn_25 : decode cX5_doBorn 25 = .ok (.iload_n 1, 1) := by decide +kernel
theorem dX5_doBorn_26 : decode cX5_doBorn 26 = .ok (.invokevirtual 72, 3) := by decide +kernel
theorem dX5_doBorn_29 : decode cX5_doBorn 29 = .ok (.ireturn, 1) := by decide +kernel
theorem dX5_doBorn_30 : decode cX5_doBorn 30 = .ok (.aload_n 0, 1) := by decide +kernel
theorem dX5_doBorn_31 : decode cX5_doBorn 31 = .ok (.getfield 9, 3) := by decide +kernel
theorem dX5_doBorn_34 : decode cX5_doBorn 34 = .ok (.iconst 0, 1) := by decide +kernel
theorem dX5_doBorn_35 : decode cX5_doBorn 35 = .ok (.iaload, 1) := by decide +kernel
theorem dX5_doBorn_36 : decode cX5_doBorn 36 = .ok (.bipush 24, 2) := by decide +kernel
theorem dX5_doBorn_38 : decode cX5_doBorn 38 = .ok (.if_icmp .ne 14, 3) := by decide +kernel
theorem dX5_doBorn_41 : decode cX5_doBorn 41 = .ok (.aload_n 0, 1) := by decide +kernel
theorem dX5_doBorn_42 : decode cX5_doBorn 42 = .ok (.iconst 2, 1) := by decide +kernel
theorem dX5_doBorn_43 : decode cX5_doBorn 43 = .ok (.iconst 1, 1) := by decide +kernel
theorem dX5_doBorn_44 : decode cX5_doBorn 44 = .ok (.bipush 24, 2) := by decide +kernel
theorem dX5_doBorn_46 : decode cX5_doBorn 46 = .ok (.invokevirtual 72, 3) := by decide +kernel
theorem dX5_doBorn_49 : decode cX5_doBorn 49 = .ok (.goto 8, 3) := by decide +kernel
theorem dX5_doBorn_52 : decode cX5_doBorn 52 = .ok (.aload_n 0, 1) := by decide +kernel
theorem dX5_doBorn_53 : decode cX5_doBorn 53 = .ok (.iload_n 1, 1) := by decide +kernel
theorem dX5_doBorn_54 : decode cX5_doBorn 54 = .ok (.invokevirtual 76, 3) := by decide +kernel
theorem dX5_doBorn_57 : decode cX5_doBorn 57 = .ok (.ireturn, 1) := by decide +kernel
theorem dX5_born_0 : decode cX5_born 0 = .ok (.aload_n 0, 1) := by decide +kernel
theorem dX5_born_1 : decode cX5_born 1 = .ok (.invokevirtual 79, 3) := by decide +kernel
theorem dX5_born_4 : decode cX5_born 4 = .ok (.aload_n 0, 1) := by decide +kernel
theorem dX5_born_5 : decode cX5_born 5 = .ok (.aload_n 0, 1) := by decide +kernel
theorem dX5_born_6 : decode cX5_born 6 = .ok (.iload_n 1, 1) := by decide +kernel
theorem dX5_born_7 : decode cX5_born 7 = .ok (.invokevirtual 99, 3) := by decide +kernel
theorem dX5_born_10 : decode cX5_born 10 = .ok (.invokevirtual 86, 3) := by decide +kernel
theorem dX5_born_13 : decode cX5_born 13 = .ok (.ireturn, 1) := by decide +kernel
theorem dX5_doGraft_0 : decode cX5_doGraft 0 = .ok (.aload_n 0, 1) := by decide +kernel
theorem dX5_doGraft_1 : decode cX5_doGraft 1 = .ok (.iload_n 1, 1) := by decide +kernel
theorem dX5_doGraft_2 : decode cX5_doGraft 2 = .ok (.invokevirtual 89, 3) := by decide +kernel
theorem dX5_doGraft_5 : decode cX5_doGraft 5 = .ok (.ifCond .eq 11, 3) := by decide +kernel
theorem dX5_doGraft_8 : decode cX5_doGraft 8 = .ok (.aload_n 0, 1) := by decide +kernel
theorem dX5_doGraft_9 : decode cX5_doGraft 9 = .ok (.iload_n 2, 1) := by decide +kernel
theorem dX5_doGraft_10 : decode cX5_doGraft 10 = .ok (.invokevirtual 89, 3) := by decide +kernel
theorem dX5_doGraft_13 : decode cX5_doGraft 13 = .ok (.ifCond .ne 9, 3) := by decide +kernel
theorem dX5_doGraft_16 : decode cX5_doGraft 16 = .ok (.aload_n 0, 1) := by decide +kernel
theorem dX5_doGraft_17 : decode cX5_doGraft 17 = .ok (.iconst 1, 1) := by decide +kernel
theorem dX5_doGraft_18 : decode cX5_doGraft 18 = .ok (.invokevirtual 93, 3) := by decide +kernel
theorem dX5_doGraft_21 : decode cX5_doGraft 21 = .ok (.ireturn, 1) := by decide +kernel
theorem dX5_doGraft_22 : decode cX5_doGraft 22 = .ok (.aload_n 0, 1) := by decide +kernel
theorem dX5_doGraft_23 : decode cX5_doGraft 23 = .ok (.iload_n 1, 1) := by decide +kernel
theorem dX5_doGraft_24 : decode cX5_doGraft 24 = .ok (.invokevirtual 68, 3) := by decide +kernel
theorem dX5_doGraft_27 : decode cX5_doGraft 27 = .ok (.ifCond .lt 15, 3) := by decide +kernel
theorem dX5_doGraft_30 : decode cX5_doGraft 30 = .ok (.aload_n 0, 1) := by decide +kernel
theorem dX5_doGraft_31 : decode cX5_doGraft 31 = .ok (.iconst 2, 1) := by decide +kernel
theorem dX5_doGraft_32 : decode cX5_doGraft 32 = .ok (.iconst 3, 1) := by decide +kernel
theorem dX5_doGraft_33 : decode cX5_doGraft 33 = .ok (.aload_n 0, 1) := by decide +kernel
theorem dX5_doGraft_34 : decode cX5_doGraft 34 = .ok (.iload_n 1, 1) := by decide +kernel
theorem dX5_doGraft_35 : decode cX5_doGraft 35 = .ok (.invokevirtual 68, 3) := by decide +kernel
theorem dX5_doGraft_38 : decode cX5_doGraft 38 = .ok (.invokevirtual 72, 3) := by decide +kernel
theorem dX5_doGraft_41 : decode cX5_doGraft 41 = .ok (.ireturn, 1) := by decide +kernel
theorem dX5_doGraft_42 : decode cX5_doGraft 42 = .ok (.aload_n 0, 1) := by decide +kernel
theorem dX5_doGraft_43 : decode cX5_doGraft 43 = .ok (.iload_n 2, 1) := by decide +kernel
theorem dX5_doGraft_44 : decode cX5_doGraft 44 = .ok (.invokevirtual 102, 3) := by decide +kernel
theorem dX5_doGraft_47 : decode cX5_doGraft 47 = .ok (.iload_n 1, 1) := by decide +kernel
theorem dX5_doGraft_48 : decode cX5_doGraft 48 = .ok (.if_icmp .ne 11, 3) := by decide +kernel
theorem dX5_doGraft_51 : decode cX5_doGraft 51 = .ok (.aload_n 0, 1) := by decide +kernel
theorem dX5_doGraft_52 : decode cX5_doGraft 52 = .ok (.iconst 2, 1) := by decide +kernel
theorem dX5_doGraft_53 : decode cX5_doGraft 53 = .ok (.iconst 4, 1) := by decide +kernel
theorem dX5_doGraft_54 : decode cX5_doGraft 54 = .ok (.iload_n 1, 1) := by decide +kernel
theorem dX5_doGraft_55 : decode cX5_doGraft 55 = .ok (.invokevirtual 72, 3) := by decide +kernel
theorem dX5_doGraft_58 : decode cX5_doGraft 58 = .ok (.ireturn, 1) := by decide +kernel
theorem dX5_doGraft_59 : decode cX5_doGraft 59 = .ok (.aload_n 0, 1) := by decide +kernel
theorem dX5_doGraft_60 : decode cX5_doGraft 60 = .ok (.getfield 9, 3) := by decide +kernel
theorem dX5_doGraft_63 : decode cX5_doGraft 63 = .ok (.iconst 5, 1) := by decide +kernel
theorem dX5_doGraft_64 : decode cX5_doGraft 64 = .ok (.iload_n 1, 1) := by decide +kernel
theorem dX5_doGraft_65 : decode cX5_doGraft 65 = .ok (.iadd, 1) := by decide +kernel
theorem dX5_doGraft_66 : decode cX5_doGraft 66 = .ok (.iload_n 2, 1) := by decide +kernel
theorem dX5_doGraft_67 : decode cX5_doGraft 67 = .ok (.iastore, 1) := by decide +kernel
theorem dX5_doGraft_68 : decode cX5_doGraft 68 = .ok (.aload_n 0, 1) := by decide +kernel
theorem dX5_doGraft_69 : decode cX5_doGraft 69 = .ok (.invokevirtual 105, 3) := by decide +kernel
theorem dX5_doGraft_72 : decode cX5_doGraft 72 = .ok (.istore_n 3, 1) := by decide +kernel
theorem dX5_doGraft_73 : decode cX5_doGraft 73 = .ok (.aload_n 0, 1) := by decide +kernel
theorem dX5_doGraft_74 : decode cX5_doGraft 74 = .ok (.invokevirtual 108, 3) := by decide +kernel
theorem dX5_doGraft_77 : decode cX5_doGraft 77 = .ok (.ireturn, 1) := by decide +kernel
theorem dX5_graft_0 : decode cX5_graft 0 = .ok (.aload_n 0, 1) := by decide +kernel
theorem dX5_graft_1 : decode cX5_graft 1 = .ok (.invokevirtual 79, 3) := by decide +kernel
theorem dX5_graft_4 : decode cX5_graft 4 = .ok (.aload_n 0, 1) := by decide +kernel
theorem dX5_graft_5 : decode cX5_graft 5 = .ok (.aload_n 0, 1) := by decide +kernel
theorem dX5_graft_6 : decode cX5_graft 6 = .ok (.iload_n 1, 1) := by decide +kernel
theorem dX5_graft_7 : decode cX5_graft 7 = .ok (.iload_n 2, 1) := by decide +kernel
theorem dX5_graft_8 : decode cX5_graft 8 = .ok (.invokevirtual 111, 3) := by decide +kernel
theorem dX5_graft_11 : decode cX5_graft 11 = .ok (.invokevirtual 86, 3) := by decide +kernel
theorem dX5_graft_14 : decode cX5_graft 14 = .ok (.ireturn, 1) := by decide +kernel
theorem dX5_doCut_0 : decode cX5_doCut 0 = .ok (.aload_n 0, 1) := by decide +kernel
theorem dX5_doCut_1 : decode cX5_doCut 1 = .ok (.iload_n 1, 1) := by decide +kernel
theorem dX5_doCut_2 : decode cX5_doCut 2 = .ok (.invokevirtual 89, 3) := by decide +kernel
theorem dX5_doCut_5 : decode cX5_doCut 5 = .ok (.ifCond .ne 9, 3) := by decide +kernel
theorem dX5_doCut_8 : decode cX5_doCut 8 = .ok (.aload_n 0, 1) := by decide +kernel
theorem dX5_doCut_9 : decode cX5_doCut 9 = .ok (.iconst 1, 1) := by decide +kernel
theorem dX5_doCut_10 : decode cX5_doCut 10 = .ok (.invokevirtual 93, 3) := by decide +kernel
theorem dX5_doCut_13 : decode cX5_doCut 13 = .ok (.ireturn, 1) := by decide +kernel
theorem dX5_doCut_14 : decode cX5_doCut 14 = .ok (.aload_n 0, 1) := by decide +kernel
theorem dX5_doCut_15 : decode cX5_doCut 15 = .ok (.iload_n 1, 1) := by decide +kernel
theorem dX5_doCut_16 : decode cX5_doCut 16 = .ok (.invokevirtual 68, 3) := by decide +kernel
theorem dX5_doCut_19 : decode cX5_doCut 19 = .ok (.ifCond .ge 11, 3) := by decide +kernel
theorem dX5_doCut_22 : decode cX5_doCut 22 = .ok (.aload_n 0, 1) := by decide +kernel
theorem dX5_doCut_23 : decode cX5_doCut 23 = .ok (.iconst 2, 1) := by decide +kernel
theorem dX5_doCut_24 : decode cX5_doCut 24 = .ok (.iconst 5, 1) := by decide +kernel
theorem dX5_doCut_25 : decode cX5_doCut 25 = .ok (.iload_n 1, 1) := by decide +kernel
theorem dX5_doCut_26 : decode cX5_doCut 26 = .ok (.invokevirtual 72, 3) := by decide +kernel
theorem dX5_doCut_29 : decode cX5_doCut 29 = .ok (.ireturn, 1) := by decide +kernel
theorem dX5_doCut_30 : decode cX5_doCut 30 = .ok (.aload_n 0, 1) := by decide +kernel
theorem dX5_doCut_31 : decode cX5_doCut 31 = .ok (.getfield 9, 3) := by decide +kernel
theorem dX5_doCut_34 : decode cX5_doCut 34 = .ok (.iconst 5, 1) := by decide +kernel
theorem dX5_doCut_35 : decode cX5_doCut 35 = .ok (.iload_n 1, 1) := by decide +kernel
theorem dX5_doCut_36 : decode cX5_doCut 36 = .ok (.iadd, 1) := by decide +kernel
theorem dX5_doCut_37 : decode cX5_doCut 37 = .ok (.iconst (-1), 1) := by decide +kernel
theorem dX5_doCut_38 : decode cX5_doCut 38 = .ok (.iastore, 1) := by decide +kernel
theorem dX5_doCut_39 : decode cX5_doCut 39 = .ok (.aload_n 0, 1) := by decide +kernel
theorem dX5_doCut_40 : decode cX5_doCut 40 = .ok (.invokevirtual 108, 3) := by decide +kernel
theorem dX5_doCut_43 : decode cX5_doCut 43 = .ok (.ireturn, 1) := by decide +kernel
theorem dX5_cut_0 : decode cX5_cut 0 = .ok (.aload_n 0, 1) := by decide +kernel
theorem dX5_cut_1 : decode cX5_cut 1 = .ok (.invokevirtual 79, 3) := by decide +kernel
theorem dX5_cut_4 : decode cX5_cut 4 = .ok (.aload_n 0, 1) := by decide +kernel
theorem dX5_cut_5 : decode cX5_cut 5 = .ok (.aload_n 0, 1) := by decide +kernel
theorem dX5_cut_6 : decode cX5_cut 6 = .ok (.iload_n 1, 1) := by decide +kernel
theorem dX5_cut_7 : decode cX5_cut 7 = .ok (.invokevirtual 115, 3) := by decide +kernel
theorem dX5_cut_10 : decode cX5_cut 10 = .ok (.invokevirtual 86, 3) := by decide +kernel
theorem dX5_cut_13 : decode cX5_cut 13 = .ok (.ireturn, 1) := by decide +kernel
theorem dX5_elderOf_0 : decode cX5_elderOf 0 = .ok (.iload_n 2, 1) := by decide +kernel
theorem dX5_elderOf_1 : decode cX5_elderOf 1 = .ok (.iconst 0, 1) := by decide +kernel
theorem dX5_elderOf_2 : decode cX5_elderOf 2 = .ok (.aload_n 0, 1) := by decide +kernel
theorem dX5_elderOf_3 : decode cX5_elderOf 3 = .ok (.iload_n 1, 1) := by decide +kernel
theorem dX5_elderOf_4 : decode cX5_elderOf 4 = .ok (.invokevirtual 118, 3) := by decide +kernel
theorem dX5_elderOf_7 : decode cX5_elderOf 7 = .ok (.invokestatic 64, 3) := by decide +kernel
theorem dX5_elderOf_10 : decode cX5_elderOf 10 = .ok (.ifCond .ne 6, 3) := by decide +kernel
theorem dX5_elderOf_13 : decode cX5_elderOf 13 = .ok (.bipush (-2), 2) := by decide +kernel
theorem dX5_elderOf_15 : decode cX5_elderOf 15 = .ok (.ireturn, 1) := by decide +kernel
theorem dX5_elderOf_16 : decode cX5_elderOf 16 = .ok (.iload_n 1, 1) := by decide +kernel
theorem dX5_elderOf_17 : decode cX5_elderOf 17 = .ok (.istore_n 3, 1) := by decide +kernel
theorem dX5_elderOf_18 : decode cX5_elderOf 18 = .ok (.iconst 0, 1) := by decide +kernel
theorem dX5_elderOf_19 : decode cX5_elderOf 19 = .ok (.istore 4, 2) := by decide +kernel
theorem dX5_elderOf_21 : decode cX5_elderOf 21 = .ok (.iload 4, 2) := by decide +kernel
theorem dX5_elderOf_23 : decode cX5_elderOf 23 = .ok (.iload_n 2, 1) := by decide +kernel
theorem dX5_elderOf_24 : decode cX5_elderOf 24 = .ok (.if_icmp .ge 15, 3) := by decide +kernel
theorem dX5_elderOf_27 : decode cX5_elderOf 27 = .ok (.aload_n 0, 1) := by decide +kernel
theorem dX5_elderOf_28 : decode cX5_elderOf 28 = .ok (.iload_n 3, 1) := by decide +kernel
theorem dX5_elderOf_29 : decode cX5_elderOf 29 = .ok (.invokevirtual 68, 3) := by decide +kernel
theorem dX5_elderOf_32 : decode cX5_elderOf 32 = .ok (.istore_n 3, 1) := by decide +kernel
theorem dX5_elderOf_33 : decode cX5_elderOf 33 = .ok (.iinc 4 1, 3) := by decide +kernel
theorem dX5_elderOf_36 : decode cX5_elderOf 36 = .ok (.goto (-15), 3) := by decide +kernel
theorem dX5_elderOf_39 : decode cX5_elderOf 39 = .ok (.iload_n 3, 1) := by decide +kernel
theorem dX5_elderOf_40 : decode cX5_elderOf 40 = .ok (.ireturn, 1) := by decide +kernel
theorem dX5_elder_0 : decode cX5_elder 0 = .ok (.aload_n 0, 1) := by decide +kernel
theorem dX5_elder_1 : decode cX5_elder 1 = .ok (.aload_n 0, 1) := by decide +kernel
theorem dX5_elder_2 : decode cX5_elder 2 = .ok (.iload_n 1, 1) := by decide +kernel
theorem dX5_elder_3 : decode cX5_elder 3 = .ok (.invokevirtual 89, 3) := by decide +kernel
theorem dX5_elder_6 : decode cX5_elder 6 = .ok (.ifCond .ne 7, 3) := by decide +kernel
theorem dX5_elder_9 : decode cX5_elder 9 = .ok (.iconst 1, 1) := by decide +kernel
theorem dX5_elder_10 : decode cX5_elder 10 = .ok (.goto 19, 3) := by decide +kernel
theorem dX5_elder_13 : decode cX5_elder 13 = .ok (.aload_n 0, 1) := by decide +kernel
theorem dX5_elder_14 : decode cX5_elder 14 = .ok (.iload_n 1, 1) := by decide +kernel
theorem dX5_elder_15 : decode cX5_elder 15 = .ok (.iload_n 2, 1) := by decide +kernel
theorem dX5_elder_16 : decode cX5_elder 16 = .ok (.invokevirtual 121, 3) := by decide +kernel
theorem dX5_elder_19 : decode cX5_elder 19 = .ok (.bipush (-2), 2) := by decide +kernel
theorem dX5_elder_21 : decode cX5_elder 21 = .ok (.if_icmp .ne 7, 3) := by decide +kernel
theorem dX5_elder_24 : decode cX5_elder 24 = .ok (.iconst 2, 1) := by decide +kernel
theorem dX5_elder_25 : decode cX5_elder 25 = .ok (.goto 4, 3) := by decide +kernel
theorem dX5_elder_28 : decode cX5_elder 28 = .ok (.iconst 0, 1) := by decide +kernel
theorem dX5_elder_29 : decode cX5_elder 29 = .ok (.putfield 42, 3) := by decide +kernel
theorem dX5_elder_32 : decode cX5_elder 32 = .ok (.aload_n 0, 1) := by decide +kernel
theorem dX5_elder_33 : decode cX5_elder 33 = .ok (.getfield 42, 3) := by decide +kernel
theorem dX5_elder_36 : decode cX5_elder 36 = .ok (.ifCond .le 7, 3) := by decide +kernel
theorem dX5_elder_39 : decode cX5_elder 39 = .ok (.iconst 0, 1) := by decide +kernel
theorem dX5_elder_40 : decode cX5_elder 40 = .ok (.goto 9, 3) := by decide +kernel
theorem dX5_elder_43 : decode cX5_elder 43 = .ok (.aload_n 0, 1) := by decide +kernel
theorem dX5_elder_44 : decode cX5_elder 44 = .ok (.iload_n 1, 1) := by decide +kernel
theorem dX5_elder_45 : decode cX5_elder 45 = .ok (.iload_n 2, 1) := by decide +kernel
theorem dX5_elder_46 : decode cX5_elder 46 = .ok (.invokevirtual 121, 3) := by decide +kernel
theorem dX5_elder_49 : decode cX5_elder 49 = .ok (.ireturn, 1) := by decide +kernel
theorem dX5_isAbove_0 : decode cX5_isAbove 0 = .ok (.iload_n 2, 1) := by decide +kernel
theorem dX5_isAbove_1 : decode cX5_isAbove 1 = .ok (.istore_n 3, 1) := by decide +kernel
theorem dX5_isAbove_2 : decode cX5_isAbove 2 = .ok (.iload_n 3, 1) := by decide +kernel
theorem dX5_isAbove_3 : decode cX5_isAbove 3 = .ok (.ifCond .lt 17, 3) := by decide +kernel
theorem dX5_isAbove_6 : decode cX5_isAbove 6 = .ok (.iload_n 3, 1) := by decide +kernel
theorem dX5_isAbove_7 : decode cX5_isAbove 7 = .ok (.iload_n 1, 1) := by decide +kernel
theorem dX5_isAbove_8 : decode cX5_isAbove 8 = .ok (.if_icmp .eq 12, 3) := by decide +kernel
theorem dX5_isAbove_11 : decode cX5_isAbove 11 = .ok (.aload_n 0, 1) := by decide +kernel
theorem dX5_isAbove_12 : decode cX5_isAbove 12 = .ok (.iload_n 3, 1) := by decide +kernel
theorem dX5_isAbove_13 : decode cX5_isAbove 13 = .ok (.invokevirtual 68, 3) := by decide +kernel
theorem dX5_isAbove_16 : decode cX5_isAbove 16 = .ok (.istore_n 3, 1) := by decide +kernel
theorem dX5_isAbove_17 : decode cX5_isAbove 17 = .ok (.goto (-15), 3) := by decide +kernel
theorem dX5_isAbove_20 : decode cX5_isAbove 20 = .ok (.iload_n 3, 1) := by decide +kernel
theorem dX5_isAbove_21 : decode cX5_isAbove 21 = .ok (.iload_n 1, 1) := by decide +kernel
theorem dX5_isAbove_22 : decode cX5_isAbove 22 = .ok (.if_icmp .ne 7, 3) := by decide +kernel
theorem dX5_isAbove_25 : decode cX5_isAbove 25 = .ok (.iconst 1, 1) := by decide +kernel
theorem dX5_isAbove_26 : decode cX5_isAbove 26 = .ok (.goto 4, 3) := by decide +kernel
theorem dX5_isAbove_29 : decode cX5_isAbove 29 = .ok (.iconst 0, 1) := by decide +kernel
theorem dX5_isAbove_30 : decode cX5_isAbove 30 = .ok (.ireturn, 1) := by decide +kernel
theorem dX5_lowestCommon_0 : decode cX5_lowestCommon 0 = .ok (.iload_n 1, 1) := by decide +kernel
theorem dX5_lowestCommon_1 : decode cX5_lowestCommon 1 = .ok (.istore_n 3, 1) := by decide +kernel
theorem dX5_lowestCommon_2 : decode cX5_lowestCommon 2 = .ok (.aload_n 0, 1) := by decide +kernel
theorem dX5_lowestCommon_3 : decode cX5_lowestCommon 3 = .ok (.iload_n 3, 1) := by decide +kernel
theorem dX5_lowestCommon_4 : decode cX5_lowestCommon 4 = .ok (.iload_n 2, 1) := by decide +kernel
theorem dX5_lowestCommon_5 : decode cX5_lowestCommon 5 = .ok (.invokevirtual 124, 3) := by decide +kernel
theorem dX5_lowestCommon_8 : decode cX5_lowestCommon 8 = .ok (.ifCond .ne 12, 3) := by decide +kernel
theorem dX5_lowestCommon_11 : decode cX5_lowestCommon 11 = .ok (.aload_n 0, 1) := by decide +kernel
theorem dX5_lowestCommon_12 : decode cX5_lowestCommon 12 = .ok (.iload_n 3, 1) := by decide +kernel
theorem dX5_lowestCommon_13 : decode cX5_lowestCommon 13 = .ok (.invokevirtual 68, 3) := by decide +kernel
theorem dX5_lowestCommon_16 : decode cX5_lowestCommon 16 = .ok (.istore_n 3, 1) := by decide +kernel
theorem dX5_lowestCommon_17 : decode cX5_lowestCommon 17 = .ok (.goto (-15), 3) := by decide +kernel
theorem dX5_lowestCommon_20 : decode cX5_lowestCommon 20 = .ok (.iload_n 3, 1) := by decide +kernel
theorem dX5_lowestCommon_21 : decode cX5_lowestCommon 21 = .ok (.ireturn, 1) := by decide +kernel
theorem dX5_away_0 : decode cX5_away 0 = .ok (.aload_n 0, 1) := by decide +kernel
theorem dX5_away_1 : decode cX5_away 1 = .ok (.iload_n 1, 1) := by decide +kernel
theorem dX5_away_2 : decode cX5_away 2 = .ok (.invokevirtual 118, 3) := by decide +kernel
theorem dX5_away_5 : decode cX5_away 5 = .ok (.aload_n 0, 1) := by decide +kernel
theorem dX5_away_6 : decode cX5_away 6 = .ok (.iload_n 2, 1) := by decide +kernel
theorem dX5_away_7 : decode cX5_away 7 = .ok (.invokevirtual 118, 3) := by decide +kernel
theorem dX5_away_10 : decode cX5_away 10 = .ok (.iadd, 1) := by decide +kernel
theorem dX5_away_11 : decode cX5_away 11 = .ok (.iconst 2, 1) := by decide +kernel
theorem dX5_away_12 : decode cX5_away 12 = .ok (.aload_n 0, 1) := by decide +kernel
theorem dX5_away_13 : decode cX5_away 13 = .ok (.aload_n 0, 1) := by decide +kernel
theorem dX5_away_14 : decode cX5_away 14 = .ok (.iload_n 1, 1) := by decide +kernel
theorem dX5_away_15 : decode cX5_away 15 = .ok (.iload_n 2, 1) := by decide +kernel
theorem dX5_away_16 : decode cX5_away 16 = .ok (.invokevirtual 128, 3) := by decide +kernel
theorem dX5_away_19 : decode cX5_away 19 = .ok (.invokevirtual 118, 3) := by decide +kernel
theorem dX5_away_22 : decode cX5_away 22 = .ok (.imul, 1) := by decide +kernel
theorem dX5_away_23 : decode cX5_away 23 = .ok (.isub, 1) := by decide +kernel
theorem dX5_away_24 : decode cX5_away 24 = .ok (.ireturn, 1) := by decide +kernel
theorem dX5_areOfOne_0 : decode cX5_areOfOne 0 = .ok (.aload_n 0, 1) := by decide +kernel
theorem dX5_areOfOne_1 : decode cX5_areOfOne 1 = .ok (.iload_n 1, 1) := by decide +kernel
theorem dX5_areOfOne_2 : decode cX5_areOfOne 2 = .ok (.invokevirtual 102, 3) := by decide +kernel
theorem dX5_areOfOne_5 : decode cX5_areOfOne 5 = .ok (.aload_n 0, 1) := by decide +kernel
theorem dX5_areOfOne_6 : decode cX5_areOfOne 6 = .ok (.iload_n 2, 1) := by decide +kernel
theorem dX5_areOfOne_7 : decode cX5_areOfOne 7 = .ok (.invokevirtual 102, 3) := by decide +kernel
theorem dX5_areOfOne_10 : decode cX5_areOfOne 10 = .ok (.if_icmp .ne 7, 3) := by decide +kernel
theorem dX5_areOfOne_13 : decode cX5_areOfOne 13 = .ok (.iconst 1, 1) := by decide +kernel
theorem dX5_areOfOne_14 : decode cX5_areOfOne 14 = .ok (.goto 4, 3) := by decide +kernel
theorem dX5_areOfOne_17 : decode cX5_areOfOne 17 = .ok (.iconst 0, 1) := by decide +kernel
theorem dX5_areOfOne_18 : decode cX5_areOfOne 18 = .ok (.ireturn, 1) := by decide +kernel
theorem dX5_common_0 : decode cX5_common 0 = .ok (.aload_n 0, 1) := by decide +kernel
theorem dX5_common_1 : decode cX5_common 1 = .ok (.aload_n 0, 1) := by decide +kernel
theorem dX5_common_2 : decode cX5_common 2 = .ok (.iload_n 1, 1) := by decide +kernel
theorem dX5_common_3 : decode cX5_common 3 = .ok (.invokevirtual 89, 3) := by decide +kernel
theorem dX5_common_6 : decode cX5_common 6 = .ok (.ifCond .eq 11, 3) := by decide +kernel
theorem dX5_common_9 : decode cX5_common 9 = .ok (.aload_n 0, 1) := by decide +kernel
theorem dX5_common_10 : decode cX5_common 10 = .ok (.iload_n 2, 1) := by decide +kernel
theorem dX5_common_11 : decode cX5_common 11 = .ok (.invokevirtual 89, 3) := by decide +kernel
theorem dX5_common_14 : decode cX5_common 14 = .ok (.ifCond .ne 7, 3) := by decide +kernel
theorem dX5_common_17 : decode cX5_common 17 = .ok (.iconst 1, 1) := by decide +kernel
theorem dX5_common_18 : decode cX5_common 18 = .ok (.goto 17, 3) := by decide +kernel
theorem dX5_common_21 : decode cX5_common 21 = .ok (.aload_n 0, 1) := by decide +kernel
theorem dX5_common_22 : decode cX5_common 22 = .ok (.iload_n 1, 1) := by decide +kernel
theorem dX5_common_23 : decode cX5_common 23 = .ok (.iload_n 2, 1) := by decide +kernel
theorem dX5_common_24 : decode cX5_common 24 = .ok (.invokevirtual 131, 3) := by decide +kernel
theorem dX5_common_27 : decode cX5_common 27 = .ok (.ifCond .ne 7, 3) := by decide +kernel
theorem dX5_common_30 : decode cX5_common 30 = .ok (.iconst 2, 1) := by decide +kernel
theorem dX5_common_31 : decode cX5_common 31 = .ok (.goto 4, 3) := by decide +kernel
theorem dX5_common_34 : decode cX5_common 34 = .ok (.iconst 0, 1) := by decide +kernel
theorem dX5_common_35 : decode cX5_common 35 = .ok (.putfield 42, 3) := by decide +kernel
theorem dX5_common_38 : decode cX5_common 38 = .ok (.aload_n 0, 1) := by decide +kernel
theorem dX5_common_39 : decode cX5_common 39 = .ok (.getfield 42, 3) := by decide +kernel
theorem dX5_common_42 : decode cX5_common 42 = .ok (.ifCond .le 7, 3) := by decide +kernel
theorem dX5_common_45 : decode cX5_common 45 = .ok (.iconst 0, 1) := by decide +kernel
theorem dX5_common_46 : decode cX5_common 46 = .ok (.goto 9, 3) := by decide +kernel
theorem dX5_common_49 : decode cX5_common 49 = .ok (.aload_n 0, 1) := by decide +kernel
theorem dX5_common_50 : decode cX5_common 50 = .ok (.iload_n 1, 1) := by decide +kernel
theorem dX5_common_51 : decode cX5_common 51 = .ok (.iload_n 2, 1) := by decide +kernel
theorem dX5_common_52 : decode cX5_common 52 = .ok (.invokevirtual 128, 3) := by decide +kernel
theorem dX5_common_55 : decode cX5_common 55 = .ok (.ireturn, 1) := by decide +kernel
theorem dX5_degree_0 : decode cX5_degree 0 = .ok (.aload_n 0, 1) := by decide +kernel
theorem dX5_degree_1 : decode cX5_degree 1 = .ok (.aload_n 0, 1) := by decide +kernel
theorem dX5_degree_2 : decode cX5_degree 2 = .ok (.iload_n 1, 1) := by decide +kernel
theorem dX5_degree_3 : decode cX5_degree 3 = .ok (.invokevirtual 89, 3) := by decide +kernel
theorem dX5_degree_6 : decode cX5_degree 6 = .ok (.ifCond .eq 11, 3) := by decide +kernel
theorem dX5_degree_9 : decode cX5_degree 9 = .ok (.aload_n 0, 1) := by decide +kernel
theorem dX5_degree_10 : decode cX5_degree 10 = .ok (.iload_n 2, 1) := by decide +kernel
theorem dX5_degree_11 : decode cX5_degree 11 = .ok (.invokevirtual 89, 3) := by decide +kernel
theorem dX5_degree_14 : decode cX5_degree 14 = .ok (.ifCond .ne 7, 3) := by decide +kernel
theorem dX5_degree_17 : decode cX5_degree 17 = .ok (.iconst 1, 1) := by decide +kernel
theorem dX5_degree_18 : decode cX5_degree 18 = .ok (.goto 17, 3) := by decide +kernel
theorem dX5_degree_21 : decode cX5_degree 21 = .ok (.aload_n 0, 1) := by decide +kernel
theorem dX5_degree_22 : decode cX5_degree 22 = .ok (.iload_n 1, 1) := by decide +kernel
theorem dX5_degree_23 : decode cX5_degree 23 = .ok (.iload_n 2, 1) := by decide +kernel
theorem dX5_degree_24 : decode cX5_degree 24 = .ok (.invokevirtual 131, 3) := by decide +kernel
theorem dX5_degree_27 : decode cX5_degree 27 = .ok (.ifCond .ne 7, 3) := by decide +kernel
theorem dX5_degree_30 : decode cX5_degree 30 = .ok (.iconst 2, 1) := by decide +kernel
theorem dX5_degree_31 : decode cX5_degree 31 = .ok (.goto 4, 3) := by decide +kernel
theorem dX5_degree_34 : decode cX5_degree 34 = .ok (.iconst 0, 1) := by decide +kernel
theorem dX5_degree_35 : decode cX5_degree 35 = .ok (.putfield 42, 3) := by decide +kernel
theorem dX5_degree_38 : decode cX5_degree 38 = .ok (.aload_n 0, 1) := by decide +kernel
theorem dX5_degree_39 : decode cX5_degree 39 = .ok (.getfield 42, 3) := by decide +kernel
theorem dX5_degree_42 : decode cX5_degree 42 = .ok (.ifCond .le 7, 3) := by decide +kernel
theorem dX5_degree_45 : decode cX5_degree 45 = .ok (.iconst 0, 1) := by decide +kernel
theorem dX5_degree_46 : decode cX5_degree 46 = .ok (.goto 9, 3) := by decide +kernel
theorem dX5_degree_49 : decode cX5_degree 49 = .ok (.aload_n 0, 1) := by decide +kernel
theorem dX5_degree_50 : decode cX5_degree 50 = .ok (.iload_n 1, 1) := by decide +kernel
theorem dX5_degree_51 : decode cX5_degree 51 = .ok (.iload_n 2, 1) := by decide +kernel
theorem dX5_degree_52 : decode cX5_degree 52 = .ok (.invokevirtual 134, 3) := by decide +kernel
theorem dX5_degree_55 : decode cX5_degree 55 = .ok (.ireturn, 1) := by decide +kernel
theorem dX5_leaps_0 : decode cX5_leaps 0 = .ok (.aload_n 0, 1) := by decide +kernel
theorem dX5_leaps_1 : decode cX5_leaps 1 = .ok (.aload_n 0, 1) := by decide +kernel
theorem dX5_leaps_2 : decode cX5_leaps 2 = .ok (.iload_n 1, 1) := by decide +kernel
theorem dX5_leaps_3 : decode cX5_leaps 3 = .ok (.invokevirtual 89, 3) := by decide +kernel
theorem dX5_leaps_6 : decode cX5_leaps 6 = .ok (.ifCond .ne 7, 3) := by decide +kernel
theorem dX5_leaps_9 : decode cX5_leaps 9 = .ok (.iconst 1, 1) := by decide +kernel
theorem dX5_leaps_10 : decode cX5_leaps 10 = .ok (.goto 19, 3) := by decide +kernel
theorem dX5_leaps_13 : decode cX5_leaps 13 = .ok (.aload_n 0, 1) := by decide +kernel
theorem dX5_leaps_14 : decode cX5_leaps 14 = .ok (.iload_n 1, 1) := by decide +kernel
theorem dX5_leaps_15 : decode cX5_leaps 15 = .ok (.iload_n 2, 1) := by decide +kernel
theorem dX5_leaps_16 : decode cX5_leaps 16 = .ok (.invokevirtual 121, 3) := by decide +kernel
theorem dX5_leaps_19 : decode cX5_leaps 19 = .ok (.bipush (-2), 2) := by decide +kernel
theorem dX5_leaps_21 : decode cX5_leaps 21 = .ok (.if_icmp .ne 7, 3) := by decide +kernel
theorem dX5_leaps_24 : decode cX5_leaps 24 = .ok (.iconst 2, 1) := by decide +kernel
theorem dX5_leaps_25 : decode cX5_leaps 25 = .ok (.goto 4, 3) := by decide +kernel
theorem dX5_leaps_28 : decode cX5_leaps 28 = .ok (.iconst 0, 1) := by decide +kernel
theorem dX5_leaps_29 : decode cX5_leaps 29 = .ok (.putfield 42, 3) := by decide +kernel
theorem dX5_leaps_32 : decode cX5_leaps 32 = .ok (.iconst 0, 1) := by decide +kernel
theorem dX5_leaps_33 : decode cX5_leaps 33 = .ok (.istore_n 3, 1) := by decide +kernel
theorem dX5_leaps_34 : decode cX5_leaps 34 = .ok (.iload_n 2, 1) := by decide +kernel
theorem dX5_leaps_35 : decode cX5_leaps 35 = .ok (.istore 4, 2) := by decide +kernel
theorem dX5_leaps_37 : decode cX5_leaps 37 = .ok (.iload 4, 2) := by decide +kernel
theorem dX5_leaps_39 : decode cX5_leaps 39 = .ok (.ifCond .le 26, 3) := by decide +kernel
theorem dX5_leaps_42 : decode cX5_leaps 42 = .ok (.aload_n 0, 1) := by decide +kernel
theorem dX5_leaps_43 : decode cX5_leaps 43 = .ok (.getfield 42, 3) := by decide +kernel
theorem dX5_leaps_46 : decode cX5_leaps 46 = .ok (.ifCond .ne 19, 3) := by decide +kernel
theorem dX5_leaps_49 : decode cX5_leaps 49 = .ok (.iload_n 3, 1) := by decide +kernel
theorem dX5_leaps_50 : decode cX5_leaps 50 = .ok (.iload 4, 2) := by decide +kernel
theorem dX5_leaps_52 : decode cX5_leaps 52 = .ok (.iconst 2, 1) := by decide +kernel
theorem dX5_leaps_53 : decode cX5_leaps 53 = .ok (.irem, 1) := by decide +kernel
theorem dX5_leaps_54 : decode cX5_leaps 54 = .ok (.iadd, 1) := by decide +kernel
theorem dX5_leaps_55 : decode cX5_leaps 55 = .ok (.istore_n 3, 1) := by decide +kernel
theorem dX5_leaps_56 : decode cX5_leaps 56 = .ok (.iload 4, 2) := by decide +kernel
theorem dX5_leaps_58 : decode cX5_leaps 58 = .ok (.iconst 2, 1) := by decide +kernel
theorem dX5_leaps_59 : decode cX5_leaps 59 = .ok (.idiv, 1) := by decide +kernel
theorem dX5_leaps_60 : decode cX5_leaps 60 = .ok (.istore 4, 2) := by decide +kernel
theorem dX5_leaps_62 : decode cX5_leaps 62 = .ok (.goto (-25), 3) := by decide +kernel
theorem dX5_leaps_65 : decode cX5_leaps 65 = .ok (.iload_n 3, 1) := by decide +kernel
theorem dX5_leaps_66 : decode cX5_leaps 66 = .ok (.ireturn, 1) := by decide +kernel
theorem dX5_farthest_0 : decode cX5_farthest 0 = .ok (.aload_n 0, 1) := by decide +kernel
theorem dX5_farthest_1 : decode cX5_farthest 1 = .ok (.aload_n 0, 1) := by decide +kernel
theorem dX5_farthest_2 : decode cX5_farthest 2 = .ok (.iload_n 1, 1) := by decide +kernel
theorem dX5_farthest_3 : decode cX5_farthest 3 = .ok (.invokevirtual 89, 3) := by decide +kernel
theorem dX5_farthest_6 : decode cX5_farthest 6 = .ok (.ifCond .eq 7, 3) := by decide +kernel
theorem dX5_farthest_9 : decode cX5_farthest 9 = .ok (.iconst 0, 1) := by decide +kernel
theorem dX5_farthest_10 : decode cX5_farthest 10 = .ok (.goto 4, 3) := by decide +kernel
theorem dX5_farthest_13 : decode cX5_farthest 13 = .ok (.iconst 1, 1) := by decide +kernel
theorem dX5_farthest_14 : decode cX5_farthest 14 = .ok (.putfield 42, 3) := by decide +kernel
theorem dX5_farthest_17 : decode cX5_farthest 17 = .ok (.iload_n 1, 1) := by decide +kernel
theorem dX5_farthest_18 : decode cX5_farthest 18 = .ok (.istore_n 2, 1) := by decide +kernel
theorem dX5_farthest_19 : decode cX5_farthest 19 = .ok (.aload_n 0, 1) := by decide +kernel
theorem dX5_farthest_20 : decode cX5_farthest 20 = .ok (.getfield 9, 3) := by decide +kernel
theorem dX5_farthest_23 : decode cX5_farthest 23 = .ok (.iconst 0, 1) := by decide +kernel
theorem dX5_farthest_24 : decode cX5_farthest 24 = .ok (.iaload, 1) := by decide +kernel
theorem dX5_farthest_25 : decode cX5_farthest 25 = .ok (.iconst 1, 1) := by decide +kernel
theorem dX5_farthest_26 : decode cX5_farthest 26 = .ok (.isub, 1) := by decide +kernel
theorem dX5_farthest_27 : decode cX5_farthest 27 = .ok (.istore_n 3, 1) := by decide +kernel
theorem dX5_farthest_28 : decode cX5_farthest 28 = .ok (.iload_n 3, 1) := by decide +kernel
theorem dX5_farthest_29 : decode cX5_farthest 29 = .ok (.ifCond .lt 67, 3) := by decide +kernel
theorem dX5_farthest_32 : decode cX5_farthest 32 = .ok (.aload_n 0, 1) := by decide +kernel
theorem dX5_farthest_33 : decode cX5_farthest 33 = .ok (.getfield 42, 3) := by decide +kernel
theorem dX5_farthest_36 : decode cX5_farthest 36 = .ok (.ifCond .ne 60, 3) := by decide +kernel
theorem dX5_farthest_39 : decode cX5_farthest 39 = .ok (.aload_n 0, 1) := by decide +kernel
theorem dX5_farthest_40 : decode cX5_farthest 40 = .ok (.iload_n 1, 1) := by decide +kernel
theorem dX5_farthest_41 : decode cX5_farthest 41 = .ok (.iload_n 3, 1) := by decide +kernel
theorem dX5_farthest_42 : decode cX5_farthest 42 = .ok (.invokevirtual 131, 3) := by decide +kernel
theorem dX5_farthest_45 : decode cX5_farthest 45 = .ok (.ifCond .eq 16, 3) := by decide +kernel
theorem dX5_farthest_48 : decode cX5_farthest 48 = .ok (.aload_n 0, 1) := by decide +kernel
theorem dX5_farthest_49 : decode cX5_farthest 49 = .ok (.iload_n 1, 1) := by decide +kernel
theorem dX5_farthest_50 : decode cX5_farthest 50 = .ok (.iload_n 3, 1) := by decide +kernel
theorem dX5_farthest_51 : decode cX5_farthest 51 = .ok (.invokevirtual 134, 3) := by decide +kernel
theorem dX5_farthest_54 : decode cX5_farthest 54 = .ok (.ifCond .le 7, 3) := by decide +kernel
theorem dX5_farthest_57 : decode cX5_farthest 57 = .ok (.iconst 1, 1) := by decide +kernel
theorem dX5_farthest_58 : decode cX5_farthest 58 = .ok (.goto 4, 3) := by decide +kernel
theorem dX5_farthest_61 : decode cX5_farthest 61 = .ok (.iconst 0, 1) := by decide +kernel
theorem dX5_farthest_62 : decode cX5_farthest 62 = .ok (.istore 4, 2) := by decide +kernel
theorem dX5_farthest_64 : decode cX5_farthest 64 = .ok (.iload 4, 2) := by decide +kernel
theorem dX5_farthest_66 : decode cX5_farthest 66 = .ok (.ifCond .eq 22, 3) := by decide +kernel
theorem dX5_farthest_69 : decode cX5_farthest 69 = .ok (.aload_n 0, 1) := by decide +kernel
theorem dX5_farthest_70 : decode cX5_farthest 70 = .ok (.iload_n 1, 1) := by decide +kernel
theorem dX5_farthest_71 : decode cX5_farthest 71 = .ok (.iload_n 3, 1) := by decide +kernel
theorem dX5_farthest_72 : decode cX5_farthest 72 = .ok (.invokevirtual 134, 3) := by decide +kernel
theorem dX5_farthest_75 : decode cX5_farthest 75 = .ok (.aload_n 0, 1) := by decide +kernel
theorem dX5_farthest_76 : decode cX5_farthest 76 = .ok (.iload_n 1, 1) := by decide +kernel
theorem dX5_farthest_77 : decode cX5_farthest 77 = .ok (.iload_n 2, 1) := by decide +kernel
theorem dX5_farthest_78 : decode cX5_farthest 78 = .ok (.invokevirtual 134, 3) := by decide +kernel
theorem dX5_farthest_81 : decode cX5_farthest 81 = .ok (.if_icmp .lt 7, 3) := by decide +kernel
theorem dX5_farthest_84 : decode cX5_farthest 84 = .ok (.iload_n 3, 1) := by decide +kernel
theorem dX5_farthest_85 : decode cX5_farthest 85 = .ok (.goto 4, 3) := by decide +kernel
theorem dX5_farthest_88 : decode cX5_farthest 88 = .ok (.iload_n 2, 1) := by decide +kernel
theorem dX5_farthest_89 : decode cX5_farthest 89 = .ok (.istore_n 2, 1) := by decide +kernel
theorem dX5_farthest_90 : decode cX5_farthest 90 = .ok (.iinc 3 (-1), 3) := by decide +kernel
theorem dX5_farthest_93 : decode cX5_farthest 93 = .ok (.goto (-65), 3) := by decide +kernel
theorem dX5_farthest_96 : decode cX5_farthest 96 = .ok (.aload_n 0, 1) := by decide +kernel
theorem dX5_farthest_97 : decode cX5_farthest 97 = .ok (.getfield 42, 3) := by decide +kernel
theorem dX5_farthest_100 : decode cX5_farthest 100 = .ok (.ifCond .le 7, 3) := by decide +kernel
theorem dX5_farthest_103 : decode cX5_farthest 103 = .ok (.iconst 0, 1) := by decide +kernel
theorem dX5_farthest_104 : decode cX5_farthest 104 = .ok (.goto 4, 3) := by decide +kernel
theorem dX5_farthest_107 : decode cX5_farthest 107 = .ok (.iload_n 2, 1) := by decide +kernel
theorem dX5_farthest_108 : decode cX5_farthest 108 = .ok (.ireturn, 1) := by decide +kernel
theorem dX5_adds_0 : decode cX5_adds 0 = .ok (.iconst 0, 1) := by decide +kernel
theorem dX5_adds_1 : decode cX5_adds 1 = .ok (.istore_n 2, 1) := by decide +kernel
theorem dX5_adds_2 : decode cX5_adds 2 = .ok (.iload_n 2, 1) := by decide +kernel
theorem dX5_adds_3 : decode cX5_adds 3 = .ok (.aload_n 0, 1) := by decide +kernel
theorem dX5_adds_4 : decode cX5_adds 4 = .ok (.getfield 9, 3) := by decide +kernel
theorem dX5_adds_7 : decode cX5_adds 7 = .ok (.iconst 0, 1) := by decide +kernel
theorem dX5_adds_8 : decode cX5_adds 8 = .ok (.iaload, 1) := by decide +kernel
theorem dX5_adds_9 : decode cX5_adds 9 = .ok (.if_icmp .ge 43, 3) := by decide +kernel
theorem dX5_adds_12 : decode cX5_adds 12 = .ok (.aload_n 0, 1) := by decide +kernel
theorem dX5_adds_13 : decode cX5_adds 13 = .ok (.iload_n 2, 1) := by decide +kernel
theorem dX5_adds_14 : decode cX5_adds 14 = .ok (.invokevirtual 68, 3) := by decide +kernel
theorem dX5_adds_17 : decode cX5_adds 17 = .ok (.iload_n 1, 1) := by decide +kernel
theorem dX5_adds_18 : decode cX5_adds 18 = .ok (.if_icmp .ne 28, 3) := by decide +kernel
theorem dX5_adds_21 : decode cX5_adds 21 = .ok (.aload_n 0, 1) := by decide +kernel
theorem dX5_adds_22 : decode cX5_adds 22 = .ok (.getfield 22, 3) := by decide +kernel
theorem dX5_adds_25 : decode cX5_adds 25 = .ok (.aload_n 0, 1) := by decide +kernel
theorem dX5_adds_26 : decode cX5_adds 26 = .ok (.getfield 137, 3) := by decide +kernel
theorem dX5_adds_29 : decode cX5_adds 29 = .ok (.iload_n 2, 1) := by decide +kernel
theorem dX5_adds_30 : decode cX5_adds 30 = .ok (.iastore, 1) := by decide +kernel
theorem dX5_adds_31 : decode cX5_adds 31 = .ok (.aload_n 0, 1) := by decide +kernel
theorem dX5_adds_32 : decode cX5_adds 32 = .ok (.dup, 1) := by decide +kernel
theorem dX5_adds_33 : decode cX5_adds 33 = .ok (.getfield 137, 3) := by decide +kernel
theorem dX5_adds_36 : decode cX5_adds 36 = .ok (.iconst 1, 1) := by decide +kernel
theorem dX5_adds_37 : decode cX5_adds 37 = .ok (.iadd, 1) := by decide +kernel
theorem dX5_adds_38 : decode cX5_adds 38 = .ok (.putfield 137, 3) := by decide +kernel
theorem dX5_adds_41 : decode cX5_adds 41 = .ok (.aload_n 0, 1) := by decide +kernel
theorem dX5_adds_42 : decode cX5_adds 42 = .ok (.iload_n 2, 1) := by decide +kernel
theorem dX5_adds_43 : decode cX5_adds 43 = .ok (.invokevirtual 140, 3) := by decide +kernel
theorem dX5_adds_46 : decode cX5_adds 46 = .ok (.iinc 2 1, 3) := by decide +kernel
theorem dX5_adds_49 : decode cX5_adds 49 = .ok (.goto (-47), 3) := by decide +kernel
theorem dX5_adds_52 : decode cX5_adds 52 = .ok (.return_, 1) := by decide +kernel
theorem dX5_rows_0 : decode cX5_rows 0 = .ok (.aload_n 0, 1) := by decide +kernel
theorem dX5_rows_1 : decode cX5_rows 1 = .ok (.iconst 0, 1) := by decide +kernel
theorem dX5_rows_2 : decode cX5_rows 2 = .ok (.putfield 137, 3) := by decide +kernel
theorem dX5_rows_5 : decode cX5_rows 5 = .ok (.aload_n 0, 1) := by decide +kernel
theorem dX5_rows_6 : decode cX5_rows 6 = .ok (.iload_n 1, 1) := by decide +kernel
theorem dX5_rows_7 : decode cX5_rows 7 = .ok (.invokevirtual 140, 3) := by decide +kernel
theorem dX5_rows_10 : decode cX5_rows 10 = .ok (.return_, 1) := by decide +kernel
theorem dX5_descendant_0 : decode cX5_descendant 0 = .ok (.aload_n 0, 1) := by decide +kernel
theorem dX5_descendant_1 : decode cX5_descendant 1 = .ok (.aload_n 0, 1) := by decide +kernel
theorem dX5_descendant_2 : decode cX5_descendant 2 = .ok (.iload_n 1, 1) := by decide +kernel
theorem dX5_descendant_3 : decode cX5_descendant 3 = .ok (.invokevirtual 89, 3) := by decide +kernel
theorem dX5_descendant_6 : decode cX5_descendant 6 = .ok (.ifCond .eq 7, 3) := by decide +kernel
theorem dX5_descendant_9 : decode cX5_descendant 9 = .ok (.iconst 0, 1) := by decide +kernel
theorem dX5_descendant_10 : decode cX5_descendant 10 = .ok (.goto 4, 3) := by decide +kernel
theorem dX5_descendant_13 : decode cX5_descendant 13 = .ok (.iconst 1, 1) := by decide +kernel
theorem dX5_descendant_14 : decode cX5_descendant 14 = .ok (.putfield 42, 3) := by decide +kernel
theorem dX5_descendant_17 : decode cX5_descendant 17 = .ok (.aload_n 0, 1) := by decide +kernel
theorem dX5_descendant_18 : decode cX5_descendant 18 = .ok (.getfield 42, 3) := by decide +kernel
theorem dX5_descendant_21 : decode cX5_descendant 21 = .ok (.ifCond .ne 31, 3) := by decide +kernel
theorem dX5_descendant_24 : decode cX5_descendant 24 = .ok (.aload_n 0, 1) := by decide +kernel
theorem dX5_descendant_25 : decode cX5_descendant 25 = .ok (.iload_n 1, 1) := by decide +kernel
theorem dX5_descendant_26 : decode cX5_descendant 26 = .ok (.invokevirtual 144, 3) := by decide +kernel
theorem dX5_descendant_29 : decode cX5_descendant 29 = .ok (.aload_n 0, 1) := by decide +kernel
theorem dX5_descendant_30 : decode cX5_descendant 30 = .ok (.iload_n 2, 1) := by decide +kernel
theorem dX5_descendant_31 : decode cX5_descendant 31 = .ok (.iconst 0, 1) := by decide +kernel
theorem dX5_descendant_32 : decode cX5_descendant 32 = .ok (.aload_n 0, 1) := by decide +kernel
theorem dX5_descendant_33 : decode cX5_descendant 33 = .ok (.getfield 137, 3) := by decide +kernel
theorem dX5_descendant_36 : decode cX5_descendant 36 = .ok (.iconst 1, 1) := by decide +kernel
theorem dX5_descendant_37 : decode cX5_descendant 37 = .ok (.isub, 1) := by decide +kernel
theorem dX5_descendant_38 : decode cX5_descendant 38 = .ok (.invokestatic 64, 3) := by decide +kernel
theorem dX5_descendant_41 : decode cX5_descendant 41 = .ok (.ifCond .eq 7, 3) := by decide +kernel
theorem dX5_descendant_44 : decode cX5_descendant 44 = .ok (.iconst 0, 1) := by decide +kernel
theorem dX5_descendant_45 : decode cX5_descendant 45 = .ok (.goto 4, 3) := by decide +kernel
theorem dX5_descendant_48 : decode cX5_descendant 48 = .ok (.iconst 2, 1) := by decide +kernel
theorem dX5_descendant_49 : decode cX5_descendant 49 = .ok (.putfield 42, 3) := by decide +kernel
theorem dX5_descendant_52 : decode cX5_descendant 52 = .ok (.aload_n 0, 1) := by decide +kernel
theorem dX5_descendant_53 : decode cX5_descendant 53 = .ok (.getfield 42, 3) := by decide +kernel
theorem dX5_descendant_56 : decode cX5_descendant 56 = .ok (.ifCond .le 7, 3) := by decide +kernel
theorem dX5_descendant_59 : decode cX5_descendant 59 = .ok (.iconst 0, 1) := by decide +kernel
theorem dX5_descendant_60 : decode cX5_descendant 60 = .ok (.goto 9, 3) := by decide +kernel
theorem dX5_descendant_63 : decode cX5_descendant 63 = .ok (.aload_n 0, 1) := by decide +kernel
theorem dX5_descendant_64 : decode cX5_descendant 64 = .ok (.getfield 22, 3) := by decide +kernel
theorem dX5_descendant_67 : decode cX5_descendant 67 = .ok (.iload_n 2, 1) := by decide +kernel
theorem dX5_descendant_68 : decode cX5_descendant 68 = .ok (.iaload, 1) := by decide +kernel
theorem dX5_descendant_69 : decode cX5_descendant 69 = .ok (.ireturn, 1) := by decide +kernel
theorem dX5_tellsHouses_0 : decode cX5_tellsHouses 0 = .ok (.iconst 0, 1) := by decide +kernel
theorem dX5_tellsHouses_1 : decode cX5_tellsHouses 1 = .ok (.istore_n 1, 1) := by decide +kernel
theorem dX5_tellsHouses_2 : decode cX5_tellsHouses 2 = .ok (.iload_n 1, 1) := by decide +kernel
theorem dX5_tellsHouses_3 : decode cX5_tellsHouses 3 = .ok (.aload_n 0, 1) := by decide +kernel
theorem dX5_tellsHouses_4 : decode cX5_tellsHouses 4 = .ok (.getfield 9, 3) := by decide +kernel
theorem dX5_tellsHouses_7 : decode cX5_tellsHouses 7 = .ok (.iconst 0, 1) := by decide +kernel
theorem dX5_tellsHouses_8 : decode cX5_tellsHouses 8 = .ok (.iaload, 1) := by decide +kernel
theorem dX5_tellsHouses_9 : decode cX5_tellsHouses 9 = .ok (.if_icmp .ge 16, 3) := by decide +kernel
theorem dX5_tellsHouses_12 : decode cX5_tellsHouses 12 = .ok (.aload_n 0, 1) := by decide +kernel
theorem dX5_tellsHouses_13 : decode cX5_tellsHouses 13 = .ok (.getfield 25, 3) := by decide +kernel
theorem dX5_tellsHouses_16 : decode cX5_tellsHouses 16 = .ok (.iload_n 1, 1) := by decide +kernel
theorem dX5_tellsHouses_17 : decode cX5_tellsHouses 17 = .ok (.iload_n 1, 1) := by decide +kernel
theorem dX5_tellsHouses_18 : decode cX5_tellsHouses 18 = .ok (.iastore, 1) := by decide +kernel
theorem dX5_tellsHouses_19 : decode cX5_tellsHouses 19 = .ok (.iinc 1 1, 3) := by decide +kernel
theorem dX5_tellsHouses_22 : decode cX5_tellsHouses 22 = .ok (.goto (-20), 3) := by decide +kernel
theorem dX5_tellsHouses_25 : decode cX5_tellsHouses 25 = .ok (.iconst 1, 1) := by decide +kernel
theorem dX5_tellsHouses_26 : decode cX5_tellsHouses 26 = .ok (.istore_n 1, 1) := by decide +kernel
theorem dX5_tellsHouses_27 : decode cX5_tellsHouses 27 = .ok (.iload_n 1, 1) := by decide +kernel
theorem dX5_tellsHouses_28 : decode cX5_tellsHouses 28 = .ok (.ifCond .eq 76, 3) := by decide +kernel
theorem dX5_tellsHouses_31 : decode cX5_tellsHouses 31 = .ok (.iconst 0, 1) := by decide +kernel
theorem dX5_tellsHouses_32 : decode cX5_tellsHouses 32 = .ok (.istore_n 1, 1) := by decide +kernel
theorem dX5_tellsHouses_33 : decode cX5_tellsHouses 33 = .ok (.iconst 0, 1) := by decide +kernel
theorem dX5_tellsHouses_34 : decode cX5_tellsHouses 34 = .ok (.istore_n 2, 1) := by decide +kernel
theorem dX5_tellsHouses_35 : decode cX5_tellsHouses 35 = .ok (.iload_n 2, 1) := by decide +kernel
theorem dX5_tellsHouses_36 : decode cX5_tellsHouses 36 = .ok (.aload_n 0, 1) := by decide +kernel
theorem dX5_tellsHouses_37 : decode cX5_tellsHouses 37 = .ok (.getfield 9, 3) := by decide +kernel
theorem dX5_tellsHouses_40 : decode cX5_tellsHouses 40 = .ok (.iconst 0, 1) := by decide +kernel
theorem dX5_tellsHouses_41 : decode cX5_tellsHouses 41 = .ok (.iaload, 1) := by decide +kernel
theorem dX5_tellsHouses_42 : decode cX5_tellsHouses 42 = .ok (.if_icmp .ge 59, 3) := by decide +kernel
theorem dX5_tellsHouses_45 : decode cX5_tellsHouses 45 = .ok (.aload_n 0, 1) := by decide +kernel
theorem dX5_tellsHouses_46 : decode cX5_tellsHouses 46 = .ok (.iload_n 2, 1) := by decide +kernel
theorem dX5_tellsHouses_47 : decode cX5_tellsHouses 47 = .ok (.aload_n 0, 1) := by decide +kernel
theorem dX5_tellsHouses_48 : decode cX5_tellsHouses 48 = .ok (.iload_n 2, 1) := by decide +kernel
theorem dX5_tellsHouses_49 : decode cX5_tellsHouses 49 = .ok (.invokevirtual 68, 3) := by decide +kernel
theorem dX5_tellsHouses_52 : decode cX5_tellsHouses 52 = .ok (.invokevirtual 147, 3) := by decide +kernel
theorem dX5_tellsHouses_55 : decode cX5_tellsHouses 55 = .ok (.ifCond .ne 7, 3) := by decide +kernel
theorem dX5_tellsHouses_58 : decode cX5_tellsHouses 58 = .ok (.iload_n 1, 1) := by decide +kernel
theorem dX5_tellsHouses_59 : decode cX5_tellsHouses 59 = .ok (.ifCond .eq 7, 3) := by decide +kernel
theorem dX5_tellsHouses_62 : decode cX5_tellsHouses 62 = .ok (.iconst 1, 1) := by decide +kernel
theorem dX5_tellsHouses_63 : decode cX5_tellsHouses 63 = .ok (.goto 4, 3) := by decide +kernel
theorem dX5_tellsHouses_66 : decode cX5_tellsHouses 66 = .ok (.iconst 0, 1) := by decide +kernel
theorem dX5_tellsHouses_67 : decode cX5_tellsHouses 67 = .ok (.istore_n 1, 1) := by decide +kernel
theorem dX5_tellsHouses_68 : decode cX5_tellsHouses 68 = .ok (.aload_n 0, 1) := by decide +kernel
theorem dX5_tellsHouses_69 : decode cX5_tellsHouses 69 = .ok (.iload_n 2, 1) := by decide +kernel
theorem dX5_tellsHouses_70 : decode cX5_tellsHouses 70 = .ok (.aload_n 0, 1) := by decide +kernel
theorem dX5_tellsHouses_71 : decode cX5_tellsHouses 71 = .ok (.getfield 9, 3) := by decide +kernel
theorem dX5_tellsHouses_74 : decode cX5_tellsHouses 74 = .ok (.bipush 29, 2) := by decide +kernel
theorem dX5_tellsHouses_76 : decode cX5_tellsHouses 76 = .ok (.iload_n 2, 1) := by decide +kernel
theorem dX5_tellsHouses_77 : decode cX5_tellsHouses 77 = .ok (.iadd, 1) := by decide +kernel
theorem dX5_tellsHouses_78 : decode cX5_tellsHouses 78 = .ok (.iaload, 1) := by decide +kernel
theorem dX5_tellsHouses_79 : decode cX5_tellsHouses 79 = .ok (.invokevirtual 147, 3) := by decide +kernel
theorem dX5_tellsHouses_82 : decode cX5_tellsHouses 82 = .ok (.ifCond .ne 7, 3) := by decide +kernel
theorem dX5_tellsHouses_85 : decode cX5_tellsHouses 85 = .ok (.iload_n 1, 1) := by decide +kernel
theorem dX5_tellsHouses_86 : decode cX5_tellsHouses 86 = .ok (.ifCond .eq 7, 3) := by decide +kernel
theorem dX5_tellsHouses_89 : decode cX5_tellsHouses 89 = .ok (.iconst 1, 1) := by decide +kernel
theorem dX5_tellsHouses_90 : decode cX5_tellsHouses 90 = .ok (.goto 4, 3) := by decide +kernel
theorem dX5_tellsHouses_93 : decode cX5_tellsHouses 93 = .ok (.iconst 0, 1) := by decide +kernel
theorem dX5_tellsHouses_94 : decode cX5_tellsHouses 94 = .ok (.istore_n 1, 1) := by decide +kernel
theorem dX5_tellsHouses_95 : decode cX5_tellsHouses 95 = .ok (.iinc 2 1, 3) := by decide +kernel
theorem dX5_tellsHouses_98 : decode cX5_tellsHouses 98 = .ok (.goto (-63), 3) := by decide +kernel
theorem dX5_tellsHouses_101 : decode cX5_tellsHouses 101 = .ok (.goto (-74), 3) := by decide +kernel
theorem dX5_tellsHouses_104 : decode cX5_tellsHouses 104 = .ok (.return_, 1) := by decide +kernel
theorem dX5_hangs_0 : decode cX5_hangs 0 = .ok (.iload_n 2, 1) := by decide +kernel
theorem dX5_hangs_1 : decode cX5_hangs 1 = .ok (.ifCond .lt 18, 3) := by decide +kernel
theorem dX5_hangs_4 : decode cX5_hangs 4 = .ok (.aload_n 0, 1) := by decide +kernel
theorem dX5_hangs_5 : decode cX5_hangs 5 = .ok (.getfield 25, 3) := by decide +kernel
theorem dX5_hangs_8 : decode cX5_hangs 8 = .ok (.iload_n 1, 1) := by decide +kernel
theorem dX5_hangs_9 : decode cX5_hangs 9 = .ok (.iaload, 1) := by decide +kernel
theorem dX5_hangs_10 : decode cX5_hangs 10 = .ok (.aload_n 0, 1) := by decide +kernel
theorem dX5_hangs_11 : decode cX5_hangs 11 = .ok (.getfield 25, 3) := by decide +kernel
theorem dX5_hangs_14 : decode cX5_hangs 14 = .ok (.iload_n 2, 1) := by decide +kernel
theorem dX5_hangs_15 : decode cX5_hangs 15 = .ok (.iaload, 1) := by decide +kernel
theorem dX5_hangs_16 : decode cX5_hangs 16 = .ok (.if_icmp .ne 5, 3) := by decide +kernel
theorem dX5_hangs_19 : decode cX5_hangs 19 = .ok (.iconst 0, 1) := by decide +kernel
theorem dX5_hangs_20 : decode cX5_hangs 20 = .ok (.ireturn, 1) := by decide +kernel
theorem dX5_hangs_21 : decode cX5_hangs 21 = .ok (.aload_n 0, 1) := by decide +kernel
theorem dX5_hangs_22 : decode cX5_hangs 22 = .ok (.getfield 25, 3) := by decide +kernel
theorem dX5_hangs_25 : decode cX5_hangs 25 = .ok (.iload_n 1, 1) := by decide +kernel
theorem dX5_hangs_26 : decode cX5_hangs 26 = .ok (.aload_n 0, 1) := by decide +kernel
theorem dX5_hangs_27 : decode cX5_hangs 27 = .ok (.getfield 25, 3) := by decide +kernel
theorem dX5_hangs_30 : decode cX5_hangs 30 = .ok (.iload_n 1, 1) := by decide +kernel
theorem dX5_hangs_31 : decode cX5_hangs 31 = .ok (.iaload, 1) := by decide +kernel
theorem dX5_hangs_32 : decode cX5_hangs 32 = .ok (.aload_n 0, 1) := by decide +kernel
theorem dX5_hangs_33 : decode cX5_hangs 33 = .ok (.getfield 25, 3) := by decide +kernel
theorem dX5_hangs_36 : decode cX5_hangs 36 = .ok (.iload_n 2, 1) := by decide +kernel
theorem dX5_hangs_37 : decode cX5_hangs 37 = .ok (.iaload, 1) := by decide +kernel
theorem dX5_hangs_38 : decode cX5_hangs 38 = .ok (.invokestatic 150, 3) := by decide +kernel
theorem dX5_hangs_41 : decode cX5_hangs 41 = .ok (.iastore, 1) := by decide +kernel
theorem dX5_hangs_42 : decode cX5_hangs 42 = .ok (.aload_n 0, 1) := by decide +kernel
theorem dX5_hangs_43 : decode cX5_hangs 43 = .ok (.getfield 25, 3) := by decide +kernel
theorem dX5_hangs_46 : decode cX5_hangs 46 = .ok (.iload_n 2, 1) := by decide +kernel
theorem dX5_hangs_47 : decode cX5_hangs 47 = .ok (.aload_n 0, 1) := by decide +kernel
theorem dX5_hangs_48 : decode cX5_hangs 48 = .ok (.getfield 25, 3) := by decide +kernel
theorem dX5_hangs_51 : decode cX5_hangs 51 = .ok (.iload_n 1, 1) := by decide +kernel
theorem dX5_hangs_52 : decode cX5_hangs 52 = .ok (.iaload, 1) := by decide +kernel
theorem dX5_hangs_53 : decode cX5_hangs 53 = .ok (.iastore, 1) := by decide +kernel
theorem dX5_hangs_54 : decode cX5_hangs 54 = .ok (.iconst 1, 1) := by decide +kernel
theorem dX5_hangs_55 : decode cX5_hangs 55 = .ok (.ireturn, 1) := by decide +kernel
theorem dX5_houseMany_0 : decode cX5_houseMany 0 = .ok (.aload_n 0, 1) := by decide +kernel
theorem dX5_houseMany_1 : decode cX5_houseMany 1 = .ok (.invokevirtual 155, 3) := by decide +kernel
theorem dX5_houseMany_4 : decode cX5_houseMany 4 = .ok (.iconst 0, 1) := by decide +kernel
theorem dX5_houseMany_5 : decode cX5_houseMany 5 = .ok (.istore_n 1, 1) := by decide +kernel
theorem dX5_houseMany_6 : decode cX5_houseMany 6 = .ok (.iconst 0, 1) := by decide +kernel
theorem dX5_houseMany_7 : decode cX5_houseMany 7 = .ok (.istore_n 2, 1) := by decide +kernel
theorem dX5_houseMany_8 : decode cX5_houseMany 8 = .ok (.iload_n 2, 1) := by decide +kernel
theorem dX5_houseMany_9 : decode cX5_houseMany 9 = .ok (.aload_n 0, 1) := by decide +kernel
theorem dX5_houseMany_10 : decode cX5_houseMany 10 = .ok (.getfield 9, 3) := by decide +kernel
theorem dX5_houseMany_13 : decode cX5_houseMany 13 = .ok (.iconst 0, 1) := by decide +kernel
theorem dX5_houseMany_14 : decode cX5_houseMany 14 = .ok (.iaload, 1) := by decide +kernel
theorem dX5_houseMany_15 : decode cX5_houseMany 15 = .ok (.if_icmp .ge 27, 3) := by decide +kernel
theorem dX5_houseMany_18 : decode cX5_houseMany 18 = .ok (.iload_n 1, 1) := by decide +kernel
theorem dX5_houseMany_19 : decode cX5_houseMany 19 = .ok (.aload_n 0, 1) := by decide +kernel
theorem dX5_houseMany_20 : decode cX5_houseMany 20 = .ok (.getfield 25, 3) := by decide +kernel
theorem dX5_houseMany_23 : decode cX5_houseMany 23 = .ok (.iload_n 2, 1) := by decide +kernel
theorem dX5_houseMany_24 : decode cX5_houseMany 24 = .ok (.iaload, 1) := by decide +kernel
theorem dX5_houseMany_25 : decode cX5_houseMany 25 = .ok (.iload_n 2, 1) := by decide +kernel
theorem dX5_houseMany_26 : decode cX5_houseMany 26 = .ok (.if_icmp .ne 7, 3) := by decide +kernel
theorem dX5_houseMany_29 : decode cX5_houseMany 29 = .ok (.iconst 1, 1) := by decide +kernel
theorem dX5_houseMany_30 : decode cX5_houseMany 30 = .ok (.goto 4, 3) := by decide +kernel
theorem dX5_houseMany_33 : decode cX5_houseMany 33 = .ok (.iconst 0, 1) := by decide +kernel
theorem dX5_houseMany_34 : decode cX5_houseMany 34 = .ok (.iadd, 1) := by decide +kernel
theorem dX5_houseMany_35 : decode cX5_houseMany 35 = .ok (.istore_n 1, 1) := by decide +kernel
theorem dX5_houseMany_36 : decode cX5_houseMany 36 = .ok (.iinc 2 1, 3) := by decide +kernel
theorem dX5_houseMany_39 : decode cX5_houseMany 39 = .ok (.goto (-31), 3) := by decide +kernel
theorem dX5_houseMany_42 : decode cX5_houseMany 42 = .ok (.iload_n 1, 1) := by decide +kernel
theorem dX5_houseMany_43 : decode cX5_houseMany 43 = .ok (.ireturn, 1) := by decide +kernel
theorem dX5_houses_0 : decode cX5_houses 0 = .ok (.aload_n 0, 1) := by decide +kernel
theorem dX5_houses_1 : decode cX5_houses 1 = .ok (.iconst 0, 1) := by decide +kernel
theorem dX5_houses_2 : decode cX5_houses 2 = .ok (.putfield 42, 3) := by decide +kernel
theorem dX5_houses_5 : decode cX5_houses 5 = .ok (.aload_n 0, 1) := by decide +kernel
theorem dX5_houses_6 : decode cX5_houses 6 = .ok (.invokevirtual 158, 3) := by decide +kernel
theorem dX5_houses_9 : decode cX5_houses 9 = .ok (.ireturn, 1) := by decide +kernel
theorem dX5_housesAgain_0 : decode cX5_housesAgain 0 = .ok (.aload_n 0, 1) := by decide +kernel
theorem dX5_housesAgain_1 : decode cX5_housesAgain 1 = .ok (.invokevirtual 161, 3) := by decide +kernel
theorem dX5_housesAgain_4 : decode cX5_housesAgain 4 = .ok (.ireturn, 1) := by decide +kernel
theorem dX5_houseOf_0 : decode cX5_houseOf 0 = .ok (.aload_n 0, 1) := by decide +kernel
theorem dX5_houseOf_1 : decode cX5_houseOf 1 = .ok (.invokevirtual 155, 3) := by decide +kernel
theorem dX5_houseOf_4 : decode cX5_houseOf 4 = .ok (.aload_n 0, 1) := by decide +kernel
theorem dX5_houseOf_5 : decode cX5_houseOf 5 = .ok (.getfield 25, 3) := by decide +kernel
theorem dX5_houseOf_8 : decode cX5_houseOf 8 = .ok (.iload_n 1, 1) := by decide +kernel
theorem dX5_houseOf_9 : decode cX5_houseOf 9 = .ok (.iaload, 1) := by decide +kernel
theorem dX5_houseOf_10 : decode cX5_houseOf 10 = .ok (.ireturn, 1) := by decide +kernel
theorem dX5_endQuarrels_0 : decode cX5_endQuarrels 0 = .ok (.aload_n 0, 1) := by decide +kernel
theorem dX5_endQuarrels_1 : decode cX5_endQuarrels 1 = .ok (.invokevirtual 155, 3) := by decide +kernel
theorem dX5_endQuarrels_4 : decode cX5_endQuarrels 4 = .ok (.iconst 0, 1) := by decide +kernel
theorem dX5_endQuarrels_5 : decode cX5_endQuarrels 5 = .ok (.istore_n 1, 1) := by decide +kernel
theorem dX5_endQuarrels_6 : decode cX5_endQuarrels 6 = .ok (.aload_n 0, 1) := by decide +kernel
theorem dX5_endQuarrels_7 : decode cX5_endQuarrels 7 = .ok (.getfield 9, 3) := by decide +kernel
theorem dX5_endQuarrels_10 : decode cX5_endQuarrels 10 = .ok (.iconst 1, 1) := by decide +kernel
theorem dX5_endQuarrels_11 : decode cX5_endQuarrels 11 = .ok (.iaload, 1) := by decide +kernel
theorem dX5_endQuarrels_12 : decode cX5_endQuarrels 12 = .ok (.istore_n 2, 1) := by decide +kernel
theorem dX5_endQuarrels_13 : decode cX5_endQuarrels 13 = .ok (.iconst 0, 1) := by decide +kernel
theorem dX5_endQuarrels_14 : decode cX5_endQuarrels 14 = .ok (.istore_n 3, 1) := by decide +kernel
theorem dX5_endQuarrels_15 : decode cX5_endQuarrels 15 = .ok (.iload_n 3, 1) := by decide +kernel
theorem dX5_endQuarrels_16 : decode cX5_endQuarrels 16 = .ok (.iload_n 2, 1) := by decide +kernel
theorem dX5_endQuarrels_17 : decode cX5_endQuarrels 17 = .ok (.if_icmp .ge 85, 3) := by decide +kernel
theorem dX5_endQuarrels_20 : decode cX5_endQuarrels 20 = .ok (.aload_n 0, 1) := by decide +kernel
theorem dX5_endQuarrels_21 : decode cX5_endQuarrels 21 = .ok (.getfield 9, 3) := by decide +kernel
theorem dX5_endQuarrels_24 : decode cX5_endQuarrels 24 = .ok (.bipush 101, 2) := by decide +kernel
theorem dX5_endQuarrels_26 : decode cX5_endQuarrels 26 = .ok (.iconst 2, 1) := by decide +kernel
theorem dX5_endQuarrels_27 : decode cX5_endQuarrels 27 = .ok (.iload_n 3, 1) := by decide +kernel
theorem dX5_endQuarrels_28 : decode cX5_endQuarrels 28 = .ok (.imul, 1) := by decide +kernel
theorem dX5_endQuarrels_29 : decode cX5_endQuarrels 29 = .ok (.iadd, 1) := by decide +kernel
theorem dX5_endQuarrels_30 : decode cX5_endQuarrels 30 = .ok (.iaload, 1) := by decide +kernel
theorem dX5_endQuarrels_31 : decode cX5_endQuarrels 31 = .ok (.istore 4, 2) := by decide +kernel
theorem dX5_endQuarrels_33 : decode cX5_endQuarrels 33 = .ok (.aload_n 0, 1) := by decide +kernel
theorem dX5_endQuarrels_34 : decode cX5_endQuarrels 34 = .ok (.getfield 9, 3) := by decide +kernel
theorem dX5_endQuarrels_37 : decode cX5_endQuarrels 37 = .ok (.bipush 101, 2) := by decide +kernel
theorem dX5_endQuarrels_39 : decode cX5_endQuarrels 39 = .ok (.iconst 2, 1) := by decide +kernel
theorem dX5_endQuarrels_40 : decode cX5_endQuarrels 40 = .ok (.iload_n 3, 1) := by decide +kernel
theorem dX5_endQuarrels_41 : decode cX5_endQuarrels 41 = .ok (.imul, 1) := by decide +kernel
theorem dX5_endQuarrels_42 : decode cX5_endQuarrels 42 = .ok (.iadd, 1) := by decide +kernel
theorem dX5_endQuarrels_43 : decode cX5_endQuarrels 43 = .ok (.iconst 1, 1) := by decide +kernel
theorem dX5_endQuarrels_44 : decode cX5_endQuarrels 44 = .ok (.iadd, 1) := by decide +kernel
theorem dX5_endQuarrels_45 : decode cX5_endQuarrels 45 = .ok (.iaload, 1) := by decide +kernel
theorem dX5_endQuarrels_46 : decode cX5_endQuarrels 46 = .ok (.istore 5, 2) := by decide +kernel
theorem dX5_endQuarrels_48 : decode cX5_endQuarrels 48 = .ok (.aload_n 0, 1) := by decide +kernel
theorem dX5_endQuarrels_49 : decode cX5_endQuarrels 49 = .ok (.getfield 25, 3) := by decide +kernel
theorem dX5_endQuarrels_52 : decode cX5_endQuarrels 52 = .ok (.iload 4, 2) := by decide +kernel
theorem dX5_endQuarrels_54 : decode cX5_endQuarrels 54 = .ok (.iaload, 1) := by decide +kernel
theorem dX5_endQuarrels_55 : decode cX5_endQuarrels 55 = .ok (.aload_n 0, 1) := by decide +kernel
theorem dX5_endQuarrels_56 : decode cX5_endQuarrels 56 = .ok (.getfield 25, 3) := by decide +kernel
theorem dX5_endQuarrels_59 : decode cX5_endQuarrels 59 = .ok (.iload 5, 2) := by decide +kernel
theorem dX5_endQuarrels_61 : decode cX5_endQuarrels 61 = .ok (.iaload, 1) := by decide +kernel
theorem dX5_endQuarrels_62 : decode cX5_endQuarrels 62 = .ok (.if_icmp .eq 34, 3) := by decide +kernel
theorem dX5_endQuarrels_65 : decode cX5_endQuarrels 65 = .ok (.aload_n 0, 1) := by decide +kernel
theorem dX5_endQuarrels_66 : decode cX5_endQuarrels 66 = .ok (.getfield 9, 3) := by decide +kernel
theorem dX5_endQuarrels_69 : decode cX5_endQuarrels 69 = .ok (.bipush 101, 2) := by decide +kernel
theorem dX5_endQuarrels_71 : decode cX5_endQuarrels 71 = .ok (.iconst 2, 1) := by decide +kernel
theorem dX5_endQuarrels_72 : decode cX5_endQuarrels 72 = .ok (.iload_n 1, 1) := by decide +kernel
theorem dX5_endQuarrels_73 : decode cX5_endQuarrels 73 = .ok (.imul, 1) := by decide +kernel
theorem dX5_endQuarrels_74 : decode cX5_endQuarrels 74 = .ok (.iadd, 1) := by decide +kernel
theorem dX5_endQuarrels_75 : decode cX5_endQuarrels 75 = .ok (.iload 4, 2) := by decide +kernel
theorem dX5_endQuarrels_77 : decode cX5_endQuarrels 77 = .ok (.iastore, 1) := by decide +kernel
theorem dX5_endQuarrels_78 : decode cX5_endQuarrels 78 = .ok (.aload_n 0, 1) := by decide +kernel
theorem dX5_endQuarrels_79 : decode cX5_endQuarrels 79 = .ok (.getfield 9, 3) := by decide +kernel
theorem dX5_endQuarrels_82 : decode cX5_endQuarrels 82 = .ok (.bipush 101, 2) := by decide +kernel
theorem dX5_endQuarrels_84 : decode cX5_endQuarrels 84 = .ok (.iconst 2, 1) := by decide +kernel
theorem dX5_endQuarrels_85 : decode cX5_endQuarrels 85 = .ok (.iload_n 1, 1) := by decide +kernel
theorem dX5_endQuarrels_86 : decode cX5_endQuarrels 86 = .ok (.imul, 1) := by decide +kernel
theorem dX5_endQuarrels_87 : decode cX5_endQuarrels 87 = .ok (.iadd, 1) := by decide +kernel
theorem dX5_endQuarrels_88 : decode cX5_endQuarrels 88 = .ok (.iconst 1, 1) := by decide +kernel
theorem dX5_endQuarrels_89 : decode cX5_endQuarrels 89 = .ok (.iadd, 1) := by decide +kernel
theorem dX5_endQuarrels_90 : decode cX5_endQuarrels 90 = .ok (.iload 5, 2) := by decide +kernel
theorem dX5_endQuarrels_92 : decode cX5_endQuarrels 92 = .ok (.iastore, 1) := by decide +kernel
theorem dX5_endQuarrels_93 : decode cX5_endQuarrels 93 = .ok (.iinc 1 1, 3) := by decide +kernel
theorem dX5_endQuarrels_96 : decode cX5_endQuarrels 96 = .ok (.iinc 3 1, 3) := by decide +kernel
theorem dX5_endQuarrels_99 : decode cX5_endQuarrels 99 = .ok (.goto (-84), 3) := by decide +kernel
theorem dX5_endQuarrels_102 : decode cX5_endQuarrels 102 = .ok (.aload_n 0, 1) := by decide +kernel
theorem dX5_endQuarrels_103 : decode cX5_endQuarrels 103 = .ok (.getfield 9, 3) := by decide +kernel
theorem dX5_endQuarrels_106 : decode cX5_endQuarrels 106 = .ok (.iconst 1, 1) := by decide +kernel
theorem dX5_endQuarrels_107 : decode cX5_endQuarrels 107 = .ok (.iload_n 1, 1) := by decide +kernel
theorem dX5_endQuarrels_108 : decode cX5_endQuarrels 108 = .ok (.iastore, 1) := by decide +kernel
theorem dX5_endQuarrels_109 : decode cX5_endQuarrels 109 = .ok (.aload_n 0, 1) := by decide +kernel
theorem dX5_endQuarrels_110 : decode cX5_endQuarrels 110 = .ok (.getfield 9, 3) := by decide +kernel
theorem dX5_endQuarrels_113 : decode cX5_endQuarrels 113 = .ok (.iconst 2, 1) := by decide +kernel
theorem dX5_endQuarrels_114 : decode cX5_endQuarrels 114 = .ok (.dup2, 1) := by decide +kernel
theorem dX5_endQuarrels_115 : decode cX5_endQuarrels 115 = .ok (.iaload, 1) := by decide +kernel
theorem dX5_endQuarrels_116 : decode cX5_endQuarrels 116 = .ok (.iload_n 2, 1) := by decide +kernel
theorem dX5_endQuarrels_117 : decode cX5_endQuarrels 117 = .ok (.iload_n 1, 1) := by decide +kernel
theorem dX5_endQuarrels_118 : decode cX5_endQuarrels 118 = .ok (.isub, 1) := by decide +kernel
theorem dX5_endQuarrels_119 : decode cX5_endQuarrels 119 = .ok (.iadd, 1) := by decide +kernel
theorem dX5_endQuarrels_120 : decode cX5_endQuarrels 120 = .ok (.iastore, 1) := by decide +kernel
theorem dX5_endQuarrels_121 : decode cX5_endQuarrels 121 = .ok (.iload_n 2, 1) := by decide +kernel
theorem dX5_endQuarrels_122 : decode cX5_endQuarrels 122 = .ok (.iload_n 1, 1) := by decide +kernel
theorem dX5_endQuarrels_123 : decode cX5_endQuarrels 123 = .ok (.isub, 1) := by decide +kernel
theorem dX5_endQuarrels_124 : decode cX5_endQuarrels 124 = .ok (.ireturn, 1) := by decide +kernel
theorem dX5_canMarry_0 : decode cX5_canMarry 0 = .ok (.aload_n 0, 1) := by decide +kernel
theorem dX5_canMarry_1 : decode cX5_canMarry 1 = .ok (.iload_n 1, 1) := by decide +kernel
theorem dX5_canMarry_2 : decode cX5_canMarry 2 = .ok (.invokevirtual 96, 3) := by decide +kernel
theorem dX5_canMarry_5 : decode cX5_canMarry 5 = .ok (.ifCond .eq 11, 3) := by decide +kernel
theorem dX5_canMarry_8 : decode cX5_canMarry 8 = .ok (.aload_n 0, 1) := by decide +kernel
theorem dX5_canMarry_9 : decode cX5_canMarry 9 = .ok (.iload_n 2, 1) := by decide +kernel
theorem dX5_canMarry_10 : decode cX5_canMarry 10 = .ok (.invokevirtual 96, 3) := by decide +kernel
theorem dX5_canMarry_13 : decode cX5_canMarry 13 = .ok (.ifCond .ne 25, 3) := by decide +kernel
theorem dX5_canMarry_16 : decode cX5_canMarry 16 = .ok (.aload_n 0, 1) := by decide +kernel
theorem dX5_canMarry_17 : decode cX5_canMarry 17 = .ok (.iconst 2, 1) := by decide +kernel
theorem dX5_canMarry_18 : decode cX5_canMarry 18 = .ok (.iconst 2, 1) := by decide +kernel
theorem dX5_canMarry_19 : decode cX5_canMarry 19 = .ok (.aload_n 0, 1) := by decide +kernel
theorem dX5_canMarry_20 : decode cX5_canMarry 20 = .ok (.iload_n 1, 1) := by decide +kernel
theorem dX5_canMarry_21 : decode cX5_canMarry 21 = .ok (.invokevirtual 96, 3) := by decide +kernel
theorem dX5_canMarry_24 : decode cX5_canMarry 24 = .ok (.ifCond .eq 7, 3) := by decide +kernel
theorem dX5_canMarry_27 : decode cX5_canMarry 27 = .ok (.iload_n 2, 1) := by decide +kernel
theorem dX5_canMarry_28 : decode cX5_canMarry 28 = .ok (.goto 4, 3) := by decide +kernel
theorem dX5_canMarry_31 : decode cX5_canMarry 31 = .ok (.iload_n 1, 1) := by decide +kernel
theorem dX5_canMarry_32 : decode cX5_canMarry 32 = .ok (.invokevirtual 72, 3) := by decide +kernel
theorem dX5_canMarry_35 : decode cX5_canMarry 35 = .ok (.istore_n 3, 1) := by decide +kernel
theorem dX5_canMarry_36 : decode cX5_canMarry 36 = .ok (.iconst 0, 1) := by decide +kernel
theorem dX5_canMarry_37 : decode cX5_canMarry 37 = .ok (.ireturn, 1) := by decide +kernel
theorem dX5_canMarry_38 : decode cX5_canMarry 38 = .ok (.aload_n 0, 1) := by decide +kernel
theorem dX5_canMarry_39 : decode cX5_canMarry 39 = .ok (.getfield 9, 3) := by decide +kernel
theorem dX5_canMarry_42 : decode cX5_canMarry 42 = .ok (.bipush 29, 2) := by decide +kernel
theorem dX5_canMarry_44 : decode cX5_canMarry 44 = .ok (.iload_n 1, 1) := by decide +kernel
theorem dX5_canMarry_45 : decode cX5_canMarry 45 = .ok (.iadd, 1) := by decide +kernel
theorem dX5_canMarry_46 : decode cX5_canMarry 46 = .ok (.iaload, 1) := by decide +kernel
theorem dX5_canMarry_47 : decode cX5_canMarry 47 = .ok (.ifCond .ge 15, 3) := by decide +kernel
theorem dX5_canMarry_50 : decode cX5_canMarry 50 = .ok (.aload_n 0, 1) := by decide +kernel
theorem dX5_canMarry_51 : decode cX5_canMarry 51 = .ok (.getfield 9, 3) := by decide +kernel
theorem dX5_canMarry_54 : decode cX5_canMarry 54 = .ok (.bipush 29, 2) := by decide +kernel
theorem dX5_canMarry_56 : decode cX5_canMarry 56 = .ok (.iload_n 2, 1) := by decide +kernel
theorem dX5_canMarry_57 : decode cX5_canMarry 57 = .ok (.iadd, 1) := by decide +kernel
theorem dX5_canMarry_58 : decode cX5_canMarry 58 = .ok (.iaload, 1) := by decide +kernel
theorem dX5_canMarry_59 : decode cX5_canMarry 59 = .ok (.ifCond .lt 46, 3) := by decide +kernel
theorem dX5_canMarry_62 : decode cX5_canMarry 62 = .ok (.aload_n 0, 1) := by decide +kernel
theorem dX5_canMarry_63 : decode cX5_canMarry 63 = .ok (.iconst 2, 1) := by decide +kernel
theorem dX5_canMarry_64 : decode cX5_canMarry 64 = .ok (.bipush 6, 2) := by decide +kernel
theorem dX5_canMarry_66 : decode cX5_canMarry 66 = .ok (.aload_n 0, 1) := by decide +kernel
theorem dX5_canMarry_67 : decode cX5_canMarry 67 = .ok (.getfield 9, 3) := by decide +kernel
theorem dX5_canMarry_70 : decode cX5_canMarry 70 = .ok (.bipush 29, 2) := by decide +kernel
theorem dX5_canMarry_72 : decode cX5_canMarry 72 = .ok (.iload_n 1, 1) := by decide +kernel
theorem dX5_canMarry_73 : decode cX5_canMarry 73 = .ok (.iadd, 1) := by decide +kernel
theorem dX5_canMarry_74 : decode cX5_canMarry 74 = .ok (.iaload, 1) := by decide +kernel
theorem dX5_canMarry_75 : decode cX5_canMarry 75 = .ok (.ifCond .lt 15, 3) := by decide +kernel
theorem dX5_canMarry_78 : decode cX5_canMarry 78 = .ok (.aload_n 0, 1) := by decide +kernel
theorem dX5_canMarry_79 : decode cX5_canMarry 79 = .ok (.getfield 9, 3) := by decide +kernel
theorem dX5_canMarry_82 : decode cX5_canMarry 82 = .ok (.bipush 29, 2) := by decide +kernel
theorem dX5_canMarry_84 : decode cX5_canMarry 84 = .ok (.iload_n 1, 1) := by decide +kernel
theorem dX5_canMarry_85 : decode cX5_canMarry 85 = .ok (.iadd, 1) := by decide +kernel
theorem dX5_canMarry_86 : decode cX5_canMarry 86 = .ok (.iaload, 1) := by decide +kernel
theorem dX5_canMarry_87 : decode cX5_canMarry 87 = .ok (.goto 12, 3) := by decide +kernel
theorem dX5_canMarry_90 : decode cX5_canMarry 90 = .ok (.aload_n 0, 1) := by decide +kernel
theorem dX5_canMarry_91 : decode cX5_canMarry 91 = .ok (.getfield 9, 3) := by decide +kernel
theorem dX5_canMarry_94 : decode cX5_canMarry 94 = .ok (.bipush 29, 2) := by decide +kernel
theorem dX5_canMarry_96 : decode cX5_canMarry 96 = .ok (.iload_n 2, 1) := by decide +kernel
theorem dX5_canMarry_97 : decode cX5_canMarry 97 = .ok (.iadd, 1) := by decide +kernel
theorem dX5_canMarry_98 : decode cX5_canMarry 98 = .ok (.iaload, 1) := by decide +kernel
theorem dX5_canMarry_99 : decode cX5_canMarry 99 = .ok (.invokevirtual 72, 3) := by decide +kernel
theorem dX5_canMarry_102 : decode cX5_canMarry 102 = .ok (.istore_n 3, 1) := by decide +kernel
theorem dX5_canMarry_103 : decode cX5_canMarry 103 = .ok (.iconst 0, 1) := by decide +kernel
theorem dX5_canMarry_104 : decode cX5_canMarry 104 = .ok (.ireturn, 1) := by decide +kernel
theorem dX5_canMarry_105 : decode cX5_canMarry 105 = .ok (.aload_n 0, 1) := by decide +kernel
theorem dX5_canMarry_106 : decode cX5_canMarry 106 = .ok (.iload_n 1, 1) := by decide +kernel
theorem dX5_canMarry_107 : decode cX5_canMarry 107 = .ok (.iload_n 2, 1) := by decide +kernel
theorem dX5_canMarry_108 : decode cX5_canMarry 108 = .ok (.invokevirtual 131, 3) := by decide +kernel
theorem dX5_canMarry_111 : decode cX5_canMarry 111 = .ok (.ifCond .eq 29, 3) := by decide +kernel
theorem dX5_canMarry_114 : decode cX5_canMarry 114 = .ok (.aload_n 0, 1) := by decide +kernel
theorem dX5_canMarry_115 : decode cX5_canMarry 115 = .ok (.iload_n 1, 1) := by decide +kernel
theorem dX5_canMarry_116 : decode cX5_canMarry 116 = .ok (.iload_n 2, 1) := by decide +kernel
theorem dX5_canMarry_117 : decode cX5_canMarry 117 = .ok (.invokevirtual 134, 3) := by decide +kernel
theorem dX5_canMarry_120 : decode cX5_canMarry 120 = .ok (.iconst 4, 1) := by decide +kernel
theorem dX5_canMarry_121 : decode cX5_canMarry 121 = .ok (.if_icmp .gt 19, 3) := by decide +kernel
theorem dX5_canMarry_124 : decode cX5_canMarry 124 = .ok (.aload_n 0, 1) := by decide +kernel
theorem dX5_canMarry_125 : decode cX5_canMarry 125 = .ok (.iconst 2, 1) := by decide +kernel
theorem dX5_canMarry_126 : decode cX5_canMarry 126 = .ok (.bipush 7, 2) := by decide +kernel
theorem dX5_canMarry_128 : decode cX5_canMarry 128 = .ok (.aload_n 0, 1) := by decide +kernel
theorem dX5_canMarry_129 : decode cX5_canMarry 129 = .ok (.iload_n 1, 1) := by decide +kernel
theorem dX5_canMarry_130 : decode cX5_canMarry 130 = .ok (.iload_n 2, 1) := by decide +kernel
theorem dX5_canMarry_131 : decode cX5_canMarry 131 = .ok (.invokevirtual 134, 3) := by decide +kernel
theorem dX5_canMarry_134 : decode cX5_canMarry 134 = .ok (.invokevirtual 72, 3) := by decide +kernel
theorem dX5_canMarry_137 : decode cX5_canMarry 137 = .ok (.istore_n 3, 1) := by decide +kernel
theorem dX5_canMarry_138 : decode cX5_canMarry 138 = .ok (.iconst 0, 1) := by decide +kernel
theorem dX5_canMarry_139 : decode cX5_canMarry 139 = .ok (.ireturn, 1) := by decide +kernel
theorem dX5_canMarry_140 : decode cX5_canMarry 140 = .ok (.iconst 1, 1) := by decide +kernel
theorem dX5_canMarry_141 : decode cX5_canMarry 141 = .ok (.ireturn, 1) := by decide +kernel
theorem dX5_doMarry_0 : decode cX5_doMarry 0 = .ok (.aload_n 0, 1) := by decide +kernel
theorem dX5_doMarry_1 : decode cX5_doMarry 1 = .ok (.iload_n 1, 1) := by decide +kernel
theorem dX5_doMarry_2 : decode cX5_doMarry 2 = .ok (.invokevirtual 89, 3) := by decide +kernel
theorem dX5_doMarry_5 : decode cX5_doMarry 5 = .ok (.ifCond .eq 11, 3) := by decide +kernel
theorem dX5_doMarry_8 : decode cX5_doMarry 8 = .ok (.aload_n 0, 1) := by decide +kernel
theorem dX5_doMarry_9 : decode cX5_doMarry 9 = .ok (.iload_n 2, 1) := by decide +kernel
theorem dX5_doMarry_10 : decode cX5_doMarry 10 = .ok (.invokevirtual 89, 3) := by decide +kernel
theorem dX5_doMarry_13 : decode cX5_doMarry 13 = .ok (.ifCond .ne 9, 3) := by decide +kernel
theorem dX5_doMarry_16 : decode cX5_doMarry 16 = .ok (.aload_n 0, 1) := by decide +kernel
theorem dX5_doMarry_17 : decode cX5_doMarry 17 = .ok (.iconst 1, 1) := by decide +kernel
theorem dX5_doMarry_18 : decode cX5_doMarry 18 = .ok (.invokevirtual 93, 3) := by decide +kernel
theorem dX5_doMarry_21 : decode cX5_doMarry 21 = .ok (.ireturn, 1) := by decide +kernel
theorem dX5_doMarry_22 : decode cX5_doMarry 22 = .ok (.aload_n 0, 1) := by decide +kernel
theorem dX5_doMarry_23 : decode cX5_doMarry 23 = .ok (.iload_n 1, 1) := by decide +kernel
theorem dX5_doMarry_24 : decode cX5_doMarry 24 = .ok (.iload_n 2, 1) := by decide +kernel
theorem dX5_doMarry_25 : decode cX5_doMarry 25 = .ok (.invokevirtual 164, 3) := by decide +kernel
theorem dX5_doMarry_28 : decode cX5_doMarry 28 = .ok (.ifCond .ne 5, 3) := by decide +kernel
theorem dX5_doMarry_31 : decode cX5_doMarry 31 = .ok (.iconst 0, 1) := by decide +kernel
theorem dX5_doMarry_32 : decode cX5_doMarry 32 = .ok (.ireturn, 1) := by decide +kernel
theorem dX5_doMarry_33 : decode cX5_doMarry 33 = .ok (.aload_n 0, 1) := by decide +kernel
theorem dX5_doMarry_34 : decode cX5_doMarry 34 = .ok (.getfield 9, 3) := by decide +kernel
theorem dX5_doMarry_37 : decode cX5_doMarry 37 = .ok (.bipush 29, 2) := by decide +kernel
theorem dX5_doMarry_39 : decode cX5_doMarry 39 = .ok (.iload_n 1, 1) := by decide +kernel
theorem dX5_doMarry_40 : decode cX5_doMarry 40 = .ok (.iadd, 1) := by decide +kernel
theorem dX5_doMarry_41 : decode cX5_doMarry 41 = .ok (.iload_n 2, 1) := by decide +kernel
theorem dX5_doMarry_42 : decode cX5_doMarry 42 = .ok (.iastore, 1) := by decide +kernel
theorem dX5_doMarry_43 : decode cX5_doMarry 43 = .ok (.aload_n 0, 1) := by decide +kernel
theorem dX5_doMarry_44 : decode cX5_doMarry 44 = .ok (.getfield 9, 3) := by decide +kernel
theorem dX5_doMarry_47 : decode cX5_doMarry 47 = .ok (.bipush 29, 2) := by decide +kernel
theorem dX5_doMarry_49 : decode cX5_doMarry 49 = .ok (.iload_n 2, 1) := by decide +kernel
theorem dX5_doMarry_50 : decode cX5_doMarry 50 = .ok (.iadd, 1) := by decide +kernel
theorem dX5_doMarry_51 : decode cX5_doMarry 51 = .ok (.iload_n 1, 1) := by decide +kernel
theorem dX5_doMarry_52 : decode cX5_doMarry 52 = .ok (.iastore, 1) := by decide +kernel
theorem dX5_doMarry_53 : decode cX5_doMarry 53 = .ok (.aload_n 0, 1) := by decide +kernel
theorem dX5_doMarry_54 : decode cX5_doMarry 54 = .ok (.invokevirtual 105, 3) := by decide +kernel
theorem dX5_doMarry_57 : decode cX5_doMarry 57 = .ok (.ireturn, 1) := by decide +kernel
theorem dX5_marry_0 : decode cX5_marry 0 = .ok (.aload_n 0, 1) := by decide +kernel
theorem dX5_marry_1 : decode cX5_marry 1 = .ok (.invokevirtual 79, 3) := by decide +kernel
theorem dX5_marry_4 : decode cX5_marry 4 = .ok (.aload_n 0, 1) := by decide +kernel
theorem dX5_marry_5 : decode cX5_marry 5 = .ok (.aload_n 0, 1) := by decide +kernel
theorem dX5_marry_6 : decode cX5_marry 6 = .ok (.iload_n 1, 1) := by decide +kernel
theorem dX5_marry_7 : decode cX5_marry 7 = .ok (.iload_n 2, 1) := by decide +kernel
theorem dX5_marry_8 : decode cX5_marry 8 = .ok (.invokevirtual 167, 3) := by decide +kernel
theorem dX5_marry_11 : decode cX5_marry 11 = .ok (.invokevirtual 86, 3) := by decide +kernel
theorem dX5_marry_14 : decode cX5_marry 14 = .ok (.ireturn, 1) := by decide +kernel
theorem dX5_parts_0 : decode cX5_parts 0 = .ok (.aload_n 0, 1) := by decide +kernel
theorem dX5_parts_1 : decode cX5_parts 1 = .ok (.getfield 9, 3) := by decide +kernel
theorem dX5_parts_4 : decode cX5_parts 4 = .ok (.bipush 29, 2) := by decide +kernel
theorem dX5_parts_6 : decode cX5_parts 6 = .ok (.aload_n 0, 1) := by decide +kernel
theorem dX5_parts_7 : decode cX5_parts 7 = .ok (.getfield 9, 3) := by decide +kernel
theorem dX5_parts_10 : decode cX5_parts 10 = .ok (.bipush 29, 2) := by decide +kernel
theorem dX5_parts_12 : decode cX5_parts 12 = .ok (.iload_n 1, 1) := by decide +kernel
theorem dX5_parts_13 : decode cX5_parts 13 = .ok (.iadd, 1) := by decide +kernel
theorem dX5_parts_14 : decode cX5_parts 14 = .ok (.iaload, 1) := by decide +kernel
theorem dX5_parts_15 : decode cX5_parts 15 = .ok (.iadd, 1) := by decide +kernel
theorem dX5_parts_16 : decode cX5_parts 16 = .ok (.iconst (-1), 1) := by decide +kernel
theorem dX5_parts_17 : decode cX5_parts 17 = .ok (.iastore, 1) := by decide +kernel
theorem dX5_parts_18 : decode cX5_parts 18 = .ok (.aload_n 0, 1) := by decide +kernel
theorem dX5_parts_19 : decode cX5_parts 19 = .ok (.getfield 9, 3) := by decide +kernel
theorem dX5_parts_22 : decode cX5_parts 22 = .ok (.bipush 29, 2) := by decide +kernel
theorem dX5_parts_24 : decode cX5_parts 24 = .ok (.iload_n 1, 1) := by decide +kernel
theorem dX5_parts_25 : decode cX5_parts 25 = .ok (.iadd, 1) := by decide +kernel
theorem dX5_parts_26 : decode cX5_parts 26 = .ok (.iconst (-1), 1) := by decide +kernel
theorem dX5_parts_27 : decode cX5_parts 27 = .ok (.iastore, 1) := by decide +kernel
theorem dX5_parts_28 : decode cX5_parts 28 = .ok (.return_, 1) := by decide +kernel
theorem dX5_doPart_0 : decode cX5_doPart 0 = .ok (.aload_n 0, 1) := by decide +kernel
theorem dX5_doPart_1 : decode cX5_doPart 1 = .ok (.iload_n 1, 1) := by decide +kernel
theorem dX5_doPart_2 : decode cX5_doPart 2 = .ok (.invokevirtual 89, 3) := by decide +kernel
theorem dX5_doPart_5 : decode cX5_doPart 5 = .ok (.ifCond .ne 9, 3) := by decide +kernel
theorem dX5_doPart_8 : decode cX5_doPart 8 = .ok (.aload_n 0, 1) := by decide +kernel
theorem dX5_doPart_9 : decode cX5_doPart 9 = .ok (.iconst 1, 1) := by decide +kernel
theorem dX5_doPart_10 : decode cX5_doPart 10 = .ok (.invokevirtual 93, 3) := by decide +kernel
theorem dX5_doPart_13 : decode cX5_doPart 13 = .ok (.ireturn, 1) := by decide +kernel
theorem dX5_doPart_14 : decode cX5_doPart 14 = .ok (.aload_n 0, 1) := by decide +kernel
theorem dX5_doPart_15 : decode cX5_doPart 15 = .ok (.getfield 9, 3) := by decide +kernel
theorem dX5_doPart_18 : decode cX5_doPart 18 = .ok (.bipush 29, 2) := by decide +kernel
theorem dX5_doPart_20 : decode cX5_doPart 20 = .ok (.iload_n 1, 1) := by decide +kernel
theorem dX5_doPart_21 : decode cX5_doPart 21 = .ok (.iadd, 1) := by decide +kernel
theorem dX5_doPart_22 : decode cX5_doPart 22 = .ok (.iaload, 1) := by decide +kernel
theorem dX5_doPart_23 : decode cX5_doPart 23 = .ok (.istore_n 2, 1) := by decide +kernel
theorem dX5_doPart_24 : decode cX5_doPart 24 = .ok (.iload_n 2, 1) := by decide +kernel
theorem dX5_doPart_25 : decode cX5_doPart 25 = .ok (.ifCond .ge 12, 3) := by decide +kernel
theorem dX5_doPart_28 : decode cX5_doPart 28 = .ok (.aload_n 0, 1) := by decide +kernel
theorem dX5_doPart_29 : decode cX5_doPart 29 = .ok (.iconst 2, 1) := by decide +kernel
theorem dX5_doPart_30 : decode cX5_doPart 30 = .ok (.bipush 8, 2) := by decide +kernel
theorem dX5_doPart_32 : decode cX5_doPart 32 = .ok (.iload_n 1, 1) := by decide +kernel
theorem dX5_doPart_33 : decode cX5_doPart 33 = .ok (.invokevirtual 72, 3) := by decide +kernel
theorem dX5_doPart_36 : decode cX5_doPart 36 = .ok (.ireturn, 1) := by decide +kernel
theorem dX5_doPart_37 : decode cX5_doPart 37 = .ok (.aload_n 0, 1) := by decide +kernel
theorem dX5_doPart_38 : decode cX5_doPart 38 = .ok (.iload_n 1, 1) := by decide +kernel
theorem dX5_doPart_39 : decode cX5_doPart 39 = .ok (.invokevirtual 170, 3) := by decide +kernel
theorem dX5_doPart_42 : decode cX5_doPart 42 = .ok (.iload_n 2, 1) := by decide +kernel
theorem dX5_doPart_43 : decode cX5_doPart 43 = .ok (.ireturn, 1) := by decide +kernel
theorem dX5_part_0 : decode cX5_part 0 = .ok (.aload_n 0, 1) := by decide +kernel
theorem dX5_part_1 : decode cX5_part 1 = .ok (.invokevirtual 79, 3) := by decide +kernel
theorem dX5_part_4 : decode cX5_part 4 = .ok (.aload_n 0, 1) := by decide +kernel
theorem dX5_part_5 : decode cX5_part 5 = .ok (.aload_n 0, 1) := by decide +kernel
theorem dX5_part_6 : decode cX5_part 6 = .ok (.iload_n 1, 1) := by decide +kernel
theorem dX5_part_7 : decode cX5_part 7 = .ok (.invokevirtual 173, 3) := by decide +kernel
theorem dX5_part_10 : decode cX5_part 10 = .ok (.invokevirtual 86, 3) := by decide +kernel
theorem dX5_part_13 : decode cX5_part 13 = .ok (.ireturn, 1) := by decide +kernel
theorem dX5_quarrels_0 : decode cX5_quarrels 0 = .ok (.aload_n 0, 1) := by decide +kernel
theorem dX5_quarrels_1 : decode cX5_quarrels 1 = .ok (.getfield 9, 3) := by decide +kernel
theorem dX5_quarrels_4 : decode cX5_quarrels 4 = .ok (.bipush 101, 2) := by decide +kernel
theorem dX5_quarrels_6 : decode cX5_quarrels 6 = .ok (.iconst 2, 1) := by decide +kernel
theorem dX5_quarrels_7 : decode cX5_quarrels 7 = .ok (.iload_n 1, 1) := by decide +kernel
theorem dX5_quarrels_8 : decode cX5_quarrels 8 = .ok (.imul, 1) := by decide +kernel
theorem dX5_quarrels_9 : decode cX5_quarrels 9 = .ok (.iadd, 1) := by decide +kernel
theorem dX5_quarrels_10 : decode cX5_quarrels 10 = .ok (.iaload, 1) := by decide +kernel
theorem dX5_quarrels_11 : decode cX5_quarrels 11 = .ok (.iload_n 2, 1) := by decide +kernel
theorem dX5_quarrels_12 : decode cX5_quarrels 12 = .ok (.if_icmp .eq 20, 3) := by decide +kernel
theorem dX5_quarrels_15 : decode cX5_quarrels 15 = .ok (.aload_n 0, 1) := by decide +kernel
theorem dX5_quarrels_16 : decode cX5_quarrels 16 = .ok (.getfield 9, 3) := by decide +kernel
theorem dX5_quarrels_19 : decode cX5_quarrels 19 = .ok (.bipush 101, 2) := by decide +kernel
theorem dX5_quarrels_21 : decode cX5_quarrels 21 = .ok (.iconst 2, 1) := by decide +kernel
theorem dX5_quarrels_22 : decode cX5_quarrels 22 = .ok (.iload_n 1, 1) := by decide +kernel
theorem dX5_quarrels_23 : decode cX5_quarrels 23 = .ok (.imul, 1) := by decide +kernel
theorem dX5_quarrels_24 : decode cX5_quarrels 24 = .ok (.iadd, 1) := by decide +kernel
theorem dX5_quarrels_25 : decode cX5_quarrels 25 = .ok (.iconst 1, 1) := by decide +kernel
theorem dX5_quarrels_26 : decode cX5_quarrels 26 = .ok (.iadd, 1) := by decide +kernel
theorem dX5_quarrels_27 : decode cX5_quarrels 27 = .ok (.iaload, 1) := by decide +kernel
theorem dX5_quarrels_28 : decode cX5_quarrels 28 = .ok (.iload_n 2, 1) := by decide +kernel
theorem dX5_quarrels_29 : decode cX5_quarrels 29 = .ok (.if_icmp .ne 7, 3) := by decide +kernel
theorem dX5_quarrels_32 : decode cX5_quarrels 32 = .ok (.iconst 1, 1) := by decide +kernel
theorem dX5_quarrels_33 : decode cX5_quarrels 33 = .ok (.goto 4, 3) := by decide +kernel
theorem dX5_quarrels_36 : decode cX5_quarrels 36 = .ok (.iconst 0, 1) := by decide +kernel
theorem dX5_quarrels_37 : decode cX5_quarrels 37 = .ok (.ireturn, 1) := by decide +kernel
theorem dX5_doQuarrel_0 : decode cX5_doQuarrel 0 = .ok (.aload_n 0, 1) := by decide +kernel
theorem dX5_doQuarrel_1 : decode cX5_doQuarrel 1 = .ok (.iload_n 1, 1) := by decide +kernel
theorem dX5_doQuarrel_2 : decode cX5_doQuarrel 2 = .ok (.invokevirtual 89, 3) := by decide +kernel
theorem dX5_doQuarrel_5 : decode cX5_doQuarrel 5 = .ok (.ifCond .eq 11, 3) := by decide +kernel
theorem dX5_doQuarrel_8 : decode cX5_doQuarrel 8 = .ok (.aload_n 0, 1) := by decide +kernel
theorem dX5_doQuarrel_9 : decode cX5_doQuarrel 9 = .ok (.iload_n 2, 1) := by decide +kernel
theorem dX5_doQuarrel_10 : decode cX5_doQuarrel 10 = .ok (.invokevirtual 89, 3) := by decide +kernel
theorem dX5_doQuarrel_13 : decode cX5_doQuarrel 13 = .ok (.ifCond .ne 9, 3) := by decide +kernel
theorem dX5_doQuarrel_16 : decode cX5_doQuarrel 16 = .ok (.aload_n 0, 1) := by decide +kernel
theorem dX5_doQuarrel_17 : decode cX5_doQuarrel 17 = .ok (.iconst 1, 1) := by decide +kernel
theorem dX5_doQuarrel_18 : decode cX5_doQuarrel 18 = .ok (.invokevirtual 93, 3) := by decide +kernel
theorem dX5_doQuarrel_21 : decode cX5_doQuarrel 21 = .ok (.ireturn, 1) := by decide +kernel
theorem dX5_doQuarrel_22 : decode cX5_doQuarrel 22 = .ok (.aload_n 0, 1) := by decide +kernel
theorem dX5_doQuarrel_23 : decode cX5_doQuarrel 23 = .ok (.iload_n 1, 1) := by decide +kernel
theorem dX5_doQuarrel_24 : decode cX5_doQuarrel 24 = .ok (.invokevirtual 96, 3) := by decide +kernel
theorem dX5_doQuarrel_27 : decode cX5_doQuarrel 27 = .ok (.ifCond .eq 11, 3) := by decide +kernel
theorem dX5_doQuarrel_30 : decode cX5_doQuarrel 30 = .ok (.aload_n 0, 1) := by decide +kernel
theorem dX5_doQuarrel_31 : decode cX5_doQuarrel 31 = .ok (.iload_n 2, 1) := by decide +kernel
theorem dX5_doQuarrel_32 : decode cX5_doQuarrel 32 = .ok (.invokevirtual 96, 3) := by decide +kernel
theorem dX5_doQuarrel_35 : decode cX5_doQuarrel 35 = .ok (.ifCond .ne 23, 3) := by decide +kernel
theorem dX5_doQuarrel_38 : decode cX5_doQuarrel 38 = .ok (.aload_n 0, 1) := by decide +kernel
theorem dX5_doQuarrel_39 : decode cX5_doQuarrel 39 = .ok (.iconst 2, 1) := by decide +kernel
theorem dX5_doQuarrel_40 : decode cX5_doQuarrel 40 = .ok (.iconst 2, 1) := by decide +kernel
theorem dX5_doQuarrel_41 : decode cX5_doQuarrel 41 = .ok (.aload_n 0, 1) := by decide +kernel
theorem dX5_doQuarrel_42 : decode cX5_doQuarrel 42 = .ok (.iload_n 1, 1) := by decide +kernel
theorem dX5_doQuarrel_43 : decode cX5_doQuarrel 43 = .ok (.invokevirtual 96, 3) := by decide +kernel
theorem dX5_doQuarrel_46 : decode cX5_doQuarrel 46 = .ok (.ifCond .eq 7, 3) := by decide +kernel
theorem dX5_doQuarrel_49 : decode cX5_doQuarrel 49 = .ok (.iload_n 2, 1) := by decide +kernel
theorem dX5_doQuarrel_50 : decode cX5_doQuarrel 50 = .ok (.goto 4, 3) := by decide +kernel
theorem dX5_doQuarrel_53 : decode cX5_doQuarrel 53 = .ok (.iload_n 1, 1) := by decide +kernel
theorem dX5_doQuarrel_54 : decode cX5_doQuarrel 54 = .ok (.invokevirtual 72, 3) := by decide +kernel
theorem dX5_doQuarrel_57 : decode cX5_doQuarrel 57 = .ok (.ireturn, 1) := by decide +kernel
theorem dX5_doQuarrel_58 : decode cX5_doQuarrel 58 = .ok (.aload_n 0, 1) := by decide +kernel
theorem dX5_doQuarrel_59 : decode cX5_doQuarrel 59 = .ok (.getfield 9, 3) := by decide +kernel
theorem dX5_doQuarrel_62 : decode cX5_doQuarrel 62 = .ok (.iconst 1, 1) := by decide +kernel
theorem dX5_doQuarrel_63 : decode cX5_doQuarrel 63 = .ok (.iaload, 1) := by decide +kernel
theorem dX5_doQuarrel_64 : decode cX5_doQuarrel 64 = .ok (.istore_n 3, 1) := by decide +kernel
theorem dX5_doQuarrel_65 : decode cX5_doQuarrel 65 = .ok (.aload_n 0, 1) := by decide +kernel
theorem dX5_doQuarrel_66 : decode cX5_doQuarrel 66 = .ok (.iload_n 1, 1) := by decide +kernel
theorem dX5_doQuarrel_67 : decode cX5_doQuarrel 67 = .ok (.invokevirtual 176, 3) := by decide +kernel
theorem dX5_doQuarrel_70 : decode cX5_doQuarrel 70 = .ok (.aload_n 0, 1) := by decide +kernel
theorem dX5_doQuarrel_71 : decode cX5_doQuarrel 71 = .ok (.iload_n 2, 1) := by decide +kernel
theorem dX5_doQuarrel_72 : decode cX5_doQuarrel 72 = .ok (.invokevirtual 176, 3) := by decide +kernel
theorem dX5_doQuarrel_75 : decode cX5_doQuarrel 75 = .ok (.if_icmp .ne 16, 3) := by decide +kernel
theorem dX5_doQuarrel_78 : decode cX5_doQuarrel 78 = .ok (.aload_n 0, 1) := by decide +kernel
theorem dX5_doQuarrel_79 : decode cX5_doQuarrel 79 = .ok (.iconst 2, 1) := by decide +kernel
theorem dX5_doQuarrel_80 : decode cX5_doQuarrel 80 = .ok (.bipush 9, 2) := by decide +kernel
theorem dX5_doQuarrel_82 : decode cX5_doQuarrel 82 = .ok (.aload_n 0, 1) := by decide +kernel
theorem dX5_doQuarrel_83 : decode cX5_doQuarrel 83 = .ok (.iload_n 1, 1) := by decide +kernel
theorem dX5_doQuarrel_84 : decode cX5_doQuarrel 84 = .ok (.invokevirtual 176, 3) := by decide +kernel
theorem dX5_doQuarrel_87 : decode cX5_doQuarrel 87 = .ok (.invokevirtual 72, 3) := by decide +kernel
theorem dX5_doQuarrel_90 : decode cX5_doQuarrel 90 = .ok (.ireturn, 1) := by decide +kernel
theorem dX5_doQuarrel_91 : decode cX5_doQuarrel 91 = .ok (.iconst 0, 1) := by decide +kernel
theorem dX5_doQuarrel_92 : decode cX5_doQuarrel 92 = .ok (.istore 4, 2) := by decide +kernel
theorem dX5_doQuarrel_94 : decode cX5_doQuarrel 94 = .ok (.iload 4, 2) := by decide +kernel
theorem dX5_doQuarrel_96 : decode cX5_doQuarrel 96 = .ok (.iload_n 3, 1) := by decide +kernel
theorem dX5_doQuarrel_97 : decode cX5_doQuarrel 97 = .ok (.if_icmp .ge 38, 3) := by decide +kernel
theorem dX5_doQuarrel_100 : decode cX5_doQuarrel 100 = .ok (.aload_n 0, 1) := by decide +kernel
theorem dX5_doQuarrel_101 : decode cX5_doQuarrel 101 = .ok (.iload 4, 2) := by decide +kernel
theorem dX5_doQuarrel_103 : decode cX5_doQuarrel 103 = .ok (.iload_n 1, 1) := by decide +kernel
theorem dX5_doQuarrel_104 : decode cX5_doQuarrel 104 = .ok (.invokevirtual 179, 3) := by decide +kernel
theorem dX5_doQuarrel_107 : decode cX5_doQuarrel 107 = .ok (.ifCond .eq 22, 3) := by decide +kernel
theorem dX5_doQuarrel_110 : decode cX5_doQuarrel 110 = .ok (.aload_n 0, 1) := by decide +kernel
theorem dX5_doQuarrel_111 : decode cX5_doQuarrel 111 = .ok (.iload 4, 2) := by decide +kernel
theorem dX5_doQuarrel_113 : decode cX5_doQuarrel 113 = .ok (.iload_n 2, 1) := by decide +kernel
theorem dX5_doQuarrel_114 : decode cX5_doQuarrel 114 = .ok (.invokevirtual 179, 3) := by decide +kernel
theorem dX5_doQuarrel_117 : decode cX5_doQuarrel 117 = .ok (.ifCond .eq 12, 3) := by decide +kernel
theorem dX5_doQuarrel_120 : decode cX5_doQuarrel 120 = .ok (.aload_n 0, 1) := by decide +kernel
theorem dX5_doQuarrel_121 : decode cX5_doQuarrel 121 = .ok (.iconst 2, 1) := by decide +kernel
theorem dX5_doQuarrel_122 : decode cX5_doQuarrel 122 = .ok (.bipush 10, 2) := by decide +kernel
theorem dX5_doQuarrel_124 : decode cX5_doQuarrel 124 = .ok (.iload_n 3, 1) := by decide +kernel
theorem dX5_doQuarrel_125 : decode cX5_doQuarrel 125 = .ok (.invokevirtual 72, 3) := by decide +kernel
theorem dX5_doQuarrel_128 : decode cX5_doQuarrel 128 = .ok (.ireturn, 1) := by decide +kernel
theorem dX5_doQuarrel_129 : decode cX5_doQuarrel 129 = .ok (.iinc 4 1, 3) := by decide +kernel
theorem dX5_doQuarrel_132 : decode cX5_doQuarrel 132 = .ok (.goto (-38), 3) := by decide +kernel
theorem dX5_doQuarrel_135 : decode cX5_doQuarrel 135 = .ok (.iload_n 3, 1) := by decide +kernel
theorem dX5_doQuarrel_136 : decode cX5_doQuarrel 136 = .ok (.bipush 20, 2) := by decide +kernel
theorem dX5_doQuarrel_138 : decode cX5_doQuarrel 138 = .ok (.if_icmp .ne 12, 3) := by decide +kernel
theorem dX5_doQuarrel_141 : decode cX5_doQuarrel 141 = .ok (.aload_n 0, 1) := by decide +kernel
theorem dX5_doQuarrel_142 : decode cX5_doQuarrel 142 = .ok (.iconst 2, 1) := by decide +kernel
theorem dX5_doQuarrel_143 : decode cX5_doQuarrel 143 = .ok (.iconst 1, 1) := by decide +kernel
theorem dX5_doQuarrel_144 : decode cX5_doQuarrel 144 = .ok (.bipush 20, 2) := by decide +kernel
theorem dX5_doQuarrel_146 : decode cX5_doQuarrel 146 = .ok (.invokevirtual 72, 3) := by decide +kernel
theorem dX5_doQuarrel_149 : decode cX5_doQuarrel 149 = .ok (.ireturn, 1) := by decide +kernel
theorem dX5_doQuarrel_150 : decode cX5_doQuarrel 150 = .ok (.aload_n 0, 1) := by decide +kernel
theorem dX5_doQuarrel_151 : decode cX5_doQuarrel 151 = .ok (.getfield 9, 3) := by decide +kernel
theorem dX5_doQuarrel_154 : decode cX5_doQuarrel 154 = .ok (.bipush 101, 2) := by decide +kernel
theorem dX5_doQuarrel_156 : decode cX5_doQuarrel 156 = .ok (.iconst 2, 1) := by decide +kernel
theorem dX5_doQuarrel_157 : decode cX5_doQuarrel 157 = .ok (.iload_n 3, 1) := by decide +kernel
theorem dX5_doQuarrel_158 : decode cX5_doQuarrel 158 = .ok (.imul, 1) := by decide +kernel
theorem dX5_doQuarrel_159 : decode cX5_doQuarrel 159 = .ok (.iadd, 1) := by decide +kernel
theorem dX5_doQuarrel_160 : decode cX5_doQuarrel 160 = .ok (.iload_n 1, 1) := by decide +kernel
theorem dX5_doQuarrel_161 : decode cX5_doQuarrel 161 = .ok (.iastore, 1) := by decide +kernel
theorem dX5_doQuarrel_162 : decode cX5_doQuarrel 162 = .ok (.aload_n 0, 1) := by decide +kernel
theorem dX5_doQuarrel_163 : decode cX5_doQuarrel 163 = .ok (.getfield 9, 3) := by decide +kernel
theorem dX5_doQuarrel_166 : decode cX5_doQuarrel 166 = .ok (.bipush 101, 2) := by decide +kernel
theorem dX5_doQuarrel_168 : decode cX5_doQuarrel 168 = .ok (.iconst 2, 1) := by decide +kernel
theorem dX5_doQuarrel_169 : decode cX5_doQuarrel 169 = .ok (.iload_n 3, 1) := by decide +kernel
theorem dX5_doQuarrel_170 : decode cX5_doQuarrel 170 = .ok (.imul, 1) := by decide +kernel
theorem dX5_doQuarrel_171 : decode cX5_doQuarrel 171 = .ok (.iadd, 1) := by decide +kernel
theorem dX5_doQuarrel_172 : decode cX5_doQuarrel 172 = .ok (.iconst 1, 1) := by decide +kernel
theorem dX5_doQuarrel_173 : decode cX5_doQuarrel 173 = .ok (.iadd, 1) := by decide +kernel
theorem dX5_doQuarrel_174 : decode cX5_doQuarrel 174 = .ok (.iload_n 2, 1) := by decide +kernel
theorem dX5_doQuarrel_175 : decode cX5_doQuarrel 175 = .ok (.iastore, 1) := by decide +kernel
theorem dX5_doQuarrel_176 : decode cX5_doQuarrel 176 = .ok (.aload_n 0, 1) := by decide +kernel
theorem dX5_doQuarrel_177 : decode cX5_doQuarrel 177 = .ok (.getfield 9, 3) := by decide +kernel
theorem dX5_doQuarrel_180 : decode cX5_doQuarrel 180 = .ok (.iconst 1, 1) := by decide +kernel
theorem dX5_doQuarrel_181 : decode cX5_doQuarrel 181 = .ok (.dup2, 1) := by decide +kernel
theorem dX5_doQuarrel_182 : decode cX5_doQuarrel 182 = .ok (.iaload, 1) := by decide +kernel
theorem dX5_doQuarrel_183 : decode cX5_doQuarrel 183 = .ok (.iconst 1, 1) := by decide +kernel
theorem dX5_doQuarrel_184 : decode cX5_doQuarrel 184 = .ok (.iadd, 1) := by decide +kernel
theorem dX5_doQuarrel_185 : decode cX5_doQuarrel 185 = .ok (.iastore, 1) := by decide +kernel
theorem dX5_doQuarrel_186 : decode cX5_doQuarrel 186 = .ok (.iload_n 3, 1) := by decide +kernel
theorem dX5_doQuarrel_187 : decode cX5_doQuarrel 187 = .ok (.iconst 1, 1) := by decide +kernel
theorem dX5_doQuarrel_188 : decode cX5_doQuarrel 188 = .ok (.iadd, 1) := by decide +kernel
theorem dX5_doQuarrel_189 : decode cX5_doQuarrel 189 = .ok (.ireturn, 1) := by decide +kernel
theorem dX5_quarrel_0 : decode cX5_quarrel 0 = .ok (.aload_n 0, 1) := by decide +kernel
theorem dX5_quarrel_1 : decode cX5_quarrel 1 = .ok (.invokevirtual 79, 3) := by decide +kernel
theorem dX5_quarrel_4 : decode cX5_quarrel 4 = .ok (.aload_n 0, 1) := by decide +kernel
theorem dX5_quarrel_5 : decode cX5_quarrel 5 = .ok (.aload_n 0, 1) := by decide +kernel
theorem dX5_quarrel_6 : decode cX5_quarrel 6 = .ok (.iload_n 1, 1) := by decide +kernel
theorem dX5_quarrel_7 : decode cX5_quarrel 7 = .ok (.iload_n 2, 1) := by decide +kernel
theorem dX5_quarrel_8 : decode cX5_quarrel 8 = .ok (.invokevirtual 182, 3) := by decide +kernel
theorem dX5_quarrel_11 : decode cX5_quarrel 11 = .ok (.invokevirtual 86, 3) := by decide +kernel
theorem dX5_quarrel_14 : decode cX5_quarrel 14 = .ok (.ireturn, 1) := by decide +kernel
theorem dX5_quarrelAt_0 : decode cX5_quarrelAt 0 = .ok (.aload_n 0, 1) := by decide +kernel
theorem dX5_quarrelAt_1 : decode cX5_quarrelAt 1 = .ok (.iload_n 1, 1) := by decide +kernel
theorem dX5_quarrelAt_2 : decode cX5_quarrelAt 2 = .ok (.iconst 0, 1) := by decide +kernel
theorem dX5_quarrelAt_3 : decode cX5_quarrelAt 3 = .ok (.aload_n 0, 1) := by decide +kernel
theorem dX5_quarrelAt_4 : decode cX5_quarrelAt 4 = .ok (.getfield 9, 3) := by decide +kernel
theorem dX5_quarrelAt_7 : decode cX5_quarrelAt 7 = .ok (.iconst 1, 1) := by decide +kernel
theorem dX5_quarrelAt_8 : decode cX5_quarrelAt 8 = .ok (.iaload, 1) := by decide +kernel
theorem dX5_quarrelAt_9 : decode cX5_quarrelAt 9 = .ok (.iconst 1, 1) := by decide +kernel
theorem dX5_quarrelAt_10 : decode cX5_quarrelAt 10 = .ok (.isub, 1) := by decide +kernel
theorem dX5_quarrelAt_11 : decode cX5_quarrelAt 11 = .ok (.invokestatic 64, 3) := by decide +kernel
theorem dX5_quarrelAt_14 : decode cX5_quarrelAt 14 = .ok (.ifCond .eq 7, 3) := by decide +kernel
theorem dX5_quarrelAt_17 : decode cX5_quarrelAt 17 = .ok (.iconst 0, 1) := by decide +kernel
theorem dX5_quarrelAt_18 : decode cX5_quarrelAt 18 = .ok (.goto 4, 3) := by decide +kernel
theorem dX5_quarrelAt_21 : decode cX5_quarrelAt 21 = .ok (.iconst 1, 1) := by decide +kernel
theorem dX5_quarrelAt_22 : decode cX5_quarrelAt 22 = .ok (.putfield 42, 3) := by decide +kernel
theorem dX5_quarrelAt_25 : decode cX5_quarrelAt 25 = .ok (.aload_n 0, 1) := by decide +kernel
theorem dX5_quarrelAt_26 : decode cX5_quarrelAt 26 = .ok (.getfield 42, 3) := by decide +kernel
theorem dX5_quarrelAt_29 : decode cX5_quarrelAt 29 = .ok (.ifCond .le 7, 3) := by decide +kernel
theorem dX5_quarrelAt_32 : decode cX5_quarrelAt 32 = .ok (.iconst 0, 1) := by decide +kernel
theorem dX5_quarrelAt_33 : decode cX5_quarrelAt 33 = .ok (.goto 24, 3) := by decide +kernel
theorem dX5_quarrelAt_36 : decode cX5_quarrelAt 36 = .ok (.aload_n 0, 1) := by decide +kernel
theorem dX5_quarrelAt_37 : decode cX5_quarrelAt 37 = .ok (.getfield 9, 3) := by decide +kernel
theorem dX5_quarrelAt_40 : decode cX5_quarrelAt 40 = .ok (.bipush 101, 2) := by decide +kernel
theorem dX5_quarrelAt_42 : decode cX5_quarrelAt 42 = .ok (.iconst 2, 1) := by decide +kernel
theorem dX5_quarrelAt_43 : decode cX5_quarrelAt 43 = .ok (.iload_n 1, 1) := by decide +kernel
theorem dX5_quarrelAt_44 : decode cX5_quarrelAt 44 = .ok (.imul, 1) := by decide +kernel
theorem dX5_quarrelAt_45 : decode cX5_quarrelAt 45 = .ok (.iadd, 1) := by decide +kernel
theorem dX5_quarrelAt_46 : decode cX5_quarrelAt 46 = .ok (.iload_n 2, 1) := by decide +kernel
theorem dX5_quarrelAt_47 : decode cX5_quarrelAt 47 = .ok (.ifCond .eq 7, 3) := by decide +kernel
theorem dX5_quarrelAt_50 : decode cX5_quarrelAt 50 = .ok (.iconst 1, 1) := by decide +kernel
theorem dX5_quarrelAt_51 : decode cX5_quarrelAt 51 = .ok (.goto 4, 3) := by decide +kernel
theorem dX5_quarrelAt_54 : decode cX5_quarrelAt 54 = .ok (.iconst 0, 1) := by decide +kernel
theorem dX5_quarrelAt_55 : decode cX5_quarrelAt 55 = .ok (.iadd, 1) := by decide +kernel
theorem dX5_quarrelAt_56 : decode cX5_quarrelAt 56 = .ok (.iaload, 1) := by decide +kernel
theorem dX5_quarrelAt_57 : decode cX5_quarrelAt 57 = .ok (.ireturn, 1) := by decide +kernel
theorem dX5_wouldEnd_0 : decode cX5_wouldEnd 0 = .ok (.aload_n 0, 1) := by decide +kernel
theorem dX5_wouldEnd_1 : decode cX5_wouldEnd 1 = .ok (.aload_n 0, 1) := by decide +kernel
theorem dX5_wouldEnd_2 : decode cX5_wouldEnd 2 = .ok (.iload_n 1, 1) := by decide +kernel
theorem dX5_wouldEnd_3 : decode cX5_wouldEnd 3 = .ok (.invokevirtual 89, 3) := by decide +kernel
theorem dX5_wouldEnd_6 : decode cX5_wouldEnd 6 = .ok (.ifCond .eq 15, 3) := by decide +kernel
theorem dX5_wouldEnd_9 : decode cX5_wouldEnd 9 = .ok (.aload_n 0, 1) := by decide +kernel
theorem dX5_wouldEnd_10 : decode cX5_wouldEnd 10 = .ok (.iload_n 2, 1) := by decide +kernel
theorem dX5_wouldEnd_11 : decode cX5_wouldEnd 11 = .ok (.invokevirtual 89, 3) := by decide +kernel
theorem dX5_wouldEnd_14 : decode cX5_wouldEnd 14 = .ok (.ifCond .eq 7, 3) := by decide +kernel
theorem dX5_wouldEnd_17 : decode cX5_wouldEnd 17 = .ok (.iconst 0, 1) := by decide +kernel
theorem dX5_wouldEnd_18 : decode cX5_wouldEnd 18 = .ok (.goto 4, 3) := by decide +kernel
theorem dX5_wouldEnd_21 : decode cX5_wouldEnd 21 = .ok (.iconst 1, 1) := by decide +kernel
theorem dX5_wouldEnd_22 : decode cX5_wouldEnd 22 = .ok (.putfield 42, 3) := by decide +kernel
theorem dX5_wouldEnd_25 : decode cX5_wouldEnd 25 = .ok (.aload_n 0, 1) := by decide +kernel
theorem dX5_wouldEnd_26 : decode cX5_wouldEnd 26 = .ok (.getfield 42, 3) := by decide +kernel
theorem dX5_wouldEnd_29 : decode cX5_wouldEnd 29 = .ok (.ifCond .le 5, 3) := by decide +kernel
theorem dX5_wouldEnd_32 : decode cX5_wouldEnd 32 = .ok (.iconst 0, 1) := by decide +kernel
theorem dX5_wouldEnd_33 : decode cX5_wouldEnd 33 = .ok (.ireturn, 1) := by decide +kernel
theorem dX5_wouldEnd_34 : decode cX5_wouldEnd 34 = .ok (.aload_n 0, 1) := by decide +kernel
theorem dX5_wouldEnd_35 : decode cX5_wouldEnd 35 = .ok (.getfield 58, 3) := by decide +kernel
theorem dX5_wouldEnd_38 : decode cX5_wouldEnd 38 = .ok (.istore_n 3, 1) := by decide +kernel
theorem dX5_wouldEnd_39 : decode cX5_wouldEnd 39 = .ok (.aload_n 0, 1) := by decide +kernel
theorem dX5_wouldEnd_40 : decode cX5_wouldEnd 40 = .ok (.getfield 61, 3) := by decide +kernel
theorem dX5_wouldEnd_43 : decode cX5_wouldEnd 43 = .ok (.istore 4, 2) := by decide +kernel
theorem dX5_wouldEnd_45 : decode cX5_wouldEnd 45 = .ok (.aload_n 0, 1) := by decide +kernel
theorem dX5_wouldEnd_46 : decode cX5_wouldEnd 46 = .ok (.iload_n 1, 1) := by decide +kernel
theorem dX5_wouldEnd_47 : decode cX5_wouldEnd 47 = .ok (.iload_n 2, 1) := by decide +kernel
theorem dX5_wouldEnd_48 : decode cX5_wouldEnd 48 = .ok (.invokevirtual 164, 3) := by decide +kernel
theorem dX5_wouldEnd_51 : decode cX5_wouldEnd 51 = .ok (.istore 5, 2) := by decide +kernel
theorem dX5_wouldEnd_53 : decode cX5_wouldEnd 53 = .ok (.aload_n 0, 1) := by decide +kernel
theorem dX5_wouldEnd_54 : decode cX5_wouldEnd 54 = .ok (.iload_n 3, 1) := by decide +kernel
theorem dX5_wouldEnd_55 : decode cX5_wouldEnd 55 = .ok (.putfield 58, 3) := by decide +kernel
theorem dX5_wouldEnd_58 : decode cX5_wouldEnd 58 = .ok (.aload_n 0, 1) := by decide +kernel
theorem dX5_wouldEnd_59 : decode cX5_wouldEnd 59 = .ok (.iload 4, 2) := by decide +kernel
theorem dX5_wouldEnd_61 : decode cX5_wouldEnd 61 = .ok (.putfield 61, 3) := by decide +kernel
theorem dX5_wouldEnd_64 : decode cX5_wouldEnd 64 = .ok (.aload_n 0, 1) := by decide +kernel
theorem dX5_wouldEnd_65 : decode cX5_wouldEnd 65 = .ok (.iload 5, 2) := by decide +kernel
theorem dX5_wouldEnd_67 : decode cX5_wouldEnd 67 = .ok (.ifCond .eq 7, 3) := by decide +kernel
theorem dX5_wouldEnd_70 : decode cX5_wouldEnd 70 = .ok (.iconst 0, 1) := by decide +kernel
theorem dX5_wouldEnd_71 : decode cX5_wouldEnd 71 = .ok (.goto 4, 3) := by decide +kernel
theorem dX5_wouldEnd_74 : decode cX5_wouldEnd 74 = .ok (.iconst 2, 1) := by decide +kernel
theorem dX5_wouldEnd_75 : decode cX5_wouldEnd 75 = .ok (.putfield 42, 3) := by decide +kernel
theorem dX5_wouldEnd_78 : decode cX5_wouldEnd 78 = .ok (.aload_n 0, 1) := by decide +kernel
theorem dX5_wouldEnd_79 : decode cX5_wouldEnd 79 = .ok (.getfield 42, 3) := by decide +kernel
theorem dX5_wouldEnd_82 : decode cX5_wouldEnd 82 = .ok (.ifCond .le 5, 3) := by decide +kernel
theorem dX5_wouldEnd_85 : decode cX5_wouldEnd 85 = .ok (.iconst 0, 1) := by decide +kernel
theorem dX5_wouldEnd_86 : decode cX5_wouldEnd 86 = .ok (.ireturn, 1) := by decide +kernel
theorem dX5_wouldEnd_87 : decode cX5_wouldEnd 87 = .ok (.aload_n 0, 1) := by decide +kernel
theorem dX5_wouldEnd_88 : decode cX5_wouldEnd 88 = .ok (.invokevirtual 155, 3) := by decide +kernel
theorem dX5_wouldEnd_91 : decode cX5_wouldEnd 91 = .ok (.iconst 0, 1) := by decide +kernel
theorem dX5_wouldEnd_92 : decode cX5_wouldEnd 92 = .ok (.istore 6, 2) := by decide +kernel
theorem dX5_wouldEnd_94 : decode cX5_wouldEnd 94 = .ok (.iconst 0, 1) := by decide +kernel
theorem dX5_wouldEnd_95 : decode cX5_wouldEnd 95 = .ok (.istore 7, 2) := by decide +kernel
theorem dX5_wouldEnd_97 : decode cX5_wouldEnd 97 = .ok (.iload 7, 2) := by decide +kernel
theorem dX5_wouldEnd_99 : decode cX5_wouldEnd 99 = .ok (.aload_n 0, 1) := by decide +kernel
theorem dX5_wouldEnd_100 : decode cX5_wouldEnd 100 = .ok (.getfield 9, 3) := by decide +kernel
theorem dX5_wouldEnd_103 : decode cX5_wouldEnd 103 = .ok (.iconst 1, 1) := by decide +kernel
theorem dX5_wouldEnd_104 : decode cX5_wouldEnd 104 = .ok (.iaload, 1) := by decide +kernel
theorem dX5_wouldEnd_105 : decode cX5_wouldEnd 105 = .ok (.if_icmp .ge 115, 3) := by decide +kernel
theorem dX5_wouldEnd_108 : decode cX5_wouldEnd 108 = .ok (.aload_n 0, 1) := by decide +kernel
theorem dX5_wouldEnd_109 : decode cX5_wouldEnd 109 = .ok (.getfield 25, 3) := by decide +kernel
theorem dX5_wouldEnd_112 : decode cX5_wouldEnd 112 = .ok (.aload_n 0, 1) := by decide +kernel
theorem dX5_wouldEnd_113 : decode cX5_wouldEnd 113 = .ok (.getfield 9, 3) := by decide +kernel
theorem dX5_wouldEnd_116 : decode cX5_wouldEnd 116 = .ok (.bipush 101, 2) := by decide +kernel
theorem dX5_wouldEnd_118 : decode cX5_wouldEnd 118 = .ok (.iconst 2, 1) := by decide +kernel
theorem dX5_wouldEnd_119 : decode cX5_wouldEnd 119 = .ok (.iload 7, 2) := by decide +kernel
theorem dX5_wouldEnd_121 : decode cX5_wouldEnd 121 = .ok (.imul, 1) := by decide +kernel
theorem dX5_wouldEnd_122 : decode cX5_wouldEnd 122 = .ok (.iadd, 1) := by decide +kernel
theorem dX5_wouldEnd_123 : decode cX5_wouldEnd 123 = .ok (.iaload, 1) := by decide +kernel
theorem dX5_wouldEnd_124 : decode cX5_wouldEnd 124 = .ok (.iaload, 1) := by decide +kernel
theorem dX5_wouldEnd_125 : decode cX5_wouldEnd 125 = .ok (.istore 8, 2) := by decide +kernel
theorem dX5_wouldEnd_127 : decode cX5_wouldEnd 127 = .ok (.aload_n 0, 1) := by decide +kernel
theorem dX5_wouldEnd_128 : decode cX5_wouldEnd 128 = .ok (.getfield 25, 3) := by decide +kernel
theorem dX5_wouldEnd_131 : decode cX5_wouldEnd 131 = .ok (.aload_n 0, 1) := by decide +kernel
theorem dX5_wouldEnd_132 : decode cX5_wouldEnd 132 = .ok (.getfield 9, 3) := by decide +kernel
theorem dX5_wouldEnd_135 : decode cX5_wouldEnd 135 = .ok (.bipush 101, 2) := by decide +kernel
theorem dX5_wouldEnd_137 : decode cX5_wouldEnd 137 = .ok (.iconst 2, 1) := by decide +kernel
theorem dX5_wouldEnd_138 : decode cX5_wouldEnd 138 = .ok (.iload 7, 2) := by decide +kernel
theorem dX5_wouldEnd_140 : decode cX5_wouldEnd 140 = .ok (.imul, 1) := by decide +kernel
theorem dX5_wouldEnd_141 : decode cX5_wouldEnd 141 = .ok (.iadd, 1) := by decide +kernel
theorem dX5_wouldEnd_142 : decode cX5_wouldEnd 142 = .ok (.iconst 1, 1) := by decide +kernel
theorem dX5_wouldEnd_143 : decode cX5_wouldEnd 143 = .ok (.iadd, 1) := by decide +kernel
theorem dX5_wouldEnd_144 : decode cX5_wouldEnd 144 = .ok (.iaload, 1) := by decide +kernel
theorem dX5_wouldEnd_145 : decode cX5_wouldEnd 145 = .ok (.iaload, 1) := by decide +kernel
theorem dX5_wouldEnd_146 : decode cX5_wouldEnd 146 = .ok (.istore 9, 2) := by decide +kernel
theorem dX5_wouldEnd_148 : decode cX5_wouldEnd 148 = .ok (.iload 8, 2) := by decide +kernel
theorem dX5_wouldEnd_150 : decode cX5_wouldEnd 150 = .ok (.aload_n 0, 1) := by decide +kernel
theorem dX5_wouldEnd_151 : decode cX5_wouldEnd 151 = .ok (.getfield 25, 3) := by decide +kernel
theorem dX5_wouldEnd_154 : decode cX5_wouldEnd 154 = .ok (.iload_n 1, 1) := by decide +kernel
theorem dX5_wouldEnd_155 : decode cX5_wouldEnd 155 = .ok (.iaload, 1) := by decide +kernel
theorem dX5_wouldEnd_156 : decode cX5_wouldEnd 156 = .ok (.if_icmp .ne 14, 3) := by decide +kernel
theorem dX5_wouldEnd_159 : decode cX5_wouldEnd 159 = .ok (.iload 9, 2) := by decide +kernel
theorem dX5_wouldEnd_161 : decode cX5_wouldEnd 161 = .ok (.aload_n 0, 1) := by decide +kernel
theorem dX5_wouldEnd_162 : decode cX5_wouldEnd 162 = .ok (.getfield 25, 3) := by decide +kernel
theorem dX5_wouldEnd_165 : decode cX5_wouldEnd 165 = .ok (.iload_n 2, 1) := by decide +kernel
theorem dX5_wouldEnd_166 : decode cX5_wouldEnd 166 = .ok (.iaload, 1) := by decide +kernel
theorem dX5_wouldEnd_167 : decode cX5_wouldEnd 167 = .ok (.if_icmp .eq 25, 3) := by decide +kernel
theorem dX5_wouldEnd_170 : decode cX5_wouldEnd 170 = .ok (.iload 8, 2) := by decide +kernel
theorem dX5_wouldEnd_172 : decode cX5_wouldEnd 172 = .ok (.aload_n 0, 1) := by decide +kernel
theorem dX5_wouldEnd_173 : decode cX5_wouldEnd 173 = .ok (.getfield 25, 3) := by decide +kernel
theorem dX5_wouldEnd_176 : decode cX5_wouldEnd 176 = .ok (.iload_n 2, 1) := by decide +kernel
theorem dX5_wouldEnd_177 : decode cX5_wouldEnd 177 = .ok (.iaload, 1) := by decide +kernel
theorem dX5_wouldEnd_178 : decode cX5_wouldEnd 178 = .ok (.if_icmp .ne 18, 3) := by decide +kernel
theorem dX5_wouldEnd_181 : decode cX5_wouldEnd 181 = .ok (.iload 9, 2) := by decide +kernel
theorem dX5_wouldEnd_183 : decode cX5_wouldEnd 183 = .ok (.aload_n 0, 1) := by decide +kernel
theorem dX5_wouldEnd_184 : decode cX5_wouldEnd 184 = .ok (.getfield 25, 3) := by decide +kernel
theorem dX5_wouldEnd_187 : decode cX5_wouldEnd 187 = .ok (.iload_n 1, 1) := by decide +kernel
theorem dX5_wouldEnd_188 : decode cX5_wouldEnd 188 = .ok (.iaload, 1) := by decide +kernel
theorem dX5_wouldEnd_189 : decode cX5_wouldEnd 189 = .ok (.if_icmp .ne 7, 3) := by decide +kernel
theorem dX5_wouldEnd_192 : decode cX5_wouldEnd 192 = .ok (.iconst 1, 1) := by decide +kernel
theorem dX5_wouldEnd_193 : decode cX5_wouldEnd 193 = .ok (.goto 4, 3) := by decide +kernel
theorem dX5_wouldEnd_196 : decode cX5_wouldEnd 196 = .ok (.iconst 0, 1) := by decide +kernel
theorem dX5_wouldEnd_197 : decode cX5_wouldEnd 197 = .ok (.istore 10, 2) := by decide +kernel
theorem dX5_wouldEnd_199 : decode cX5_wouldEnd 199 = .ok (.iload 6, 2) := by decide +kernel
theorem dX5_wouldEnd_201 : decode cX5_wouldEnd 201 = .ok (.iload 10, 2) := by decide +kernel
theorem dX5_wouldEnd_203 : decode cX5_wouldEnd 203 = .ok (.ifCond .eq 7, 3) := by decide +kernel
theorem dX5_wouldEnd_206 : decode cX5_wouldEnd 206 = .ok (.iconst 1, 1) := by decide +kernel
theorem dX5_wouldEnd_207 : decode cX5_wouldEnd 207 = .ok (.goto 4, 3) := by decide +kernel
theorem dX5_wouldEnd_210 : decode cX5_wouldEnd 210 = .ok (.iconst 0, 1) := by decide +kernel
theorem dX5_wouldEnd_211 : decode cX5_wouldEnd 211 = .ok (.iadd, 1) := by decide +kernel
theorem dX5_wouldEnd_212 : decode cX5_wouldEnd 212 = .ok (.istore 6, 2) := by decide +kernel
theorem dX5_wouldEnd_214 : decode cX5_wouldEnd 214 = .ok (.iinc 7 1, 3) := by decide +kernel
theorem dX5_wouldEnd_217 : decode cX5_wouldEnd 217 = .ok (.goto (-120), 3) := by decide +kernel
theorem dX5_wouldEnd_220 : decode cX5_wouldEnd 220 = .ok (.iload 6, 2) := by decide +kernel
theorem dX5_wouldEnd_222 : decode cX5_wouldEnd 222 = .ok (.ireturn, 1) := by decide +kernel
theorem dX5_doGive_0 : decode cX5_doGive 0 = .ok (.aload_n 0, 1) := by decide +kernel
theorem dX5_doGive_1 : decode cX5_doGive 1 = .ok (.iload_n 1, 1) := by decide +kernel
theorem dX5_doGive_2 : decode cX5_doGive 2 = .ok (.invokevirtual 89, 3) := by decide +kernel
theorem dX5_doGive_5 : decode cX5_doGive 5 = .ok (.ifCond .ne 9, 3) := by decide +kernel
theorem dX5_doGive_8 : decode cX5_doGive 8 = .ok (.aload_n 0, 1) := by decide +kernel
theorem dX5_doGive_9 : decode cX5_doGive 9 = .ok (.iconst 1, 1) := by decide +kernel
theorem dX5_doGive_10 : decode cX5_doGive 10 = .ok (.invokevirtual 93, 3) := by decide +kernel
theorem dX5_doGive_13 : decode cX5_doGive 13 = .ok (.ireturn, 1) := by decide +kernel
theorem dX5_doGive_14 : decode cX5_doGive 14 = .ok (.iload_n 2, 1) := by decide +kernel
theorem dX5_doGive_15 : decode cX5_doGive 15 = .ok (.iconst 1, 1) := by decide +kernel
theorem dX5_doGive_16 : decode cX5_doGive 16 = .ok (.sipush 999, 3) := by decide +kernel
theorem dX5_doGive_19 : decode cX5_doGive 19 = .ok (.invokestatic 64, 3) := by decide +kernel
theorem dX5_doGive_22 : decode cX5_doGive 22 = .ok (.ifCond .ne 9, 3) := by decide +kernel
theorem dX5_doGive_25 : decode cX5_doGive 25 = .ok (.aload_n 0, 1) := by decide +kernel
theorem dX5_doGive_26 : decode cX5_doGive 26 = .ok (.iconst 2, 1) := by decide +kernel
theorem dX5_doGive_27 : decode cX5_doGive 27 = .ok (.invokevirtual 93, 3) := by decide +kernel
theorem dX5_doGive_30 : decode cX5_doGive 30 = .ok (.ireturn, 1) := by decide +kernel
theorem dX5_doGive_31 : decode cX5_doGive 31 = .ok (.aload_n 0, 1) := by decide +kernel
theorem dX5_doGive_32 : decode cX5_doGive 32 = .ok (.iload_n 1, 1) := by decide +kernel
theorem dX5_doGive_33 : decode cX5_doGive 33 = .ok (.invokevirtual 96, 3) := by decide +kernel
theorem dX5_doGive_36 : decode cX5_doGive 36 = .ok (.ifCond .ne 11, 3) := by decide +kernel
theorem dX5_doGive_39 : decode cX5_doGive 39 = .ok (.aload_n 0, 1) := by decide +kernel
theorem dX5_doGive_40 : decode cX5_doGive 40 = .ok (.iconst 3, 1) := by decide +kernel
theorem dX5_doGive_41 : decode cX5_doGive 41 = .ok (.iconst 2, 1) := by decide +kernel
theorem dX5_doGive_42 : decode cX5_doGive 42 = .ok (.iload_n 1, 1) := by decide +kernel
theorem dX5_doGive_43 : decode cX5_doGive 43 = .ok (.invokevirtual 72, 3) := by decide +kernel
theorem dX5_doGive_46 : decode cX5_doGive 46 = .ok (.ireturn, 1) := by decide +kernel
theorem dX5_doGive_47 : decode cX5_doGive 47 = .ok (.aload_n 0, 1) := by decide +kernel
theorem dX5_doGive_48 : decode cX5_doGive 48 = .ok (.getfield 9, 3) := by decide +kernel
theorem dX5_doGive_51 : decode cX5_doGive 51 = .ok (.bipush 53, 2) := by decide +kernel
theorem dX5_doGive_53 : decode cX5_doGive 53 = .ok (.iload_n 1, 1) := by decide +kernel
theorem dX5_doGive_54 : decode cX5_doGive 54 = .ok (.iadd, 1) := by decide +kernel
theorem dX5_doGive_55 : decode cX5_doGive 55 = .ok (.dup2, 1) := by decide +kernel
theorem dX5_doGive_56 : decode cX5_doGive 56 = .ok (.iaload, 1) := by decide +kernel
theorem dX5_doGive_57 : decode cX5_doGive 57 = .ok (.iload_n 2, 1) := by decide +kernel
theorem dX5_doGive_58 : decode cX5_doGive 58 = .ok (.iadd, 1) := by decide +kernel
theorem dX5_doGive_59 : decode cX5_doGive 59 = .ok (.iastore, 1) := by decide +kernel
theorem dX5_doGive_60 : decode cX5_doGive 60 = .ok (.aload_n 0, 1) := by decide +kernel
theorem dX5_doGive_61 : decode cX5_doGive 61 = .ok (.getfield 9, 3) := by decide +kernel
theorem dX5_doGive_64 : decode cX5_doGive 64 = .ok (.iconst 3, 1) := by decide +kernel
theorem dX5_doGive_65 : decode cX5_doGive 65 = .ok (.dup2, 1) := by decide +kernel
theorem dX5_doGive_66 : decode cX5_doGive 66 = .ok (.iaload, 1) := by decide +kernel
theorem dX5_doGive_67 : decode cX5_doGive 67 = .ok (.iload_n 2, 1) := by decide +kernel
theorem dX5_doGive_68 : decode cX5_doGive 68 = .ok (.iadd, 1) := by decide +kernel
theorem dX5_doGive_69 : decode cX5_doGive 69 = .ok (.iastore, 1) := by decide +kernel
theorem dX5_doGive_70 : decode cX5_doGive 70 = .ok (.aload_n 0, 1) := by decide +kernel
theorem dX5_doGive_71 : decode cX5_doGive 71 = .ok (.getfield 9, 3) := by decide +kernel
theorem dX5_doGive_74 : decode cX5_doGive 74 = .ok (.bipush 53, 2) := by decide +kernel
theorem dX5_doGive_76 : decode cX5_doGive 76 = .ok (.iload_n 1, 1) := by decide +kernel
theorem dX5_doGive_77 : decode cX5_doGive 77 = .ok (.iadd, 1) := by decide +kernel
theorem dX5_doGive_78 : decode cX5_doGive 78 = .ok (.iaload, 1) := by decide +kernel
theorem dX5_doGive_79 : decode cX5_doGive 79 = .ok (.ireturn, 1) := by decide +kernel
theorem dX5_give_0 : decode cX5_give 0 = .ok (.aload_n 0, 1) := by decide +kernel
theorem dX5_give_1 : decode cX5_give 1 = .ok (.invokevirtual 79, 3) := by decide +kernel
theorem dX5_give_4 : decode cX5_give 4 = .ok (.aload_n 0, 1) := by decide +kernel
theorem dX5_give_5 : decode cX5_give 5 = .ok (.aload_n 0, 1) := by decide +kernel
theorem dX5_give_6 : decode cX5_give 6 = .ok (.iload_n 1, 1) := by decide +kernel
theorem dX5_give_7 : decode cX5_give 7 = .ok (.iload_n 2, 1) := by decide +kernel
theorem dX5_give_8 : decode cX5_give 8 = .ok (.invokevirtual 185, 3) := by decide +kernel
theorem dX5_give_11 : decode cX5_give 11 = .ok (.invokevirtual 86, 3) := by decide +kernel
theorem dX5_give_14 : decode cX5_give 14 = .ok (.ireturn, 1) := by decide +kernel
theorem dX5_heirOf_0 : decode cX5_heirOf 0 = .ok (.aload_n 0, 1) := by decide +kernel
theorem dX5_heirOf_1 : decode cX5_heirOf 1 = .ok (.iload_n 1, 1) := by decide +kernel
theorem dX5_heirOf_2 : decode cX5_heirOf 2 = .ok (.invokevirtual 144, 3) := by decide +kernel
theorem dX5_heirOf_5 : decode cX5_heirOf 5 = .ok (.iconst 0, 1) := by decide +kernel
theorem dX5_heirOf_6 : decode cX5_heirOf 6 = .ok (.istore_n 2, 1) := by decide +kernel
theorem dX5_heirOf_7 : decode cX5_heirOf 7 = .ok (.iload_n 2, 1) := by decide +kernel
theorem dX5_heirOf_8 : decode cX5_heirOf 8 = .ok (.aload_n 0, 1) := by decide +kernel
theorem dX5_heirOf_9 : decode cX5_heirOf 9 = .ok (.getfield 137, 3) := by decide +kernel
theorem dX5_heirOf_12 : decode cX5_heirOf 12 = .ok (.if_icmp .ge 29, 3) := by decide +kernel
theorem dX5_heirOf_15 : decode cX5_heirOf 15 = .ok (.aload_n 0, 1) := by decide +kernel
theorem dX5_heirOf_16 : decode cX5_heirOf 16 = .ok (.aload_n 0, 1) := by decide +kernel
theorem dX5_heirOf_17 : decode cX5_heirOf 17 = .ok (.getfield 22, 3) := by decide +kernel
theorem dX5_heirOf_20 : decode cX5_heirOf 20 = .ok (.iload_n 2, 1) := by decide +kernel
theorem dX5_heirOf_21 : decode cX5_heirOf 21 = .ok (.iaload, 1) := by decide +kernel
theorem dX5_heirOf_22 : decode cX5_heirOf 22 = .ok (.invokevirtual 96, 3) := by decide +kernel
theorem dX5_heirOf_25 : decode cX5_heirOf 25 = .ok (.ifCond .eq 10, 3) := by decide +kernel
theorem dX5_heirOf_28 : decode cX5_heirOf 28 = .ok (.aload_n 0, 1) := by decide +kernel
theorem dX5_heirOf_29 : decode cX5_heirOf 29 = .ok (.getfield 22, 3) := by decide +kernel
theorem dX5_heirOf_32 : decode cX5_heirOf 32 = .ok (.iload_n 2, 1) := by decide +kernel
theorem dX5_heirOf_33 : decode cX5_heirOf 33 = .ok (.iaload, 1) := by decide +kernel
theorem dX5_heirOf_34 : decode cX5_heirOf 34 = .ok (.ireturn, 1) := by decide +kernel
theorem dX5_heirOf_35 : decode cX5_heirOf 35 = .ok (.iinc 2 1, 3) := by decide +kernel
theorem dX5_heirOf_38 : decode cX5_heirOf 38 = .ok (.goto (-31), 3) := by decide +kernel
theorem dX5_heirOf_41 : decode cX5_heirOf 41 = .ok (.aload_n 0, 1) := by decide +kernel
theorem dX5_heirOf_42 : decode cX5_heirOf 42 = .ok (.getfield 9, 3) := by decide +kernel
theorem dX5_heirOf_45 : decode cX5_heirOf 45 = .ok (.bipush 29, 2) := by decide +kernel
theorem dX5_heirOf_47 : decode cX5_heirOf 47 = .ok (.iload_n 1, 1) := by decide +kernel
theorem dX5_heirOf_48 : decode cX5_heirOf 48 = .ok (.iadd, 1) := by decide +kernel
theorem dX5_heirOf_49 : decode cX5_heirOf 49 = .ok (.iaload, 1) := by decide +kernel
theorem dX5_heirOf_50 : decode cX5_heirOf 50 = .ok (.ifCond .lt 13, 3) := by decide +kernel
theorem dX5_heirOf_53 : decode cX5_heirOf 53 = .ok (.aload_n 0, 1) := by decide +kernel
theorem dX5_heirOf_54 : decode cX5_heirOf 54 = .ok (.getfield 9, 3) := by decide +kernel
theorem dX5_heirOf_57 : decode cX5_heirOf 57 = .ok (.bipush 29, 2) := by decide +kernel
theorem dX5_heirOf_59 : decode cX5_heirOf 59 = .ok (.iload_n 1, 1) := by decide +kernel
theorem dX5_heirOf_60 : decode cX5_heirOf 60 = .ok (.iadd, 1) := by decide +kernel
theorem dX5_heirOf_61 : decode cX5_heirOf 61 = .ok (.iaload, 1) := by decide +kernel
theorem dX5_heirOf_62 : decode cX5_heirOf 62 = .ok (.ireturn, 1) := by decide +kernel
theorem dX5_heirOf_63 : decode cX5_heirOf 63 = .ok (.aload_n 0, 1) := by decide +kernel
theorem dX5_heirOf_64 : decode cX5_heirOf 64 = .ok (.iload_n 1, 1) := by decide +kernel
theorem dX5_heirOf_65 : decode cX5_heirOf 65 = .ok (.invokevirtual 68, 3) := by decide +kernel
theorem dX5_heirOf_68 : decode cX5_heirOf 68 = .ok (.istore_n 2, 1) := by decide +kernel
theorem dX5_heirOf_69 : decode cX5_heirOf 69 = .ok (.iload_n 2, 1) := by decide +kernel
theorem dX5_heirOf_70 : decode cX5_heirOf 70 = .ok (.ifCond .lt 20, 3) := by decide +kernel
theorem dX5_heirOf_73 : decode cX5_heirOf 73 = .ok (.aload_n 0, 1) := by decide +kernel
theorem dX5_heirOf_74 : decode cX5_heirOf 74 = .ok (.iload_n 2, 1) := by decide +kernel
theorem dX5_heirOf_75 : decode cX5_heirOf 75 = .ok (.invokevirtual 96, 3) := by decide +kernel
theorem dX5_heirOf_78 : decode cX5_heirOf 78 = .ok (.ifCond .ne 12, 3) := by decide +kernel
theorem dX5_heirOf_81 : decode cX5_heirOf 81 = .ok (.aload_n 0, 1) := by decide +kernel
theorem dX5_heirOf_82 : decode cX5_heirOf 82 = .ok (.iload_n 2, 1) := by decide +kernel
theorem dX5_heirOf_83 : decode cX5_heirOf 83 = .ok (.invokevirtual 68, 3) := by decide +kernel
theorem dX5_heirOf_86 : decode cX5_heirOf 86 = .ok (.istore_n 2, 1) := by decide +kernel
theorem dX5_heirOf_87 : decode cX5_heirOf 87 = .ok (.goto (-18), 3) := by decide +kernel
theorem dX5_heirOf_90 : decode cX5_heirOf 90 = .ok (.iload_n 2, 1) := by decide +kernel
theorem dX5_heirOf_91 : decode cX5_heirOf 91 = .ok (.ireturn, 1) := by decide +kernel
theorem dX5_doDie_0 : decode cX5_doDie 0 = .ok (.aload_n 0, 1) := by decide +kernel
theorem dX5_doDie_1 : decode cX5_doDie 1 = .ok (.iload_n 1, 1) := by decide +kernel
theorem dX5_doDie_2 : decode cX5_doDie 2 = .ok (.invokevirtual 89, 3) := by decide +kernel
theorem dX5_doDie_5 : decode cX5_doDie 5 = .ok (.ifCond .ne 9, 3) := by decide +kernel
theorem dX5_doDie_8 : decode cX5_doDie 8 = .ok (.aload_n 0, 1) := by decide +kernel
theorem dX5_doDie_9 : decode cX5_doDie 9 = .ok (.iconst 1, 1) := by decide +kernel
theorem dX5_doDie_10 : decode cX5_doDie 10 = .ok (.invokevirtual 93, 3) := by decide +kernel
theorem dX5_doDie_13 : decode cX5_doDie 13 = .ok (.ireturn, 1) := by decide +kernel
theorem dX5_doDie_14 : decode cX5_doDie 14 = .ok (.aload_n 0, 1) := by decide +kernel
theorem dX5_doDie_15 : decode cX5_doDie 15 = .ok (.iload_n 1, 1) := by decide +kernel
theorem dX5_doDie_16 : decode cX5_doDie 16 = .ok (.invokevirtual 96, 3) := by decide +kernel
theorem dX5_doDie_19 : decode cX5_doDie 19 = .ok (.ifCond .ne 11, 3) := by decide +kernel
theorem dX5_doDie_22 : decode cX5_doDie 22 = .ok (.aload_n 0, 1) := by decide +kernel
theorem dX5_doDie_23 : decode cX5_doDie 23 = .ok (.iconst 2, 1) := by decide +kernel
theorem dX5_doDie_24 : decode cX5_doDie 24 = .ok (.iconst 2, 1) := by decide +kernel
theorem dX5_doDie_25 : decode cX5_doDie 25 = .ok (.iload_n 1, 1) := by decide +kernel
theorem dX5_doDie_26 : decode cX5_doDie 26 = .ok (.invokevirtual 72, 3) := by decide +kernel
theorem dX5_doDie_29 : decode cX5_doDie 29 = .ok (.ireturn, 1) := by decide +kernel
theorem dX5_doDie_30 : decode cX5_doDie 30 = .ok (.aload_n 0, 1) := by decide +kernel
theorem dX5_doDie_31 : decode cX5_doDie 31 = .ok (.iload_n 1, 1) := by decide +kernel
theorem dX5_doDie_32 : decode cX5_doDie 32 = .ok (.invokevirtual 188, 3) := by decide +kernel
theorem dX5_doDie_35 : decode cX5_doDie 35 = .ok (.istore_n 2, 1) := by decide +kernel
theorem dX5_doDie_36 : decode cX5_doDie 36 = .ok (.aload_n 0, 1) := by decide +kernel
theorem dX5_doDie_37 : decode cX5_doDie 37 = .ok (.getfield 9, 3) := by decide +kernel
theorem dX5_doDie_40 : decode cX5_doDie 40 = .ok (.bipush 53, 2) := by decide +kernel
theorem dX5_doDie_42 : decode cX5_doDie 42 = .ok (.iload_n 1, 1) := by decide +kernel
theorem dX5_doDie_43 : decode cX5_doDie 43 = .ok (.iadd, 1) := by decide +kernel
theorem dX5_doDie_44 : decode cX5_doDie 44 = .ok (.iaload, 1) := by decide +kernel
theorem dX5_doDie_45 : decode cX5_doDie 45 = .ok (.istore_n 3, 1) := by decide +kernel
theorem dX5_doDie_46 : decode cX5_doDie 46 = .ok (.aload_n 0, 1) := by decide +kernel
theorem dX5_doDie_47 : decode cX5_doDie 47 = .ok (.getfield 9, 3) := by decide +kernel
theorem dX5_doDie_50 : decode cX5_doDie 50 = .ok (.bipush 53, 2) := by decide +kernel
theorem dX5_doDie_52 : decode cX5_doDie 52 = .ok (.iload_n 1, 1) := by decide +kernel
theorem dX5_doDie_53 : decode cX5_doDie 53 = .ok (.iadd, 1) := by decide +kernel
theorem dX5_doDie_54 : decode cX5_doDie 54 = .ok (.iconst 0, 1) := by decide +kernel
theorem dX5_doDie_55 : decode cX5_doDie 55 = .ok (.iastore, 1) := by decide +kernel
theorem dX5_doDie_56 : decode cX5_doDie 56 = .ok (.aload_n 0, 1) := by decide +kernel
theorem dX5_doDie_57 : decode cX5_doDie 57 = .ok (.getfield 9, 3) := by decide +kernel
theorem dX5_doDie_60 : decode cX5_doDie 60 = .ok (.iload_n 2, 1) := by decide +kernel
theorem dX5_doDie_61 : decode cX5_doDie 61 = .ok (.ifCond .ge 7, 3) := by decide +kernel
theorem dX5_doDie_64 : decode cX5_doDie 64 = .ok (.iconst 4, 1) := by decide +kernel
theorem dX5_doDie_65 : decode cX5_doDie 65 = .ok (.goto 7, 3) := by decide +kernel
theorem dX5_doDie_68 : decode cX5_doDie 68 = .ok (.bipush 53, 2) := by decide +kernel
theorem dX5_doDie_70 : decode cX5_doDie 70 = .ok (.iload_n 2, 1) := by decide +kernel
theorem dX5_doDie_71 : decode cX5_doDie 71 = .ok (.iadd, 1) := by decide +kernel
theorem dX5_doDie_72 : decode cX5_doDie 72 = .ok (.dup2, 1) := by decide +kernel
theorem dX5_doDie_73 : decode cX5_doDie 73 = .ok (.iaload, 1) := by decide +kernel
theorem dX5_doDie_74 : decode cX5_doDie 74 = .ok (.iload_n 3, 1) := by decide +kernel
theorem dX5_doDie_75 : decode cX5_doDie 75 = .ok (.iadd, 1) := by decide +kernel
theorem dX5_doDie_76 : decode cX5_doDie 76 = .ok (.iastore, 1) := by decide +kernel
theorem dX5_doDie_77 : decode cX5_doDie 77 = .ok (.aload_n 0, 1) := by decide +kernel
theorem dX5_doDie_78 : decode cX5_doDie 78 = .ok (.getfield 9, 3) := by decide +kernel
theorem dX5_doDie_81 : decode cX5_doDie 81 = .ok (.bipush 29, 2) := by decide +kernel
theorem dX5_doDie_83 : decode cX5_doDie 83 = .ok (.iload_n 1, 1) := by decide +kernel
theorem dX5_doDie_84 : decode cX5_doDie 84 = .ok (.iadd, 1) := by decide +kernel
theorem dX5_doDie_85 : decode cX5_doDie 85 = .ok (.iaload, 1) := by decide +kernel
theorem dX5_doDie_86 : decode cX5_doDie 86 = .ok (.ifCond .lt 8, 3) := by decide +kernel
theorem dX5_doDie_89 : decode cX5_doDie 89 = .ok (.aload_n 0, 1) := by decide +kernel
theorem dX5_doDie_90 : decode cX5_doDie 90 = .ok (.iload_n 1, 1) := by decide +kernel
theorem dX5_doDie_91 : decode cX5_doDie 91 = .ok (.invokevirtual 170, 3) := by decide +kernel
theorem dX5_doDie_94 : decode cX5_doDie 94 = .ok (.aload_n 0, 1) := by decide +kernel
theorem dX5_doDie_95 : decode cX5_doDie 95 = .ok (.getfield 9, 3) := by decide +kernel
theorem dX5_doDie_98 : decode cX5_doDie 98 = .ok (.bipush 77, 2) := by decide +kernel
theorem dX5_doDie_100 : decode cX5_doDie 100 = .ok (.iload_n 1, 1) := by decide +kernel
theorem dX5_doDie_101 : decode cX5_doDie 101 = .ok (.iadd, 1) := by decide +kernel
theorem dX5_doDie_102 : decode cX5_doDie 102 = .ok (.iconst 0, 1) := by decide +kernel
theorem dX5_doDie_103 : decode cX5_doDie 103 = .ok (.iastore, 1) := by decide +kernel
theorem dX5_doDie_104 : decode cX5_doDie 104 = .ok (.iload_n 2, 1) := by decide +kernel
theorem dX5_doDie_105 : decode cX5_doDie 105 = .ok (.ireturn, 1) := by decide +kernel
theorem dX5_die_0 : decode cX5_die 0 = .ok (.aload_n 0, 1) := by decide +kernel
theorem dX5_die_1 : decode cX5_die 1 = .ok (.invokevirtual 79, 3) := by decide +kernel
theorem dX5_die_4 : decode cX5_die 4 = .ok (.aload_n 0, 1) := by decide +kernel
theorem dX5_die_5 : decode cX5_die 5 = .ok (.aload_n 0, 1) := by decide +kernel
theorem dX5_die_6 : decode cX5_die 6 = .ok (.iload_n 1, 1) := by decide +kernel
theorem dX5_die_7 : decode cX5_die 7 = .ok (.invokevirtual 191, 3) := by decide +kernel
theorem dX5_die_10 : decode cX5_die 10 = .ok (.invokevirtual 86, 3) := by decide +kernel
theorem dX5_die_13 : decode cX5_die 13 = .ok (.ireturn, 1) := by decide +kernel
theorem dX5_heir_0 : decode cX5_heir 0 = .ok (.aload_n 0, 1) := by decide +kernel
theorem dX5_heir_1 : decode cX5_heir 1 = .ok (.aload_n 0, 1) := by decide +kernel
theorem dX5_heir_2 : decode cX5_heir 2 = .ok (.iload_n 1, 1) := by decide +kernel
theorem dX5_heir_3 : decode cX5_heir 3 = .ok (.invokevirtual 89, 3) := by decide +kernel
theorem dX5_heir_6 : decode cX5_heir 6 = .ok (.ifCond .ne 7, 3) := by decide +kernel
theorem dX5_heir_9 : decode cX5_heir 9 = .ok (.iconst 1, 1) := by decide +kernel
theorem dX5_heir_10 : decode cX5_heir 10 = .ok (.goto 16, 3) := by decide +kernel
theorem dX5_heir_13 : decode cX5_heir 13 = .ok (.aload_n 0, 1) := by decide +kernel
theorem dX5_heir_14 : decode cX5_heir 14 = .ok (.iload_n 1, 1) := by decide +kernel
theorem dX5_heir_15 : decode cX5_heir 15 = .ok (.invokevirtual 96, 3) := by decide +kernel
theorem dX5_heir_18 : decode cX5_heir 18 = .ok (.ifCond .ne 7, 3) := by decide +kernel
theorem dX5_heir_21 : decode cX5_heir 21 = .ok (.iconst 2, 1) := by decide +kernel
theorem dX5_heir_22 : decode cX5_heir 22 = .ok (.goto 4, 3) := by decide +kernel
theorem dX5_heir_25 : decode cX5_heir 25 = .ok (.iconst 0, 1) := by decide +kernel
theorem dX5_heir_26 : decode cX5_heir 26 = .ok (.putfield 42, 3) := by decide +kernel
theorem dX5_heir_29 : decode cX5_heir 29 = .ok (.aload_n 0, 1) := by decide +kernel
theorem dX5_heir_30 : decode cX5_heir 30 = .ok (.getfield 42, 3) := by decide +kernel
theorem dX5_heir_33 : decode cX5_heir 33 = .ok (.ifCond .le 7, 3) := by decide +kernel
theorem dX5_heir_36 : decode cX5_heir 36 = .ok (.iconst 0, 1) := by decide +kernel
theorem dX5_heir_37 : decode cX5_heir 37 = .ok (.goto 8, 3) := by decide +kernel
theorem dX5_heir_40 : decode cX5_heir 40 = .ok (.aload_n 0, 1) := by decide +kernel
theorem dX5_heir_41 : decode cX5_heir 41 = .ok (.iload_n 1, 1) := by decide +kernel
theorem dX5_heir_42 : decode cX5_heir 42 = .ok (.invokevirtual 188, 3) := by decide +kernel
theorem dX5_heir_45 : decode cX5_heir 45 = .ok (.ireturn, 1) := by decide +kernel
theorem dX5_ranked_0 : decode cX5_ranked 0 = .ok (.aload_n 0, 1) := by decide +kernel
theorem dX5_ranked_1 : decode cX5_ranked 1 = .ok (.iload_n 1, 1) := by decide +kernel
theorem dX5_ranked_2 : decode cX5_ranked 2 = .ok (.iconst 0, 1) := by decide +kernel
theorem dX5_ranked_3 : decode cX5_ranked 3 = .ok (.aload_n 0, 1) := by decide +kernel
theorem dX5_ranked_4 : decode cX5_ranked 4 = .ok (.getfield 9, 3) := by decide +kernel
theorem dX5_ranked_7 : decode cX5_ranked 7 = .ok (.iconst 0, 1) := by decide +kernel
theorem dX5_ranked_8 : decode cX5_ranked 8 = .ok (.iaload, 1) := by decide +kernel
theorem dX5_ranked_9 : decode cX5_ranked 9 = .ok (.iconst 1, 1) := by decide +kernel
theorem dX5_ranked_10 : decode cX5_ranked 10 = .ok (.isub, 1) := by decide +kernel
theorem dX5_ranked_11 : decode cX5_ranked 11 = .ok (.invokestatic 64, 3) := by decide +kernel
theorem dX5_ranked_14 : decode cX5_ranked 14 = .ok (.ifCond .eq 7, 3) := by decide +kernel
theorem dX5_ranked_17 : decode cX5_ranked 17 = .ok (.iconst 0, 1) := by decide +kernel
theorem dX5_ranked_18 : decode cX5_ranked 18 = .ok (.goto 4, 3) := by decide +kernel
theorem dX5_ranked_21 : decode cX5_ranked 21 = .ok (.iconst 1, 1) := by decide +kernel
theorem dX5_ranked_22 : decode cX5_ranked 22 = .ok (.putfield 42, 3) := by decide +kernel
theorem dX5_ranked_25 : decode cX5_ranked 25 = .ok (.iconst 0, 1) := by decide +kernel
theorem dX5_ranked_26 : decode cX5_ranked 26 = .ok (.istore_n 2, 1) := by decide +kernel
theorem dX5_ranked_27 : decode cX5_ranked 27 = .ok (.iconst 0, 1) := by decide +kernel
theorem dX5_ranked_28 : decode cX5_ranked 28 = .ok (.istore_n 3, 1) := by decide +kernel
theorem dX5_ranked_29 : decode cX5_ranked 29 = .ok (.iload_n 3, 1) := by decide +kernel
theorem dX5_ranked_30 : decode cX5_ranked 30 = .ok (.aload_n 0, 1) := by decide +kernel
theorem dX5_ranked_31 : decode cX5_ranked 31 = .ok (.getfield 9, 3) := by decide +kernel
theorem dX5_ranked_34 : decode cX5_ranked 34 = .ok (.iconst 0, 1) := by decide +kernel
theorem dX5_ranked_35 : decode cX5_ranked 35 = .ok (.iaload, 1) := by decide +kernel
theorem dX5_ranked_36 : decode cX5_ranked 36 = .ok (.if_icmp .ge 99, 3) := by decide +kernel
theorem dX5_ranked_39 : decode cX5_ranked 39 = .ok (.aload_n 0, 1) := by decide +kernel
theorem dX5_ranked_40 : decode cX5_ranked 40 = .ok (.getfield 42, 3) := by decide +kernel
theorem dX5_ranked_43 : decode cX5_ranked 43 = .ok (.ifCond .ne 92, 3) := by decide +kernel
theorem dX5_ranked_46 : decode cX5_ranked 46 = .ok (.iconst 0, 1) := by decide +kernel
theorem dX5_ranked_47 : decode cX5_ranked 47 = .ok (.istore 4, 2) := by decide +kernel
theorem dX5_ranked_49 : decode cX5_ranked 49 = .ok (.iconst 0, 1) := by decide +kernel
theorem dX5_ranked_50 : decode cX5_ranked 50 = .ok (.istore 5, 2) := by decide +kernel
theorem dX5_ranked_52 : decode cX5_ranked 52 = .ok (.iload 5, 2) := by decide +kernel
theorem dX5_ranked_54 : decode cX5_ranked 54 = .ok (.aload_n 0, 1) := by decide +kernel
theorem dX5_ranked_55 : decode cX5_ranked 55 = .ok (.getfield 9, 3) := by decide +kernel
theorem dX5_ranked_58 : decode cX5_ranked 58 = .ok (.iconst 0, 1) := by decide +kernel
theorem dX5_ranked_59 : decode cX5_ranked 59 = .ok (.iaload, 1) := by decide +kernel
theorem dX5_ranked_60 : decode cX5_ranked 60 = .ok (.if_icmp .ge 57, 3) := by decide +kernel
theorem dX5_ranked_63 : decode cX5_ranked 63 = .ok (.aload_n 0, 1) := by decide +kernel
theorem dX5_ranked_64 : decode cX5_ranked 64 = .ok (.getfield 9, 3) := by decide +kernel
theorem dX5_ranked_67 : decode cX5_ranked 67 = .ok (.bipush 53, 2) := by decide +kernel
theorem dX5_ranked_69 : decode cX5_ranked 69 = .ok (.iload 5, 2) := by decide +kernel
theorem dX5_ranked_71 : decode cX5_ranked 71 = .ok (.iadd, 1) := by decide +kernel
theorem dX5_ranked_72 : decode cX5_ranked 72 = .ok (.iaload, 1) := by decide +kernel
theorem dX5_ranked_73 : decode cX5_ranked 73 = .ok (.aload_n 0, 1) := by decide +kernel
theorem dX5_ranked_74 : decode cX5_ranked 74 = .ok (.getfield 9, 3) := by decide +kernel
theorem dX5_ranked_77 : decode cX5_ranked 77 = .ok (.bipush 53, 2) := by decide +kernel
theorem dX5_ranked_79 : decode cX5_ranked 79 = .ok (.iload_n 3, 1) := by decide +kernel
theorem dX5_ranked_80 : decode cX5_ranked 80 = .ok (.iadd, 1) := by decide +kernel
theorem dX5_ranked_81 : decode cX5_ranked 81 = .ok (.iaload, 1) := by decide +kernel
theorem dX5_ranked_82 : decode cX5_ranked 82 = .ok (.isub, 1) := by decide +kernel
theorem dX5_ranked_83 : decode cX5_ranked 83 = .ok (.istore 6, 2) := by decide +kernel
theorem dX5_ranked_85 : decode cX5_ranked 85 = .ok (.iload 4, 2) := by decide +kernel
theorem dX5_ranked_87 : decode cX5_ranked 87 = .ok (.iload 6, 2) := by decide +kernel
theorem dX5_ranked_89 : decode cX5_ranked 89 = .ok (.ifCond .gt 14, 3) := by decide +kernel
theorem dX5_ranked_92 : decode cX5_ranked 92 = .ok (.iload 6, 2) := by decide +kernel
theorem dX5_ranked_94 : decode cX5_ranked 94 = .ok (.ifCond .ne 13, 3) := by decide +kernel
theorem dX5_ranked_97 : decode cX5_ranked 97 = .ok (.iload 5, 2) := by decide +kernel
theorem dX5_ranked_99 : decode cX5_ranked 99 = .ok (.iload_n 3, 1) := by decide +kernel
theorem dX5_ranked_100 : decode cX5_ranked 100 = .ok (.if_icmp .ge 7, 3) := by decide +kernel
theorem dX5_ranked_103 : decode cX5_ranked 103 = .ok (.iconst 1, 1) := by decide +kernel
theorem dX5_ranked_104 : decode cX5_ranked 104 = .ok (.goto 4, 3) := by decide +kernel
theorem dX5_ranked_107 : decode cX5_ranked 107 = .ok (.iconst 0, 1) := by decide +kernel
theorem dX5_ranked_108 : decode cX5_ranked 108 = .ok (.iadd, 1) := by decide +kernel
theorem dX5_ranked_109 : decode cX5_ranked 109 = .ok (.istore 4, 2) := by decide +kernel
theorem dX5_ranked_111 : decode cX5_ranked 111 = .ok (.iinc 5 1, 3) := by decide +kernel
theorem dX5_ranked_114 : decode cX5_ranked 114 = .ok (.goto (-62), 3) := by decide +kernel
theorem dX5_ranked_117 : decode cX5_ranked 117 = .ok (.iload 4, 2) := by decide +kernel
theorem dX5_ranked_119 : decode cX5_ranked 119 = .ok (.iload_n 1, 1) := by decide +kernel
theorem dX5_ranked_120 : decode cX5_ranked 120 = .ok (.if_icmp .ne 7, 3) := by decide +kernel
theorem dX5_ranked_123 : decode cX5_ranked 123 = .ok (.iload_n 3, 1) := by decide +kernel
theorem dX5_ranked_124 : decode cX5_ranked 124 = .ok (.goto 4, 3) := by decide +kernel
theorem dX5_ranked_127 : decode cX5_ranked 127 = .ok (.iload_n 2, 1) := by decide +kernel
theorem dX5_ranked_128 : decode cX5_ranked 128 = .ok (.istore_n 2, 1) := by decide +kernel
theorem dX5_ranked_129 : decode cX5_ranked 129 = .ok (.iinc 3 1, 3) := by decide +kernel
theorem dX5_ranked_132 : decode cX5_ranked 132 = .ok (.goto (-103), 3) := by decide +kernel
theorem dX5_ranked_135 : decode cX5_ranked 135 = .ok (.iload_n 2, 1) := by decide +kernel
theorem dX5_ranked_136 : decode cX5_ranked 136 = .ok (.ireturn, 1) := by decide +kernel
theorem dX5_personOf_0 : decode cX5_personOf 0 = .ok (.aload_n 0, 1) := by decide +kernel
theorem dX5_personOf_1 : decode cX5_personOf 1 = .ok (.aload_n 0, 1) := by decide +kernel
theorem dX5_personOf_2 : decode cX5_personOf 2 = .ok (.iload_n 1, 1) := by decide +kernel
theorem dX5_personOf_3 : decode cX5_personOf 3 = .ok (.invokevirtual 89, 3) := by decide +kernel
theorem dX5_personOf_6 : decode cX5_personOf 6 = .ok (.ifCond .ne 7, 3) := by decide +kernel
theorem dX5_personOf_9 : decode cX5_personOf 9 = .ok (.iconst 1, 1) := by decide +kernel
theorem dX5_personOf_10 : decode cX5_personOf 10 = .ok (.goto 18, 3) := by decide +kernel
theorem dX5_personOf_13 : decode cX5_personOf 13 = .ok (.iload_n 2, 1) := by decide +kernel
theorem dX5_personOf_14 : decode cX5_personOf 14 = .ok (.iconst 0, 1) := by decide +kernel
theorem dX5_personOf_15 : decode cX5_personOf 15 = .ok (.bipush 9, 2) := by decide +kernel
theorem dX5_personOf_17 : decode cX5_personOf 17 = .ok (.invokestatic 64, 3) := by decide +kernel
theorem dX5_personOf_20 : decode cX5_personOf 20 = .ok (.ifCond .ne 7, 3) := by decide +kernel
theorem dX5_personOf_23 : decode cX5_personOf 23 = .ok (.iconst 2, 1) := by decide +kernel
theorem dX5_personOf_24 : decode cX5_personOf 24 = .ok (.goto 4, 3) := by decide +kernel
theorem dX5_personOf_27 : decode cX5_personOf 27 = .ok (.iconst 0, 1) := by decide +kernel
theorem dX5_personOf_28 : decode cX5_personOf 28 = .ok (.putfield 42, 3) := by decide +kernel
theorem dX5_personOf_31 : decode cX5_personOf 31 = .ok (.aload_n 0, 1) := by decide +kernel
theorem dX5_personOf_32 : decode cX5_personOf 32 = .ok (.getfield 42, 3) := by decide +kernel
theorem dX5_personOf_35 : decode cX5_personOf 35 = .ok (.ifCond .le 5, 3) := by decide +kernel
theorem dX5_personOf_38 : decode cX5_personOf 38 = .ok (.iconst 0, 1) := by decide +kernel
theorem dX5_personOf_39 : decode cX5_personOf 39 = .ok (.ireturn, 1) := by decide +kernel
theorem dX5_personOf_40 : decode cX5_personOf 40 = .ok (.iconst 0, 1) := by decide +kernel
theorem dX5_personOf_41 : decode cX5_personOf 41 = .ok (.istore_n 3, 1) := by decide +kernel
theorem dX5_personOf_42 : decode cX5_personOf 42 = .ok (.iload_n 2, 1) := by decide +kernel
theorem dX5_personOf_43 : decode cX5_personOf 43 = .ok (.tableswitch 153 0 8 #[49, 55, 61, 101, 111, 121, 131, 141, 147], 49) := by decide +kernel
theorem dX5_personOf_92 : decode cX5_personOf 92 = .ok (.aload_n 0, 1) := by decide +kernel
theorem dX5_personOf_93 : decode cX5_personOf 93 = .ok (.iload_n 1, 1) := by decide +kernel
theorem dX5_personOf_94 : decode cX5_personOf 94 = .ok (.invokevirtual 68, 3) := by decide +kernel
theorem dX5_personOf_97 : decode cX5_personOf 97 = .ok (.ireturn, 1) := by decide +kernel
theorem dX5_personOf_98 : decode cX5_personOf 98 = .ok (.aload_n 0, 1) := by decide +kernel
theorem dX5_personOf_99 : decode cX5_personOf 99 = .ok (.iload_n 1, 1) := by decide +kernel
theorem dX5_personOf_100 : decode cX5_personOf 100 = .ok (.invokevirtual 118, 3) := by decide +kernel
theorem dX5_personOf_103 : decode cX5_personOf 103 = .ok (.ireturn, 1) := by decide +kernel
theorem dX5_personOf_104 : decode cX5_personOf 104 = .ok (.iconst 0, 1) := by decide +kernel
theorem dX5_personOf_105 : decode cX5_personOf 105 = .ok (.istore 4, 2) := by decide +kernel
theorem dX5_personOf_107 : decode cX5_personOf 107 = .ok (.iload 4, 2) := by decide +kernel
theorem dX5_personOf_109 : decode cX5_personOf 109 = .ok (.aload_n 0, 1) := by decide +kernel
theorem dX5_personOf_110 : decode cX5_personOf 110 = .ok (.getfield 9, 3) := by decide +kernel
theorem dX5_personOf_113 : decode cX5_personOf 113 = .ok (.iconst 0, 1) := by decide +kernel
theorem dX5_personOf_114 : decode cX5_personOf 114 = .ok (.iaload, 1) := by decide +kernel
theorem dX5_personOf_115 : decode cX5_personOf 115 = .ok (.if_icmp .ge 27, 3) := by decide +kernel
theorem dX5_personOf_118 : decode cX5_personOf 118 = .ok (.iload_n 3, 1) := by decide +kernel
theorem dX5_personOf_119 : decode cX5_personOf 119 = .ok (.aload_n 0, 1) := by decide +kernel
theorem dX5_personOf_120 : decode cX5_personOf 120 = .ok (.iload 4, 2) := by decide +kernel
theorem dX5_personOf_122 : decode cX5_personOf 122 = .ok (.invokevirtual 68, 3) := by decide +kernel
theorem dX5_personOf_125 : decode cX5_personOf 125 = .ok (.iload_n 1, 1) := by decide +kernel
theorem dX5_personOf_126 : decode cX5_personOf 126 = .ok (.if_icmp .ne 7, 3) := by decide +kernel
theorem dX5_personOf_129 : decode cX5_personOf 129 = .ok (.iconst 1, 1) := by decide +kernel
theorem dX5_personOf_130 : decode cX5_personOf 130 = .ok (.goto 4, 3) := by decide +kernel
theorem dX5_personOf_133 : decode cX5_personOf 133 = .ok (.iconst 0, 1) := by decide +kernel
theorem dX5_personOf_134 : decode cX5_personOf 134 = .ok (.iadd, 1) := by decide +kernel
theorem dX5_personOf_135 : decode cX5_personOf 135 = .ok (.istore_n 3, 1) := by decide +kernel
theorem dX5_personOf_136 : decode cX5_personOf 136 = .ok (.iinc 4 1, 3) := by decide +kernel
theorem dX5_personOf_139 : decode cX5_personOf 139 = .ok (.goto (-32), 3) := by decide +kernel
theorem dX5_personOf_142 : decode cX5_personOf 142 = .ok (.iload_n 3, 1) := by decide +kernel
theorem dX5_personOf_143 : decode cX5_personOf 143 = .ok (.ireturn, 1) := by decide +kernel
theorem dX5_personOf_144 : decode cX5_personOf 144 = .ok (.aload_n 0, 1) := by decide +kernel
theorem dX5_personOf_145 : decode cX5_personOf 145 = .ok (.iload_n 1, 1) := by decide +kernel
theorem dX5_personOf_146 : decode cX5_personOf 146 = .ok (.invokevirtual 144, 3) := by decide +kernel
theorem dX5_personOf_149 : decode cX5_personOf 149 = .ok (.aload_n 0, 1) := by decide +kernel
theorem dX5_personOf_150 : decode cX5_personOf 150 = .ok (.getfield 137, 3) := by decide +kernel
theorem dX5_personOf_153 : decode cX5_personOf 153 = .ok (.ireturn, 1) := by decide +kernel
theorem dX5_personOf_154 : decode cX5_personOf 154 = .ok (.aload_n 0, 1) := by decide +kernel
theorem dX5_personOf_155 : decode cX5_personOf 155 = .ok (.getfield 9, 3) := by decide +kernel
theorem dX5_personOf_158 : decode cX5_personOf 158 = .ok (.bipush 29, 2) := by decide +kernel
theorem dX5_personOf_160 : decode cX5_personOf 160 = .ok (.iload_n 1, 1) := by decide +kernel
theorem dX5_personOf_161 : decode cX5_personOf 161 = .ok (.iadd, 1) := by decide +kernel
theorem dX5_personOf_162 : decode cX5_personOf 162 = .ok (.iaload, 1) := by decide +kernel
theorem dX5_personOf_163 : decode cX5_personOf 163 = .ok (.ireturn, 1) := by decide +kernel
theorem dX5_personOf_164 : decode cX5_personOf 164 = .ok (.aload_n 0, 1) := by decide +kernel
theorem dX5_personOf_165 : decode cX5_personOf 165 = .ok (.getfield 9, 3) := by decide +kernel
theorem dX5_personOf_168 : decode cX5_personOf 168 = .ok (.bipush 53, 2) := by decide +kernel
theorem dX5_personOf_170 : decode cX5_personOf 170 = .ok (.iload_n 1, 1) := by decide +kernel
theorem dX5_personOf_171 : decode cX5_personOf 171 = .ok (.iadd, 1) := by decide +kernel
theorem dX5_personOf_172 : decode cX5_personOf 172 = .ok (.iaload, 1) := by decide +kernel
theorem dX5_personOf_173 : decode cX5_personOf 173 = .ok (.ireturn, 1) := by decide +kernel
theorem dX5_personOf_174 : decode cX5_personOf 174 = .ok (.aload_n 0, 1) := by decide +kernel
theorem dX5_personOf_175 : decode cX5_personOf 175 = .ok (.getfield 9, 3) := by decide +kernel
theorem dX5_personOf_178 : decode cX5_personOf 178 = .ok (.bipush 77, 2) := by decide +kernel
theorem dX5_personOf_180 : decode cX5_personOf 180 = .ok (.iload_n 1, 1) := by decide +kernel
theorem dX5_personOf_181 : decode cX5_personOf 181 = .ok (.iadd, 1) := by decide +kernel
theorem dX5_personOf_182 : decode cX5_personOf 182 = .ok (.iaload, 1) := by decide +kernel
theorem dX5_personOf_183 : decode cX5_personOf 183 = .ok (.ireturn, 1) := by decide +kernel
theorem dX5_personOf_184 : decode cX5_personOf 184 = .ok (.aload_n 0, 1) := by decide +kernel
theorem dX5_personOf_185 : decode cX5_personOf 185 = .ok (.iload_n 1, 1) := by decide +kernel
theorem dX5_personOf_186 : decode cX5_personOf 186 = .ok (.invokevirtual 102, 3) := by decide +kernel
theorem dX5_personOf_189 : decode cX5_personOf 189 = .ok (.ireturn, 1) := by decide +kernel
theorem dX5_personOf_190 : decode cX5_personOf 190 = .ok (.aload_n 0, 1) := by decide +kernel
theorem dX5_personOf_191 : decode cX5_personOf 191 = .ok (.iload_n 1, 1) := by decide +kernel
theorem dX5_personOf_192 : decode cX5_personOf 192 = .ok (.invokevirtual 176, 3) := by decide +kernel
theorem dX5_personOf_195 : decode cX5_personOf 195 = .ok (.ireturn, 1) := by decide +kernel
theorem dX5_personOf_196 : decode cX5_personOf 196 = .ok (.iconst 0, 1) := by decide +kernel
theorem dX5_personOf_197 : decode cX5_personOf 197 = .ok (.istore 4, 2) := by decide +kernel
theorem dX5_personOf_199 : decode cX5_personOf 199 = .ok (.iload 4, 2) := by decide +kernel
theorem dX5_personOf_201 : decode cX5_personOf 201 = .ok (.aload_n 0, 1) := by decide +kernel
theorem dX5_personOf_202 : decode cX5_personOf 202 = .ok (.getfield 9, 3) := by decide +kernel
theorem dX5_personOf_205 : decode cX5_personOf 205 = .ok (.iconst 1, 1) := by decide +kernel
theorem dX5_personOf_206 : decode cX5_personOf 206 = .ok (.iaload, 1) := by decide +kernel
theorem dX5_personOf_207 : decode cX5_personOf 207 = .ok (.if_icmp .ge 27, 3) := by decide +kernel
theorem dX5_personOf_210 : decode cX5_personOf 210 = .ok (.iload_n 3, 1) := by decide +kernel
theorem dX5_personOf_211 : decode cX5_personOf 211 = .ok (.aload_n 0, 1) := by decide +kernel
theorem dX5_personOf_212 : decode cX5_personOf 212 = .ok (.iload 4, 2) := by decide +kernel
theorem dX5_personOf_214 : decode cX5_personOf 214 = .ok (.iload_n 1, 1) := by decide +kernel
theorem dX5_personOf_215 : decode cX5_personOf 215 = .ok (.invokevirtual 179, 3) := by decide +kernel
theorem dX5_personOf_218 : decode cX5_personOf 218 = .ok (.ifCond .eq 7, 3) := by decide +kernel
theorem dX5_personOf_221 : decode cX5_personOf 221 = .ok (.iconst 1, 1) := by decide +kernel
theorem dX5_personOf_222 : decode cX5_personOf 222 = .ok (.goto 4, 3) := by decide +kernel
theorem dX5_personOf_225 : decode cX5_personOf 225 = .ok (.iconst 0, 1) := by decide +kernel
theorem dX5_personOf_226 : decode cX5_personOf 226 = .ok (.iadd, 1) := by decide +kernel
theorem dX5_personOf_227 : decode cX5_personOf 227 = .ok (.istore_n 3, 1) := by decide +kernel
theorem dX5_personOf_228 : decode cX5_personOf 228 = .ok (.iinc 4 1, 3) := by decide +kernel
theorem dX5_personOf_231 : decode cX5_personOf 231 = .ok (.goto (-32), 3) := by decide +kernel
theorem dX5_personOf_234 : decode cX5_personOf 234 = .ok (.iload_n 3, 1) := by decide +kernel
theorem dX5_personOf_235 : decode cX5_personOf 235 = .ok (.ireturn, 1) := by decide +kernel
theorem dX5_says_0 : decode cX5_says 0 = .ok (.aload_n 0, 1) := by decide +kernel
theorem dX5_says_1 : decode cX5_says 1 = .ok (.getfield 28, 3) := by decide +kernel
theorem dX5_says_4 : decode cX5_says 4 = .ok (.aload_n 0, 1) := by decide +kernel
theorem dX5_says_5 : decode cX5_says 5 = .ok (.getfield 194, 3) := by decide +kernel
theorem dX5_says_8 : decode cX5_says 8 = .ok (.iload_n 1, 1) := by decide +kernel
theorem dX5_says_9 : decode cX5_says 9 = .ok (.castore, 1) := by decide +kernel
theorem dX5_says_10 : decode cX5_says 10 = .ok (.aload_n 0, 1) := by decide +kernel
theorem dX5_says_11 : decode cX5_says 11 = .ok (.dup, 1) := by decide +kernel
theorem dX5_says_12 : decode cX5_says 12 = .ok (.getfield 194, 3) := by decide +kernel
theorem dX5_says_15 : decode cX5_says 15 = .ok (.iconst 1, 1) := by decide +kernel
theorem dX5_says_16 : decode cX5_says 16 = .ok (.iadd, 1) := by decide +kernel
theorem dX5_says_17 : decode cX5_says 17 = .ok (.putfield 194, 3) := by decide +kernel
theorem dX5_says_20 : decode cX5_says 20 = .ok (.return_, 1) := by decide +kernel
theorem dX5_saysNumber_0 : decode cX5_saysNumber 0 = .ok (.iload_n 1, 1) := by decide +kernel
theorem dX5_saysNumber_1 : decode cX5_saysNumber 1 = .ok (.bipush 9, 2) := by decide +kernel
theorem dX5_saysNumber_3 : decode cX5_saysNumber 3 = .ok (.if_icmp .le 11, 3) := by decide +kernel
theorem dX5_saysNumber_6 : decode cX5_saysNumber 6 = .ok (.aload_n 0, 1) := by decide +kernel
theorem dX5_saysNumber_7 : decode cX5_saysNumber 7 = .ok (.iload_n 1, 1) := by decide +kernel
theorem dX5_saysNumber_8 : decode cX5_saysNumber 8 = .ok (.bipush 10, 2) := by decide +kernel
theorem dX5_saysNumber_10 : decode cX5_saysNumber 10 = .ok (.idiv, 1) := by decide +kernel
theorem dX5_saysNumber_11 : decode cX5_saysNumber 11 = .ok (.invokevirtual 197, 3) := by decide +kernel
theorem dX5_saysNumber_14 : decode cX5_saysNumber 14 = .ok (.aload_n 0, 1) := by decide +kernel
theorem dX5_saysNumber_15 : decode cX5_saysNumber 15 = .ok (.bipush 48, 2) := by decide +kernel
theorem dX5_saysNumber_17 : decode cX5_saysNumber 17 = .ok (.iload_n 1, 1) := by decide +kernel
theorem dX5_saysNumber_18 : decode cX5_saysNumber 18 = .ok (.bipush 10, 2) := by decide +kernel
theorem dX5_saysNumber_20 : decode cX5_saysNumber 20 = .ok (.irem, 1) := by decide +kernel
theorem dX5_saysNumber_21 : decode cX5_saysNumber 21 = .ok (.iadd, 1) := by decide +kernel
theorem dX5_saysNumber_22 : decode cX5_saysNumber 22 = .ok (.i2c, 1) := by decide +kernel
theorem dX5_saysNumber_23 : decode cX5_saysNumber 23 = .ok (.invokevirtual 200, 3) := by decide +kernel
theorem dX5_saysNumber_26 : decode cX5_saysNumber 26 = .ok (.return_, 1) := by decide +kernel
theorem dX5_line_0 : decode cX5_line 0 = .ok (.aload_n 0, 1) := by decide +kernel
theorem dX5_line_1 : decode cX5_line 1 = .ok (.aload_n 0, 1) := by decide +kernel
theorem dX5_line_2 : decode cX5_line 2 = .ok (.iload_n 1, 1) := by decide +kernel
theorem dX5_line_3 : decode cX5_line 3 = .ok (.invokevirtual 89, 3) := by decide +kernel
theorem dX5_line_6 : decode cX5_line 6 = .ok (.ifCond .eq 7, 3) := by decide +kernel
theorem dX5_line_9 : decode cX5_line 9 = .ok (.iconst 0, 1) := by decide +kernel
theorem dX5_line_10 : decode cX5_line 10 = .ok (.goto 4, 3) := by decide +kernel
theorem dX5_line_13 : decode cX5_line 13 = .ok (.iconst 1, 1) := by decide +kernel
theorem dX5_line_14 : decode cX5_line 14 = .ok (.putfield 42, 3) := by decide +kernel
theorem dX5_line_17 : decode cX5_line 17 = .ok (.aload_n 0, 1) := by decide +kernel
theorem dX5_line_18 : decode cX5_line 18 = .ok (.getfield 42, 3) := by decide +kernel
theorem dX5_line_21 : decode cX5_line 21 = .ok (.ifCond .le 5, 3) := by decide +kernel
theorem dX5_line_24 : decode cX5_line 24 = .ok (.iconst 0, 1) := by decide +kernel
theorem dX5_line_25 : decode cX5_line 25 = .ok (.ireturn, 1) := by decide +kernel
theorem dX5_line_26 : decode cX5_line 26 = .ok (.aload_n 0, 1) := by decide +kernel
theorem dX5_line_27 : decode cX5_line 27 = .ok (.iconst 0, 1) := by decide +kernel
theorem dX5_line_28 : decode cX5_line 28 = .ok (.putfield 194, 3) := by decide +kernel
theorem dX5_line_31 : decode cX5_line 31 = .ok (.aload_n 0, 1) := by decide +kernel
theorem dX5_line_32 : decode cX5_line 32 = .ok (.bipush 35, 2) := by decide +kernel
theorem dX5_line_34 : decode cX5_line 34 = .ok (.invokevirtual 200, 3) := by decide +kernel
theorem dX5_line_37 : decode cX5_line 37 = .ok (.aload_n 0, 1) := by decide +kernel
theorem dX5_line_38 : decode cX5_line 38 = .ok (.iload_n 1, 1) := by decide +kernel
theorem dX5_line_39 : decode cX5_line 39 = .ok (.invokevirtual 197, 3) := by decide +kernel
theorem dX5_line_42 : decode cX5_line 42 = .ok (.aload_n 0, 1) := by decide +kernel
theorem dX5_line_43 : decode cX5_line 43 = .ok (.iload_n 1, 1) := by decide +kernel
theorem dX5_line_44 : decode cX5_line 44 = .ok (.invokevirtual 68, 3) := by decide +kernel
theorem dX5_line_47 : decode cX5_line 47 = .ok (.ifCond .lt 18, 3) := by decide +kernel
theorem dX5_line_50 : decode cX5_line 50 = .ok (.aload_n 0, 1) := by decide +kernel
theorem dX5_line_51 : decode cX5_line 51 = .ok (.bipush 60, 2) := by decide +kernel
theorem dX5_line_53 : decode cX5_line 53 = .ok (.invokevirtual 200, 3) := by decide +kernel
theorem dX5_line_56 : decode cX5_line 56 = .ok (.aload_n 0, 1) := by decide +kernel
theorem dX5_line_57 : decode cX5_line 57 = .ok (.aload_n 0, 1) := by decide +kernel
theorem dX5_line_58 : decode cX5_line 58 = .ok (.iload_n 1, 1) := by decide +kernel
theorem dX5_line_59 : decode cX5_line 59 = .ok (.invokevirtual 68, 3) := by decide +kernel
theorem dX5_line_62 : decode cX5_line 62 = .ok (.invokevirtual 197, 3) := by decide +kernel
theorem dX5_line_65 : decode cX5_line 65 = .ok (.aload_n 0, 1) := by decide +kernel
theorem dX5_line_66 : decode cX5_line 66 = .ok (.getfield 9, 3) := by decide +kernel
theorem dX5_line_69 : decode cX5_line 69 = .ok (.bipush 29, 2) := by decide +kernel
theorem dX5_line_71 : decode cX5_line 71 = .ok (.iload_n 1, 1) := by decide +kernel
theorem dX5_line_72 : decode cX5_line 72 = .ok (.iadd, 1) := by decide +kernel
theorem dX5_line_73 : decode cX5_line 73 = .ok (.iaload, 1) := by decide +kernel
theorem dX5_line_74 : decode cX5_line 74 = .ok (.ifCond .lt 22, 3) := by decide +kernel
theorem dX5_line_77 : decode cX5_line 77 = .ok (.aload_n 0, 1) := by decide +kernel
theorem dX5_line_78 : decode cX5_line 78 = .ok (.bipush 43, 2) := by decide +kernel
theorem dX5_line_80 : decode cX5_line 80 = .ok (.invokevirtual 200, 3) := by decide +kernel
theorem dX5_line_83 : decode cX5_line 83 = .ok (.aload_n 0, 1) := by decide +kernel
theorem dX5_line_84 : decode cX5_line 84 = .ok (.aload_n 0, 1) := by decide +kernel
theorem dX5_line_85 : decode cX5_line 85 = .ok (.getfield 9, 3) := by decide +kernel
theorem dX5_line_88 : decode cX5_line 88 = .ok (.bipush 29, 2) := by decide +kernel
theorem dX5_line_90 : decode cX5_line 90 = .ok (.iload_n 1, 1) := by decide +kernel
theorem dX5_line_91 : decode cX5_line 91 = .ok (.iadd, 1) := by decide +kernel
theorem dX5_line_92 : decode cX5_line 92 = .ok (.iaload, 1) := by decide +kernel
theorem dX5_line_93 : decode cX5_line 93 = .ok (.invokevirtual 197, 3) := by decide +kernel
theorem dX5_line_96 : decode cX5_line 96 = .ok (.aload_n 0, 1) := by decide +kernel
theorem dX5_line_97 : decode cX5_line 97 = .ok (.getfield 9, 3) := by decide +kernel
theorem dX5_line_100 : decode cX5_line 100 = .ok (.bipush 53, 2) := by decide +kernel
theorem dX5_line_102 : decode cX5_line 102 = .ok (.iload_n 1, 1) := by decide +kernel
theorem dX5_line_103 : decode cX5_line 103 = .ok (.iadd, 1) := by decide +kernel
theorem dX5_line_104 : decode cX5_line 104 = .ok (.iaload, 1) := by decide +kernel
theorem dX5_line_105 : decode cX5_line 105 = .ok (.ifCond .le 22, 3) := by decide +kernel
theorem dX5_line_108 : decode cX5_line 108 = .ok (.aload_n 0, 1) := by decide +kernel
theorem dX5_line_109 : decode cX5_line 109 = .ok (.bipush 61, 2) := by decide +kernel
theorem dX5_line_111 : decode cX5_line 111 = .ok (.invokevirtual 200, 3) := by decide +kernel
theorem dX5_line_114 : decode cX5_line 114 = .ok (.aload_n 0, 1) := by decide +kernel
theorem dX5_line_115 : decode cX5_line 115 = .ok (.aload_n 0, 1) := by decide +kernel
theorem dX5_line_116 : decode cX5_line 116 = .ok (.getfield 9, 3) := by decide +kernel
theorem dX5_line_119 : decode cX5_line 119 = .ok (.bipush 53, 2) := by decide +kernel
theorem dX5_line_121 : decode cX5_line 121 = .ok (.iload_n 1, 1) := by decide +kernel
theorem dX5_line_122 : decode cX5_line 122 = .ok (.iadd, 1) := by decide +kernel
theorem dX5_line_123 : decode cX5_line 123 = .ok (.iaload, 1) := by decide +kernel
theorem dX5_line_124 : decode cX5_line 124 = .ok (.invokevirtual 197, 3) := by decide +kernel
theorem dX5_line_127 : decode cX5_line 127 = .ok (.aload_n 0, 1) := by decide +kernel
theorem dX5_line_128 : decode cX5_line 128 = .ok (.iload_n 1, 1) := by decide +kernel
theorem dX5_line_129 : decode cX5_line 129 = .ok (.invokevirtual 96, 3) := by decide +kernel
theorem dX5_line_132 : decode cX5_line 132 = .ok (.ifCond .ne 9, 3) := by decide +kernel
theorem dX5_line_135 : decode cX5_line 135 = .ok (.aload_n 0, 1) := by decide +kernel
theorem dX5_line_136 : decode cX5_line 136 = .ok (.bipush 120, 2) := by decide +kernel
theorem dX5_line_138 : decode cX5_line 138 = .ok (.invokevirtual 200, 3) := by decide +kernel
theorem dX5_line_141 : decode cX5_line 141 = .ok (.aload_n 0, 1) := by decide +kernel
theorem dX5_line_142 : decode cX5_line 142 = .ok (.getfield 194, 3) := by decide +kernel
theorem dX5_line_145 : decode cX5_line 145 = .ok (.ireturn, 1) := by decide +kernel
theorem dX5_character_0 : decode cX5_character 0 = .ok (.aload_n 0, 1) := by decide +kernel
theorem dX5_character_1 : decode cX5_character 1 = .ok (.iload_n 1, 1) := by decide +kernel
theorem dX5_character_2 : decode cX5_character 2 = .ok (.iconst 0, 1) := by decide +kernel
theorem dX5_character_3 : decode cX5_character 3 = .ok (.aload_n 0, 1) := by decide +kernel
theorem dX5_character_4 : decode cX5_character 4 = .ok (.getfield 194, 3) := by decide +kernel
theorem dX5_character_7 : decode cX5_character 7 = .ok (.iconst 1, 1) := by decide +kernel
theorem dX5_character_8 : decode cX5_character 8 = .ok (.isub, 1) := by decide +kernel
theorem dX5_character_9 : decode cX5_character 9 = .ok (.invokestatic 64, 3) := by decide +kernel
theorem dX5_character_12 : decode cX5_character 12 = .ok (.ifCond .eq 7, 3) := by decide +kernel
theorem dX5_character_15 : decode cX5_character 15 = .ok (.iconst 0, 1) := by decide +kernel
theorem dX5_character_16 : decode cX5_character 16 = .ok (.goto 4, 3) := by decide +kernel
theorem dX5_character_19 : decode cX5_character 19 = .ok (.iconst 1, 1) := by decide +kernel
theorem dX5_character_20 : decode cX5_character 20 = .ok (.putfield 42, 3) := by decide +kernel
theorem dX5_character_23 : decode cX5_character 23 = .ok (.aload_n 0, 1) := by decide +kernel
theorem dX5_character_24 : decode cX5_character 24 = .ok (.getfield 42, 3) := by decide +kernel
theorem dX5_character_27 : decode cX5_character 27 = .ok (.ifCond .le 8, 3) := by decide +kernel
theorem dX5_character_30 : decode cX5_character 30 = .ok (.bipush 32, 2) := by decide +kernel
theorem dX5_character_32 : decode cX5_character 32 = .ok (.goto 9, 3) := by decide +kernel
theorem dX5_character_35 : decode cX5_character 35 = .ok (.aload_n 0, 1) := by decide +kernel
theorem dX5_character_36 : decode cX5_character 36 = .ok (.getfield 28, 3) := by decide +kernel
theorem dX5_character_39 : decode cX5_character 39 = .ok (.iload_n 1, 1) := by decide +kernel
theorem dX5_character_40 : decode cX5_character 40 = .ok (.caload, 1) := by decide +kernel
theorem dX5_character_41 : decode cX5_character 41 = .ok (.ireturn, 1) := by decide +kernel
theorem dX5_append_0 : decode cX5_append 0 = .ok (.aload_n 0, 1) := by decide +kernel
theorem dX5_append_1 : decode cX5_append 1 = .ok (.aload_n 0, 1) := by decide +kernel
theorem dX5_append_2 : decode cX5_append 2 = .ok (.getfield 204, 3) := by decide +kernel
theorem dX5_append_5 : decode cX5_append 5 = .ok (.bipush 60, 2) := by decide +kernel
theorem dX5_append_7 : decode cX5_append 7 = .ok (.if_icmp .ne 7, 3) := by decide +kernel
theorem dX5_append_10 : decode cX5_append 10 = .ok (.iconst 1, 1) := by decide +kernel
theorem dX5_append_11 : decode cX5_append 11 = .ok (.goto 4, 3) := by decide +kernel
theorem dX5_append_14 : decode cX5_append 14 = .ok (.iconst 0, 1) := by decide +kernel
theorem dX5_append_15 : decode cX5_append 15 = .ok (.putfield 42, 3) := by decide +kernel
theorem dX5_append_18 : decode cX5_append 18 = .ok (.aload_n 0, 1) := by decide +kernel
theorem dX5_append_19 : decode cX5_append 19 = .ok (.getfield 42, 3) := by decide +kernel
theorem dX5_append_22 : decode cX5_append 22 = .ok (.ifCond .le 5, 3) := by decide +kernel
theorem dX5_append_25 : decode cX5_append 25 = .ok (.iconst 0, 1) := by decide +kernel
theorem dX5_append_26 : decode cX5_append 26 = .ok (.ireturn, 1) := by decide +kernel
theorem dX5_append_27 : decode cX5_append 27 = .ok (.aload_n 0, 1) := by decide +kernel
theorem dX5_append_28 : decode cX5_append 28 = .ok (.getfield 32, 3) := by decide +kernel
theorem dX5_append_31 : decode cX5_append 31 = .ok (.aload_n 0, 1) := by decide +kernel
theorem dX5_append_32 : decode cX5_append 32 = .ok (.getfield 204, 3) := by decide +kernel
theorem dX5_append_35 : decode cX5_append 35 = .ok (.iload_n 1, 1) := by decide +kernel
theorem dX5_append_36 : decode cX5_append 36 = .ok (.castore, 1) := by decide +kernel
theorem dX5_append_37 : decode cX5_append 37 = .ok (.aload_n 0, 1) := by decide +kernel
theorem dX5_append_38 : decode cX5_append 38 = .ok (.dup, 1) := by decide +kernel
theorem dX5_append_39 : decode cX5_append 39 = .ok (.getfield 204, 3) := by decide +kernel
theorem dX5_append_42 : decode cX5_append 42 = .ok (.iconst 1, 1) := by decide +kernel
theorem dX5_append_43 : decode cX5_append 43 = .ok (.iadd, 1) := by decide +kernel
theorem dX5_append_44 : decode cX5_append 44 = .ok (.putfield 204, 3) := by decide +kernel
theorem dX5_append_47 : decode cX5_append 47 = .ok (.aload_n 0, 1) := by decide +kernel
theorem dX5_append_48 : decode cX5_append 48 = .ok (.getfield 204, 3) := by decide +kernel
theorem dX5_append_51 : decode cX5_append 51 = .ok (.ireturn, 1) := by decide +kernel
theorem dX5_isHere_0 : decode cX5_isHere 0 = .ok (.aload_n 0, 1) := by decide +kernel
theorem dX5_isHere_1 : decode cX5_isHere 1 = .ok (.getfield 207, 3) := by decide +kernel
theorem dX5_isHere_4 : decode cX5_isHere 4 = .ok (.ifCond .ne 35, 3) := by decide +kernel
theorem dX5_isHere_7 : decode cX5_isHere 7 = .ok (.aload_n 0, 1) := by decide +kernel
theorem dX5_isHere_8 : decode cX5_isHere 8 = .ok (.getfield 210, 3) := by decide +kernel
theorem dX5_isHere_11 : decode cX5_isHere 11 = .ok (.aload_n 0, 1) := by decide +kernel
theorem dX5_isHere_12 : decode cX5_isHere 12 = .ok (.getfield 204, 3) := by decide +kernel
theorem dX5_isHere_15 : decode cX5_isHere 15 = .ok (.if_icmp .ge 24, 3) := by decide +kernel
theorem dX5_isHere_18 : decode cX5_isHere 18 = .ok (.aload_n 0, 1) := by decide +kernel
theorem dX5_isHere_19 : decode cX5_isHere 19 = .ok (.getfield 32, 3) := by decide +kernel
theorem dX5_isHere_22 : decode cX5_isHere 22 = .ok (.aload_n 0, 1) := by decide +kernel
theorem dX5_isHere_23 : decode cX5_isHere 23 = .ok (.getfield 210, 3) := by decide +kernel
theorem dX5_isHere_26 : decode cX5_isHere 26 = .ok (.caload, 1) := by decide +kernel
theorem dX5_isHere_27 : decode cX5_isHere 27 = .ok (.iload_n 1, 1) := by decide +kernel
theorem dX5_isHere_28 : decode cX5_isHere 28 = .ok (.iload_n 2, 1) := by decide +kernel
theorem dX5_isHere_29 : decode cX5_isHere 29 = .ok (.invokestatic 64, 3) := by decide +kernel
theorem dX5_isHere_32 : decode cX5_isHere 32 = .ok (.ifCond .eq 7, 3) := by decide +kernel
theorem dX5_isHere_35 : decode cX5_isHere 35 = .ok (.iconst 1, 1) := by decide +kernel
theorem dX5_isHere_36 : decode cX5_isHere 36 = .ok (.goto 4, 3) := by decide +kernel
theorem dX5_isHere_39 : decode cX5_isHere 39 = .ok (.iconst 0, 1) := by decide +kernel
theorem dX5_isHere_40 : decode cX5_isHere 40 = .ok (.ireturn, 1) := by decide +kernel
theorem dX5_sign_0 : decode cX5_sign 0 = .ok (.aload_n 0, 1) := by decide +kernel
theorem dX5_sign_1 : decode cX5_sign 1 = .ok (.aload_n 0, 1) := by decide +kernel
theorem dX5_sign_2 : decode cX5_sign 2 = .ok (.iload_n 1, 1) := by decide +kernel
theorem dX5_sign_3 : decode cX5_sign 3 = .ok (.iload_n 2, 1) := by decide +kernel
theorem dX5_sign_4 : decode cX5_sign 4 = .ok (.invokevirtual 213, 3) := by decide +kernel
theorem dX5_sign_7 : decode cX5_sign 7 = .ok (.ifCond .ne 7, 3) := by decide +kernel
theorem dX5_sign_10 : decode cX5_sign 10 = .ok (.iconst 1, 1) := by decide +kernel
theorem dX5_sign_11 : decode cX5_sign 11 = .ok (.goto 4, 3) := by decide +kernel
theorem dX5_sign_14 : decode cX5_sign 14 = .ok (.iconst 0, 1) := by decide +kernel
theorem dX5_sign_15 : decode cX5_sign 15 = .ok (.putfield 207, 3) := by decide +kernel
theorem dX5_sign_18 : decode cX5_sign 18 = .ok (.aload_n 0, 1) := by decide +kernel
theorem dX5_sign_19 : decode cX5_sign 19 = .ok (.getfield 207, 3) := by decide +kernel
theorem dX5_sign_22 : decode cX5_sign 22 = .ok (.ifCond .eq 5, 3) := by decide +kernel
theorem dX5_sign_25 : decode cX5_sign 25 = .ok (.iconst 0, 1) := by decide +kernel
theorem dX5_sign_26 : decode cX5_sign 26 = .ok (.ireturn, 1) := by decide +kernel
theorem dX5_sign_27 : decode cX5_sign 27 = .ok (.aload_n 0, 1) := by decide +kernel
theorem dX5_sign_28 : decode cX5_sign 28 = .ok (.dup, 1) := by decide +kernel
theorem dX5_sign_29 : decode cX5_sign 29 = .ok (.getfield 210, 3) := by decide +kernel
theorem dX5_sign_32 : decode cX5_sign 32 = .ok (.iconst 1, 1) := by decide +kernel
theorem dX5_sign_33 : decode cX5_sign 33 = .ok (.iadd, 1) := by decide +kernel
theorem dX5_sign_34 : decode cX5_sign 34 = .ok (.putfield 210, 3) := by decide +kernel
theorem dX5_sign_37 : decode cX5_sign 37 = .ok (.aload_n 0, 1) := by decide +kernel
theorem dX5_sign_38 : decode cX5_sign 38 = .ok (.getfield 32, 3) := by decide +kernel
theorem dX5_sign_41 : decode cX5_sign 41 = .ok (.aload_n 0, 1) := by decide +kernel
theorem dX5_sign_42 : decode cX5_sign 42 = .ok (.getfield 210, 3) := by decide +kernel
theorem dX5_sign_45 : decode cX5_sign 45 = .ok (.iconst 1, 1) := by decide +kernel
theorem dX5_sign_46 : decode cX5_sign 46 = .ok (.isub, 1) := by decide +kernel
theorem dX5_sign_47 : decode cX5_sign 47 = .ok (.caload, 1) := by decide +kernel
theorem dX5_sign_48 : decode cX5_sign 48 = .ok (.iload_n 1, 1) := by decide +kernel
theorem dX5_sign_49 : decode cX5_sign 49 = .ok (.isub, 1) := by decide +kernel
theorem dX5_sign_50 : decode cX5_sign 50 = .ok (.ireturn, 1) := by decide +kernel
theorem dX5_number_0 : decode cX5_number 0 = .ok (.aload_n 0, 1) := by decide +kernel
theorem dX5_number_1 : decode cX5_number 1 = .ok (.getfield 207, 3) := by decide +kernel
theorem dX5_number_4 : decode cX5_number 4 = .ok (.ifCond .eq 7, 3) := by decide +kernel
theorem dX5_number_7 : decode cX5_number 7 = .ok (.iconst 0, 1) := by decide +kernel
theorem dX5_number_8 : decode cX5_number 8 = .ok (.goto 11, 3) := by decide +kernel
theorem dX5_number_11 : decode cX5_number 11 = .ok (.aload_n 0, 1) := by decide +kernel
theorem dX5_number_12 : decode cX5_number 12 = .ok (.bipush 48, 2) := by decide +kernel
theorem dX5_number_14 : decode cX5_number 14 = .ok (.bipush 57, 2) := by decide +kernel
theorem dX5_number_16 : decode cX5_number 16 = .ok (.invokevirtual 217, 3) := by decide +kernel
theorem dX5_number_19 : decode cX5_number 19 = .ok (.istore_n 2, 1) := by decide +kernel
theorem dX5_number_20 : decode cX5_number 20 = .ok (.iconst 1, 1) := by decide +kernel
theorem dX5_number_21 : decode cX5_number 21 = .ok (.istore_n 3, 1) := by decide +kernel
theorem dX5_number_22 : decode cX5_number 22 = .ok (.iload_n 3, 1) := by decide +kernel
theorem dX5_number_23 : decode cX5_number 23 = .ok (.iload_n 1, 1) := by decide +kernel
theorem dX5_number_24 : decode cX5_number 24 = .ok (.if_icmp .ge 34, 3) := by decide +kernel
theorem dX5_number_27 : decode cX5_number 27 = .ok (.aload_n 0, 1) := by decide +kernel
theorem dX5_number_28 : decode cX5_number 28 = .ok (.bipush 48, 2) := by decide +kernel
theorem dX5_number_30 : decode cX5_number 30 = .ok (.bipush 57, 2) := by decide +kernel
theorem dX5_number_32 : decode cX5_number 32 = .ok (.invokevirtual 213, 3) := by decide +kernel
theorem dX5_number_35 : decode cX5_number 35 = .ok (.ifCond .eq 23, 3) := by decide +kernel
theorem dX5_number_38 : decode cX5_number 38 = .ok (.bipush 10, 2) := by decide +kernel
theorem dX5_number_40 : decode cX5_number 40 = .ok (.iload_n 2, 1) := by decide +kernel
theorem dX5_number_41 : decode cX5_number 41 = .ok (.imul, 1) := by decide +kernel
theorem dX5_number_42 : decode cX5_number 42 = .ok (.aload_n 0, 1) := by decide +kernel
theorem dX5_number_43 : decode cX5_number 43 = .ok (.bipush 48, 2) := by decide +kernel
theorem dX5_number_45 : decode cX5_number 45 = .ok (.bipush 57, 2) := by decide +kernel
theorem dX5_number_47 : decode cX5_number 47 = .ok (.invokevirtual 217, 3) := by decide +kernel
theorem dX5_number_50 : decode cX5_number 50 = .ok (.iadd, 1) := by decide +kernel
theorem dX5_number_51 : decode cX5_number 51 = .ok (.istore_n 2, 1) := by decide +kernel
theorem dX5_number_52 : decode cX5_number 52 = .ok (.iinc 3 1, 3) := by decide +kernel
theorem dX5_number_55 : decode cX5_number 55 = .ok (.goto (-33), 3) := by decide +kernel
theorem dX5_number_58 : decode cX5_number 58 = .ok (.iload_n 2, 1) := by decide +kernel
theorem dX5_number_59 : decode cX5_number 59 = .ok (.ireturn, 1) := by decide +kernel
theorem dX5_readOrder_0 : decode cX5_readOrder 0 = .ok (.aload_n 0, 1) := by decide +kernel
theorem dX5_readOrder_1 : decode cX5_readOrder 1 = .ok (.getfield 207, 3) := by decide +kernel
theorem dX5_readOrder_4 : decode cX5_readOrder 4 = .ok (.ifCond .eq 4, 3) := by decide +kernel
theorem dX5_readOrder_7 : decode cX5_readOrder 7 = .ok (.return_, 1) := by decide +kernel
theorem dX5_readOrder_8 : decode cX5_readOrder 8 = .ok (.aload_n 0, 1) := by decide +kernel
theorem dX5_readOrder_9 : decode cX5_readOrder 9 = .ok (.getfield 210, 3) := by decide +kernel
theorem dX5_readOrder_12 : decode cX5_readOrder 12 = .ok (.aload_n 0, 1) := by decide +kernel
theorem dX5_readOrder_13 : decode cX5_readOrder 13 = .ok (.getfield 204, 3) := by decide +kernel
theorem dX5_readOrder_16 : decode cX5_readOrder 16 = .ok (.if_icmp .ge 15, 3) := by decide +kernel
theorem dX5_readOrder_19 : decode cX5_readOrder 19 = .ok (.aload_n 0, 1) := by decide +kernel
theorem dX5_readOrder_20 : decode cX5_readOrder 20 = .ok (.getfield 32, 3) := by decide +kernel
theorem dX5_readOrder_23 : decode cX5_readOrder 23 = .ok (.aload_n 0, 1) := by decide +kernel
theorem dX5_readOrder_24 : decode cX5_readOrder 24 = .ok (.getfield 210, 3) := by decide +kernel
theorem dX5_readOrder_27 : decode cX5_readOrder 27 = .ok (.caload, 1) := by decide +kernel
theorem dX5_readOrder_28 : decode cX5_readOrder 28 = .ok (.goto 4, 3) := by decide +kernel
theorem dX5_readOrder_31 : decode cX5_readOrder 31 = .ok (.iconst 0, 1) := by decide +kernel
theorem dX5_readOrder_32 : decode cX5_readOrder 32 = .ok (.istore_n 1, 1) := by decide +kernel
theorem dX5_readOrder_33 : decode cX5_readOrder 33 = .ok (.iload_n 1, 1) := by decide +kernel
theorem dX5_readOrder_34 : decode cX5_readOrder 34 = .ok (.bipush 103, 2) := by decide +kernel
theorem dX5_readOrder_36 : decode cX5_readOrder 36 = .ok (.if_icmp .ne 8, 3) := by decide +kernel
theorem dX5_readOrder_39 : decode cX5_readOrder 39 = .ok (.bipush 60, 2) := by decide +kernel
theorem dX5_readOrder_41 : decode cX5_readOrder 41 = .ok (.goto 38, 3) := by decide +kernel
theorem dX5_readOrder_44 : decode cX5_readOrder 44 = .ok (.iload_n 1, 1) := by decide +kernel
theorem dX5_readOrder_45 : decode cX5_readOrder 45 = .ok (.bipush 109, 2) := by decide +kernel
theorem dX5_readOrder_47 : decode cX5_readOrder 47 = .ok (.if_icmp .ne 8, 3) := by decide +kernel
theorem dX5_readOrder_50 : decode cX5_readOrder 50 = .ok (.bipush 43, 2) := by decide +kernel
theorem dX5_readOrder_52 : decode cX5_readOrder 52 = .ok (.goto 27, 3) := by decide +kernel
theorem dX5_readOrder_55 : decode cX5_readOrder 55 = .ok (.iload_n 1, 1) := by decide +kernel
theorem dX5_readOrder_56 : decode cX5_readOrder 56 = .ok (.bipush 113, 2) := by decide +kernel
theorem dX5_readOrder_58 : decode cX5_readOrder 58 = .ok (.if_icmp .ne 8, 3) := by decide +kernel
theorem dX5_readOrder_61 : decode cX5_readOrder 61 = .ok (.bipush 45, 2) := by decide +kernel
theorem dX5_readOrder_63 : decode cX5_readOrder 63 = .ok (.goto 16, 3) := by decide +kernel
theorem dX5_readOrder_66 : decode cX5_readOrder 66 = .ok (.iload_n 1, 1) := by decide +kernel
theorem dX5_readOrder_67 : decode cX5_readOrder 67 = .ok (.bipush 101, 2) := by decide +kernel
theorem dX5_readOrder_69 : decode cX5_readOrder 69 = .ok (.if_icmp .ne 8, 3) := by decide +kernel
theorem dX5_readOrder_72 : decode cX5_readOrder 72 = .ok (.bipush 61, 2) := by decide +kernel
theorem dX5_readOrder_74 : decode cX5_readOrder 74 = .ok (.goto 5, 3) := by decide +kernel
theorem dX5_readOrder_77 : decode cX5_readOrder 77 = .ok (.bipush 32, 2) := by decide +kernel
theorem dX5_readOrder_79 : decode cX5_readOrder 79 = .ok (.istore_n 2, 1) := by decide +kernel
theorem dX5_readOrder_80 : decode cX5_readOrder 80 = .ok (.iload_n 1, 1) := by decide +kernel
theorem dX5_readOrder_81 : decode cX5_readOrder 81 = .ok (.bipush 102, 2) := by decide +kernel
theorem dX5_readOrder_83 : decode cX5_readOrder 83 = .ok (.if_icmp .eq 33, 3) := by decide +kernel
theorem dX5_readOrder_86 : decode cX5_readOrder 86 = .ok (.iload_n 1, 1) := by decide +kernel
theorem dX5_readOrder_87 : decode cX5_readOrder 87 = .ok (.bipush 98, 2) := by decide +kernel
theorem dX5_readOrder_89 : decode cX5_readOrder 89 = .ok (.if_icmp .eq 27, 3) := by decide +kernel
theorem dX5_readOrder_92 : decode cX5_readOrder 92 = .ok (.iload_n 1, 1) := by decide +kernel
theorem dX5_readOrder_93 : decode cX5_readOrder 93 = .ok (.bipush 99, 2) := by decide +kernel
theorem dX5_readOrder_95 : decode cX5_readOrder 95 = .ok (.if_icmp .eq 21, 3) := by decide +kernel
theorem dX5_readOrder_98 : decode cX5_readOrder 98 = .ok (.iload_n 1, 1) := by decide +kernel
theorem dX5_readOrder_99 : decode cX5_readOrder 99 = .ok (.bipush 112, 2) := by decide +kernel
theorem dX5_readOrder_101 : decode cX5_readOrder 101 = .ok (.if_icmp .eq 15, 3) := by decide +kernel
theorem dX5_readOrder_104 : decode cX5_readOrder 104 = .ok (.iload_n 1, 1) := by decide +kernel
theorem dX5_readOrder_105 : decode cX5_readOrder 105 = .ok (.bipush 100, 2) := by decide +kernel
theorem dX5_readOrder_107 : decode cX5_readOrder 107 = .ok (.if_icmp .eq 9, 3) := by decide +kernel
theorem dX5_readOrder_110 : decode cX5_readOrder 110 = .ok (.iload_n 2, 1) := by decide +kernel
theorem dX5_readOrder_111 : decode cX5_readOrder 111 = .ok (.bipush 32, 2) := by decide +kernel
theorem dX5_readOrder_113 : decode cX5_readOrder 113 = .ok (.if_icmp .eq 7, 3) := by decide +kernel
theorem dX5_readOrder_116 : decode cX5_readOrder 116 = .ok (.iconst 1, 1) := by decide +kernel
theorem dX5_readOrder_117 : decode cX5_readOrder 117 = .ok (.goto 4, 3) := by decide +kernel
theorem dX5_readOrder_120 : decode cX5_readOrder 120 = .ok (.iconst 0, 1) := by decide +kernel
theorem dX5_readOrder_121 : decode cX5_readOrder 121 = .ok (.istore_n 3, 1) := by decide +kernel
theorem dX5_readOrder_122 : decode cX5_readOrder 122 = .ok (.iload_n 3, 1) := by decide +kernel
theorem dX5_readOrder_123 : decode cX5_readOrder 123 = .ok (.ifCond .ne 9, 3) := by decide +kernel
theorem dX5_readOrder_126 : decode cX5_readOrder 126 = .ok (.aload_n 0, 1) := by decide +kernel
theorem dX5_readOrder_127 : decode cX5_readOrder 127 = .ok (.iconst 1, 1) := by decide +kernel
theorem dX5_readOrder_128 : decode cX5_readOrder 128 = .ok (.putfield 207, 3) := by decide +kernel
theorem dX5_readOrder_131 : decode cX5_readOrder 131 = .ok (.return_, 1) := by decide +kernel
theorem dX5_readOrder_132 : decode cX5_readOrder 132 = .ok (.aload_n 0, 1) := by decide +kernel
theorem dX5_readOrder_133 : decode cX5_readOrder 133 = .ok (.dup, 1) := by decide +kernel
theorem dX5_readOrder_134 : decode cX5_readOrder 134 = .ok (.getfield 210, 3) := by decide +kernel
theorem dX5_readOrder_137 : decode cX5_readOrder 137 = .ok (.iconst 1, 1) := by decide +kernel
theorem dX5_readOrder_138 : decode cX5_readOrder 138 = .ok (.iadd, 1) := by decide +kernel
theorem dX5_readOrder_139 : decode cX5_readOrder 139 = .ok (.putfield 210, 3) := by decide +kernel
theorem dX5_readOrder_142 : decode cX5_readOrder 142 = .ok (.iconst 3, 1) := by decide +kernel
theorem dX5_readOrder_143 : decode cX5_readOrder 143 = .ok (.aload_n 0, 1) := by decide +kernel
theorem dX5_readOrder_144 : decode cX5_readOrder 144 = .ok (.getfield 221, 3) := by decide +kernel
theorem dX5_readOrder_147 : decode cX5_readOrder 147 = .ok (.imul, 1) := by decide +kernel
theorem dX5_readOrder_148 : decode cX5_readOrder 148 = .ok (.istore 4, 2) := by decide +kernel
theorem dX5_readOrder_150 : decode cX5_readOrder 150 = .ok (.aload_n 0, 1) := by decide +kernel
theorem dX5_readOrder_151 : decode cX5_readOrder 151 = .ok (.getfield 39, 3) := by decide +kernel
theorem dX5_readOrder_154 : decode cX5_readOrder 154 = .ok (.iload 4, 2) := by decide +kernel
theorem dX5_readOrder_156 : decode cX5_readOrder 156 = .ok (.iload_n 1, 1) := by decide +kernel
theorem dX5_readOrder_157 : decode cX5_readOrder 157 = .ok (.iastore, 1) := by decide +kernel
theorem dX5_readOrder_158 : decode cX5_readOrder 158 = .ok (.aload_n 0, 1) := by decide +kernel
theorem dX5_readOrder_159 : decode cX5_readOrder 159 = .ok (.getfield 39, 3) := by decide +kernel
theorem dX5_readOrder_162 : decode cX5_readOrder 162 = .ok (.iload 4, 2) := by decide +kernel
theorem dX5_readOrder_164 : decode cX5_readOrder 164 = .ok (.iconst 1, 1) := by decide +kernel
theorem dX5_readOrder_165 : decode cX5_readOrder 165 = .ok (.iadd, 1) := by decide +kernel
theorem dX5_readOrder_166 : decode cX5_readOrder 166 = .ok (.iload_n 1, 1) := by decide +kernel
theorem dX5_readOrder_167 : decode cX5_readOrder 167 = .ok (.bipush 102, 2) := by decide +kernel
theorem dX5_readOrder_169 : decode cX5_readOrder 169 = .ok (.if_icmp .ne 7, 3) := by decide +kernel
theorem dX5_readOrder_172 : decode cX5_readOrder 172 = .ok (.iconst 0, 1) := by decide +kernel
theorem dX5_readOrder_173 : decode cX5_readOrder 173 = .ok (.goto 8, 3) := by decide +kernel
theorem dX5_readOrder_176 : decode cX5_readOrder 176 = .ok (.aload_n 0, 1) := by decide +kernel
theorem dX5_readOrder_177 : decode cX5_readOrder 177 = .ok (.iconst 2, 1) := by decide +kernel
theorem dX5_readOrder_178 : decode cX5_readOrder 178 = .ok (.invokevirtual 224, 3) := by decide +kernel
theorem dX5_readOrder_181 : decode cX5_readOrder 181 = .ok (.iastore, 1) := by decide +kernel
theorem dX5_readOrder_182 : decode cX5_readOrder 182 = .ok (.iload_n 2, 1) := by decide +kernel
theorem dX5_readOrder_183 : decode cX5_readOrder 183 = .ok (.bipush 32, 2) := by decide +kernel
theorem dX5_readOrder_185 : decode cX5_readOrder 185 = .ok (.if_icmp .eq 42, 3) := by decide +kernel
theorem dX5_readOrder_188 : decode cX5_readOrder 188 = .ok (.aload_n 0, 1) := by decide +kernel
theorem dX5_readOrder_189 : decode cX5_readOrder 189 = .ok (.getfield 207, 3) := by decide +kernel
theorem dX5_readOrder_192 : decode cX5_readOrder 192 = .ok (.ifCond .ne 35, 3) := by decide +kernel
theorem dX5_readOrder_195 : decode cX5_readOrder 195 = .ok (.aload_n 0, 1) := by decide +kernel
theorem dX5_readOrder_196 : decode cX5_readOrder 196 = .ok (.iload_n 2, 1) := by decide +kernel
theorem dX5_readOrder_197 : decode cX5_readOrder 197 = .ok (.iload_n 2, 1) := by decide +kernel
theorem dX5_readOrder_198 : decode cX5_readOrder 198 = .ok (.invokevirtual 217, 3) := by decide +kernel
theorem dX5_readOrder_201 : decode cX5_readOrder 201 = .ok (.istore 5, 2) := by decide +kernel
theorem dX5_readOrder_203 : decode cX5_readOrder 203 = .ok (.aload_n 0, 1) := by decide +kernel
theorem dX5_readOrder_204 : decode cX5_readOrder 204 = .ok (.getfield 39, 3) := by decide +kernel
theorem dX5_readOrder_207 : decode cX5_readOrder 207 = .ok (.iload 4, 2) := by decide +kernel
theorem dX5_readOrder_209 : decode cX5_readOrder 209 = .ok (.iconst 2, 1) := by decide +kernel
theorem dX5_readOrder_210 : decode cX5_readOrder 210 = .ok (.iadd, 1) := by decide +kernel
theorem dX5_readOrder_211 : decode cX5_readOrder 211 = .ok (.aload_n 0, 1) := by decide +kernel
theorem dX5_readOrder_212 : decode cX5_readOrder 212 = .ok (.iload_n 1, 1) := by decide +kernel
theorem dX5_readOrder_213 : decode cX5_readOrder 213 = .ok (.bipush 101, 2) := by decide +kernel
theorem dX5_readOrder_215 : decode cX5_readOrder 215 = .ok (.if_icmp .ne 7, 3) := by decide +kernel
theorem dX5_readOrder_218 : decode cX5_readOrder 218 = .ok (.iconst 3, 1) := by decide +kernel
theorem dX5_readOrder_219 : decode cX5_readOrder 219 = .ok (.goto 4, 3) := by decide +kernel
theorem dX5_readOrder_222 : decode cX5_readOrder 222 = .ok (.iconst 2, 1) := by decide +kernel
theorem dX5_readOrder_223 : decode cX5_readOrder 223 = .ok (.invokevirtual 224, 3) := by decide +kernel
theorem dX5_readOrder_226 : decode cX5_readOrder 226 = .ok (.iastore, 1) := by decide +kernel
theorem dX5_readOrder_227 : decode cX5_readOrder 227 = .ok (.aload_n 0, 1) := by decide +kernel
theorem dX5_readOrder_228 : decode cX5_readOrder 228 = .ok (.dup, 1) := by decide +kernel
theorem dX5_readOrder_229 : decode cX5_readOrder 229 = .ok (.getfield 221, 3) := by decide +kernel
theorem dX5_readOrder_232 : decode cX5_readOrder 232 = .ok (.iconst 1, 1) := by decide +kernel
theorem dX5_readOrder_233 : decode cX5_readOrder 233 = .ok (.iadd, 1) := by decide +kernel
theorem dX5_readOrder_234 : decode cX5_readOrder 234 = .ok (.putfield 221, 3) := by decide +kernel
theorem dX5_readOrder_237 : decode cX5_readOrder 237 = .ok (.return_, 1) := by decide +kernel
theorem dX5_does_0 : decode cX5_does 0 = .ok (.aload_n 0, 1) := by decide +kernel
theorem dX5_does_1 : decode cX5_does 1 = .ok (.getfield 39, 3) := by decide +kernel
theorem dX5_does_4 : decode cX5_does 4 = .ok (.iconst 3, 1) := by decide +kernel
theorem dX5_does_5 : decode cX5_does 5 = .ok (.iload_n 1, 1) := by decide +kernel
theorem dX5_does_6 : decode cX5_does 6 = .ok (.imul, 1) := by decide +kernel
theorem dX5_does_7 : decode cX5_does 7 = .ok (.iconst 1, 1) := by decide +kernel
theorem dX5_does_8 : decode cX5_does 8 = .ok (.iadd, 1) := by decide +kernel
theorem dX5_does_9 : decode cX5_does 9 = .ok (.iaload, 1) := by decide +kernel
theorem dX5_does_10 : decode cX5_does 10 = .ok (.istore_n 2, 1) := by decide +kernel
theorem dX5_does_11 : decode cX5_does 11 = .ok (.aload_n 0, 1) := by decide +kernel
theorem dX5_does_12 : decode cX5_does 12 = .ok (.getfield 39, 3) := by decide +kernel
theorem dX5_does_15 : decode cX5_does 15 = .ok (.iconst 3, 1) := by decide +kernel
theorem dX5_does_16 : decode cX5_does 16 = .ok (.iload_n 1, 1) := by decide +kernel
theorem dX5_does_17 : decode cX5_does 17 = .ok (.imul, 1) := by decide +kernel
theorem dX5_does_18 : decode cX5_does 18 = .ok (.iconst 2, 1) := by decide +kernel
theorem dX5_does_19 : decode cX5_does 19 = .ok (.iadd, 1) := by decide +kernel
theorem dX5_does_20 : decode cX5_does 20 = .ok (.iaload, 1) := by decide +kernel
theorem dX5_does_21 : decode cX5_does 21 = .ok (.istore_n 3, 1) := by decide +kernel
theorem dX5_does_22 : decode cX5_does 22 = .ok (.aload_n 0, 1) := by decide +kernel
theorem dX5_does_23 : decode cX5_does 23 = .ok (.getfield 39, 3) := by decide +kernel
theorem dX5_does_26 : decode cX5_does 26 = .ok (.iconst 3, 1) := by decide +kernel
theorem dX5_does_27 : decode cX5_does 27 = .ok (.iload_n 1, 1) := by decide +kernel
theorem dX5_does_28 : decode cX5_does 28 = .ok (.imul, 1) := by decide +kernel
theorem dX5_does_29 : decode cX5_does 29 = .ok (.iaload, 1) := by decide +kernel
theorem dX5_does_30 : decode cX5_does 30 = .ok (.tableswitch 161 98 113 #[87, 108, 161, 150, 78, 97, 161, 161, 161, 161, 161, 118, 161, 161, 129, 139], 78) := by decide +kernel
theorem dX5_does_108 : decode cX5_does 108 = .ok (.aload_n 0, 1) := by decide +kernel
theorem dX5_does_109 : decode cX5_does 109 = .ok (.invokevirtual 82, 3) := by decide +kernel
theorem dX5_does_112 : decode cX5_does 112 = .ok (.istore 4, 2) := by decide +kernel
theorem dX5_does_114 : decode cX5_does 114 = .ok (.goto 84, 3) := by decide +kernel
theorem dX5_does_117 : decode cX5_does 117 = .ok (.aload_n 0, 1) := by decide +kernel
theorem dX5_does_118 : decode cX5_does 118 = .ok (.iload_n 2, 1) := by decide +kernel
theorem dX5_does_119 : decode cX5_does 119 = .ok (.invokevirtual 99, 3) := by decide +kernel
theorem dX5_does_122 : decode cX5_does 122 = .ok (.istore 4, 2) := by decide +kernel
theorem dX5_does_124 : decode cX5_does 124 = .ok (.goto 74, 3) := by decide +kernel
theorem dX5_does_127 : decode cX5_does 127 = .ok (.aload_n 0, 1) := by decide +kernel
theorem dX5_does_128 : decode cX5_does 128 = .ok (.iload_n 2, 1) := by decide +kernel
theorem dX5_does_129 : decode cX5_does 129 = .ok (.iload_n 3, 1) := by decide +kernel
theorem dX5_does_130 : decode cX5_does 130 = .ok (.invokevirtual 111, 3) := by decide +kernel
theorem dX5_does_133 : decode cX5_does 133 = .ok (.istore 4, 2) := by decide +kernel
theorem dX5_does_135 : decode cX5_does 135 = .ok (.goto 63, 3) := by decide +kernel
theorem dX5_does_138 : decode cX5_does 138 = .ok (.aload_n 0, 1) := by decide +kernel
theorem dX5_does_139 : decode cX5_does 139 = .ok (.iload_n 2, 1) := by decide +kernel
theorem dX5_does_140 : decode cX5_does 140 = .ok (.invokevirtual 115, 3) := by decide +kernel
theorem dX5_does_143 : decode cX5_does 143 = .ok (.istore 4, 2) := by decide +kernel
theorem dX5_does_145 : decode cX5_does 145 = .ok (.goto 53, 3) := by decide +kernel
theorem dX5_does_148 : decode cX5_does 148 = .ok (.aload_n 0, 1) := by decide +kernel
theorem dX5_does_149 : decode cX5_does 149 = .ok (.iload_n 2, 1) := by decide +kernel
theorem dX5_does_150 : decode cX5_does 150 = .ok (.iload_n 3, 1) := by decide +kernel
theorem dX5_does_151 : decode cX5_does 151 = .ok (.invokevirtual 167, 3) := by decide +kernel
theorem dX5_does_154 : decode cX5_does 154 = .ok (.istore 4, 2) := by decide +kernel
theorem dX5_does_156 : decode cX5_does 156 = .ok (.goto 42, 3) := by decide +kernel
theorem dX5_does_159 : decode cX5_does 159 = .ok (.aload_n 0, 1) := by decide +kernel
theorem dX5_does_160 : decode cX5_does 160 = .ok (.iload_n 2, 1) := by decide +kernel
theorem dX5_does_161 : decode cX5_does 161 = .ok (.invokevirtual 173, 3) := by decide +kernel
theorem dX5_does_164 : decode cX5_does 164 = .ok (.istore 4, 2) := by decide +kernel
theorem dX5_does_166 : decode cX5_does 166 = .ok (.goto 32, 3) := by decide +kernel
theorem dX5_does_169 : decode cX5_does 169 = .ok (.aload_n 0, 1) := by decide +kernel
theorem dX5_does_170 : decode cX5_does 170 = .ok (.iload_n 2, 1) := by decide +kernel
theorem dX5_does_171 : decode cX5_does 171 = .ok (.iload_n 3, 1) := by decide +kernel
theorem dX5_does_172 : decode cX5_does 172 = .ok (.invokevirtual 182, 3) := by decide +kernel
theorem dX5_does_175 : decode cX5_does 175 = .ok (.istore 4, 2) := by decide +kernel
theorem dX5_does_177 : decode cX5_does 177 = .ok (.goto 21, 3) := by decide +kernel
theorem dX5_does_180 : decode cX5_does 180 = .ok (.aload_n 0, 1) := by decide +kernel
theorem dX5_does_181 : decode cX5_does 181 = .ok (.iload_n 2, 1) := by decide +kernel
theorem dX5_does_182 : decode cX5_does 182 = .ok (.iload_n 3, 1) := by decide +kernel
theorem dX5_does_183 : decode cX5_does 183 = .ok (.invokevirtual 185, 3) := by decide +kernel
theorem dX5_does_186 : decode cX5_does 186 = .ok (.istore 4, 2) := by decide +kernel
theorem dX5_does_188 : decode cX5_does 188 = .ok (.goto 10, 3) := by decide +kernel
theorem dX5_does_191 : decode cX5_does 191 = .ok (.aload_n 0, 1) := by decide +kernel
theorem dX5_does_192 : decode cX5_does 192 = .ok (.iload_n 2, 1) := by decide +kernel
theorem dX5_does_193 : decode cX5_does 193 = .ok (.invokevirtual 191, 3) := by decide +kernel
theorem dX5_does_196 : decode cX5_does 196 = .ok (.istore 4, 2) := by decide +kernel
theorem dX5_does_198 : decode cX5_does 198 = .ok (.return_, 1) := by decide +kernel
theorem dX5_run_0 : decode cX5_run 0 = .ok (.aload_n 0, 1) := by decide +kernel
theorem dX5_run_1 : decode cX5_run 1 = .ok (.iconst 0, 1) := by decide +kernel
theorem dX5_run_2 : decode cX5_run 2 = .ok (.putfield 210, 3) := by decide +kernel
theorem dX5_run_5 : decode cX5_run 5 = .ok (.aload_n 0, 1) := by decide +kernel
theorem dX5_run_6 : decode cX5_run 6 = .ok (.iconst 0, 1) := by decide +kernel
theorem dX5_run_7 : decode cX5_run 7 = .ok (.putfield 207, 3) := by decide +kernel
theorem dX5_run_10 : decode cX5_run 10 = .ok (.aload_n 0, 1) := by decide +kernel
theorem dX5_run_11 : decode cX5_run 11 = .ok (.iconst 0, 1) := by decide +kernel
theorem dX5_run_12 : decode cX5_run 12 = .ok (.putfield 221, 3) := by decide +kernel
theorem dX5_run_15 : decode cX5_run 15 = .ok (.aload_n 0, 1) := by decide +kernel
theorem dX5_run_16 : decode cX5_run 16 = .ok (.invokevirtual 227, 3) := by decide +kernel
theorem dX5_run_19 : decode cX5_run 19 = .ok (.aload_n 0, 1) := by decide +kernel
theorem dX5_run_20 : decode cX5_run 20 = .ok (.bipush 59, 2) := by decide +kernel
theorem dX5_run_22 : decode cX5_run 22 = .ok (.bipush 59, 2) := by decide +kernel
theorem dX5_run_24 : decode cX5_run 24 = .ok (.invokevirtual 213, 3) := by decide +kernel
theorem dX5_run_27 : decode cX5_run 27 = .ok (.ifCond .eq 20, 3) := by decide +kernel
theorem dX5_run_30 : decode cX5_run 30 = .ok (.aload_n 0, 1) := by decide +kernel
theorem dX5_run_31 : decode cX5_run 31 = .ok (.dup, 1) := by decide +kernel
theorem dX5_run_32 : decode cX5_run 32 = .ok (.getfield 210, 3) := by decide +kernel
theorem dX5_run_35 : decode cX5_run 35 = .ok (.iconst 1, 1) := by decide +kernel
theorem dX5_run_36 : decode cX5_run 36 = .ok (.iadd, 1) := by decide +kernel
theorem dX5_run_37 : decode cX5_run 37 = .ok (.putfield 210, 3) := by decide +kernel
theorem dX5_run_40 : decode cX5_run 40 = .ok (.aload_n 0, 1) := by decide +kernel
theorem dX5_run_41 : decode cX5_run 41 = .ok (.invokevirtual 227, 3) := by decide +kernel
theorem dX5_run_44 : decode cX5_run 44 = .ok (.goto (-25), 3) := by decide +kernel
theorem dX5_run_47 : decode cX5_run 47 = .ok (.aload_n 0, 1) := by decide +kernel
theorem dX5_run_48 : decode cX5_run 48 = .ok (.aload_n 0, 1) := by decide +kernel
theorem dX5_run_49 : decode cX5_run 49 = .ok (.getfield 207, 3) := by decide +kernel
theorem dX5_run_52 : decode cX5_run 52 = .ok (.ifCond .ne 14, 3) := by decide +kernel
theorem dX5_run_55 : decode cX5_run 55 = .ok (.aload_n 0, 1) := by decide +kernel
theorem dX5_run_56 : decode cX5_run 56 = .ok (.getfield 210, 3) := by decide +kernel
theorem dX5_run_59 : decode cX5_run 59 = .ok (.aload_n 0, 1) := by decide +kernel
theorem dX5_run_60 : decode cX5_run 60 = .ok (.getfield 204, 3) := by decide +kernel
theorem dX5_run_63 : decode cX5_run 63 = .ok (.if_icmp .ge 7, 3) := by decide +kernel
theorem dX5_run_66 : decode cX5_run 66 = .ok (.iconst 1, 1) := by decide +kernel
theorem dX5_run_67 : decode cX5_run 67 = .ok (.goto 4, 3) := by decide +kernel
theorem dX5_run_70 : decode cX5_run 70 = .ok (.iconst 0, 1) := by decide +kernel
theorem dX5_run_71 : decode cX5_run 71 = .ok (.putfield 207, 3) := by decide +kernel
theorem dX5_run_74 : decode cX5_run 74 = .ok (.aload_n 0, 1) := by decide +kernel
theorem dX5_run_75 : decode cX5_run 75 = .ok (.aload_n 0, 1) := by decide +kernel
theorem dX5_run_76 : decode cX5_run 76 = .ok (.getfield 207, 3) := by decide +kernel
theorem dX5_run_79 : decode cX5_run 79 = .ok (.ifCond .eq 10, 3) := by decide +kernel
theorem dX5_run_82 : decode cX5_run 82 = .ok (.aload_n 0, 1) := by decide +kernel
theorem dX5_run_83 : decode cX5_run 83 = .ok (.getfield 210, 3) := by decide +kernel
theorem dX5_run_86 : decode cX5_run 86 = .ok (.goto 4, 3) := by decide +kernel
theorem dX5_run_89 : decode cX5_run 89 = .ok (.iconst (-1), 1) := by decide +kernel
theorem dX5_run_90 : decode cX5_run 90 = .ok (.putfield 35, 3) := by decide +kernel
theorem dX5_run_93 : decode cX5_run 93 = .ok (.aload_n 0, 1) := by decide +kernel
theorem dX5_run_94 : decode cX5_run 94 = .ok (.iconst 0, 1) := by decide +kernel
theorem dX5_run_95 : decode cX5_run 95 = .ok (.putfield 204, 3) := by decide +kernel
theorem dX5_run_98 : decode cX5_run 98 = .ok (.aload_n 0, 1) := by decide +kernel
theorem dX5_run_99 : decode cX5_run 99 = .ok (.getfield 207, 3) := by decide +kernel
theorem dX5_run_102 : decode cX5_run 102 = .ok (.ifCond .eq 9, 3) := by decide +kernel
theorem dX5_run_105 : decode cX5_run 105 = .ok (.aload_n 0, 1) := by decide +kernel
theorem dX5_run_106 : decode cX5_run 106 = .ok (.iconst 1, 1) := by decide +kernel
theorem dX5_run_107 : decode cX5_run 107 = .ok (.invokevirtual 93, 3) := by decide +kernel
theorem dX5_run_110 : decode cX5_run 110 = .ok (.ireturn, 1) := by decide +kernel
theorem dX5_run_111 : decode cX5_run 111 = .ok (.aload_n 0, 1) := by decide +kernel
theorem dX5_run_112 : decode cX5_run 112 = .ok (.invokevirtual 79, 3) := by decide +kernel
theorem dX5_run_115 : decode cX5_run 115 = .ok (.iconst 0, 1) := by decide +kernel
theorem dX5_run_116 : decode cX5_run 116 = .ok (.istore_n 1, 1) := by decide +kernel
theorem dX5_run_117 : decode cX5_run 117 = .ok (.iload_n 1, 1) := by decide +kernel
theorem dX5_run_118 : decode cX5_run 118 = .ok (.aload_n 0, 1) := by decide +kernel
theorem dX5_run_119 : decode cX5_run 119 = .ok (.getfield 221, 3) := by decide +kernel
theorem dX5_run_122 : decode cX5_run 122 = .ok (.if_icmp .ge 48, 3) := by decide +kernel
theorem dX5_run_125 : decode cX5_run 125 = .ok (.aload_n 0, 1) := by decide +kernel
theorem dX5_run_126 : decode cX5_run 126 = .ok (.iconst 0, 1) := by decide +kernel
theorem dX5_run_127 : decode cX5_run 127 = .ok (.putfield 54, 3) := by decide +kernel
theorem dX5_run_130 : decode cX5_run 130 = .ok (.aload_n 0, 1) := by decide +kernel
theorem dX5_run_131 : decode cX5_run 131 = .ok (.iload_n 1, 1) := by decide +kernel
theorem dX5_run_132 : decode cX5_run 132 = .ok (.invokevirtual 230, 3) := by decide +kernel
theorem dX5_run_135 : decode cX5_run 135 = .ok (.aload_n 0, 1) := by decide +kernel
theorem dX5_run_136 : decode cX5_run 136 = .ok (.getfield 42, 3) := by decide +kernel
theorem dX5_run_139 : decode cX5_run 139 = .ok (.ifCond .le 25, 3) := by decide +kernel
theorem dX5_run_142 : decode cX5_run 142 = .ok (.aload_n 0, 1) := by decide +kernel
theorem dX5_run_143 : decode cX5_run 143 = .ok (.aload_n 0, 1) := by decide +kernel
theorem dX5_run_144 : decode cX5_run 144 = .ok (.getfield 54, 3) := by decide +kernel
theorem dX5_run_147 : decode cX5_run 147 = .ok (.ifCond .eq 7, 3) := by decide +kernel
theorem dX5_run_150 : decode cX5_run 150 = .ok (.iconst 2, 1) := by decide +kernel
theorem dX5_run_151 : decode cX5_run 151 = .ok (.goto 4, 3) := by decide +kernel
theorem dX5_run_154 : decode cX5_run 154 = .ok (.iconst 1, 1) := by decide +kernel
theorem dX5_run_155 : decode cX5_run 155 = .ok (.putfield 42, 3) := by decide +kernel
theorem dX5_run_158 : decode cX5_run 158 = .ok (.aload_n 0, 1) := by decide +kernel
theorem dX5_run_159 : decode cX5_run 159 = .ok (.iconst 0, 1) := by decide +kernel
theorem dX5_run_160 : decode cX5_run 160 = .ok (.invokevirtual 86, 3) := by decide +kernel
theorem dX5_run_163 : decode cX5_run 163 = .ok (.ireturn, 1) := by decide +kernel
theorem dX5_run_164 : decode cX5_run 164 = .ok (.iinc 1 1, 3) := by decide +kernel
theorem dX5_run_167 : decode cX5_run 167 = .ok (.goto (-50), 3) := by decide +kernel
theorem dX5_run_170 : decode cX5_run 170 = .ok (.aload_n 0, 1) := by decide +kernel
theorem dX5_run_171 : decode cX5_run 171 = .ok (.aload_n 0, 1) := by decide +kernel
theorem dX5_run_172 : decode cX5_run 172 = .ok (.getfield 221, 3) := by decide +kernel
theorem dX5_run_175 : decode cX5_run 175 = .ok (.invokevirtual 86, 3) := by decide +kernel
theorem dX5_run_178 : decode cX5_run 178 = .ok (.ireturn, 1) := by decide +kernel
theorem dX5_errorPosition_0 : decode cX5_errorPosition 0 = .ok (.aload_n 0, 1) := by decide +kernel
theorem dX5_errorPosition_1 : decode cX5_errorPosition 1 = .ok (.iconst 0, 1) := by decide +kernel
theorem dX5_errorPosition_2 : decode cX5_errorPosition 2 = .ok (.putfield 42, 3) := by decide +kernel
theorem dX5_errorPosition_5 : decode cX5_errorPosition 5 = .ok (.aload_n 0, 1) := by decide +kernel
theorem dX5_errorPosition_6 : decode cX5_errorPosition 6 = .ok (.getfield 35, 3) := by decide +kernel
theorem dX5_errorPosition_9 : decode cX5_errorPosition 9 = .ok (.ireturn, 1) := by decide +kernel
theorem dX5_living_0 : decode cX5_living 0 = .ok (.iconst 0, 1) := by decide +kernel
theorem dX5_living_1 : decode cX5_living 1 = .ok (.istore_n 1, 1) := by decide +kernel
theorem dX5_living_2 : decode cX5_living 2 = .ok (.iconst 0, 1) := by decide +kernel
theorem dX5_living_3 : decode cX5_living 3 = .ok (.istore_n 2, 1) := by decide +kernel
theorem dX5_living_4 : decode cX5_living 4 = .ok (.iload_n 2, 1) := by decide +kernel
theorem dX5_living_5 : decode cX5_living 5 = .ok (.aload_n 0, 1) := by decide +kernel
theorem dX5_living_6 : decode cX5_living 6 = .ok (.getfield 9, 3) := by decide +kernel
theorem dX5_living_9 : decode cX5_living 9 = .ok (.iconst 0, 1) := by decide +kernel
theorem dX5_living_10 : decode cX5_living 10 = .ok (.iaload, 1) := by decide +kernel
theorem dX5_living_11 : decode cX5_living 11 = .ok (.if_icmp .ge 21, 3) := by decide +kernel
theorem dX5_living_14 : decode cX5_living 14 = .ok (.iload_n 1, 1) := by decide +kernel
theorem dX5_living_15 : decode cX5_living 15 = .ok (.aload_n 0, 1) := by decide +kernel
theorem dX5_living_16 : decode cX5_living 16 = .ok (.getfield 9, 3) := by decide +kernel
theorem dX5_living_19 : decode cX5_living 19 = .ok (.bipush 77, 2) := by decide +kernel
theorem dX5_living_21 : decode cX5_living 21 = .ok (.iload_n 2, 1) := by decide +kernel
theorem dX5_living_22 : decode cX5_living 22 = .ok (.iadd, 1) := by decide +kernel
theorem dX5_living_23 : decode cX5_living 23 = .ok (.iaload, 1) := by decide +kernel
theorem dX5_living_24 : decode cX5_living 24 = .ok (.iadd, 1) := by decide +kernel
theorem dX5_living_25 : decode cX5_living 25 = .ok (.istore_n 1, 1) := by decide +kernel
theorem dX5_living_26 : decode cX5_living 26 = .ok (.iinc 2 1, 3) := by decide +kernel
theorem dX5_living_29 : decode cX5_living 29 = .ok (.goto (-25), 3) := by decide +kernel
theorem dX5_living_32 : decode cX5_living 32 = .ok (.iload_n 1, 1) := by decide +kernel
theorem dX5_living_33 : decode cX5_living 33 = .ok (.ireturn, 1) := by decide +kernel
theorem dX5_coins_0 : decode cX5_coins 0 = .ok (.iconst 0, 1) := by decide +kernel
theorem dX5_coins_1 : decode cX5_coins 1 = .ok (.istore_n 1, 1) := by decide +kernel
theorem dX5_coins_2 : decode cX5_coins 2 = .ok (.iconst 0, 1) := by decide +kernel
theorem dX5_coins_3 : decode cX5_coins 3 = .ok (.istore_n 2, 1) := by decide +kernel
theorem dX5_coins_4 : decode cX5_coins 4 = .ok (.iload_n 2, 1) := by decide +kernel
theorem dX5_coins_5 : decode cX5_coins 5 = .ok (.aload_n 0, 1) := by decide +kernel
theorem dX5_coins_6 : decode cX5_coins 6 = .ok (.getfield 9, 3) := by decide +kernel
theorem dX5_coins_9 : decode cX5_coins 9 = .ok (.iconst 0, 1) := by decide +kernel
theorem dX5_coins_10 : decode cX5_coins 10 = .ok (.iaload, 1) := by decide +kernel
theorem dX5_coins_11 : decode cX5_coins 11 = .ok (.if_icmp .ge 21, 3) := by decide +kernel
theorem dX5_coins_14 : decode cX5_coins 14 = .ok (.iload_n 1, 1) := by decide +kernel
theorem dX5_coins_15 : decode cX5_coins 15 = .ok (.aload_n 0, 1) := by decide +kernel
theorem dX5_coins_16 : decode cX5_coins 16 = .ok (.getfield 9, 3) := by decide +kernel
theorem dX5_coins_19 : decode cX5_coins 19 = .ok (.bipush 53, 2) := by decide +kernel
theorem dX5_coins_21 : decode cX5_coins 21 = .ok (.iload_n 2, 1) := by decide +kernel
theorem dX5_coins_22 : decode cX5_coins 22 = .ok (.iadd, 1) := by decide +kernel
theorem dX5_coins_23 : decode cX5_coins 23 = .ok (.iaload, 1) := by decide +kernel
theorem dX5_coins_24 : decode cX5_coins 24 = .ok (.iadd, 1) := by decide +kernel
theorem dX5_coins_25 : decode cX5_coins 25 = .ok (.istore_n 1, 1) := by decide +kernel
theorem dX5_coins_26 : decode cX5_coins 26 = .ok (.iinc 2 1, 3) := by decide +kernel
theorem dX5_coins_29 : decode cX5_coins 29 = .ok (.goto (-25), 3) := by decide +kernel
theorem dX5_coins_32 : decode cX5_coins 32 = .ok (.iload_n 1, 1) := by decide +kernel
theorem dX5_coins_33 : decode cX5_coins 33 = .ok (.ireturn, 1) := by decide +kernel
theorem dX5_account_0 : decode cX5_account 0 = .ok (.aload_n 0, 1) := by decide +kernel
theorem dX5_account_1 : decode cX5_account 1 = .ok (.iload_n 1, 1) := by decide +kernel
theorem dX5_account_2 : decode cX5_account 2 = .ok (.iconst 0, 1) := by decide +kernel
theorem dX5_account_3 : decode cX5_account 3 = .ok (.bipush 11, 2) := by decide +kernel
theorem dX5_account_5 : decode cX5_account 5 = .ok (.invokestatic 64, 3) := by decide +kernel
theorem dX5_account_8 : decode cX5_account 8 = .ok (.ifCond .eq 7, 3) := by decide +kernel
theorem dX5_account_11 : decode cX5_account 11 = .ok (.iconst 0, 1) := by decide +kernel
theorem dX5_account_12 : decode cX5_account 12 = .ok (.goto 4, 3) := by decide +kernel
theorem dX5_account_15 : decode cX5_account 15 = .ok (.iconst 1, 1) := by decide +kernel
theorem dX5_account_16 : decode cX5_account 16 = .ok (.putfield 42, 3) := by decide +kernel
theorem dX5_account_19 : decode cX5_account 19 = .ok (.aload_n 0, 1) := by decide +kernel
theorem dX5_account_20 : decode cX5_account 20 = .ok (.getfield 42, 3) := by decide +kernel
theorem dX5_account_23 : decode cX5_account 23 = .ok (.ifCond .le 5, 3) := by decide +kernel
theorem dX5_account_26 : decode cX5_account 26 = .ok (.iconst 0, 1) := by decide +kernel
theorem dX5_account_27 : decode cX5_account 27 = .ok (.ireturn, 1) := by decide +kernel
theorem dX5_account_28 : decode cX5_account 28 = .ok (.iconst 0, 1) := by decide +kernel
theorem dX5_account_29 : decode cX5_account 29 = .ok (.istore_n 2, 1) := by decide +kernel
theorem dX5_account_30 : decode cX5_account 30 = .ok (.iload_n 1, 1) := by decide +kernel
theorem dX5_account_31 : decode cX5_account 31 = .ok (.tableswitch 183 0 10 #[57, 64, 69, 74, 115, 122, 129, 159, 164, 171, 178], 57) := by decide +kernel
theorem dX5_account_88 : decode cX5_account 88 = .ok (.aload_n 0, 1) := by decide +kernel
theorem dX5_account_89 : decode cX5_account 89 = .ok (.getfield 9, 3) := by decide +kernel
theorem dX5_account_92 : decode cX5_account 92 = .ok (.iconst 0, 1) := by decide +kernel
theorem dX5_account_93 : decode cX5_account 93 = .ok (.iaload, 1) := by decide +kernel
theorem dX5_account_94 : decode cX5_account 94 = .ok (.ireturn, 1) := by decide +kernel
theorem dX5_account_95 : decode cX5_account 95 = .ok (.aload_n 0, 1) := by decide +kernel
theorem dX5_account_96 : decode cX5_account 96 = .ok (.invokevirtual 233, 3) := by decide +kernel
theorem dX5_account_99 : decode cX5_account 99 = .ok (.ireturn, 1) := by decide +kernel
theorem dX5_account_100 : decode cX5_account 100 = .ok (.aload_n 0, 1) := by decide +kernel
theorem dX5_account_101 : decode cX5_account 101 = .ok (.invokevirtual 108, 3) := by decide +kernel
theorem dX5_account_104 : decode cX5_account 104 = .ok (.ireturn, 1) := by decide +kernel
theorem dX5_account_105 : decode cX5_account 105 = .ok (.iconst 0, 1) := by decide +kernel
theorem dX5_account_106 : decode cX5_account 106 = .ok (.istore_n 3, 1) := by decide +kernel
theorem dX5_account_107 : decode cX5_account 107 = .ok (.iload_n 3, 1) := by decide +kernel
theorem dX5_account_108 : decode cX5_account 108 = .ok (.aload_n 0, 1) := by decide +kernel
theorem dX5_account_109 : decode cX5_account 109 = .ok (.getfield 9, 3) := by decide +kernel
theorem dX5_account_112 : decode cX5_account 112 = .ok (.iconst 0, 1) := by decide +kernel
theorem dX5_account_113 : decode cX5_account 113 = .ok (.iaload, 1) := by decide +kernel
theorem dX5_account_114 : decode cX5_account 114 = .ok (.if_icmp .ge 30, 3) := by decide +kernel
theorem dX5_account_117 : decode cX5_account 117 = .ok (.iload_n 2, 1) := by decide +kernel
theorem dX5_account_118 : decode cX5_account 118 = .ok (.aload_n 0, 1) := by decide +kernel
theorem dX5_account_119 : decode cX5_account 119 = .ok (.getfield 9, 3) := by decide +kernel
theorem dX5_account_122 : decode cX5_account 122 = .ok (.bipush 29, 2) := by decide +kernel
theorem dX5_account_124 : decode cX5_account 124 = .ok (.iload_n 3, 1) := by decide +kernel
theorem dX5_account_125 : decode cX5_account 125 = .ok (.iadd, 1) := by decide +kernel
theorem dX5_account_126 : decode cX5_account 126 = .ok (.iaload, 1) := by decide +kernel
theorem dX5_account_127 : decode cX5_account 127 = .ok (.iload_n 3, 1) := by decide +kernel
theorem dX5_account_128 : decode cX5_account 128 = .ok (.if_icmp .le 7, 3) := by decide +kernel
theorem dX5_account_131 : decode cX5_account 131 = .ok (.iconst 1, 1) := by decide +kernel
theorem dX5_account_132 : decode cX5_account 132 = .ok (.goto 4, 3) := by decide +kernel
theorem dX5_account_135 : decode cX5_account 135 = .ok (.iconst 0, 1) := by decide +kernel
theorem dX5_account_136 : decode cX5_account 136 = .ok (.iadd, 1) := by decide +kernel
theorem dX5_account_137 : decode cX5_account 137 = .ok (.istore_n 2, 1) := by decide +kernel
theorem dX5_account_138 : decode cX5_account 138 = .ok (.iinc 3 1, 3) := by decide +kernel
theorem dX5_account_141 : decode cX5_account 141 = .ok (.goto (-34), 3) := by decide +kernel
theorem dX5_account_144 : decode cX5_account 144 = .ok (.iload_n 2, 1) := by decide +kernel
theorem dX5_account_145 : decode cX5_account 145 = .ok (.ireturn, 1) := by decide +kernel
theorem dX5_account_146 : decode cX5_account 146 = .ok (.aload_n 0, 1) := by decide +kernel
theorem dX5_account_147 : decode cX5_account 147 = .ok (.getfield 9, 3) := by decide +kernel
theorem dX5_account_150 : decode cX5_account 150 = .ok (.iconst 1, 1) := by decide +kernel
theorem dX5_account_151 : decode cX5_account 151 = .ok (.iaload, 1) := by decide +kernel
theorem dX5_account_152 : decode cX5_account 152 = .ok (.ireturn, 1) := by decide +kernel
theorem dX5_account_153 : decode cX5_account 153 = .ok (.aload_n 0, 1) := by decide +kernel
theorem dX5_account_154 : decode cX5_account 154 = .ok (.getfield 9, 3) := by decide +kernel
theorem dX5_account_157 : decode cX5_account 157 = .ok (.iconst 2, 1) := by decide +kernel
theorem dX5_account_158 : decode cX5_account 158 = .ok (.iaload, 1) := by decide +kernel
theorem dX5_account_159 : decode cX5_account 159 = .ok (.ireturn, 1) := by decide +kernel
theorem dX5_account_160 : decode cX5_account 160 = .ok (.iconst 0, 1) := by decide +kernel
theorem dX5_account_161 : decode cX5_account 161 = .ok (.istore_n 3, 1) := by decide +kernel
theorem dX5_account_162 : decode cX5_account 162 = .ok (.iload_n 3, 1) := by decide +kernel
theorem dX5_account_163 : decode cX5_account 163 = .ok (.aload_n 0, 1) := by decide +kernel
theorem dX5_account_164 : decode cX5_account 164 = .ok (.getfield 9, 3) := by decide +kernel
theorem dX5_account_167 : decode cX5_account 167 = .ok (.iconst 0, 1) := by decide +kernel
theorem dX5_account_168 : decode cX5_account 168 = .ok (.iaload, 1) := by decide +kernel
theorem dX5_account_169 : decode cX5_account 169 = .ok (.if_icmp .ge 19, 3) := by decide +kernel
theorem dX5_account_172 : decode cX5_account 172 = .ok (.iload_n 2, 1) := by decide +kernel
theorem dX5_account_173 : decode cX5_account 173 = .ok (.aload_n 0, 1) := by decide +kernel
theorem dX5_account_174 : decode cX5_account 174 = .ok (.iload_n 3, 1) := by decide +kernel
theorem dX5_account_175 : decode cX5_account 175 = .ok (.invokevirtual 118, 3) := by decide +kernel
theorem dX5_account_178 : decode cX5_account 178 = .ok (.invokestatic 236, 3) := by decide +kernel
theorem dX5_account_181 : decode cX5_account 181 = .ok (.istore_n 2, 1) := by decide +kernel
theorem dX5_account_182 : decode cX5_account 182 = .ok (.iinc 3 1, 3) := by decide +kernel
theorem dX5_account_185 : decode cX5_account 185 = .ok (.goto (-23), 3) := by decide +kernel
theorem dX5_account_188 : decode cX5_account 188 = .ok (.iload_n 2, 1) := by decide +kernel
theorem dX5_account_189 : decode cX5_account 189 = .ok (.ireturn, 1) := by decide +kernel
theorem dX5_account_190 : decode cX5_account 190 = .ok (.aload_n 0, 1) := by decide +kernel
theorem dX5_account_191 : decode cX5_account 191 = .ok (.invokevirtual 239, 3) := by decide +kernel
theorem dX5_account_194 : decode cX5_account 194 = .ok (.ireturn, 1) := by decide +kernel
theorem dX5_account_195 : decode cX5_account 195 = .ok (.aload_n 0, 1) := by decide +kernel
theorem dX5_account_196 : decode cX5_account 196 = .ok (.getfield 9, 3) := by decide +kernel
theorem dX5_account_199 : decode cX5_account 199 = .ok (.iconst 3, 1) := by decide +kernel
theorem dX5_account_200 : decode cX5_account 200 = .ok (.iaload, 1) := by decide +kernel
theorem dX5_account_201 : decode cX5_account 201 = .ok (.ireturn, 1) := by decide +kernel
theorem dX5_account_202 : decode cX5_account 202 = .ok (.aload_n 0, 1) := by decide +kernel
theorem dX5_account_203 : decode cX5_account 203 = .ok (.getfield 9, 3) := by decide +kernel
theorem dX5_account_206 : decode cX5_account 206 = .ok (.iconst 4, 1) := by decide +kernel
theorem dX5_account_207 : decode cX5_account 207 = .ok (.iaload, 1) := by decide +kernel
theorem dX5_account_208 : decode cX5_account 208 = .ok (.ireturn, 1) := by decide +kernel
theorem dX5_account_209 : decode cX5_account 209 = .ok (.aload_n 0, 1) := by decide +kernel
theorem dX5_account_210 : decode cX5_account 210 = .ok (.getfield 204, 3) := by decide +kernel
theorem dX5_account_213 : decode cX5_account 213 = .ok (.ireturn, 1) := by decide +kernel
theorem dX5_account_214 : decode cX5_account 214 = .ok (.aload_n 0, 1) := by decide +kernel
theorem dX5_account_215 : decode cX5_account 215 = .ok (.getfield 51, 3) := by decide +kernel
theorem dX5_account_218 : decode cX5_account 218 = .ok (.ireturn, 1) := by decide +kernel
theorem dX5_isWell_0 : decode cX5_isWell 0 = .ok (.aload_n 0, 1) := by decide +kernel
theorem dX5_isWell_1 : decode cX5_isWell 1 = .ok (.iconst 0, 1) := by decide +kernel
theorem dX5_isWell_2 : decode cX5_isWell 2 = .ok (.putfield 42, 3) := by decide +kernel
theorem dX5_isWell_5 : decode cX5_isWell 5 = .ok (.aload_n 0, 1) := by decide +kernel
theorem dX5_isWell_6 : decode cX5_isWell 6 = .ok (.invokevirtual 155, 3) := by decide +kernel
theorem dX5_isWell_9 : decode cX5_isWell 9 = .ok (.aload_n 0, 1) := by decide +kernel
theorem dX5_isWell_10 : decode cX5_isWell 10 = .ok (.getfield 9, 3) := by decide +kernel
theorem dX5_isWell_13 : decode cX5_isWell 13 = .ok (.iconst 3, 1) := by decide +kernel
theorem dX5_isWell_14 : decode cX5_isWell 14 = .ok (.iaload, 1) := by decide +kernel
theorem dX5_isWell_15 : decode cX5_isWell 15 = .ok (.aload_n 0, 1) := by decide +kernel
theorem dX5_isWell_16 : decode cX5_isWell 16 = .ok (.invokevirtual 239, 3) := by decide +kernel
theorem dX5_isWell_19 : decode cX5_isWell 19 = .ok (.aload_n 0, 1) := by decide +kernel
theorem dX5_isWell_20 : decode cX5_isWell 20 = .ok (.getfield 9, 3) := by decide +kernel
theorem dX5_isWell_23 : decode cX5_isWell 23 = .ok (.iconst 4, 1) := by decide +kernel
theorem dX5_isWell_24 : decode cX5_isWell 24 = .ok (.iaload, 1) := by decide +kernel
theorem dX5_isWell_25 : decode cX5_isWell 25 = .ok (.iadd, 1) := by decide +kernel
theorem dX5_isWell_26 : decode cX5_isWell 26 = .ok (.if_icmp .ne 7, 3) := by decide +kernel
theorem dX5_isWell_29 : decode cX5_isWell 29 = .ok (.iconst 1, 1) := by decide +kernel
theorem dX5_isWell_30 : decode cX5_isWell 30 = .ok (.goto 4, 3) := by decide +kernel
theorem dX5_isWell_33 : decode cX5_isWell 33 = .ok (.iconst 0, 1) := by decide +kernel
theorem dX5_isWell_34 : decode cX5_isWell 34 = .ok (.istore_n 1, 1) := by decide +kernel
theorem dX5_isWell_35 : decode cX5_isWell 35 = .ok (.iconst 0, 1) := by decide +kernel
theorem dX5_isWell_36 : decode cX5_isWell 36 = .ok (.istore_n 2, 1) := by decide +kernel
theorem dX5_isWell_37 : decode cX5_isWell 37 = .ok (.iload_n 2, 1) := by decide +kernel
theorem dX5_isWell_38 : decode cX5_isWell 38 = .ok (.aload_n 0, 1) := by decide +kernel
theorem dX5_isWell_39 : decode cX5_isWell 39 = .ok (.getfield 9, 3) := by decide +kernel
theorem dX5_isWell_42 : decode cX5_isWell 42 = .ok (.iconst 1, 1) := by decide +kernel
theorem dX5_isWell_43 : decode cX5_isWell 43 = .ok (.iaload, 1) := by decide +kernel
theorem dX5_isWell_44 : decode cX5_isWell 44 = .ok (.if_icmp .ge 56, 3) := by decide +kernel
theorem dX5_isWell_47 : decode cX5_isWell 47 = .ok (.iload_n 1, 1) := by decide +kernel
theorem dX5_isWell_48 : decode cX5_isWell 48 = .ok (.ifCond .eq 44, 3) := by decide +kernel
theorem dX5_isWell_51 : decode cX5_isWell 51 = .ok (.aload_n 0, 1) := by decide +kernel
theorem dX5_isWell_52 : decode cX5_isWell 52 = .ok (.getfield 25, 3) := by decide +kernel
theorem dX5_isWell_55 : decode cX5_isWell 55 = .ok (.aload_n 0, 1) := by decide +kernel
theorem dX5_isWell_56 : decode cX5_isWell 56 = .ok (.getfield 9, 3) := by decide +kernel
theorem dX5_isWell_59 : decode cX5_isWell 59 = .ok (.bipush 101, 2) := by decide +kernel
theorem dX5_isWell_61 : decode cX5_isWell 61 = .ok (.iconst 2, 1) := by decide +kernel
theorem dX5_isWell_62 : decode cX5_isWell 62 = .ok (.iload_n 2, 1) := by decide +kernel
theorem dX5_isWell_63 : decode cX5_isWell 63 = .ok (.imul, 1) := by decide +kernel
theorem dX5_isWell_64 : decode cX5_isWell 64 = .ok (.iadd, 1) := by decide +kernel
theorem dX5_isWell_65 : decode cX5_isWell 65 = .ok (.iaload, 1) := by decide +kernel
theorem dX5_isWell_66 : decode cX5_isWell 66 = .ok (.iaload, 1) := by decide +kernel
theorem dX5_isWell_67 : decode cX5_isWell 67 = .ok (.aload_n 0, 1) := by decide +kernel
theorem dX5_isWell_68 : decode cX5_isWell 68 = .ok (.getfield 25, 3) := by decide +kernel
theorem dX5_isWell_71 : decode cX5_isWell 71 = .ok (.aload_n 0, 1) := by decide +kernel
theorem dX5_isWell_72 : decode cX5_isWell 72 = .ok (.getfield 9, 3) := by decide +kernel
theorem dX5_isWell_75 : decode cX5_isWell 75 = .ok (.bipush 101, 2) := by decide +kernel
theorem dX5_isWell_77 : decode cX5_isWell 77 = .ok (.iconst 2, 1) := by decide +kernel
theorem dX5_isWell_78 : decode cX5_isWell 78 = .ok (.iload_n 2, 1) := by decide +kernel
theorem dX5_isWell_79 : decode cX5_isWell 79 = .ok (.imul, 1) := by decide +kernel
theorem dX5_isWell_80 : decode cX5_isWell 80 = .ok (.iadd, 1) := by decide +kernel
theorem dX5_isWell_81 : decode cX5_isWell 81 = .ok (.iconst 1, 1) := by decide +kernel
theorem dX5_isWell_82 : decode cX5_isWell 82 = .ok (.iadd, 1) := by decide +kernel
theorem dX5_isWell_83 : decode cX5_isWell 83 = .ok (.iaload, 1) := by decide +kernel
theorem dX5_isWell_84 : decode cX5_isWell 84 = .ok (.iaload, 1) := by decide +kernel
theorem dX5_isWell_85 : decode cX5_isWell 85 = .ok (.if_icmp .eq 7, 3) := by decide +kernel
theorem dX5_isWell_88 : decode cX5_isWell 88 = .ok (.iconst 1, 1) := by decide +kernel
theorem dX5_isWell_89 : decode cX5_isWell 89 = .ok (.goto 4, 3) := by decide +kernel
theorem dX5_isWell_92 : decode cX5_isWell 92 = .ok (.iconst 0, 1) := by decide +kernel
theorem dX5_isWell_93 : decode cX5_isWell 93 = .ok (.istore_n 1, 1) := by decide +kernel
theorem dX5_isWell_94 : decode cX5_isWell 94 = .ok (.iinc 2 1, 3) := by decide +kernel
theorem dX5_isWell_97 : decode cX5_isWell 97 = .ok (.goto (-60), 3) := by decide +kernel
theorem dX5_isWell_100 : decode cX5_isWell 100 = .ok (.iload_n 1, 1) := by decide +kernel
theorem dX5_isWell_101 : decode cX5_isWell 101 = .ok (.ireturn, 1) := by decide +kernel
theorem dX5_meanDepth_0 : decode cX5_meanDepth 0 = .ok (.iconst 0, 1) := by decide +kernel
theorem dX5_meanDepth_1 : decode cX5_meanDepth 1 = .ok (.istore_n 1, 1) := by decide +kernel
theorem dX5_meanDepth_2 : decode cX5_meanDepth 2 = .ok (.iconst 0, 1) := by decide +kernel
theorem dX5_meanDepth_3 : decode cX5_meanDepth 3 = .ok (.istore_n 2, 1) := by decide +kernel
theorem dX5_meanDepth_4 : decode cX5_meanDepth 4 = .ok (.iload_n 2, 1) := by decide +kernel
theorem dX5_meanDepth_5 : decode cX5_meanDepth 5 = .ok (.aload_n 0, 1) := by decide +kernel
theorem dX5_meanDepth_6 : decode cX5_meanDepth 6 = .ok (.getfield 9, 3) := by decide +kernel
theorem dX5_meanDepth_9 : decode cX5_meanDepth 9 = .ok (.iconst 0, 1) := by decide +kernel
theorem dX5_meanDepth_10 : decode cX5_meanDepth 10 = .ok (.iaload, 1) := by decide +kernel
theorem dX5_meanDepth_11 : decode cX5_meanDepth 11 = .ok (.if_icmp .ge 17, 3) := by decide +kernel
theorem dX5_meanDepth_14 : decode cX5_meanDepth 14 = .ok (.iload_n 1, 1) := by decide +kernel
theorem dX5_meanDepth_15 : decode cX5_meanDepth 15 = .ok (.aload_n 0, 1) := by decide +kernel
theorem dX5_meanDepth_16 : decode cX5_meanDepth 16 = .ok (.iload_n 2, 1) := by decide +kernel
theorem dX5_meanDepth_17 : decode cX5_meanDepth 17 = .ok (.invokevirtual 118, 3) := by decide +kernel
theorem dX5_meanDepth_20 : decode cX5_meanDepth 20 = .ok (.iadd, 1) := by decide +kernel
theorem dX5_meanDepth_21 : decode cX5_meanDepth 21 = .ok (.istore_n 1, 1) := by decide +kernel
theorem dX5_meanDepth_22 : decode cX5_meanDepth 22 = .ok (.iinc 2 1, 3) := by decide +kernel
theorem dX5_meanDepth_25 : decode cX5_meanDepth 25 = .ok (.goto (-21), 3) := by decide +kernel
theorem dX5_meanDepth_28 : decode cX5_meanDepth 28 = .ok (.aload_n 0, 1) := by decide +kernel
theorem dX5_meanDepth_29 : decode cX5_meanDepth 29 = .ok (.aload_n 0, 1) := by decide +kernel
theorem dX5_meanDepth_30 : decode cX5_meanDepth 30 = .ok (.getfield 9, 3) := by decide +kernel
theorem dX5_meanDepth_33 : decode cX5_meanDepth 33 = .ok (.iconst 0, 1) := by decide +kernel
theorem dX5_meanDepth_34 : decode cX5_meanDepth 34 = .ok (.iaload, 1) := by decide +kernel
theorem dX5_meanDepth_35 : decode cX5_meanDepth 35 = .ok (.ifCond .ne 7, 3) := by decide +kernel
theorem dX5_meanDepth_38 : decode cX5_meanDepth 38 = .ok (.iconst 1, 1) := by decide +kernel
theorem dX5_meanDepth_39 : decode cX5_meanDepth 39 = .ok (.goto 4, 3) := by decide +kernel
theorem dX5_meanDepth_42 : decode cX5_meanDepth 42 = .ok (.iconst 0, 1) := by decide +kernel
theorem dX5_meanDepth_43 : decode cX5_meanDepth 43 = .ok (.putfield 42, 3) := by decide +kernel
theorem dX5_meanDepth_46 : decode cX5_meanDepth 46 = .ok (.aload_n 0, 1) := by decide +kernel
theorem dX5_meanDepth_47 : decode cX5_meanDepth 47 = .ok (.getfield 42, 3) := by decide +kernel
theorem dX5_meanDepth_50 : decode cX5_meanDepth 50 = .ok (.ifCond .le 7, 3) := by decide +kernel
theorem dX5_meanDepth_53 : decode cX5_meanDepth 53 = .ok (.dconst 0, 1) := by decide +kernel
theorem dX5_meanDepth_54 : decode cX5_meanDepth 54 = .ok (.goto 13, 3) := by decide +kernel
theorem dX5_meanDepth_57 : decode cX5_meanDepth 57 = .ok (.iload_n 1, 1) := by decide +kernel
theorem dX5_meanDepth_58 : decode cX5_meanDepth 58 = .ok (.i2d, 1) := by decide +kernel
theorem dX5_meanDepth_59 : decode cX5_meanDepth 59 = .ok (.aload_n 0, 1) := by decide +kernel
theorem dX5_meanDepth_60 : decode cX5_meanDepth 60 = .ok (.getfield 9, 3) := by decide +kernel
theorem dX5_meanDepth_63 : decode cX5_meanDepth 63 = .ok (.iconst 0, 1) := by decide +kernel
theorem dX5_meanDepth_64 : decode cX5_meanDepth 64 = .ok (.iaload, 1) := by decide +kernel
theorem dX5_meanDepth_65 : decode cX5_meanDepth 65 = .ok (.i2d, 1) := by decide +kernel
theorem dX5_meanDepth_66 : decode cX5_meanDepth 66 = .ok (.ddiv, 1) := by decide +kernel
theorem dX5_meanDepth_67 : decode cX5_meanDepth 67 = .ok (.dreturn, 1) := by decide +kernel
theorem dX5_livingShare_0 : decode cX5_livingShare 0 = .ok (.aload_n 0, 1) := by decide +kernel
theorem dX5_livingShare_1 : decode cX5_livingShare 1 = .ok (.aload_n 0, 1) := by decide +kernel
theorem dX5_livingShare_2 : decode cX5_livingShare 2 = .ok (.getfield 9, 3) := by decide +kernel
theorem dX5_livingShare_5 : decode cX5_livingShare 5 = .ok (.iconst 0, 1) := by decide +kernel
theorem dX5_livingShare_6 : decode cX5_livingShare 6 = .ok (.iaload, 1) := by decide +kernel
theorem dX5_livingShare_7 : decode cX5_livingShare 7 = .ok (.ifCond .ne 7, 3) := by decide +kernel
theorem dX5_livingShare_10 : decode cX5_livingShare 10 = .ok (.iconst 1, 1) := by decide +kernel
theorem dX5_livingShare_11 : decode cX5_livingShare 11 = .ok (.goto 4, 3) := by decide +kernel
theorem dX5_livingShare_14 : decode cX5_livingShare 14 = .ok (.iconst 0, 1) := by decide +kernel
theorem dX5_livingShare_15 : decode cX5_livingShare 15 = .ok (.putfield 42, 3) := by decide +kernel
theorem dX5_livingShare_18 : decode cX5_livingShare 18 = .ok (.aload_n 0, 1) := by decide +kernel
theorem dX5_livingShare_19 : decode cX5_livingShare 19 = .ok (.getfield 42, 3) := by decide +kernel
theorem dX5_livingShare_22 : decode cX5_livingShare 22 = .ok (.ifCond .le 7, 3) := by decide +kernel
theorem dX5_livingShare_25 : decode cX5_livingShare 25 = .ok (.fconst 0, 1) := by decide +kernel
theorem dX5_livingShare_26 : decode cX5_livingShare 26 = .ok (.goto 16, 3) := by decide +kernel
theorem dX5_livingShare_29 : decode cX5_livingShare 29 = .ok (.aload_n 0, 1) := by decide +kernel
theorem dX5_livingShare_30 : decode cX5_livingShare 30 = .ok (.invokevirtual 233, 3) := by decide +kernel
theorem dX5_livingShare_33 : decode cX5_livingShare 33 = .ok (.i2f, 1) := by decide +kernel
theorem dX5_livingShare_34 : decode cX5_livingShare 34 = .ok (.aload_n 0, 1) := by decide +kernel
theorem dX5_livingShare_35 : decode cX5_livingShare 35 = .ok (.getfield 9, 3) := by decide +kernel
theorem dX5_livingShare_38 : decode cX5_livingShare 38 = .ok (.iconst 0, 1) := by decide +kernel
theorem dX5_livingShare_39 : decode cX5_livingShare 39 = .ok (.iaload, 1) := by decide +kernel
theorem dX5_livingShare_40 : decode cX5_livingShare 40 = .ok (.i2f, 1) := by decide +kernel
theorem dX5_livingShare_41 : decode cX5_livingShare 41 = .ok (.fdiv, 1) := by decide +kernel
theorem dX5_livingShare_42 : decode cX5_livingShare 42 = .ok (.freturn, 1) := by decide +kernel
theorem dX5_undo_0 : decode cX5_undo 0 = .ok (.aload_n 0, 1) := by decide +kernel
theorem dX5_undo_1 : decode cX5_undo 1 = .ok (.aload_n 0, 1) := by decide +kernel
theorem dX5_undo_2 : decode cX5_undo 2 = .ok (.getfield 51, 3) := by decide +kernel
theorem dX5_undo_5 : decode cX5_undo 5 = .ok (.ifCond .ne 7, 3) := by decide +kernel
theorem dX5_undo_8 : decode cX5_undo 8 = .ok (.iconst 1, 1) := by decide +kernel
theorem dX5_undo_9 : decode cX5_undo 9 = .ok (.goto 4, 3) := by decide +kernel
theorem dX5_undo_12 : decode cX5_undo 12 = .ok (.iconst 0, 1) := by decide +kernel
theorem dX5_undo_13 : decode cX5_undo 13 = .ok (.putfield 42, 3) := by decide +kernel
theorem dX5_undo_16 : decode cX5_undo 16 = .ok (.aload_n 0, 1) := by decide +kernel
theorem dX5_undo_17 : decode cX5_undo 17 = .ok (.getfield 42, 3) := by decide +kernel
theorem dX5_undo_20 : decode cX5_undo 20 = .ok (.ifCond .le 5, 3) := by decide +kernel
theorem dX5_undo_23 : decode cX5_undo 23 = .ok (.iconst 0, 1) := by decide +kernel
theorem dX5_undo_24 : decode cX5_undo 24 = .ok (.ireturn, 1) := by decide +kernel
theorem dX5_undo_25 : decode cX5_undo 25 = .ok (.aload_n 0, 1) := by decide +kernel
theorem dX5_undo_26 : decode cX5_undo 26 = .ok (.dup, 1) := by decide +kernel
theorem dX5_undo_27 : decode cX5_undo 27 = .ok (.getfield 51, 3) := by decide +kernel
theorem dX5_undo_30 : decode cX5_undo 30 = .ok (.iconst 1, 1) := by decide +kernel
theorem dX5_undo_31 : decode cX5_undo 31 = .ok (.isub, 1) := by decide +kernel
theorem dX5_undo_32 : decode cX5_undo 32 = .ok (.putfield 51, 3) := by decide +kernel
theorem dX5_undo_35 : decode cX5_undo 35 = .ok (.aload_n 0, 1) := by decide +kernel
theorem dX5_undo_36 : decode cX5_undo 36 = .ok (.getfield 19, 3) := by decide +kernel
theorem dX5_undo_39 : decode cX5_undo 39 = .ok (.sipush 141, 3) := by decide +kernel
theorem dX5_undo_42 : decode cX5_undo 42 = .ok (.aload_n 0, 1) := by decide +kernel
theorem dX5_undo_43 : decode cX5_undo 43 = .ok (.getfield 51, 3) := by decide +kernel
theorem dX5_undo_46 : decode cX5_undo 46 = .ok (.imul, 1) := by decide +kernel
theorem dX5_undo_47 : decode cX5_undo 47 = .ok (.aload_n 0, 1) := by decide +kernel
theorem dX5_undo_48 : decode cX5_undo 48 = .ok (.getfield 9, 3) := by decide +kernel
theorem dX5_undo_51 : decode cX5_undo 51 = .ok (.iconst 0, 1) := by decide +kernel
theorem dX5_undo_52 : decode cX5_undo 52 = .ok (.sipush 141, 3) := by decide +kernel
theorem dX5_undo_55 : decode cX5_undo 55 = .ok (.invokestatic 45, 3) := by decide +kernel
theorem dX5_undo_58 : decode cX5_undo 58 = .ok (.aload_n 0, 1) := by decide +kernel
theorem dX5_undo_59 : decode cX5_undo 59 = .ok (.getfield 51, 3) := by decide +kernel
theorem dX5_undo_62 : decode cX5_undo 62 = .ok (.ireturn, 1) := by decide +kernel
theorem dX5_save_0 : decode cX5_save 0 = .ok (.aload_n 0, 1) := by decide +kernel
theorem dX5_save_1 : decode cX5_save 1 = .ok (.iconst 0, 1) := by decide +kernel
theorem dX5_save_2 : decode cX5_save 2 = .ok (.putfield 42, 3) := by decide +kernel
theorem dX5_save_5 : decode cX5_save 5 = .ok (.aload_n 0, 1) := by decide +kernel
theorem dX5_save_6 : decode cX5_save 6 = .ok (.getfield 9, 3) := by decide +kernel
theorem dX5_save_9 : decode cX5_save 9 = .ok (.iconst 0, 1) := by decide +kernel
theorem dX5_save_10 : decode cX5_save 10 = .ok (.aload_n 0, 1) := by decide +kernel
theorem dX5_save_11 : decode cX5_save 11 = .ok (.getfield 16, 3) := by decide +kernel
theorem dX5_save_14 : decode cX5_save 14 = .ok (.iconst 0, 1) := by decide +kernel
theorem dX5_save_15 : decode cX5_save 15 = .ok (.sipush 141, 3) := by decide +kernel
theorem dX5_save_18 : decode cX5_save 18 = .ok (.invokestatic 45, 3) := by decide +kernel
theorem dX5_save_21 : decode cX5_save 21 = .ok (.aload_n 0, 1) := by decide +kernel
theorem dX5_save_22 : decode cX5_save 22 = .ok (.iconst 1, 1) := by decide +kernel
theorem dX5_save_23 : decode cX5_save 23 = .ok (.putfield 242, 3) := by decide +kernel
theorem dX5_save_26 : decode cX5_save 26 = .ok (.aload_n 0, 1) := by decide +kernel
theorem dX5_save_27 : decode cX5_save 27 = .ok (.getfield 9, 3) := by decide +kernel
theorem dX5_save_30 : decode cX5_save 30 = .ok (.iconst 0, 1) := by decide +kernel
theorem dX5_save_31 : decode cX5_save 31 = .ok (.iaload, 1) := by decide +kernel
theorem dX5_save_32 : decode cX5_save 32 = .ok (.ireturn, 1) := by decide +kernel
theorem dX5_restore_0 : decode cX5_restore 0 = .ok (.aload_n 0, 1) := by decide +kernel
theorem dX5_restore_1 : decode cX5_restore 1 = .ok (.aload_n 0, 1) := by decide +kernel
theorem dX5_restore_2 : decode cX5_restore 2 = .ok (.getfield 242, 3) := by decide +kernel
theorem dX5_restore_5 : decode cX5_restore 5 = .ok (.ifCond .eq 7, 3) := by decide +kernel
theorem dX5_restore_8 : decode cX5_restore 8 = .ok (.iconst 0, 1) := by decide +kernel
theorem dX5_restore_9 : decode cX5_restore 9 = .ok (.goto 4, 3) := by decide +kernel
theorem dX5_restore_12 : decode cX5_restore 12 = .ok (.iconst 1, 1) := by decide +kernel
theorem dX5_restore_13 : decode cX5_restore 13 = .ok (.putfield 42, 3) := by decide +kernel
theorem dX5_restore_16 : decode cX5_restore 16 = .ok (.aload_n 0, 1) := by decide +kernel
theorem dX5_restore_17 : decode cX5_restore 17 = .ok (.getfield 42, 3) := by decide +kernel
theorem dX5_restore_20 : decode cX5_restore 20 = .ok (.ifCond .le 5, 3) := by decide +kernel
theorem dX5_restore_23 : decode cX5_restore 23 = .ok (.iconst 0, 1) := by decide +kernel
theorem dX5_restore_24 : decode cX5_restore 24 = .ok (.ireturn, 1) := by decide +kernel
theorem dX5_restore_25 : decode cX5_restore 25 = .ok (.aload_n 0, 1) := by decide +kernel
theorem dX5_restore_26 : decode cX5_restore 26 = .ok (.getfield 16, 3) := by decide +kernel
theorem dX5_restore_29 : decode cX5_restore 29 = .ok (.iconst 0, 1) := by decide +kernel
theorem dX5_restore_30 : decode cX5_restore 30 = .ok (.aload_n 0, 1) := by decide +kernel
theorem dX5_restore_31 : decode cX5_restore 31 = .ok (.getfield 9, 3) := by decide +kernel
theorem dX5_restore_34 : decode cX5_restore 34 = .ok (.iconst 0, 1) := by decide +kernel
theorem dX5_restore_35 : decode cX5_restore 35 = .ok (.sipush 141, 3) := by decide +kernel
theorem dX5_restore_38 : decode cX5_restore 38 = .ok (.invokestatic 45, 3) := by decide +kernel
theorem dX5_restore_41 : decode cX5_restore 41 = .ok (.aload_n 0, 1) := by decide +kernel
theorem dX5_restore_42 : decode cX5_restore 42 = .ok (.iconst 0, 1) := by decide +kernel
theorem dX5_restore_43 : decode cX5_restore 43 = .ok (.putfield 51, 3) := by decide +kernel
theorem dX5_restore_46 : decode cX5_restore 46 = .ok (.aload_n 0, 1) := by decide +kernel
theorem dX5_restore_47 : decode cX5_restore 47 = .ok (.getfield 9, 3) := by decide +kernel
theorem dX5_restore_50 : decode cX5_restore 50 = .ok (.iconst 0, 1) := by decide +kernel
theorem dX5_restore_51 : decode cX5_restore 51 = .ok (.iaload, 1) := by decide +kernel
theorem dX5_restore_52 : decode cX5_restore 52 = .ok (.ireturn, 1) := by decide +kernel
