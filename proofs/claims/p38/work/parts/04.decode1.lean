theorem dX0_init_0 : decode cX0_init 0 = .ok (.aload_n 0, 1) := by decide +kernel
theorem dX0_init_1 : decode cX0_init 1 = .ok (.invokespecial 3, 3) := by decide +kernel
theorem dX0_init_4 : decode cX0_init 4 = .ok (.aload_n 0, 1) := by decide +kernel
theorem dX0_init_5 : decode cX0_init 5 = .ok (.bipush 120, 2) := by decide +kernel
theorem dX0_init_7 : decode cX0_init 7 = .ok (.newarray .int, 2) := by decide +kernel
theorem dX0_init_9 : decode cX0_init 9 = .ok (.putfield 11, 3) := by decide +kernel
theorem dX0_init_12 : decode cX0_init 12 = .ok (.aload_n 0, 1) := by decide +kernel
theorem dX0_init_13 : decode cX0_init 13 = .ok (.bipush 24, 2) := by decide +kernel
theorem dX0_init_15 : decode cX0_init 15 = .ok (.newarray .int, 2) := by decide +kernel
theorem dX0_init_17 : decode cX0_init 17 = .ok (.putfield 15, 3) := by decide +kernel
theorem dX0_init_20 : decode cX0_init 20 = .ok (.return_, 1) := by decide +kernel
theorem dX0_renew_0 : decode cX0_renew 0 = .ok (.iconst 0, 1) := by decide +kernel
theorem dX0_renew_1 : decode cX0_renew 1 = .ok (.istore_n 2, 1) := by decide +kernel
theorem dX0_renew_2 : decode cX0_renew 2 = .ok (.iload_n 2, 1) := by decide +kernel
theorem dX0_renew_3 : decode cX0_renew 3 = .ok (.bipush 24, 2) := by decide +kernel
theorem dX0_renew_5 : decode cX0_renew 5 = .ok (.if_icmp .ge 31, 3) := by decide +kernel
theorem dX0_renew_8 : decode cX0_renew 8 = .ok (.aload_n 0, 1) := by decide +kernel
theorem dX0_renew_9 : decode cX0_renew 9 = .ok (.getfield 11, 3) := by decide +kernel
theorem dX0_renew_12 : decode cX0_renew 12 = .ok (.iload_n 2, 1) := by decide +kernel
theorem dX0_renew_13 : decode cX0_renew 13 = .ok (.aload_n 1, 1) := by decide +kernel
theorem dX0_renew_14 : decode cX0_renew 14 = .ok (.iload_n 2, 1) := by decide +kernel
theorem dX0_renew_15 : decode cX0_renew 15 = .ok (.invokevirtual 18, 3) := by decide +kernel
theorem dX0_renew_18 : decode cX0_renew 18 = .ok (.iastore, 1) := by decide +kernel
theorem dX0_renew_19 : decode cX0_renew 19 = .ok (.aload_n 0, 1) := by decide +kernel
theorem dX0_renew_20 : decode cX0_renew 20 = .ok (.getfield 15, 3) := by decide +kernel
theorem dX0_renew_23 : decode cX0_renew 23 = .ok (.iload_n 2, 1) := by decide +kernel
theorem dX0_renew_24 : decode cX0_renew 24 = .ok (.aload_n 1, 1) := by decide +kernel
theorem dX0_renew_25 : decode cX0_renew 25 = .ok (.iload_n 2, 1) := by decide +kernel
theorem dX0_renew_26 : decode cX0_renew 26 = .ok (.invokevirtual 24, 3) := by decide +kernel
theorem dX0_renew_29 : decode cX0_renew 29 = .ok (.iastore, 1) := by decide +kernel
theorem dX0_renew_30 : decode cX0_renew 30 = .ok (.iinc 2 1, 3) := by decide +kernel
theorem dX0_renew_33 : decode cX0_renew 33 = .ok (.goto (-31), 3) := by decide +kernel
theorem dX0_renew_36 : decode cX0_renew 36 = .ok (.iconst 1, 1) := by decide +kernel
theorem dX0_renew_37 : decode cX0_renew 37 = .ok (.istore_n 2, 1) := by decide +kernel
theorem dX0_renew_38 : decode cX0_renew 38 = .ok (.iload_n 2, 1) := by decide +kernel
theorem dX0_renew_39 : decode cX0_renew 39 = .ok (.iconst 5, 1) := by decide +kernel
theorem dX0_renew_40 : decode cX0_renew 40 = .ok (.if_icmp .ge 49, 3) := by decide +kernel
theorem dX0_renew_43 : decode cX0_renew 43 = .ok (.iconst 0, 1) := by decide +kernel
theorem dX0_renew_44 : decode cX0_renew 44 = .ok (.istore_n 3, 1) := by decide +kernel
theorem dX0_renew_45 : decode cX0_renew 45 = .ok (.iload_n 3, 1) := by decide +kernel
theorem dX0_renew_46 : decode cX0_renew 46 = .ok (.bipush 24, 2) := by decide +kernel
theorem dX0_renew_48 : decode cX0_renew 48 = .ok (.if_icmp .ge 35, 3) := by decide +kernel
theorem dX0_renew_51 : decode cX0_renew 51 = .ok (.aload_n 0, 1) := by decide +kernel
theorem dX0_renew_52 : decode cX0_renew 52 = .ok (.getfield 11, 3) := by decide +kernel
theorem dX0_renew_55 : decode cX0_renew 55 = .ok (.iload_n 2, 1) := by decide +kernel
theorem dX0_renew_56 : decode cX0_renew 56 = .ok (.bipush 24, 2) := by decide +kernel
theorem dX0_renew_58 : decode cX0_renew 58 = .ok (.imul, 1) := by decide +kernel
theorem dX0_renew_59 : decode cX0_renew 59 = .ok (.iload_n 3, 1) := by decide +kernel
theorem dX0_renew_60 : decode cX0_renew 60 = .ok (.iadd, 1) := by decide +kernel
theorem dX0_renew_61 : decode cX0_renew 61 = .ok (.aload_n 0, 1) := by decide +kernel
theorem dX0_renew_62 : decode cX0_renew 62 = .ok (.iload_n 2, 1) := by decide +kernel
theorem dX0_renew_63 : decode cX0_renew 63 = .ok (.iconst 1, 1) := by decide +kernel
theorem dX0_renew_64 : decode cX0_renew 64 = .ok (.isub, 1) := by decide +kernel
theorem dX0_renew_65 : decode cX0_renew 65 = .ok (.aload_n 0, 1) := by decide +kernel
theorem dX0_renew_66 : decode cX0_renew 66 = .ok (.iload_n 2, 1) := by decide +kernel
theorem dX0_renew_67 : decode cX0_renew 67 = .ok (.iconst 1, 1) := by decide +kernel
theorem dX0_renew_68 : decode cX0_renew 68 = .ok (.isub, 1) := by decide +kernel
theorem dX0_renew_69 : decode cX0_renew 69 = .ok (.iload_n 3, 1) := by decide +kernel
theorem dX0_renew_70 : decode cX0_renew 70 = .ok (.invokevirtual 27, 3) := by decide +kernel
theorem dX0_renew_73 : decode cX0_renew 73 = .ok (.invokevirtual 27, 3) := by decide +kernel
theorem dX0_renew_76 : decode cX0_renew 76 = .ok (.iastore, 1) := by decide +kernel
theorem dX0_renew_77 : decode cX0_renew 77 = .ok (.iinc 3 1, 3) := by decide +kernel
theorem dX0_renew_80 : decode cX0_renew 80 = .ok (.goto (-35), 3) := by decide +kernel
theorem dX0_renew_83 : decode cX0_renew 83 = .ok (.iinc 2 1, 3) := by decide +kernel
theorem dX0_renew_86 : decode cX0_renew 86 = .ok (.goto (-48), 3) := by decide +kernel
theorem dX0_renew_89 : decode cX0_renew 89 = .ok (.return_, 1) := by decide +kernel
theorem dX0_notedOf_0 : decode cX0_notedOf 0 = .ok (.iload_n 1, 1) := by decide +kernel
theorem dX0_notedOf_1 : decode cX0_notedOf 1 = .ok (.ifCond .lt 22, 3) := by decide +kernel
theorem dX0_notedOf_4 : decode cX0_notedOf 4 = .ok (.iload_n 1, 1) := by decide +kernel
theorem dX0_notedOf_5 : decode cX0_notedOf 5 = .ok (.iconst 5, 1) := by decide +kernel
theorem dX0_notedOf_6 : decode cX0_notedOf 6 = .ok (.if_icmp .ge 17, 3) := by decide +kernel
theorem dX0_notedOf_9 : decode cX0_notedOf 9 = .ok (.iload_n 2, 1) := by decide +kernel
theorem dX0_notedOf_10 : decode cX0_notedOf 10 = .ok (.ifCond .lt 13, 3) := by decide +kernel
theorem dX0_notedOf_13 : decode cX0_notedOf 13 = .ok (.iload_n 2, 1) := by decide +kernel
theorem dX0_notedOf_14 : decode cX0_notedOf 14 = .ok (.bipush 24, 2) := by decide +kernel
theorem dX0_notedOf_16 : decode cX0_notedOf 16 = .ok (.if_icmp .ge 7, 3) := by decide +kernel
theorem dX0_notedOf_19 : decode cX0_notedOf 19 = .ok (.iconst 1, 1) := by decide +kernel
theorem dX0_notedOf_20 : decode cX0_notedOf 20 = .ok (.goto 4, 3) := by decide +kernel
theorem dX0_notedOf_23 : decode cX0_notedOf 23 = .ok (.iconst 0, 1) := by decide +kernel
theorem dX0_notedOf_24 : decode cX0_notedOf 24 = .ok (.istore_n 3, 1) := by decide +kernel
theorem dX0_notedOf_25 : decode cX0_notedOf 25 = .ok (.iload_n 3, 1) := by decide +kernel
theorem dX0_notedOf_26 : decode cX0_notedOf 26 = .ok (.ifCond .eq 17, 3) := by decide +kernel
theorem dX0_notedOf_29 : decode cX0_notedOf 29 = .ok (.aload_n 0, 1) := by decide +kernel
theorem dX0_notedOf_30 : decode cX0_notedOf 30 = .ok (.getfield 11, 3) := by decide +kernel
theorem dX0_notedOf_33 : decode cX0_notedOf 33 = .ok (.iload_n 1, 1) := by decide +kernel
theorem dX0_notedOf_34 : decode cX0_notedOf 34 = .ok (.bipush 24, 2) := by decide +kernel
theorem dX0_notedOf_36 : decode cX0_notedOf 36 = .ok (.imul, 1) := by decide +kernel
theorem dX0_notedOf_37 : decode cX0_notedOf 37 = .ok (.iload_n 2, 1) := by decide +kernel
theorem dX0_notedOf_38 : decode cX0_notedOf 38 = .ok (.iadd, 1) := by decide +kernel
theorem dX0_notedOf_39 : decode cX0_notedOf 39 = .ok (.iaload, 1) := by decide +kernel
theorem dX0_notedOf_40 : decode cX0_notedOf 40 = .ok (.goto 4, 3) := by decide +kernel
theorem dX0_notedOf_43 : decode cX0_notedOf 43 = .ok (.iconst (-1), 1) := by decide +kernel
theorem dX0_notedOf_44 : decode cX0_notedOf 44 = .ok (.ireturn, 1) := by decide +kernel
theorem dX0_depthOf_0 : decode cX0_depthOf 0 = .ok (.iload_n 1, 1) := by decide +kernel
theorem dX0_depthOf_1 : decode cX0_depthOf 1 = .ok (.ifCond .lt 18, 3) := by decide +kernel
theorem dX0_depthOf_4 : decode cX0_depthOf 4 = .ok (.iload_n 1, 1) := by decide +kernel
theorem dX0_depthOf_5 : decode cX0_depthOf 5 = .ok (.bipush 24, 2) := by decide +kernel
theorem dX0_depthOf_7 : decode cX0_depthOf 7 = .ok (.if_icmp .ge 12, 3) := by decide +kernel
theorem dX0_depthOf_10 : decode cX0_depthOf 10 = .ok (.aload_n 0, 1) := by decide +kernel
theorem dX0_depthOf_11 : decode cX0_depthOf 11 = .ok (.getfield 15, 3) := by decide +kernel
theorem dX0_depthOf_14 : decode cX0_depthOf 14 = .ok (.iload_n 1, 1) := by decide +kernel
theorem dX0_depthOf_15 : decode cX0_depthOf 15 = .ok (.iaload, 1) := by decide +kernel
theorem dX0_depthOf_16 : decode cX0_depthOf 16 = .ok (.goto 4, 3) := by decide +kernel
theorem dX0_depthOf_19 : decode cX0_depthOf 19 = .ok (.iconst 0, 1) := by decide +kernel
theorem dX0_depthOf_20 : decode cX0_depthOf 20 = .ok (.ireturn, 1) := by decide +kernel
theorem dX0_leapUp_0 : decode cX0_leapUp 0 = .ok (.iload_n 1, 1) := by decide +kernel
theorem dX0_leapUp_1 : decode cX0_leapUp 1 = .ok (.istore_n 3, 1) := by decide +kernel
theorem dX0_leapUp_2 : decode cX0_leapUp 2 = .ok (.iload_n 2, 1) := by decide +kernel
theorem dX0_leapUp_3 : decode cX0_leapUp 3 = .ok (.istore 4, 2) := by decide +kernel
theorem dX0_leapUp_5 : decode cX0_leapUp 5 = .ok (.iconst 4, 1) := by decide +kernel
theorem dX0_leapUp_6 : decode cX0_leapUp 6 = .ok (.istore 5, 2) := by decide +kernel
theorem dX0_leapUp_8 : decode cX0_leapUp 8 = .ok (.iload 5, 2) := by decide +kernel
theorem dX0_leapUp_10 : decode cX0_leapUp 10 = .ok (.ifCond .lt 50, 3) := by decide +kernel
theorem dX0_leapUp_13 : decode cX0_leapUp 13 = .ok (.iload 4, 2) := by decide +kernel
theorem dX0_leapUp_15 : decode cX0_leapUp 15 = .ok (.iconst 1, 1) := by decide +kernel
theorem dX0_leapUp_16 : decode cX0_leapUp 16 = .ok (.iload 5, 2) := by decide +kernel
theorem dX0_leapUp_18 : decode cX0_leapUp 18 = .ok (.ishl, 1) := by decide +kernel
theorem dX0_leapUp_19 : decode cX0_leapUp 19 = .ok (.if_icmp .lt 35, 3) := by decide +kernel
theorem dX0_leapUp_22 : decode cX0_leapUp 22 = .ok (.iload_n 3, 1) := by decide +kernel
theorem dX0_leapUp_23 : decode cX0_leapUp 23 = .ok (.ifCond .lt 31, 3) := by decide +kernel
theorem dX0_leapUp_26 : decode cX0_leapUp 26 = .ok (.iload_n 3, 1) := by decide +kernel
theorem dX0_leapUp_27 : decode cX0_leapUp 27 = .ok (.bipush 24, 2) := by decide +kernel
theorem dX0_leapUp_29 : decode cX0_leapUp 29 = .ok (.if_icmp .ge 25, 3) := by decide +kernel
theorem dX0_leapUp_32 : decode cX0_leapUp 32 = .ok (.aload_n 0, 1) := by decide +kernel
theorem dX0_leapUp_33 : decode cX0_leapUp 33 = .ok (.getfield 11, 3) := by decide +kernel
theorem dX0_leapUp_36 : decode cX0_leapUp 36 = .ok (.iload 5, 2) := by decide +kernel
theorem dX0_leapUp_38 : decode cX0_leapUp 38 = .ok (.bipush 24, 2) := by decide +kernel
theorem dX0_leapUp_40 : decode cX0_leapUp 40 = .ok (.imul, 1) := by decide +kernel
theorem dX0_leapUp_41 : decode cX0_leapUp 41 = .ok (.iload_n 3, 1) := by decide +kernel
theorem dX0_leapUp_42 : decode cX0_leapUp 42 = .ok (.iadd, 1) := by decide +kernel
theorem dX0_leapUp_43 : decode cX0_leapUp 43 = .ok (.iaload, 1) := by decide +kernel
theorem dX0_leapUp_44 : decode cX0_leapUp 44 = .ok (.istore_n 3, 1) := by decide +kernel
theorem dX0_leapUp_45 : decode cX0_leapUp 45 = .ok (.iload 4, 2) := by decide +kernel
theorem dX0_leapUp_47 : decode cX0_leapUp 47 = .ok (.iconst 1, 1) := by decide +kernel
theorem dX0_leapUp_48 : decode cX0_leapUp 48 = .ok (.iload 5, 2) := by decide +kernel
theorem dX0_leapUp_50 : decode cX0_leapUp 50 = .ok (.ishl, 1) := by decide +kernel
theorem dX0_leapUp_51 : decode cX0_leapUp 51 = .ok (.isub, 1) := by decide +kernel
theorem dX0_leapUp_52 : decode cX0_leapUp 52 = .ok (.istore 4, 2) := by decide +kernel
theorem dX0_leapUp_54 : decode cX0_leapUp 54 = .ok (.iinc 5 (-1), 3) := by decide +kernel
theorem dX0_leapUp_57 : decode cX0_leapUp 57 = .ok (.goto (-49), 3) := by decide +kernel
theorem dX0_leapUp_60 : decode cX0_leapUp 60 = .ok (.iload 4, 2) := by decide +kernel
theorem dX0_leapUp_62 : decode cX0_leapUp 62 = .ok (.ifCond .ne 7, 3) := by decide +kernel
theorem dX0_leapUp_65 : decode cX0_leapUp 65 = .ok (.iload_n 3, 1) := by decide +kernel
theorem dX0_leapUp_66 : decode cX0_leapUp 66 = .ok (.goto 4, 3) := by decide +kernel
theorem dX0_leapUp_69 : decode cX0_leapUp 69 = .ok (.iconst (-1), 1) := by decide +kernel
theorem dX0_leapUp_70 : decode cX0_leapUp 70 = .ok (.ireturn, 1) := by decide +kernel
theorem dX0_leapsFor_0 : decode cX0_leapsFor 0 = .ok (.iconst 0, 1) := by decide +kernel
theorem dX0_leapsFor_1 : decode cX0_leapsFor 1 = .ok (.istore_n 2, 1) := by decide +kernel
theorem dX0_leapsFor_2 : decode cX0_leapsFor 2 = .ok (.iload_n 1, 1) := by decide +kernel
theorem dX0_leapsFor_3 : decode cX0_leapsFor 3 = .ok (.istore_n 3, 1) := by decide +kernel
theorem dX0_leapsFor_4 : decode cX0_leapsFor 4 = .ok (.iconst 4, 1) := by decide +kernel
theorem dX0_leapsFor_5 : decode cX0_leapsFor 5 = .ok (.istore 4, 2) := by decide +kernel
theorem dX0_leapsFor_7 : decode cX0_leapsFor 7 = .ok (.iload 4, 2) := by decide +kernel
theorem dX0_leapsFor_9 : decode cX0_leapsFor 9 = .ok (.ifCond .lt 27, 3) := by decide +kernel
theorem dX0_leapsFor_12 : decode cX0_leapsFor 12 = .ok (.iload_n 3, 1) := by decide +kernel
theorem dX0_leapsFor_13 : decode cX0_leapsFor 13 = .ok (.iconst 1, 1) := by decide +kernel
theorem dX0_leapsFor_14 : decode cX0_leapsFor 14 = .ok (.iload 4, 2) := by decide +kernel
theorem dX0_leapsFor_16 : decode cX0_leapsFor 16 = .ok (.ishl, 1) := by decide +kernel
theorem dX0_leapsFor_17 : decode cX0_leapsFor 17 = .ok (.if_icmp .lt 13, 3) := by decide +kernel
theorem dX0_leapsFor_20 : decode cX0_leapsFor 20 = .ok (.iinc 2 1, 3) := by decide +kernel
theorem dX0_leapsFor_23 : decode cX0_leapsFor 23 = .ok (.iload_n 3, 1) := by decide +kernel
theorem dX0_leapsFor_24 : decode cX0_leapsFor 24 = .ok (.iconst 1, 1) := by decide +kernel
theorem dX0_leapsFor_25 : decode cX0_leapsFor 25 = .ok (.iload 4, 2) := by decide +kernel
theorem dX0_leapsFor_27 : decode cX0_leapsFor 27 = .ok (.ishl, 1) := by decide +kernel
theorem dX0_leapsFor_28 : decode cX0_leapsFor 28 = .ok (.isub, 1) := by decide +kernel
theorem dX0_leapsFor_29 : decode cX0_leapsFor 29 = .ok (.istore_n 3, 1) := by decide +kernel
theorem dX0_leapsFor_30 : decode cX0_leapsFor 30 = .ok (.iinc 4 (-1), 3) := by decide +kernel
theorem dX0_leapsFor_33 : decode cX0_leapsFor 33 = .ok (.goto (-26), 3) := by decide +kernel
theorem dX0_leapsFor_36 : decode cX0_leapsFor 36 = .ok (.iload_n 2, 1) := by decide +kernel
theorem dX0_leapsFor_37 : decode cX0_leapsFor 37 = .ok (.ireturn, 1) := by decide +kernel
theorem dX0_commonByLeaps_0 : decode cX0_commonByLeaps 0 = .ok (.aload_n 0, 1) := by decide +kernel
theorem dX0_commonByLeaps_1 : decode cX0_commonByLeaps 1 = .ok (.iload_n 1, 1) := by decide +kernel
theorem dX0_commonByLeaps_2 : decode cX0_commonByLeaps 2 = .ok (.invokevirtual 31, 3) := by decide +kernel
theorem dX0_commonByLeaps_5 : decode cX0_commonByLeaps 5 = .ok (.aload_n 0, 1) := by decide +kernel
theorem dX0_commonByLeaps_6 : decode cX0_commonByLeaps 6 = .ok (.iload_n 2, 1) := by decide +kernel
theorem dX0_commonByLeaps_7 : decode cX0_commonByLeaps 7 = .ok (.invokevirtual 31, 3) := by decide +kernel
theorem dX0_commonByLeaps_10 : decode cX0_commonByLeaps 10 = .ok (.isub, 1) := by decide +kernel
theorem dX0_commonByLeaps_11 : decode cX0_commonByLeaps 11 = .ok (.istore_n 3, 1) := by decide +kernel
theorem dX0_commonByLeaps_12 : decode cX0_commonByLeaps 12 = .ok (.iload_n 3, 1) := by decide +kernel
theorem dX0_commonByLeaps_13 : decode cX0_commonByLeaps 13 = .ok (.ifCond .le 12, 3) := by decide +kernel
theorem dX0_commonByLeaps_16 : decode cX0_commonByLeaps 16 = .ok (.aload_n 0, 1) := by decide +kernel
theorem dX0_commonByLeaps_17 : decode cX0_commonByLeaps 17 = .ok (.iload_n 1, 1) := by decide +kernel
theorem dX0_commonByLeaps_18 : decode cX0_commonByLeaps 18 = .ok (.iload_n 3, 1) := by decide +kernel
theorem dX0_commonByLeaps_19 : decode cX0_commonByLeaps 19 = .ok (.invokevirtual 32, 3) := by decide +kernel
theorem dX0_commonByLeaps_22 : decode cX0_commonByLeaps 22 = .ok (.goto 4, 3) := by decide +kernel
theorem dX0_commonByLeaps_25 : decode cX0_commonByLeaps 25 = .ok (.iload_n 1, 1) := by decide +kernel
theorem dX0_commonByLeaps_26 : decode cX0_commonByLeaps 26 = .ok (.istore 4, 2) := by decide +kernel
theorem dX0_commonByLeaps_28 : decode cX0_commonByLeaps 28 = .ok (.iload_n 3, 1) := by decide +kernel
theorem dX0_commonByLeaps_29 : decode cX0_commonByLeaps 29 = .ok (.ifCond .ge 13, 3) := by decide +kernel
theorem dX0_commonByLeaps_32 : decode cX0_commonByLeaps 32 = .ok (.aload_n 0, 1) := by decide +kernel
theorem dX0_commonByLeaps_33 : decode cX0_commonByLeaps 33 = .ok (.iload_n 2, 1) := by decide +kernel
theorem dX0_commonByLeaps_34 : decode cX0_commonByLeaps 34 = .ok (.iload_n 3, 1) := by decide +kernel
theorem dX0_commonByLeaps_35 : decode cX0_commonByLeaps 35 = .ok (.ineg, 1) := by decide +kernel
theorem dX0_commonByLeaps_36 : decode cX0_commonByLeaps 36 = .ok (.invokevirtual 32, 3) := by decide +kernel
theorem dX0_commonByLeaps_39 : decode cX0_commonByLeaps 39 = .ok (.goto 4, 3) := by decide +kernel
theorem dX0_commonByLeaps_42 : decode cX0_commonByLeaps 42 = .ok (.iload_n 2, 1) := by decide +kernel
theorem dX0_commonByLeaps_43 : decode cX0_commonByLeaps 43 = .ok (.istore 5, 2) := by decide +kernel
theorem dX0_commonByLeaps_45 : decode cX0_commonByLeaps 45 = .ok (.iconst 4, 1) := by decide +kernel
theorem dX0_commonByLeaps_46 : decode cX0_commonByLeaps 46 = .ok (.istore 6, 2) := by decide +kernel
theorem dX0_commonByLeaps_48 : decode cX0_commonByLeaps 48 = .ok (.iload 6, 2) := by decide +kernel
theorem dX0_commonByLeaps_50 : decode cX0_commonByLeaps 50 = .ok (.ifCond .lt 48, 3) := by decide +kernel
theorem dX0_commonByLeaps_53 : decode cX0_commonByLeaps 53 = .ok (.aload_n 0, 1) := by decide +kernel
theorem dX0_commonByLeaps_54 : decode cX0_commonByLeaps 54 = .ok (.iload 6, 2) := by decide +kernel
theorem dX0_commonByLeaps_56 : decode cX0_commonByLeaps 56 = .ok (.iload 4, 2) := by decide +kernel
theorem dX0_commonByLeaps_58 : decode cX0_commonByLeaps 58 = .ok (.invokevirtual 27, 3) := by decide +kernel
theorem dX0_commonByLeaps_61 : decode cX0_commonByLeaps 61 = .ok (.aload_n 0, 1) := by decide +kernel
theorem dX0_commonByLeaps_62 : decode cX0_commonByLeaps 62 = .ok (.iload 6, 2) := by decide +kernel
theorem dX0_commonByLeaps_64 : decode cX0_commonByLeaps 64 = .ok (.iload 5, 2) := by decide +kernel
theorem dX0_commonByLeaps_66 : decode cX0_commonByLeaps 66 = .ok (.invokevirtual 27, 3) := by decide +kernel
theorem dX0_commonByLeaps_69 : decode cX0_commonByLeaps 69 = .ok (.if_icmp .eq 23, 3) := by decide +kernel
theorem dX0_commonByLeaps_72 : decode cX0_commonByLeaps 72 = .ok (.aload_n 0, 1) := by decide +kernel
theorem dX0_commonByLeaps_73 : decode cX0_commonByLeaps 73 = .ok (.iload 6, 2) := by decide +kernel
theorem dX0_commonByLeaps_75 : decode cX0_commonByLeaps 75 = .ok (.iload 4, 2) := by decide +kernel
theorem dX0_commonByLeaps_77 : decode cX0_commonByLeaps 77 = .ok (.invokevirtual 27, 3) := by decide +kernel
theorem dX0_commonByLeaps_80 : decode cX0_commonByLeaps 80 = .ok (.istore 4, 2) := by decide +kernel
theorem dX0_commonByLeaps_82 : decode cX0_commonByLeaps 82 = .ok (.aload_n 0, 1) := by decide +kernel
theorem dX0_commonByLeaps_83 : decode cX0_commonByLeaps 83 = .ok (.iload 6, 2) := by decide +kernel
theorem dX0_commonByLeaps_85 : decode cX0_commonByLeaps 85 = .ok (.iload 5, 2) := by decide +kernel
theorem dX0_commonByLeaps_87 : decode cX0_commonByLeaps 87 = .ok (.invokevirtual 27, 3) := by decide +kernel
theorem dX0_commonByLeaps_90 : decode cX0_commonByLeaps 90 = .ok (.istore 5, 2) := by decide +kernel
theorem dX0_commonByLeaps_92 : decode cX0_commonByLeaps 92 = .ok (.iinc 6 (-1), 3) := by decide +kernel
theorem dX0_commonByLeaps_95 : decode cX0_commonByLeaps 95 = .ok (.goto (-47), 3) := by decide +kernel
theorem dX0_commonByLeaps_98 : decode cX0_commonByLeaps 98 = .ok (.iload 4, 2) := by decide +kernel
theorem dX0_commonByLeaps_100 : decode cX0_commonByLeaps 100 = .ok (.iload 5, 2) := by decide +kernel
theorem dX0_commonByLeaps_102 : decode cX0_commonByLeaps 102 = .ok (.if_icmp .ne 8, 3) := by decide +kernel
theorem dX0_commonByLeaps_105 : decode cX0_commonByLeaps 105 = .ok (.iload 4, 2) := by decide +kernel
theorem dX0_commonByLeaps_107 : decode cX0_commonByLeaps 107 = .ok (.goto 10, 3) := by decide +kernel
theorem dX0_commonByLeaps_110 : decode cX0_commonByLeaps 110 = .ok (.aload_n 0, 1) := by decide +kernel
theorem dX0_commonByLeaps_111 : decode cX0_commonByLeaps 111 = .ok (.iconst 0, 1) := by decide +kernel
theorem dX0_commonByLeaps_112 : decode cX0_commonByLeaps 112 = .ok (.iload 4, 2) := by decide +kernel
theorem dX0_commonByLeaps_114 : decode cX0_commonByLeaps 114 = .ok (.invokevirtual 27, 3) := by decide +kernel
theorem dX0_commonByLeaps_117 : decode cX0_commonByLeaps 117 = .ok (.ireturn, 1) := by decide +kernel
theorem dX1_init_0 : decode cX1_init 0 = .ok (.aload_n 0, 1) := by decide +kernel
theorem dX1_init_1 : decode cX1_init 1 = .ok (.invokespecial 3, 3) := by decide +kernel
theorem dX1_init_4 : decode cX1_init 4 = .ok (.aload_n 0, 1) := by decide +kernel
theorem dX1_init_5 : decode cX1_init 5 = .ok (.bipush 24, 2) := by decide +kernel
theorem dX1_init_7 : decode cX1_init 7 = .ok (.newarray .int, 2) := by decide +kernel
theorem dX1_init_9 : decode cX1_init 9 = .ok (.putfield 9, 3) := by decide +kernel
theorem dX1_init_12 : decode cX1_init 12 = .ok (.aload_n 0, 1) := by decide +kernel
theorem dX1_init_13 : decode cX1_init 13 = .ok (.bipush 24, 2) := by decide +kernel
theorem dX1_init_15 : decode cX1_init 15 = .ok (.newarray .int, 2) := by decide +kernel
theorem dX1_init_17 : decode cX1_init 17 = .ok (.putfield 15, 3) := by decide +kernel
theorem dX1_init_20 : decode cX1_init 20 = .ok (.aload_n 0, 1) := by decide +kernel
theorem dX1_init_21 : decode cX1_init 21 = .ok (.bipush 24, 2) := by decide +kernel
theorem dX1_init_23 : decode cX1_init 23 = .ok (.newarray .int, 2) := by decide +kernel
theorem dX1_init_25 : decode cX1_init 25 = .ok (.putfield 18, 3) := by decide +kernel
theorem dX1_init_28 : decode cX1_init 28 = .ok (.aload_n 0, 1) := by decide +kernel
theorem dX1_init_29 : decode cX1_init 29 = .ok (.bipush 24, 2) := by decide +kernel
theorem dX1_init_31 : decode cX1_init 31 = .ok (.newarray .boolean, 2) := by decide +kernel
theorem dX1_init_33 : decode cX1_init 33 = .ok (.putfield 21, 3) := by decide +kernel
theorem dX1_init_36 : decode cX1_init 36 = .ok (.aload_n 0, 1) := by decide +kernel
theorem dX1_init_37 : decode cX1_init 37 = .ok (.bipush 20, 2) := by decide +kernel
theorem dX1_init_39 : decode cX1_init 39 = .ok (.newarray .int, 2) := by decide +kernel
theorem dX1_init_41 : decode cX1_init 41 = .ok (.putfield 25, 3) := by decide +kernel
theorem dX1_init_44 : decode cX1_init 44 = .ok (.aload_n 0, 1) := by decide +kernel
theorem dX1_init_45 : decode cX1_init 45 = .ok (.bipush 20, 2) := by decide +kernel
theorem dX1_init_47 : decode cX1_init 47 = .ok (.newarray .int, 2) := by decide +kernel
theorem dX1_init_49 : decode cX1_init 49 = .ok (.putfield 28, 3) := by decide +kernel
theorem dX1_init_52 : decode cX1_init 52 = .ok (.aload_n 0, 1) := by decide +kernel
theorem dX1_init_53 : decode cX1_init 53 = .ok (.iconst 0, 1) := by decide +kernel
theorem dX1_init_54 : decode cX1_init 54 = .ok (.putfield 31, 3) := by decide +kernel
theorem dX1_init_57 : decode cX1_init 57 = .ok (.aload_n 0, 1) := by decide +kernel
theorem dX1_init_58 : decode cX1_init 58 = .ok (.iconst 0, 1) := by decide +kernel
theorem dX1_init_59 : decode cX1_init 59 = .ok (.putfield 35, 3) := by decide +kernel
theorem dX1_init_62 : decode cX1_init 62 = .ok (.aload_n 0, 1) := by decide +kernel
theorem dX1_init_63 : decode cX1_init 63 = .ok (.iconst 0, 1) := by decide +kernel
theorem dX1_init_64 : decode cX1_init 64 = .ok (.putfield 38, 3) := by decide +kernel
theorem dX1_init_67 : decode cX1_init 67 = .ok (.aload_n 0, 1) := by decide +kernel
theorem dX1_init_68 : decode cX1_init 68 = .ok (.iconst 0, 1) := by decide +kernel
theorem dX1_init_69 : decode cX1_init 69 = .ok (.putfield 41, 3) := by decide +kernel
theorem dX1_init_72 : decode cX1_init 72 = .ok (.aload_n 0, 1) := by decide +kernel
theorem dX1_init_73 : decode cX1_init 73 = .ok (.iconst 0, 1) := by decide +kernel
theorem dX1_init_74 : decode cX1_init 74 = .ok (.putfield 44, 3) := by decide +kernel
theorem dX1_init_77 : decode cX1_init 77 = .ok (.iconst 0, 1) := by decide +kernel
theorem dX1_init_78 : decode cX1_init 78 = .ok (.istore_n 1, 1) := by decide +kernel
theorem dX1_init_79 : decode cX1_init 79 = .ok (.iload_n 1, 1) := by decide +kernel
theorem dX1_init_80 : decode cX1_init 80 = .ok (.bipush 24, 2) := by decide +kernel
theorem dX1_init_82 : decode cX1_init 82 = .ok (.if_icmp .ge 23, 3) := by decide +kernel
theorem dX1_init_85 : decode cX1_init 85 = .ok (.aload_n 0, 1) := by decide +kernel
theorem dX1_init_86 : decode cX1_init 86 = .ok (.getfield 9, 3) := by decide +kernel
theorem dX1_init_89 : decode cX1_init 89 = .ok (.iload_n 1, 1) := by decide +kernel
theorem dX1_init_90 : decode cX1_init 90 = .ok (.iconst (-1), 1) := by decide +kernel
theorem dX1_init_91 : decode cX1_init 91 = .ok (.iastore, 1) := by decide +kernel
theorem dX1_init_92 : decode cX1_init 92 = .ok (.aload_n 0, 1) := by decide +kernel
theorem dX1_init_93 : decode cX1_init 93 = .ok (.getfield 15, 3) := by decide +kernel
theorem dX1_init_96 : decode cX1_init 96 = .ok (.iload_n 1, 1) := by decide +kernel
theorem dX1_init_97 : decode cX1_init 97 = .ok (.iconst (-1), 1) := by decide +kernel
theorem dX1_init_98 : decode cX1_init 98 = .ok (.iastore, 1) := by decide +kernel
theorem dX1_init_99 : decode cX1_init 99 = .ok (.iinc 1 1, 3) := by decide +kernel
theorem dX1_init_102 : decode cX1_init 102 = .ok (.goto (-23), 3) := by decide +kernel
theorem dX1_init_105 : decode cX1_init 105 = .ok (.return_, 1) := by decide +kernel
theorem dX1_copyFrom_0 : decode cX1_copyFrom 0 = .ok (.iconst 0, 1) := by decide +kernel
theorem dX1_copyFrom_1 : decode cX1_copyFrom 1 = .ok (.istore_n 2, 1) := by decide +kernel
theorem dX1_copyFrom_2 : decode cX1_copyFrom 2 = .ok (.iload_n 2, 1) := by decide +kernel
theorem dX1_copyFrom_3 : decode cX1_copyFrom 3 = .ok (.bipush 24, 2) := by decide +kernel
theorem dX1_copyFrom_5 : decode cX1_copyFrom 5 = .ok (.if_icmp .ge 57, 3) := by decide +kernel
theorem dX1_copyFrom_8 : decode cX1_copyFrom 8 = .ok (.aload_n 0, 1) := by decide +kernel
theorem dX1_copyFrom_9 : decode cX1_copyFrom 9 = .ok (.getfield 9, 3) := by decide +kernel
theorem dX1_copyFrom_12 : decode cX1_copyFrom 12 = .ok (.iload_n 2, 1) := by decide +kernel
theorem dX1_copyFrom_13 : decode cX1_copyFrom 13 = .ok (.aload_n 1, 1) := by decide +kernel
theorem dX1_copyFrom_14 : decode cX1_copyFrom 14 = .ok (.getfield 9, 3) := by decide +kernel
theorem dX1_copyFrom_17 : decode cX1_copyFrom 17 = .ok (.iload_n 2, 1) := by decide +kernel
theorem dX1_copyFrom_18 : decode cX1_copyFrom 18 = .ok (.iaload, 1) := by decide +kernel
theorem dX1_copyFrom_19 : decode cX1_copyFrom 19 = .ok (.iastore, 1) := by decide +kernel
theorem dX1_copyFrom_20 : decode cX1_copyFrom 20 = .ok (.aload_n 0, 1) := by decide +kernel
theorem dX1_copyFrom_21 : decode cX1_copyFrom 21 = .ok (.getfield 15, 3) := by decide +kernel
theorem dX1_copyFrom_24 : decode cX1_copyFrom 24 = .ok (.iload_n 2, 1) := by decide +kernel
theorem dX1_copyFrom_25 : decode cX1_copyFrom 25 = .ok (.aload_n 1, 1) := by decide +kernel
theorem dX1_copyFrom_26 : decode cX1_copyFrom 26 = .ok (.getfield 15, 3) := by decide +kernel
theorem dX1_copyFrom_29 : decode cX1_copyFrom 29 = .ok (.iload_n 2, 1) := by decide +kernel
theorem dX1_copyFrom_30 : decode cX1_copyFrom 30 = .ok (.iaload, 1) := by decide +kernel
theorem dX1_copyFrom_31 : decode cX1_copyFrom 31 = .ok (.iastore, 1) := by decide +kernel
theorem dX1_copyFrom_32 : decode cX1_copyFrom 32 = .ok (.aload_n 0, 1) := by decide +kernel
theorem dX1_copyFrom_33 : decode cX1_copyFrom 33 = .ok (.getfield 18, 3) := by decide +kernel
theorem dX1_copyFrom_36 : decode cX1_copyFrom 36 = .ok (.iload_n 2, 1) := by decide +kernel
theorem dX1_copyFrom_37 : decode cX1_copyFrom 37 = .ok (.aload_n 1, 1) := by decide +kernel
theorem dX1_copyFrom_38 : decode cX1_copyFrom 38 = .ok (.getfield 18, 3) := by decide +kernel
theorem dX1_copyFrom_41 : decode cX1_copyFrom 41 = .ok (.iload_n 2, 1) := by decide +kernel
theorem dX1_copyFrom_42 : decode cX1_copyFrom 42 = .ok (.iaload, 1) := by decide +kernel
theorem dX1_copyFrom_43 : decode cX1_copyFrom 43 = .ok (.iastore, 1) := by decide +kernel
theorem dX1_copyFrom_44 : decode cX1_copyFrom 44 = .ok (.aload_n 0, 1) := by decide +kernel
theorem dX1_copyFrom_45 : decode cX1_copyFrom 45 = .ok (.getfield 21, 3) := by decide +kernel
theorem dX1_copyFrom_48 : decode cX1_copyFrom 48 = .ok (.iload_n 2, 1) := by decide +kernel
theorem dX1_copyFrom_49 : decode cX1_copyFrom 49 = .ok (.aload_n 1, 1) := by decide +kernel
theorem dX1_copyFrom_50 : decode cX1_copyFrom 50 = .ok (.getfield 21, 3) := by decide +kernel
theorem dX1_copyFrom_53 : decode cX1_copyFrom 53 = .ok (.iload_n 2, 1) := by decide +kernel
theorem dX1_copyFrom_54 : decode cX1_copyFrom 54 = .ok (.baload, 1) := by decide +kernel
theorem dX1_copyFrom_55 : decode cX1_copyFrom 55 = .ok (.bastore, 1) := by decide +kernel
theorem dX1_copyFrom_56 : decode cX1_copyFrom 56 = .ok (.iinc 2 1, 3) := by decide +kernel
theorem dX1_copyFrom_59 : decode cX1_copyFrom 59 = .ok (.goto (-57), 3) := by decide +kernel
theorem dX1_copyFrom_62 : decode cX1_copyFrom 62 = .ok (.iconst 0, 1) := by decide +kernel
theorem dX1_copyFrom_63 : decode cX1_copyFrom 63 = .ok (.istore_n 2, 1) := by decide +kernel
theorem dX1_copyFrom_64 : decode cX1_copyFrom 64 = .ok (.iload_n 2, 1) := by decide +kernel
theorem dX1_copyFrom_65 : decode cX1_copyFrom 65 = .ok (.bipush 20, 2) := by decide +kernel
theorem dX1_copyFrom_67 : decode cX1_copyFrom 67 = .ok (.if_icmp .ge 33, 3) := by decide +kernel
theorem dX1_copyFrom_70 : decode cX1_copyFrom 70 = .ok (.aload_n 0, 1) := by decide +kernel
theorem dX1_copyFrom_71 : decode cX1_copyFrom 71 = .ok (.getfield 25, 3) := by decide +kernel
theorem dX1_copyFrom_74 : decode cX1_copyFrom 74 = .ok (.iload_n 2, 1) := by decide +kernel
theorem dX1_copyFrom_75 : decode cX1_copyFrom 75 = .ok (.aload_n 1, 1) := by decide +kernel
theorem dX1_copyFrom_76 : decode cX1_copyFrom 76 = .ok (.getfield 25, 3) := by decide +kernel
theorem dX1_copyFrom_79 : decode cX1_copyFrom 79 = .ok (.iload_n 2, 1) := by decide +kernel
theorem dX1_copyFrom_80 : decode cX1_copyFrom 80 = .ok (.iaload, 1) := by decide +kernel
theorem dX1_copyFrom_81 : decode cX1_copyFrom 81 = .ok (.iastore, 1) := by decide +kernel
theorem dX1_copyFrom_82 : decode cX1_copyFrom 82 = .ok (.aload_n 0, 1) := by decide +kernel
theorem dX1_copyFrom_83 : decode cX1_copyFrom 83 = .ok (.getfield 28, 3) := by decide +kernel
theorem dX1_copyFrom_86 : decode cX1_copyFrom 86 = .ok (.iload_n 2, 1) := by decide +kernel
theorem dX1_copyFrom_87 : decode cX1_copyFrom 87 = .ok (.aload_n 1, 1) := by decide +kernel
theorem dX1_copyFrom_88 : decode cX1_copyFrom 88 = .ok (.getfield 28, 3) := by decide +kernel
theorem dX1_copyFrom_91 : decode cX1_copyFrom 91 = .ok (.iload_n 2, 1) := by decide +kernel
theorem dX1_copyFrom_92 : decode cX1_copyFrom 92 = .ok (.iaload, 1) := by decide +kernel
theorem dX1_copyFrom_93 : decode cX1_copyFrom 93 = .ok (.iastore, 1) := by decide +kernel
theorem dX1_copyFrom_94 : decode cX1_copyFrom 94 = .ok (.iinc 2 1, 3) := by decide +kernel
theorem dX1_copyFrom_97 : decode cX1_copyFrom 97 = .ok (.goto (-33), 3) := by decide +kernel
theorem dX1_copyFrom_100 : decode cX1_copyFrom 100 = .ok (.aload_n 0, 1) := by decide +kernel
theorem dX1_copyFrom_101 : decode cX1_copyFrom 101 = .ok (.aload_n 1, 1) := by decide +kernel
theorem dX1_copyFrom_102 : decode cX1_copyFrom 102 = .ok (.getfield 31, 3) := by decide +kernel
theorem dX1_copyFrom_105 : decode cX1_copyFrom 105 = .ok (.putfield 31, 3) := by decide +kernel
theorem dX1_copyFrom_108 : decode cX1_copyFrom 108 = .ok (.aload_n 0, 1) := by decide +kernel
theorem dX1_copyFrom_109 : decode cX1_copyFrom 109 = .ok (.aload_n 1, 1) := by decide +kernel
theorem dX1_copyFrom_110 : decode cX1_copyFrom 110 = .ok (.getfield 35, 3) := by decide +kernel
theorem dX1_copyFrom_113 : decode cX1_copyFrom 113 = .ok (.putfield 35, 3) := by decide +kernel
theorem dX1_copyFrom_116 : decode cX1_copyFrom 116 = .ok (.aload_n 0, 1) := by decide +kernel
theorem dX1_copyFrom_117 : decode cX1_copyFrom 117 = .ok (.aload_n 1, 1) := by decide +kernel
theorem dX1_copyFrom_118 : decode cX1_copyFrom 118 = .ok (.getfield 38, 3) := by decide +kernel
theorem dX1_copyFrom_121 : decode cX1_copyFrom 121 = .ok (.putfield 38, 3) := by decide +kernel
theorem dX1_copyFrom_124 : decode cX1_copyFrom 124 = .ok (.aload_n 0, 1) := by decide +kernel
theorem dX1_copyFrom_125 : decode cX1_copyFrom 125 = .ok (.aload_n 1, 1) := by decide +kernel
theorem dX1_copyFrom_126 : decode cX1_copyFrom 126 = .ok (.getfield 41, 3) := by decide +kernel
theorem dX1_copyFrom_129 : decode cX1_copyFrom 129 = .ok (.putfield 41, 3) := by decide +kernel
theorem dX1_copyFrom_132 : decode cX1_copyFrom 132 = .ok (.aload_n 0, 1) := by decide +kernel
theorem dX1_copyFrom_133 : decode cX1_copyFrom 133 = .ok (.aload_n 1, 1) := by decide +kernel
theorem dX1_copyFrom_134 : decode cX1_copyFrom 134 = .ok (.getfield 44, 3) := by decide +kernel
theorem dX1_copyFrom_137 : decode cX1_copyFrom 137 = .ok (.putfield 44, 3) := by decide +kernel
theorem dX1_copyFrom_140 : decode cX1_copyFrom 140 = .ok (.return_, 1) := by decide +kernel
theorem dX1_has_0 : decode cX1_has 0 = .ok (.iload_n 1, 1) := by decide +kernel
theorem dX1_has_1 : decode cX1_has 1 = .ok (.ifCond .lt 21, 3) := by decide +kernel
theorem dX1_has_4 : decode cX1_has 4 = .ok (.iload_n 1, 1) := by decide +kernel
theorem dX1_has_5 : decode cX1_has 5 = .ok (.aload_n 0, 1) := by decide +kernel
theorem dX1_has_6 : decode cX1_has 6 = .ok (.getfield 31, 3) := by decide +kernel
theorem dX1_has_9 : decode cX1_has 9 = .ok (.if_icmp .ge 13, 3) := by decide +kernel
theorem dX1_has_12 : decode cX1_has 12 = .ok (.iload_n 1, 1) := by decide +kernel
theorem dX1_has_13 : decode cX1_has 13 = .ok (.bipush 24, 2) := by decide +kernel
theorem dX1_has_15 : decode cX1_has 15 = .ok (.if_icmp .ge 7, 3) := by decide +kernel
theorem dX1_has_18 : decode cX1_has 18 = .ok (.iconst 1, 1) := by decide +kernel
theorem dX1_has_19 : decode cX1_has 19 = .ok (.goto 4, 3) := by decide +kernel
theorem dX1_has_22 : decode cX1_has 22 = .ok (.iconst 0, 1) := by decide +kernel
theorem dX1_has_23 : decode cX1_has 23 = .ok (.ireturn, 1) := by decide +kernel
theorem dX1_parentOf_0 : decode cX1_parentOf 0 = .ok (.iload_n 1, 1) := by decide +kernel
theorem dX1_parentOf_1 : decode cX1_parentOf 1 = .ok (.ifCond .lt 18, 3) := by decide +kernel
theorem dX1_parentOf_4 : decode cX1_parentOf 4 = .ok (.iload_n 1, 1) := by decide +kernel
theorem dX1_parentOf_5 : decode cX1_parentOf 5 = .ok (.bipush 24, 2) := by decide +kernel
theorem dX1_parentOf_7 : decode cX1_parentOf 7 = .ok (.if_icmp .ge 12, 3) := by decide +kernel
theorem dX1_parentOf_10 : decode cX1_parentOf 10 = .ok (.aload_n 0, 1) := by decide +kernel
theorem dX1_parentOf_11 : decode cX1_parentOf 11 = .ok (.getfield 9, 3) := by decide +kernel
theorem dX1_parentOf_14 : decode cX1_parentOf 14 = .ok (.iload_n 1, 1) := by decide +kernel
theorem dX1_parentOf_15 : decode cX1_parentOf 15 = .ok (.iaload, 1) := by decide +kernel
theorem dX1_parentOf_16 : decode cX1_parentOf 16 = .ok (.goto 4, 3) := by decide +kernel
theorem dX1_parentOf_19 : decode cX1_parentOf 19 = .ok (.iconst (-1), 1) := by decide +kernel
theorem dX1_parentOf_20 : decode cX1_parentOf 20 = .ok (.ireturn, 1) := by decide +kernel
theorem dX1_spouseOf_0 : decode cX1_spouseOf 0 = .ok (.iload_n 1, 1) := by decide +kernel
theorem dX1_spouseOf_1 : decode cX1_spouseOf 1 = .ok (.ifCond .lt 18, 3) := by decide +kernel
theorem dX1_spouseOf_4 : decode cX1_spouseOf 4 = .ok (.iload_n 1, 1) := by decide +kernel
theorem dX1_spouseOf_5 : decode cX1_spouseOf 5 = .ok (.bipush 24, 2) := by decide +kernel
theorem dX1_spouseOf_7 : decode cX1_spouseOf 7 = .ok (.if_icmp .ge 12, 3) := by decide +kernel
theorem dX1_spouseOf_10 : decode cX1_spouseOf 10 = .ok (.aload_n 0, 1) := by decide +kernel
theorem dX1_spouseOf_11 : decode cX1_spouseOf 11 = .ok (.getfield 15, 3) := by decide +kernel
theorem dX1_spouseOf_14 : decode cX1_spouseOf 14 = .ok (.iload_n 1, 1) := by decide +kernel
theorem dX1_spouseOf_15 : decode cX1_spouseOf 15 = .ok (.iaload, 1) := by decide +kernel
theorem dX1_spouseOf_16 : decode cX1_spouseOf 16 = .ok (.goto 4, 3) := by decide +kernel
theorem dX1_spouseOf_19 : decode cX1_spouseOf 19 = .ok (.iconst (-1), 1) := by decide +kernel
theorem dX1_spouseOf_20 : decode cX1_spouseOf 20 = .ok (.ireturn, 1) := by decide +kernel
theorem dX1_coinsOf_0 : decode cX1_coinsOf 0 = .ok (.iload_n 1, 1) := by decide +kernel
theorem dX1_coinsOf_1 : decode cX1_coinsOf 1 = .ok (.ifCond .lt 18, 3) := by decide +kernel
theorem dX1_coinsOf_4 : decode cX1_coinsOf 4 = .ok (.iload_n 1, 1) := by decide +kernel
theorem dX1_coinsOf_5 : decode cX1_coinsOf 5 = .ok (.bipush 24, 2) := by decide +kernel
theorem dX1_coinsOf_7 : decode cX1_coinsOf 7 = .ok (.if_icmp .ge 12, 3) := by decide +kernel
theorem dX1_coinsOf_10 : decode cX1_coinsOf 10 = .ok (.aload_n 0, 1) := by decide +kernel
theorem dX1_coinsOf_11 : decode cX1_coinsOf 11 = .ok (.getfield 18, 3) := by decide +kernel
theorem dX1_coinsOf_14 : decode cX1_coinsOf 14 = .ok (.iload_n 1, 1) := by decide +kernel
theorem dX1_coinsOf_15 : decode cX1_coinsOf 15 = .ok (.iaload, 1) := by decide +kernel
theorem dX1_coinsOf_16 : decode cX1_coinsOf 16 = .ok (.goto 4, 3) := by decide +kernel
theorem dX1_coinsOf_19 : decode cX1_coinsOf 19 = .ok (.iconst 0, 1) := by decide +kernel
theorem dX1_coinsOf_20 : decode cX1_coinsOf 20 = .ok (.ireturn, 1) := by decide +kernel
theorem dX1_lives_0 : decode cX1_lives 0 = .ok (.iload_n 1, 1) := by decide +kernel
theorem dX1_lives_1 : decode cX1_lives 1 = .ok (.ifCond .lt 22, 3) := by decide +kernel
theorem dX1_lives_4 : decode cX1_lives 4 = .ok (.iload_n 1, 1) := by decide +kernel
theorem dX1_lives_5 : decode cX1_lives 5 = .ok (.bipush 24, 2) := by decide +kernel
theorem dX1_lives_7 : decode cX1_lives 7 = .ok (.if_icmp .ge 16, 3) := by decide +kernel
theorem dX1_lives_10 : decode cX1_lives 10 = .ok (.aload_n 0, 1) := by decide +kernel
theorem dX1_lives_11 : decode cX1_lives 11 = .ok (.getfield 21, 3) := by decide +kernel
theorem dX1_lives_14 : decode cX1_lives 14 = .ok (.iload_n 1, 1) := by decide +kernel
theorem dX1_lives_15 : decode cX1_lives 15 = .ok (.baload, 1) := by decide +kernel
theorem dX1_lives_16 : decode cX1_lives 16 = .ok (.ifCond .eq 7, 3) := by decide +kernel
theorem dX1_lives_19 : decode cX1_lives 19 = .ok (.iconst 1, 1) := by decide +kernel
theorem dX1_lives_20 : decode cX1_lives 20 = .ok (.goto 4, 3) := by decide +kernel
theorem dX1_lives_23 : decode cX1_lives 23 = .ok (.iconst 0, 1) := by decide +kernel
theorem dX1_lives_24 : decode cX1_lives 24 = .ok (.ireturn, 1) := by decide +kernel
theorem dX1_add_0 : decode cX1_add 0 = .ok (.aload_n 0, 1) := by decide +kernel
theorem dX1_add_1 : decode cX1_add 1 = .ok (.getfield 31, 3) := by decide +kernel
theorem dX1_add_4 : decode cX1_add 4 = .ok (.ifCond .lt 42, 3) := by decide +kernel
theorem dX1_add_7 : decode cX1_add 7 = .ok (.aload_n 0, 1) := by decide +kernel
theorem dX1_add_8 : decode cX1_add 8 = .ok (.getfield 31, 3) := by decide +kernel
theorem dX1_add_11 : decode cX1_add 11 = .ok (.bipush 24, 2) := by decide +kernel
theorem dX1_add_13 : decode cX1_add 13 = .ok (.if_icmp .ge 33, 3) := by decide +kernel
theorem dX1_add_16 : decode cX1_add 16 = .ok (.aload_n 0, 1) := by decide +kernel
theorem dX1_add_17 : decode cX1_add 17 = .ok (.getfield 9, 3) := by decide +kernel
theorem dX1_add_20 : decode cX1_add 20 = .ok (.aload_n 0, 1) := by decide +kernel
theorem dX1_add_21 : decode cX1_add 21 = .ok (.getfield 31, 3) := by decide +kernel
theorem dX1_add_24 : decode cX1_add 24 = .ok (.iload_n 1, 1) := by decide +kernel
theorem dX1_add_25 : decode cX1_add 25 = .ok (.iastore, 1) := by decide +kernel
theorem dX1_add_26 : decode cX1_add 26 = .ok (.aload_n 0, 1) := by decide +kernel
theorem dX1_add_27 : decode cX1_add 27 = .ok (.getfield 21, 3) := by decide +kernel
theorem dX1_add_30 : decode cX1_add 30 = .ok (.aload_n 0, 1) := by decide +kernel
theorem dX1_add_31 : decode cX1_add 31 = .ok (.getfield 31, 3) := by decide +kernel
theorem dX1_add_34 : decode cX1_add 34 = .ok (.iconst 1, 1) := by decide +kernel
theorem dX1_add_35 : decode cX1_add 35 = .ok (.bastore, 1) := by decide +kernel
theorem dX1_add_36 : decode cX1_add 36 = .ok (.aload_n 0, 1) := by decide +kernel
theorem dX1_add_37 : decode cX1_add 37 = .ok (.dup, 1) := by decide +kernel
theorem dX1_add_38 : decode cX1_add 38 = .ok (.getfield 31, 3) := by decide +kernel
theorem dX1_add_41 : decode cX1_add 41 = .ok (.iconst 1, 1) := by decide +kernel
theorem dX1_add_42 : decode cX1_add 42 = .ok (.iadd, 1) := by decide +kernel
theorem dX1_add_43 : decode cX1_add 43 = .ok (.putfield 31, 3) := by decide +kernel
theorem dX1_add_46 : decode cX1_add 46 = .ok (.return_, 1) := by decide +kernel
theorem dX1_setParent_0 : decode cX1_setParent 0 = .ok (.aload_n 0, 1) := by decide +kernel
theorem dX1_setParent_1 : decode cX1_setParent 1 = .ok (.iload_n 1, 1) := by decide +kernel
theorem dX1_setParent_2 : decode cX1_setParent 2 = .ok (.invokevirtual 47, 3) := by decide +kernel
theorem dX1_setParent_5 : decode cX1_setParent 5 = .ok (.ifCond .eq 10, 3) := by decide +kernel
theorem dX1_setParent_8 : decode cX1_setParent 8 = .ok (.aload_n 0, 1) := by decide +kernel
theorem dX1_setParent_9 : decode cX1_setParent 9 = .ok (.getfield 9, 3) := by decide +kernel
theorem dX1_setParent_12 : decode cX1_setParent 12 = .ok (.iload_n 1, 1) := by decide +kernel
theorem dX1_setParent_13 : decode cX1_setParent 13 = .ok (.iload_n 2, 1) := by decide +kernel
theorem dX1_setParent_14 : decode cX1_setParent 14 = .ok (.iastore, 1) := by decide +kernel
theorem dX1_setParent_15 : decode cX1_setParent 15 = .ok (.return_, 1) := by decide +kernel
theorem dX1_setSpouse_0 : decode cX1_setSpouse 0 = .ok (.aload_n 0, 1) := by decide +kernel
theorem dX1_setSpouse_1 : decode cX1_setSpouse 1 = .ok (.iload_n 1, 1) := by decide +kernel
theorem dX1_setSpouse_2 : decode cX1_setSpouse 2 = .ok (.invokevirtual 47, 3) := by decide +kernel
theorem dX1_setSpouse_5 : decode cX1_setSpouse 5 = .ok (.ifCond .eq 10, 3) := by decide +kernel
theorem dX1_setSpouse_8 : decode cX1_setSpouse 8 = .ok (.aload_n 0, 1) := by decide +kernel
theorem dX1_setSpouse_9 : decode cX1_setSpouse 9 = .ok (.getfield 15, 3) := by decide +kernel
theorem dX1_setSpouse_12 : decode cX1_setSpouse 12 = .ok (.iload_n 1, 1) := by decide +kernel
theorem dX1_setSpouse_13 : decode cX1_setSpouse 13 = .ok (.iload_n 2, 1) := by decide +kernel
theorem dX1_setSpouse_14 : decode cX1_setSpouse 14 = .ok (.iastore, 1) := by decide +kernel
theorem dX1_setSpouse_15 : decode cX1_setSpouse 15 = .ok (.return_, 1) := by decide +kernel
theorem dX1_endMarriage_0 : decode cX1_endMarriage 0 = .ok (.aload_n 0, 1) := by decide +kernel
theorem dX1_endMarriage_1 : decode cX1_endMarriage 1 = .ok (.aload_n 0, 1) := by decide +kernel
theorem dX1_endMarriage_2 : decode cX1_endMarriage 2 = .ok (.iload_n 1, 1) := by decide +kernel
theorem dX1_endMarriage_3 : decode cX1_endMarriage 3 = .ok (.invokevirtual 51, 3) := by decide +kernel
theorem dX1_endMarriage_6 : decode cX1_endMarriage 6 = .ok (.iconst (-1), 1) := by decide +kernel
theorem dX1_endMarriage_7 : decode cX1_endMarriage 7 = .ok (.invokevirtual 55, 3) := by decide +kernel
theorem dX1_endMarriage_10 : decode cX1_endMarriage 10 = .ok (.aload_n 0, 1) := by decide +kernel
theorem dX1_endMarriage_11 : decode cX1_endMarriage 11 = .ok (.iload_n 1, 1) := by decide +kernel
theorem dX1_endMarriage_12 : decode cX1_endMarriage 12 = .ok (.iconst (-1), 1) := by decide +kernel
theorem dX1_endMarriage_13 : decode cX1_endMarriage 13 = .ok (.invokevirtual 55, 3) := by decide +kernel
theorem dX1_endMarriage_16 : decode cX1_endMarriage 16 = .ok (.return_, 1) := by decide +kernel
theorem dX1_setDead_0 : decode cX1_setDead 0 = .ok (.aload_n 0, 1) := by decide +kernel
theorem dX1_setDead_1 : decode cX1_setDead 1 = .ok (.iload_n 1, 1) := by decide +kernel
theorem dX1_setDead_2 : decode cX1_setDead 2 = .ok (.invokevirtual 47, 3) := by decide +kernel
theorem dX1_setDead_5 : decode cX1_setDead 5 = .ok (.ifCond .eq 10, 3) := by decide +kernel
theorem dX1_setDead_8 : decode cX1_setDead 8 = .ok (.aload_n 0, 1) := by decide +kernel
theorem dX1_setDead_9 : decode cX1_setDead 9 = .ok (.getfield 21, 3) := by decide +kernel
theorem dX1_setDead_12 : decode cX1_setDead 12 = .ok (.iload_n 1, 1) := by decide +kernel
theorem dX1_setDead_13 : decode cX1_setDead 13 = .ok (.iconst 0, 1) := by decide +kernel
theorem dX1_setDead_14 : decode cX1_setDead 14 = .ok (.bastore, 1) := by decide +kernel
theorem dX1_setDead_15 : decode cX1_setDead 15 = .ok (.return_, 1) := by decide +kernel
theorem dX1_addCoins_0 : decode cX1_addCoins 0 = .ok (.aload_n 0, 1) := by decide +kernel
theorem dX1_addCoins_1 : decode cX1_addCoins 1 = .ok (.iload_n 1, 1) := by decide +kernel
theorem dX1_addCoins_2 : decode cX1_addCoins 2 = .ok (.invokevirtual 47, 3) := by decide +kernel
theorem dX1_addCoins_5 : decode cX1_addCoins 5 = .ok (.ifCond .eq 13, 3) := by decide +kernel
theorem dX1_addCoins_8 : decode cX1_addCoins 8 = .ok (.aload_n 0, 1) := by decide +kernel
theorem dX1_addCoins_9 : decode cX1_addCoins 9 = .ok (.getfield 18, 3) := by decide +kernel
theorem dX1_addCoins_12 : decode cX1_addCoins 12 = .ok (.iload_n 1, 1) := by decide +kernel
theorem dX1_addCoins_13 : decode cX1_addCoins 13 = .ok (.dup2, 1) := by decide +kernel
theorem dX1_addCoins_14 : decode cX1_addCoins 14 = .ok (.iaload, 1) := by decide +kernel
theorem dX1_addCoins_15 : decode cX1_addCoins 15 = .ok (.iload_n 2, 1) := by decide +kernel
theorem dX1_addCoins_16 : decode cX1_addCoins 16 = .ok (.iadd, 1) := by decide +kernel
theorem dX1_addCoins_17 : decode cX1_addCoins 17 = .ok (.iastore, 1) := by decide +kernel
theorem dX1_addCoins_18 : decode cX1_addCoins 18 = .ok (.return_, 1) := by decide +kernel
theorem dX1_passCoins_0 : decode cX1_passCoins 0 = .ok (.aload_n 0, 1) := by decide +kernel
theorem dX1_passCoins_1 : decode cX1_passCoins 1 = .ok (.iload_n 1, 1) := by decide +kernel
theorem dX1_passCoins_2 : decode cX1_passCoins 2 = .ok (.invokevirtual 59, 3) := by decide +kernel
theorem dX1_passCoins_5 : decode cX1_passCoins 5 = .ok (.istore_n 3, 1) := by decide +kernel
theorem dX1_passCoins_6 : decode cX1_passCoins 6 = .ok (.aload_n 0, 1) := by decide +kernel
theorem dX1_passCoins_7 : decode cX1_passCoins 7 = .ok (.iload_n 1, 1) := by decide +kernel
theorem dX1_passCoins_8 : decode cX1_passCoins 8 = .ok (.iload_n 3, 1) := by decide +kernel
theorem dX1_passCoins_9 : decode cX1_passCoins 9 = .ok (.ineg, 1) := by decide +kernel
theorem dX1_passCoins_10 : decode cX1_passCoins 10 = .ok (.invokevirtual 62, 3) := by decide +kernel
theorem dX1_passCoins_13 : decode cX1_passCoins 13 = .ok (.aload_n 0, 1) := by decide +kernel
theorem dX1_passCoins_14 : decode cX1_passCoins 14 = .ok (.iload_n 2, 1) := by decide +kernel
theorem dX1_passCoins_15 : decode cX1_passCoins 15 = .ok (.iload_n 3, 1) := by decide +kernel
theorem dX1_passCoins_16 : decode cX1_passCoins 16 = .ok (.invokevirtual 62, 3) := by decide +kernel
theorem dX1_passCoins_19 : decode cX1_passCoins 19 = .ok (.iload_n 2, 1) := by decide +kernel
theorem dX1_passCoins_20 : decode cX1_passCoins 20 = .ok (.iconst (-1), 1) := by decide +kernel
theorem dX1_passCoins_21 : decode cX1_passCoins 21 = .ok (.if_icmp .ne 13, 3) := by decide +kernel
theorem dX1_passCoins_24 : decode cX1_passCoins 24 = .ok (.aload_n 0, 1) := by decide +kernel
theorem dX1_passCoins_25 : decode cX1_passCoins 25 = .ok (.dup, 1) := by decide +kernel
theorem dX1_passCoins_26 : decode cX1_passCoins 26 = .ok (.getfield 44, 3) := by decide +kernel
theorem dX1_passCoins_29 : decode cX1_passCoins 29 = .ok (.iload_n 3, 1) := by decide +kernel
theorem dX1_passCoins_30 : decode cX1_passCoins 30 = .ok (.iadd, 1) := by decide +kernel
theorem dX1_passCoins_31 : decode cX1_passCoins 31 = .ok (.putfield 44, 3) := by decide +kernel
theorem dX1_passCoins_34 : decode cX1_passCoins 34 = .ok (.return_, 1) := by decide +kernel
theorem dX1_depthOf_0 : decode cX1_depthOf 0 = .ok (.iconst 0, 1) := by decide +kernel
theorem dX1_depthOf_1 : decode cX1_depthOf 1 = .ok (.istore_n 2, 1) := by decide +kernel
theorem dX1_depthOf_2 : decode cX1_depthOf 2 = .ok (.aload_n 0, 1) := by decide +kernel
theorem dX1_depthOf_3 : decode cX1_depthOf 3 = .ok (.iload_n 1, 1) := by decide +kernel
theorem dX1_depthOf_4 : decode cX1_depthOf 4 = .ok (.invokevirtual 65, 3) := by decide +kernel
theorem dX1_depthOf_7 : decode cX1_depthOf 7 = .ok (.istore_n 3, 1) := by decide +kernel
theorem dX1_depthOf_8 : decode cX1_depthOf 8 = .ok (.iload_n 3, 1) := by decide +kernel
theorem dX1_depthOf_9 : decode cX1_depthOf 9 = .ok (.iconst (-1), 1) := by decide +kernel
theorem dX1_depthOf_10 : decode cX1_depthOf 10 = .ok (.if_icmp .eq 21, 3) := by decide +kernel
theorem dX1_depthOf_13 : decode cX1_depthOf 13 = .ok (.iload_n 2, 1) := by decide +kernel
theorem dX1_depthOf_14 : decode cX1_depthOf 14 = .ok (.bipush 24, 2) := by decide +kernel
theorem dX1_depthOf_16 : decode cX1_depthOf 16 = .ok (.if_icmp .ge 15, 3) := by decide +kernel
theorem dX1_depthOf_19 : decode cX1_depthOf 19 = .ok (.iinc 2 1, 3) := by decide +kernel
theorem dX1_depthOf_22 : decode cX1_depthOf 22 = .ok (.aload_n 0, 1) := by decide +kernel
theorem dX1_depthOf_23 : decode cX1_depthOf 23 = .ok (.iload_n 3, 1) := by decide +kernel
theorem dX1_depthOf_24 : decode cX1_depthOf 24 = .ok (.invokevirtual 65, 3) := by decide +kernel
theorem dX1_depthOf_27 : decode cX1_depthOf 27 = .ok (.istore_n 3, 1) := by decide +kernel
theorem dX1_depthOf_28 : decode cX1_depthOf 28 = .ok (.goto (-20), 3) := by decide +kernel
theorem dX1_depthOf_31 : decode cX1_depthOf 31 = .ok (.iload_n 2, 1) := by decide +kernel
theorem dX1_depthOf_32 : decode cX1_depthOf 32 = .ok (.ireturn, 1) := by decide +kernel
theorem dX1_rootOf_0 : decode cX1_rootOf 0 = .ok (.iload_n 1, 1) := by decide +kernel
theorem dX1_rootOf_1 : decode cX1_rootOf 1 = .ok (.istore_n 2, 1) := by decide +kernel
theorem dX1_rootOf_2 : decode cX1_rootOf 2 = .ok (.iconst 0, 1) := by decide +kernel
theorem dX1_rootOf_3 : decode cX1_rootOf 3 = .ok (.istore_n 3, 1) := by decide +kernel
theorem dX1_rootOf_4 : decode cX1_rootOf 4 = .ok (.iload_n 3, 1) := by decide +kernel
theorem dX1_rootOf_5 : decode cX1_rootOf 5 = .ok (.bipush 24, 2) := by decide +kernel
theorem dX1_rootOf_7 : decode cX1_rootOf 7 = .ok (.if_icmp .ge 24, 3) := by decide +kernel
theorem dX1_rootOf_10 : decode cX1_rootOf 10 = .ok (.aload_n 0, 1) := by decide +kernel
theorem dX1_rootOf_11 : decode cX1_rootOf 11 = .ok (.iload_n 2, 1) := by decide +kernel
theorem dX1_rootOf_12 : decode cX1_rootOf 12 = .ok (.invokevirtual 65, 3) := by decide +kernel
theorem dX1_rootOf_15 : decode cX1_rootOf 15 = .ok (.iconst (-1), 1) := by decide +kernel
theorem dX1_rootOf_16 : decode cX1_rootOf 16 = .ok (.if_icmp .eq 15, 3) := by decide +kernel
theorem dX1_rootOf_19 : decode cX1_rootOf 19 = .ok (.aload_n 0, 1) := by decide +kernel
theorem dX1_rootOf_20 : decode cX1_rootOf 20 = .ok (.iload_n 2, 1) := by decide +kernel
theorem dX1_rootOf_21 : decode cX1_rootOf 21 = .ok (.invokevirtual 65, 3) := by decide +kernel
theorem dX1_rootOf_24 : decode cX1_rootOf 24 = .ok (.istore_n 2, 1) := by decide +kernel
theorem dX1_rootOf_25 : decode cX1_rootOf 25 = .ok (.iinc 3 1, 3) := by decide +kernel
theorem dX1_rootOf_28 : decode cX1_rootOf 28 = .ok (.goto (-24), 3) := by decide +kernel
theorem dX1_rootOf_31 : decode cX1_rootOf 31 = .ok (.iload_n 2, 1) := by decide +kernel
theorem dX1_rootOf_32 : decode cX1_rootOf 32 = .ok (.ireturn, 1) := by decide +kernel
theorem dX1_stepUp_0 : decode cX1_stepUp 0 = .ok (.iload_n 1, 1) := by decide +kernel
theorem dX1_stepUp_1 : decode cX1_stepUp 1 = .ok (.istore_n 3, 1) := by decide +kernel
theorem dX1_stepUp_2 : decode cX1_stepUp 2 = .ok (.iconst 0, 1) := by decide +kernel
theorem dX1_stepUp_3 : decode cX1_stepUp 3 = .ok (.istore 4, 2) := by decide +kernel
theorem dX1_stepUp_5 : decode cX1_stepUp 5 = .ok (.iload 4, 2) := by decide +kernel
theorem dX1_stepUp_7 : decode cX1_stepUp 7 = .ok (.iload_n 2, 1) := by decide +kernel
theorem dX1_stepUp_8 : decode cX1_stepUp 8 = .ok (.if_icmp .ge 22, 3) := by decide +kernel
theorem dX1_stepUp_11 : decode cX1_stepUp 11 = .ok (.iload 4, 2) := by decide +kernel
theorem dX1_stepUp_13 : decode cX1_stepUp 13 = .ok (.bipush 24, 2) := by decide +kernel
theorem dX1_stepUp_15 : decode cX1_stepUp 15 = .ok (.if_icmp .ge 15, 3) := by decide +kernel
theorem dX1_stepUp_18 : decode cX1_stepUp 18 = .ok (.aload_n 0, 1) := by decide +kernel
theorem dX1_stepUp_19 : decode cX1_stepUp 19 = .ok (.iload_n 3, 1) := by decide +kernel
theorem dX1_stepUp_20 : decode cX1_stepUp 20 = .ok (.invokevirtual 65, 3) := by decide +kernel
theorem dX1_stepUp_23 : decode cX1_stepUp 23 = .ok (.istore_n 3, 1) := by decide +kernel
theorem dX1_stepUp_24 : decode cX1_stepUp 24 = .ok (.iinc 4 1, 3) := by decide +kernel
theorem dX1_stepUp_27 : decode cX1_stepUp 27 = .ok (.goto (-22), 3) := by decide +kernel
theorem dX1_stepUp_30 : decode cX1_stepUp 30 = .ok (.iload_n 3, 1) := by decide +kernel
theorem dX1_stepUp_31 : decode cX1_stepUp 31 = .ok (.ireturn, 1) := by decide +kernel
theorem dX1_commonByNotes_0 : decode cX1_commonByNotes 0 = .ok (.iconst 0, 1) := by decide +kernel
theorem dX1_commonByNotes_1 : decode cX1_commonByNotes 1 = .ok (.istore_n 3, 1) := by decide +kernel
theorem dX1_commonByNotes_2 : decode cX1_commonByNotes 2 = .ok (.iload_n 1, 1) := by decide +kernel
theorem dX1_commonByNotes_3 : decode cX1_commonByNotes 3 = .ok (.istore 4, 2) := by decide +kernel
theorem dX1_commonByNotes_5 : decode cX1_commonByNotes 5 = .ok (.iconst 0, 1) := by decide +kernel
theorem dX1_commonByNotes_6 : decode cX1_commonByNotes 6 = .ok (.istore 5, 2) := by decide +kernel
theorem dX1_commonByNotes_8 : decode cX1_commonByNotes 8 = .ok (.iload 5, 2) := by decide +kernel
theorem dX1_commonByNotes_10 : decode cX1_commonByNotes 10 = .ok (.bipush 24, 2) := by decide +kernel
theorem dX1_commonByNotes_12 : decode cX1_commonByNotes 12 = .ok (.if_icmp .ge 30, 3) := by decide +kernel
theorem dX1_commonByNotes_15 : decode cX1_commonByNotes 15 = .ok (.iload 4, 2) := by decide +kernel
theorem dX1_commonByNotes_17 : decode cX1_commonByNotes 17 = .ok (.iconst (-1), 1) := by decide +kernel
theorem dX1_commonByNotes_18 : decode cX1_commonByNotes 18 = .ok (.if_icmp .eq 24, 3) := by decide +kernel
theorem dX1_commonByNotes_21 : decode cX1_commonByNotes 21 = .ok (.iload_n 3, 1) := by decide +kernel
theorem dX1_commonByNotes_22 : decode cX1_commonByNotes 22 = .ok (.iconst 1, 1) := by decide +kernel
theorem dX1_commonByNotes_23 : decode cX1_commonByNotes 23 = .ok (.iload 4, 2) := by decide +kernel
theorem dX1_commonByNotes_25 : decode cX1_commonByNotes 25 = .ok (.ishl, 1) := by decide +kernel
theorem dX1_commonByNotes_26 : decode cX1_commonByNotes 26 = .ok (.ior, 1) := by decide +kernel
theorem dX1_commonByNotes_27 : decode cX1_commonByNotes 27 = .ok (.istore_n 3, 1) := by decide +kernel
theorem dX1_commonByNotes_28 : decode cX1_commonByNotes 28 = .ok (.aload_n 0, 1) := by decide +kernel
theorem dX1_commonByNotes_29 : decode cX1_commonByNotes 29 = .ok (.iload 4, 2) := by decide +kernel
theorem dX1_commonByNotes_31 : decode cX1_commonByNotes 31 = .ok (.invokevirtual 65, 3) := by decide +kernel
theorem dX1_commonByNotes_34 : decode cX1_commonByNotes 34 = .ok (.istore 4, 2) := by decide +kernel
theorem dX1_commonByNotes_36 : decode cX1_commonByNotes 36 = .ok (.iinc 5 1, 3) := by decide +kernel
theorem dX1_commonByNotes_39 : decode cX1_commonByNotes 39 = .ok (.goto (-31), 3) := by decide +kernel
theorem dX1_commonByNotes_42 : decode cX1_commonByNotes 42 = .ok (.iload_n 2, 1) := by decide +kernel
theorem dX1_commonByNotes_43 : decode cX1_commonByNotes 43 = .ok (.istore 4, 2) := by decide +kernel
theorem dX1_commonByNotes_45 : decode cX1_commonByNotes 45 = .ok (.iconst 0, 1) := by decide +kernel
theorem dX1_commonByNotes_46 : decode cX1_commonByNotes 46 = .ok (.istore 5, 2) := by decide +kernel
theorem dX1_commonByNotes_48 : decode cX1_commonByNotes 48 = .ok (.iload 5, 2) := by decide +kernel
theorem dX1_commonByNotes_50 : decode cX1_commonByNotes 50 = .ok (.bipush 24, 2) := by decide +kernel
theorem dX1_commonByNotes_52 : decode cX1_commonByNotes 52 = .ok (.if_icmp .ge 32, 3) := by decide +kernel
theorem dX1_commonByNotes_55 : decode cX1_commonByNotes 55 = .ok (.iload 4, 2) := by decide +kernel
theorem dX1_commonByNotes_57 : decode cX1_commonByNotes 57 = .ok (.iconst (-1), 1) := by decide +kernel
theorem dX1_commonByNotes_58 : decode cX1_commonByNotes 58 = .ok (.if_icmp .eq 26, 3) := by decide +kernel
theorem dX1_commonByNotes_61 : decode cX1_commonByNotes 61 = .ok (.iload_n 3, 1) := by decide +kernel
theorem dX1_commonByNotes_62 : decode cX1_commonByNotes 62 = .ok (.iload 4, 2) := by decide +kernel
theorem dX1_commonByNotes_64 : decode cX1_commonByNotes 64 = .ok (.ishr, 1) := by decide +kernel
theorem dX1_commonByNotes_65 : decode cX1_commonByNotes 65 = .ok (.iconst 1, 1) := by decide +kernel
theorem dX1_commonByNotes_66 : decode cX1_commonByNotes 66 = .ok (.iand, 1) := by decide +kernel
theorem dX1_commonByNotes_67 : decode cX1_commonByNotes 67 = .ok (.ifCond .ne 17, 3) := by decide +kernel
theorem dX1_commonByNotes_70 : decode cX1_commonByNotes 70 = .ok (.aload_n 0, 1) := by decide +kernel
theorem dX1_commonByNotes_71 : decode cX1_commonByNotes 71 = .ok (.iload 4, 2) := by decide +kernel
theorem dX1_commonByNotes_73 : decode cX1_commonByNotes 73 = .ok (.invokevirtual 65, 3) := by decide +kernel
theorem dX1_commonByNotes_76 : decode cX1_commonByNotes 76 = .ok (.istore 4, 2) := by decide +kernel
theorem dX1_commonByNotes_78 : decode cX1_commonByNotes 78 = .ok (.iinc 5 1, 3) := by decide +kernel
theorem dX1_commonByNotes_81 : decode cX1_commonByNotes 81 = .ok (.goto (-33), 3) := by decide +kernel
theorem dX1_commonByNotes_84 : decode cX1_commonByNotes 84 = .ok (.iload 4, 2) := by decide +kernel
theorem dX1_commonByNotes_86 : decode cX1_commonByNotes 86 = .ok (.ireturn, 1) := by decide +kernel
theorem dX1_childAfter_0 : decode cX1_childAfter 0 = .ok (.iload_n 2, 1) := by decide +kernel
theorem dX1_childAfter_1 : decode cX1_childAfter 1 = .ok (.iconst 1, 1) := by decide +kernel
theorem dX1_childAfter_2 : decode cX1_childAfter 2 = .ok (.iadd, 1) := by decide +kernel
theorem dX1_childAfter_3 : decode cX1_childAfter 3 = .ok (.istore_n 3, 1) := by decide +kernel
theorem dX1_childAfter_4 : decode cX1_childAfter 4 = .ok (.iload_n 3, 1) := by decide +kernel
theorem dX1_childAfter_5 : decode cX1_childAfter 5 = .ok (.aload_n 0, 1) := by decide +kernel
theorem dX1_childAfter_6 : decode cX1_childAfter 6 = .ok (.getfield 31, 3) := by decide +kernel
theorem dX1_childAfter_9 : decode cX1_childAfter 9 = .ok (.if_icmp .ge 20, 3) := by decide +kernel
theorem dX1_childAfter_12 : decode cX1_childAfter 12 = .ok (.aload_n 0, 1) := by decide +kernel
theorem dX1_childAfter_13 : decode cX1_childAfter 13 = .ok (.iload_n 3, 1) := by decide +kernel
theorem dX1_childAfter_14 : decode cX1_childAfter 14 = .ok (.invokevirtual 65, 3) := by decide +kernel
theorem dX1_childAfter_17 : decode cX1_childAfter 17 = .ok (.iload_n 1, 1) := by decide +kernel
theorem dX1_childAfter_18 : decode cX1_childAfter 18 = .ok (.if_icmp .ne 5, 3) := by decide +kernel
theorem dX1_childAfter_21 : decode cX1_childAfter 21 = .ok (.iload_n 3, 1) := by decide +kernel
theorem dX1_childAfter_22 : decode cX1_childAfter 22 = .ok (.ireturn, 1) := by decide +kernel
theorem dX1_childAfter_23 : decode cX1_childAfter 23 = .ok (.iinc 3 1, 3) := by decide +kernel
theorem dX1_childAfter_26 : decode cX1_childAfter 26 = .ok (.goto (-22), 3) := by decide +kernel
theorem dX1_childAfter_29 : decode cX1_childAfter 29 = .ok (.iconst (-1), 1) := by decide +kernel
theorem dX1_childAfter_30 : decode cX1_childAfter 30 = .ok (.ireturn, 1) := by decide +kernel
theorem dX1_nextBelow_0 : decode cX1_nextBelow 0 = .ok (.aload_n 0, 1) := by decide +kernel
theorem dX1_nextBelow_1 : decode cX1_nextBelow 1 = .ok (.iload_n 2, 1) := by decide +kernel
theorem dX1_nextBelow_2 : decode cX1_nextBelow 2 = .ok (.iconst (-1), 1) := by decide +kernel
theorem dX1_nextBelow_3 : decode cX1_nextBelow 3 = .ok (.invokevirtual 68, 3) := by decide +kernel
theorem dX1_nextBelow_6 : decode cX1_nextBelow 6 = .ok (.istore_n 3, 1) := by decide +kernel
theorem dX1_nextBelow_7 : decode cX1_nextBelow 7 = .ok (.iload_n 2, 1) := by decide +kernel
theorem dX1_nextBelow_8 : decode cX1_nextBelow 8 = .ok (.istore 4, 2) := by decide +kernel
theorem dX1_nextBelow_10 : decode cX1_nextBelow 10 = .ok (.iconst 0, 1) := by decide +kernel
theorem dX1_nextBelow_11 : decode cX1_nextBelow 11 = .ok (.istore 5, 2) := by decide +kernel
theorem dX1_nextBelow_13 : decode cX1_nextBelow 13 = .ok (.iload 5, 2) := by decide +kernel
theorem dX1_nextBelow_15 : decode cX1_nextBelow 15 = .ok (.bipush 24, 2) := by decide +kernel
theorem dX1_nextBelow_17 : decode cX1_nextBelow 17 = .ok (.if_icmp .ge 41, 3) := by decide +kernel
theorem dX1_nextBelow_20 : decode cX1_nextBelow 20 = .ok (.iload_n 3, 1) := by decide +kernel
theorem dX1_nextBelow_21 : decode cX1_nextBelow 21 = .ok (.iconst (-1), 1) := by decide +kernel
theorem dX1_nextBelow_22 : decode cX1_nextBelow 22 = .ok (.if_icmp .ne 36, 3) := by decide +kernel
theorem dX1_nextBelow_25 : decode cX1_nextBelow 25 = .ok (.iload 4, 2) := by decide +kernel
theorem dX1_nextBelow_27 : decode cX1_nextBelow 27 = .ok (.iload_n 1, 1) := by decide +kernel
theorem dX1_nextBelow_28 : decode cX1_nextBelow 28 = .ok (.if_icmp .eq 30, 3) := by decide +kernel
theorem dX1_nextBelow_31 : decode cX1_nextBelow 31 = .ok (.aload_n 0, 1) := by decide +kernel
theorem dX1_nextBelow_32 : decode cX1_nextBelow 32 = .ok (.aload_n 0, 1) := by decide +kernel
theorem dX1_nextBelow_33 : decode cX1_nextBelow 33 = .ok (.iload 4, 2) := by decide +kernel
theorem dX1_nextBelow_35 : decode cX1_nextBelow 35 = .ok (.invokevirtual 65, 3) := by decide +kernel
theorem dX1_nextBelow_38 : decode cX1_nextBelow 38 = .ok (.iload 4, 2) := by decide +kernel
theorem dX1_nextBelow_40 : decode cX1_nextBelow 40 = .ok (.invokevirtual 68, 3) := by decide +kernel
theorem dX1_nextBelow_43 : decode cX1_nextBelow 43 = .ok (.istore_n 3, 1) := by decide +kernel
theorem dX1_nextBelow_44 : decode cX1_nextBelow 44 = .ok (.aload_n 0, 1) := by decide +kernel
theorem dX1_nextBelow_45 : decode cX1_nextBelow 45 = .ok (.iload 4, 2) := by decide +kernel
theorem dX1_nextBelow_47 : decode cX1_nextBelow 47 = .ok (.invokevirtual 65, 3) := by decide +kernel
theorem dX1_nextBelow_50 : decode cX1_nextBelow 50 = .ok (.istore 4, 2) := by decide +kernel
theorem dX1_nextBelow_52 : decode cX1_nextBelow 52 = .ok (.iinc 5 1, 3) := by decide +kernel
theorem dX1_nextBelow_55 : decode cX1_nextBelow 55 = .ok (.goto (-42), 3) := by decide +kernel
theorem dX1_nextBelow_58 : decode cX1_nextBelow 58 = .ok (.iload_n 3, 1) := by decide +kernel
theorem dX1_nextBelow_59 : decode cX1_nextBelow 59 = .ok (.ireturn, 1) := by decide +kernel
theorem dX1_childrenOf_0 : decode cX1_childrenOf 0 = .ok (.iconst 0, 1) := by decide +kernel
theorem dX1_childrenOf_1 : decode cX1_childrenOf 1 = .ok (.istore_n 2, 1) := by decide +kernel
theorem dX1_childrenOf_2 : decode cX1_childrenOf 2 = .ok (.iconst 0, 1) := by decide +kernel
theorem dX1_childrenOf_3 : decode cX1_childrenOf 3 = .ok (.istore_n 3, 1) := by decide +kernel
theorem dX1_childrenOf_4 : decode cX1_childrenOf 4 = .ok (.iload_n 3, 1) := by decide +kernel
theorem dX1_childrenOf_5 : decode cX1_childrenOf 5 = .ok (.aload_n 0, 1) := by decide +kernel
theorem dX1_childrenOf_6 : decode cX1_childrenOf 6 = .ok (.getfield 31, 3) := by decide +kernel
theorem dX1_childrenOf_9 : decode cX1_childrenOf 9 = .ok (.if_icmp .ge 21, 3) := by decide +kernel
theorem dX1_childrenOf_12 : decode cX1_childrenOf 12 = .ok (.aload_n 0, 1) := by decide +kernel
theorem dX1_childrenOf_13 : decode cX1_childrenOf 13 = .ok (.iload_n 3, 1) := by decide +kernel
theorem dX1_childrenOf_14 : decode cX1_childrenOf 14 = .ok (.invokevirtual 65, 3) := by decide +kernel
theorem dX1_childrenOf_17 : decode cX1_childrenOf 17 = .ok (.iload_n 1, 1) := by decide +kernel
theorem dX1_childrenOf_18 : decode cX1_childrenOf 18 = .ok (.if_icmp .ne 6, 3) := by decide +kernel
theorem dX1_childrenOf_21 : decode cX1_childrenOf 21 = .ok (.iinc 2 1, 3) := by decide +kernel
theorem dX1_childrenOf_24 : decode cX1_childrenOf 24 = .ok (.iinc 3 1, 3) := by decide +kernel
theorem dX1_childrenOf_27 : decode cX1_childrenOf 27 = .ok (.goto (-23), 3) := by decide +kernel
theorem dX1_childrenOf_30 : decode cX1_childrenOf 30 = .ok (.iload_n 2, 1) := by decide +kernel
theorem dX1_childrenOf_31 : decode cX1_childrenOf 31 = .ok (.ireturn, 1) := by decide +kernel
theorem dX1_descendantsOf_0 : decode cX1_descendantsOf 0 = .ok (.iconst 0, 1) := by decide +kernel
theorem dX1_descendantsOf_1 : decode cX1_descendantsOf 1 = .ok (.istore_n 2, 1) := by decide +kernel
theorem dX1_descendantsOf_2 : decode cX1_descendantsOf 2 = .ok (.aload_n 0, 1) := by decide +kernel
theorem dX1_descendantsOf_3 : decode cX1_descendantsOf 3 = .ok (.iload_n 1, 1) := by decide +kernel
theorem dX1_descendantsOf_4 : decode cX1_descendantsOf 4 = .ok (.iload_n 1, 1) := by decide +kernel
theorem dX1_descendantsOf_5 : decode cX1_descendantsOf 5 = .ok (.invokevirtual 72, 3) := by decide +kernel
theorem dX1_descendantsOf_8 : decode cX1_descendantsOf 8 = .ok (.istore_n 3, 1) := by decide +kernel
theorem dX1_descendantsOf_9 : decode cX1_descendantsOf 9 = .ok (.iload_n 3, 1) := by decide +kernel
theorem dX1_descendantsOf_10 : decode cX1_descendantsOf 10 = .ok (.iconst (-1), 1) := by decide +kernel
theorem dX1_descendantsOf_11 : decode cX1_descendantsOf 11 = .ok (.if_icmp .eq 22, 3) := by decide +kernel
theorem dX1_descendantsOf_14 : decode cX1_descendantsOf 14 = .ok (.iload_n 2, 1) := by decide +kernel
theorem dX1_descendantsOf_15 : decode cX1_descendantsOf 15 = .ok (.bipush 24, 2) := by decide +kernel
theorem dX1_descendantsOf_17 : decode cX1_descendantsOf 17 = .ok (.if_icmp .ge 16, 3) := by decide +kernel
theorem dX1_descendantsOf_20 : decode cX1_descendantsOf 20 = .ok (.iinc 2 1, 3) := by decide +kernel
theorem dX1_descendantsOf_23 : decode cX1_descendantsOf 23 = .ok (.aload_n 0, 1) := by decide +kernel
theorem dX1_descendantsOf_24 : decode cX1_descendantsOf 24 = .ok (.iload_n 1, 1) := by decide +kernel
theorem dX1_descendantsOf_25 : decode cX1_descendantsOf 25 = .ok (.iload_n 3, 1) := by decide +kernel
theorem dX1_descendantsOf_26 : decode cX1_descendantsOf 26 = .ok (.invokevirtual 72, 3) := by decide +kernel
theorem dX1_descendantsOf_29 : decode cX1_descendantsOf 29 = .ok (.istore_n 3, 1) := by decide +kernel
theorem dX1_descendantsOf_30 : decode cX1_descendantsOf 30 = .ok (.goto (-21), 3) := by decide +kernel
theorem dX1_descendantsOf_33 : decode cX1_descendantsOf 33 = .ok (.iload_n 2, 1) := by decide +kernel
theorem dX1_descendantsOf_34 : decode cX1_descendantsOf 34 = .ok (.ireturn, 1) := by decide +kernel
theorem dX1_heirOf_0 : decode cX1_heirOf 0 = .ok (.aload_n 0, 1) := by decide +kernel
theorem dX1_heirOf_1 : decode cX1_heirOf 1 = .ok (.iload_n 1, 1) := by decide +kernel
theorem dX1_heirOf_2 : decode cX1_heirOf 2 = .ok (.iload_n 1, 1) := by decide +kernel
theorem dX1_heirOf_3 : decode cX1_heirOf 3 = .ok (.invokevirtual 72, 3) := by decide +kernel
theorem dX1_heirOf_6 : decode cX1_heirOf 6 = .ok (.istore_n 2, 1) := by decide +kernel
theorem dX1_heirOf_7 : decode cX1_heirOf 7 = .ok (.iconst 0, 1) := by decide +kernel
theorem dX1_heirOf_8 : decode cX1_heirOf 8 = .ok (.istore_n 3, 1) := by decide +kernel
theorem dX1_heirOf_9 : decode cX1_heirOf 9 = .ok (.iload_n 3, 1) := by decide +kernel
theorem dX1_heirOf_10 : decode cX1_heirOf 10 = .ok (.bipush 24, 2) := by decide +kernel
theorem dX1_heirOf_12 : decode cX1_heirOf 12 = .ok (.if_icmp .ge 29, 3) := by decide +kernel
theorem dX1_heirOf_15 : decode cX1_heirOf 15 = .ok (.iload_n 2, 1) := by decide +kernel
theorem dX1_heirOf_16 : decode cX1_heirOf 16 = .ok (.iconst (-1), 1) := by decide +kernel
theorem dX1_heirOf_17 : decode cX1_heirOf 17 = .ok (.if_icmp .eq 24, 3) := by decide +kernel
theorem dX1_heirOf_20 : decode cX1_heirOf 20 = .ok (.aload_n 0, 1) := by decide +kernel
theorem dX1_heirOf_21 : decode cX1_heirOf 21 = .ok (.iload_n 2, 1) := by decide +kernel
theorem dX1_heirOf_22 : decode cX1_heirOf 22 = .ok (.invokevirtual 75, 3) := by decide +kernel
theorem dX1_heirOf_25 : decode cX1_heirOf 25 = .ok (.ifCond .ne 16, 3) := by decide +kernel
theorem dX1_heirOf_28 : decode cX1_heirOf 28 = .ok (.aload_n 0, 1) := by decide +kernel
theorem dX1_heirOf_29 : decode cX1_heirOf 29 = .ok (.iload_n 1, 1) := by decide +kernel
theorem dX1_heirOf_30 : decode cX1_heirOf 30 = .ok (.iload_n 2, 1) := by decide +kernel
theorem dX1_heirOf_31 : decode cX1_heirOf 31 = .ok (.invokevirtual 72, 3) := by decide +kernel
theorem dX1_heirOf_34 : decode cX1_heirOf 34 = .ok (.istore_n 2, 1) := by decide +kernel
theorem dX1_heirOf_35 : decode cX1_heirOf 35 = .ok (.iinc 3 1, 3) := by decide +kernel
theorem dX1_heirOf_38 : decode cX1_heirOf 38 = .ok (.goto (-29), 3) := by decide +kernel
theorem dX1_heirOf_41 : decode cX1_heirOf 41 = .ok (.iload_n 2, 1) := by decide +kernel
theorem dX1_heirOf_42 : decode cX1_heirOf 42 = .ok (.iconst (-1), 1) := by decide +kernel
theorem dX1_heirOf_43 : decode cX1_heirOf 43 = .ok (.if_icmp .eq 5, 3) := by decide +kernel
theorem dX1_heirOf_46 : decode cX1_heirOf 46 = .ok (.iload_n 2, 1) := by decide +kernel
theorem dX1_heirOf_47 : decode cX1_heirOf 47 = .ok (.ireturn, 1) := by decide +kernel
theorem dX1_heirOf_48 : decode cX1_heirOf 48 = .ok (.aload_n 0, 1) := by decide +kernel
theorem dX1_heirOf_49 : decode cX1_heirOf 49 = .ok (.iload_n 1, 1) := by decide +kernel
theorem dX1_heirOf_50 : decode cX1_heirOf 50 = .ok (.invokevirtual 51, 3) := by decide +kernel
theorem dX1_heirOf_53 : decode cX1_heirOf 53 = .ok (.iconst (-1), 1) := by decide +kernel
theorem dX1_heirOf_54 : decode cX1_heirOf 54 = .ok (.if_icmp .eq 11, 3) := by decide +kernel
theorem dX1_heirOf_57 : decode cX1_heirOf 57 = .ok (.aload_n 0, 1) := by decide +kernel
theorem dX1_heirOf_58 : decode cX1_heirOf 58 = .ok (.iload_n 1, 1) := by decide +kernel
theorem dX1_heirOf_59 : decode cX1_heirOf 59 = .ok (.invokevirtual 51, 3) := by decide +kernel
theorem dX1_heirOf_62 : decode cX1_heirOf 62 = .ok (.goto 8, 3) := by decide +kernel
theorem dX1_heirOf_65 : decode cX1_heirOf 65 = .ok (.aload_n 0, 1) := by decide +kernel
theorem dX1_heirOf_66 : decode cX1_heirOf 66 = .ok (.iload_n 1, 1) := by decide +kernel
theorem dX1_heirOf_67 : decode cX1_heirOf 67 = .ok (.invokevirtual 78, 3) := by decide +kernel
theorem dX1_heirOf_70 : decode cX1_heirOf 70 = .ok (.ireturn, 1) := by decide +kernel
theorem dX1_nearestLivingElder_0 : decode cX1_nearestLivingElder 0 = .ok (.aload_n 0, 1) := by decide +kernel
theorem dX1_nearestLivingElder_1 : decode cX1_nearestLivingElder 1 = .ok (.iload_n 1, 1) := by decide +kernel
theorem dX1_nearestLivingElder_2 : decode cX1_nearestLivingElder 2 = .ok (.invokevirtual 65, 3) := by decide +kernel
theorem dX1_nearestLivingElder_5 : decode cX1_nearestLivingElder 5 = .ok (.istore_n 2, 1) := by decide +kernel
theorem dX1_nearestLivingElder_6 : decode cX1_nearestLivingElder 6 = .ok (.iconst 0, 1) := by decide +kernel
theorem dX1_nearestLivingElder_7 : decode cX1_nearestLivingElder 7 = .ok (.istore_n 3, 1) := by decide +kernel
theorem dX1_nearestLivingElder_8 : decode cX1_nearestLivingElder 8 = .ok (.iload_n 3, 1) := by decide +kernel
theorem dX1_nearestLivingElder_9 : decode cX1_nearestLivingElder 9 = .ok (.bipush 24, 2) := by decide +kernel
theorem dX1_nearestLivingElder_11 : decode cX1_nearestLivingElder 11 = .ok (.if_icmp .ge 28, 3) := by decide +kernel
theorem dX1_nearestLivingElder_14 : decode cX1_nearestLivingElder 14 = .ok (.iload_n 2, 1) := by decide +kernel
theorem dX1_nearestLivingElder_15 : decode cX1_nearestLivingElder 15 = .ok (.iconst (-1), 1) := by decide +kernel
theorem dX1_nearestLivingElder_16 : decode cX1_nearestLivingElder 16 = .ok (.if_icmp .eq 23, 3) := by decide +kernel
theorem dX1_nearestLivingElder_19 : decode cX1_nearestLivingElder 19 = .ok (.aload_n 0, 1) := by decide +kernel
theorem dX1_nearestLivingElder_20 : decode cX1_nearestLivingElder 20 = .ok (.iload_n 2, 1) := by decide +kernel
theorem dX1_nearestLivingElder_21 : decode cX1_nearestLivingElder 21 = .ok (.invokevirtual 75, 3) := by decide +kernel
theorem dX1_nearestLivingElder_24 : decode cX1_nearestLivingElder 24 = .ok (.ifCond .ne 15, 3) := by decide +kernel
theorem dX1_nearestLivingElder_27 : decode cX1_nearestLivingElder 27 = .ok (.aload_n 0, 1) := by decide +kernel
theorem dX1_nearestLivingElder_28 : decode cX1_nearestLivingElder 28 = .ok (.iload_n 2, 1) := by decide +kernel
theorem dX1_nearestLivingElder_29 : decode cX1_nearestLivingElder 29 = .ok (.invokevirtual 65, 3) := by decide +kernel
theorem dX1_nearestLivingElder_32 : decode cX1_nearestLivingElder 32 = .ok (.istore_n 2, 1) := by decide +kernel
theorem dX1_nearestLivingElder_33 : decode cX1_nearestLivingElder 33 = .ok (.iinc 3 1, 3) := by decide +kernel
theorem dX1_nearestLivingElder_36 : decode cX1_nearestLivingElder 36 = .ok (.goto (-28), 3) := by decide +kernel
theorem dX1_nearestLivingElder_39 : decode cX1_nearestLivingElder 39 = .ok (.iload_n 2, 1) := by decide +kernel
theorem dX1_nearestLivingElder_40 : decode cX1_nearestLivingElder 40 = .ok (.ireturn, 1) := by decide +kernel
theorem dX1_richerThan_0 : decode cX1_richerThan 0 = .ok (.iconst 0, 1) := by decide +kernel
theorem dX1_richerThan_1 : decode cX1_richerThan 1 = .ok (.istore_n 2, 1) := by decide +kernel
theorem dX1_richerThan_2 : decode cX1_richerThan 2 = .ok (.iconst 0, 1) := by decide +kernel
theorem dX1_richerThan_3 : decode cX1_richerThan 3 = .ok (.istore_n 3, 1) := by decide +kernel
theorem dX1_richerThan_4 : decode cX1_richerThan 4 = .ok (.iload_n 3, 1) := by decide +kernel
theorem dX1_richerThan_5 : decode cX1_richerThan 5 = .ok (.aload_n 0, 1) := by decide +kernel
theorem dX1_richerThan_6 : decode cX1_richerThan 6 = .ok (.getfield 31, 3) := by decide +kernel
theorem dX1_richerThan_9 : decode cX1_richerThan 9 = .ok (.if_icmp .ge 40, 3) := by decide +kernel
theorem dX1_richerThan_12 : decode cX1_richerThan 12 = .ok (.aload_n 0, 1) := by decide +kernel
theorem dX1_richerThan_13 : decode cX1_richerThan 13 = .ok (.iload_n 3, 1) := by decide +kernel
theorem dX1_richerThan_14 : decode cX1_richerThan 14 = .ok (.invokevirtual 59, 3) := by decide +kernel
theorem dX1_richerThan_17 : decode cX1_richerThan 17 = .ok (.aload_n 0, 1) := by decide +kernel
theorem dX1_richerThan_18 : decode cX1_richerThan 18 = .ok (.iload_n 1, 1) := by decide +kernel
theorem dX1_richerThan_19 : decode cX1_richerThan 19 = .ok (.invokevirtual 59, 3) := by decide +kernel
theorem dX1_richerThan_22 : decode cX1_richerThan 22 = .ok (.isub, 1) := by decide +kernel
theorem dX1_richerThan_23 : decode cX1_richerThan 23 = .ok (.istore 4, 2) := by decide +kernel
theorem dX1_richerThan_25 : decode cX1_richerThan 25 = .ok (.iload 4, 2) := by decide +kernel
theorem dX1_richerThan_27 : decode cX1_richerThan 27 = .ok (.ifCond .gt 13, 3) := by decide +kernel
theorem dX1_richerThan_30 : decode cX1_richerThan 30 = .ok (.iload 4, 2) := by decide +kernel
theorem dX1_richerThan_32 : decode cX1_richerThan 32 = .ok (.ifCond .ne 11, 3) := by decide +kernel
theorem dX1_richerThan_35 : decode cX1_richerThan 35 = .ok (.iload_n 3, 1) := by decide +kernel
theorem dX1_richerThan_36 : decode cX1_richerThan 36 = .ok (.iload_n 1, 1) := by decide +kernel
theorem dX1_richerThan_37 : decode cX1_richerThan 37 = .ok (.if_icmp .ge 6, 3) := by decide +kernel
theorem dX1_richerThan_40 : decode cX1_richerThan 40 = .ok (.iinc 2 1, 3) := by decide +kernel
theorem dX1_richerThan_43 : decode cX1_richerThan 43 = .ok (.iinc 3 1, 3) := by decide +kernel
theorem dX1_richerThan_46 : decode cX1_richerThan 46 = .ok (.goto (-42), 3) := by decide +kernel
theorem dX1_richerThan_49 : decode cX1_richerThan 49 = .ok (.iload_n 2, 1) := by decide +kernel
theorem dX1_richerThan_50 : decode cX1_richerThan 50 = .ok (.ireturn, 1) := by decide +kernel
theorem dX1_hasQuarrel_0 : decode cX1_hasQuarrel 0 = .ok (.iload_n 1, 1) := by decide +kernel
theorem dX1_hasQuarrel_1 : decode cX1_hasQuarrel 1 = .ok (.ifCond .lt 21, 3) := by decide +kernel
theorem dX1_hasQuarrel_4 : decode cX1_hasQuarrel 4 = .ok (.iload_n 1, 1) := by decide +kernel
theorem dX1_hasQuarrel_5 : decode cX1_hasQuarrel 5 = .ok (.aload_n 0, 1) := by decide +kernel
theorem dX1_hasQuarrel_6 : decode cX1_hasQuarrel 6 = .ok (.getfield 35, 3) := by decide +kernel
theorem dX1_hasQuarrel_9 : decode cX1_hasQuarrel 9 = .ok (.if_icmp .ge 13, 3) := by decide +kernel
theorem dX1_hasQuarrel_12 : decode cX1_hasQuarrel 12 = .ok (.iload_n 1, 1) := by decide +kernel
theorem dX1_hasQuarrel_13 : decode cX1_hasQuarrel 13 = .ok (.bipush 20, 2) := by decide +kernel
theorem dX1_hasQuarrel_15 : decode cX1_hasQuarrel 15 = .ok (.if_icmp .ge 7, 3) := by decide +kernel
theorem dX1_hasQuarrel_18 : decode cX1_hasQuarrel 18 = .ok (.iconst 1, 1) := by decide +kernel
theorem dX1_hasQuarrel_19 : decode cX1_hasQuarrel 19 = .ok (.goto 4, 3) := by decide +kernel
theorem dX1_hasQuarrel_22 : decode cX1_hasQuarrel 22 = .ok (.iconst 0, 1) := by decide +kernel
theorem dX1_hasQuarrel_23 : decode cX1_hasQuarrel 23 = .ok (.ireturn, 1) := by decide +kernel
theorem dX1_quarrelerAt_0 : decode cX1_quarrelerAt 0 = .ok (.aload_n 0, 1) := by decide +kernel
theorem dX1_quarrelerAt_1 : decode cX1_quarrelerAt 1 = .ok (.iload_n 1, 1) := by decide +kernel
theorem dX1_quarrelerAt_2 : decode cX1_quarrelerAt 2 = .ok (.invokevirtual 81, 3) := by decide +kernel
theorem dX1_quarrelerAt_5 : decode cX1_quarrelerAt 5 = .ok (.ifCond .eq 12, 3) := by decide +kernel
theorem dX1_quarrelerAt_8 : decode cX1_quarrelerAt 8 = .ok (.aload_n 0, 1) := by decide +kernel
theorem dX1_quarrelerAt_9 : decode cX1_quarrelerAt 9 = .ok (.getfield 25, 3) := by decide +kernel
theorem dX1_quarrelerAt_12 : decode cX1_quarrelerAt 12 = .ok (.iload_n 1, 1) := by decide +kernel
theorem dX1_quarrelerAt_13 : decode cX1_quarrelerAt 13 = .ok (.iaload, 1) := by decide +kernel
theorem dX1_quarrelerAt_14 : decode cX1_quarrelerAt 14 = .ok (.goto 4, 3) := by decide +kernel
theorem dX1_quarrelerAt_17 : decode cX1_quarrelerAt 17 = .ok (.iconst (-1), 1) := by decide +kernel
theorem dX1_quarrelerAt_18 : decode cX1_quarrelerAt 18 = .ok (.ireturn, 1) := by decide +kernel
theorem dX1_rivalAt_0 : decode cX1_rivalAt 0 = .ok (.aload_n 0, 1) := by decide +kernel
theorem dX1_rivalAt_1 : decode cX1_rivalAt 1 = .ok (.iload_n 1, 1) := by decide +kernel
theorem dX1_rivalAt_2 : decode cX1_rivalAt 2 = .ok (.invokevirtual 81, 3) := by decide +kernel
theorem dX1_rivalAt_5 : decode cX1_rivalAt 5 = .ok (.ifCond .eq 12, 3) := by decide +kernel
theorem dX1_rivalAt_8 : decode cX1_rivalAt 8 = .ok (.aload_n 0, 1) := by decide +kernel
theorem dX1_rivalAt_9 : decode cX1_rivalAt 9 = .ok (.getfield 28, 3) := by decide +kernel
theorem dX1_rivalAt_12 : decode cX1_rivalAt 12 = .ok (.iload_n 1, 1) := by decide +kernel
theorem dX1_rivalAt_13 : decode cX1_rivalAt 13 = .ok (.iaload, 1) := by decide +kernel
theorem dX1_rivalAt_14 : decode cX1_rivalAt 14 = .ok (.goto 4, 3) := by decide +kernel
theorem dX1_rivalAt_17 : decode cX1_rivalAt 17 = .ok (.iconst (-1), 1) := by decide +kernel
theorem dX1_rivalAt_18 : decode cX1_rivalAt 18 = .ok (.ireturn, 1) := by decide +kernel
theorem dX1_quarrelsOf_0 : decode cX1_quarrelsOf 0 = .ok (.iconst 0, 1) := by decide +kernel
theorem dX1_quarrelsOf_1 : decode cX1_quarrelsOf 1 = .ok (.istore_n 2, 1) := by decide +kernel
theorem dX1_quarrelsOf_2 : decode cX1_quarrelsOf 2 = .ok (.iconst 0, 1) := by decide +kernel
theorem dX1_quarrelsOf_3 : decode cX1_quarrelsOf 3 = .ok (.istore_n 3, 1) := by decide +kernel
theorem dX1_quarrelsOf_4 : decode cX1_quarrelsOf 4 = .ok (.iload_n 3, 1) := by decide +kernel
theorem dX1_quarrelsOf_5 : decode cX1_quarrelsOf 5 = .ok (.aload_n 0, 1) := by decide +kernel
theorem dX1_quarrelsOf_6 : decode cX1_quarrelsOf 6 = .ok (.getfield 35, 3) := by decide +kernel
theorem dX1_quarrelsOf_9 : decode cX1_quarrelsOf 9 = .ok (.if_icmp .ge 30, 3) := by decide +kernel
theorem dX1_quarrelsOf_12 : decode cX1_quarrelsOf 12 = .ok (.aload_n 0, 1) := by decide +kernel
theorem dX1_quarrelsOf_13 : decode cX1_quarrelsOf 13 = .ok (.iload_n 3, 1) := by decide +kernel
theorem dX1_quarrelsOf_14 : decode cX1_quarrelsOf 14 = .ok (.invokevirtual 84, 3) := by decide +kernel
theorem dX1_quarrelsOf_17 : decode cX1_quarrelsOf 17 = .ok (.iload_n 1, 1) := by decide +kernel
theorem dX1_quarrelsOf_18 : decode cX1_quarrelsOf 18 = .ok (.if_icmp .eq 12, 3) := by decide +kernel
theorem dX1_quarrelsOf_21 : decode cX1_quarrelsOf 21 = .ok (.aload_n 0, 1) := by decide +kernel
theorem dX1_quarrelsOf_22 : decode cX1_quarrelsOf 22 = .ok (.iload_n 3, 1) := by decide +kernel
theorem dX1_quarrelsOf_23 : decode cX1_quarrelsOf 23 = .ok (.invokevirtual 87, 3) := by decide +kernel
theorem dX1_quarrelsOf_26 : decode cX1_quarrelsOf 26 = .ok (.iload_n 1, 1) := by decide +kernel
theorem dX1_quarrelsOf_27 : decode cX1_quarrelsOf 27 = .ok (.if_icmp .ne 6, 3) := by decide +kernel
theorem dX1_quarrelsOf_30 : decode cX1_quarrelsOf 30 = .ok (.iinc 2 1, 3) := by decide +kernel
theorem dX1_quarrelsOf_33 : decode cX1_quarrelsOf 33 = .ok (.iinc 3 1, 3) := by decide +kernel
theorem dX1_quarrelsOf_36 : decode cX1_quarrelsOf 36 = .ok (.goto (-32), 3) := by decide +kernel
theorem dX1_quarrelsOf_39 : decode cX1_quarrelsOf 39 = .ok (.iload_n 2, 1) := by decide +kernel
theorem dX1_quarrelsOf_40 : decode cX1_quarrelsOf 40 = .ok (.ireturn, 1) := by decide +kernel
theorem dX1_doQuarrel_0 : decode cX1_doQuarrel 0 = .ok (.iconst 0, 1) := by decide +kernel
theorem dX1_doQuarrel_1 : decode cX1_doQuarrel 1 = .ok (.istore_n 3, 1) := by decide +kernel
theorem dX1_doQuarrel_2 : decode cX1_doQuarrel 2 = .ok (.iload_n 3, 1) := by decide +kernel
theorem dX1_doQuarrel_3 : decode cX1_doQuarrel 3 = .ok (.aload_n 0, 1) := by decide +kernel
theorem dX1_doQuarrel_4 : decode cX1_doQuarrel 4 = .ok (.getfield 35, 3) := by decide +kernel
theorem dX1_doQuarrel_7 : decode cX1_doQuarrel 7 = .ok (.if_icmp .ge 59, 3) := by decide +kernel
theorem dX1_doQuarrel_10 : decode cX1_doQuarrel 10 = .ok (.aload_n 0, 1) := by decide +kernel
theorem dX1_doQuarrel_11 : decode cX1_doQuarrel 11 = .ok (.iload_n 3, 1) := by decide +kernel
theorem dX1_doQuarrel_12 : decode cX1_doQuarrel 12 = .ok (.invokevirtual 84, 3) := by decide +kernel
theorem dX1_doQuarrel_15 : decode cX1_doQuarrel 15 = .ok (.iload_n 1, 1) := by decide +kernel
theorem dX1_doQuarrel_16 : decode cX1_doQuarrel 16 = .ok (.if_icmp .ne 16, 3) := by decide +kernel
theorem dX1_doQuarrel_19 : decode cX1_doQuarrel 19 = .ok (.aload_n 0, 1) := by decide +kernel
theorem dX1_doQuarrel_20 : decode cX1_doQuarrel 20 = .ok (.iload_n 3, 1) := by decide +kernel
theorem dX1_doQuarrel_21 : decode cX1_doQuarrel 21 = .ok (.invokevirtual 87, 3) := by decide +kernel
theorem dX1_doQuarrel_24 : decode cX1_doQuarrel 24 = .ok (.iload_n 2, 1) := by decide +kernel
theorem dX1_doQuarrel_25 : decode cX1_doQuarrel 25 = .ok (.if_icmp .ne 7, 3) := by decide +kernel
theorem dX1_doQuarrel_28 : decode cX1_doQuarrel 28 = .ok (.iconst 1, 1) := by decide +kernel
theorem dX1_doQuarrel_29 : decode cX1_doQuarrel 29 = .ok (.goto 4, 3) := by decide +kernel
theorem dX1_doQuarrel_32 : decode cX1_doQuarrel 32 = .ok (.iconst 0, 1) := by decide +kernel
theorem dX1_doQuarrel_33 : decode cX1_doQuarrel 33 = .ok (.istore 4, 2) := by decide +kernel
theorem dX1_doQuarrel_35 : decode cX1_doQuarrel 35 = .ok (.iload 4, 2) := by decide +kernel
theorem dX1_doQuarrel_37 : decode cX1_doQuarrel 37 = .ok (.ifCond .ne 21, 3) := by decide +kernel
theorem dX1_doQuarrel_40 : decode cX1_doQuarrel 40 = .ok (.aload_n 0, 1) := by decide +kernel
theorem dX1_doQuarrel_41 : decode cX1_doQuarrel 41 = .ok (.iload_n 3, 1) := by decide +kernel
theorem dX1_doQuarrel_42 : decode cX1_doQuarrel 42 = .ok (.invokevirtual 84, 3) := by decide +kernel
theorem dX1_doQuarrel_45 : decode cX1_doQuarrel 45 = .ok (.iload_n 2, 1) := by decide +kernel
theorem dX1_doQuarrel_46 : decode cX1_doQuarrel 46 = .ok (.if_icmp .ne 14, 3) := by decide +kernel
theorem dX1_doQuarrel_49 : decode cX1_doQuarrel 49 = .ok (.aload_n 0, 1) := by decide +kernel
theorem dX1_doQuarrel_50 : decode cX1_doQuarrel 50 = .ok (.iload_n 3, 1) := by decide +kernel
theorem dX1_doQuarrel_51 : decode cX1_doQuarrel 51 = .ok (.invokevirtual 87, 3) := by decide +kernel
theorem dX1_doQuarrel_54 : decode cX1_doQuarrel 54 = .ok (.iload_n 1, 1) := by decide +kernel
theorem dX1_doQuarrel_55 : decode cX1_doQuarrel 55 = .ok (.if_icmp .ne 5, 3) := by decide +kernel
theorem dX1_doQuarrel_58 : decode cX1_doQuarrel 58 = .ok (.iconst 1, 1) := by decide +kernel
theorem dX1_doQuarrel_59 : decode cX1_doQuarrel 59 = .ok (.ireturn, 1) := by decide +kernel
theorem dX1_doQuarrel_60 : decode cX1_doQuarrel 60 = .ok (.iinc 3 1, 3) := by decide +kernel
theorem dX1_doQuarrel_63 : decode cX1_doQuarrel 63 = .ok (.goto (-61), 3) := by decide +kernel
theorem dX1_doQuarrel_66 : decode cX1_doQuarrel 66 = .ok (.iconst 0, 1) := by decide +kernel
theorem dX1_doQuarrel_67 : decode cX1_doQuarrel 67 = .ok (.ireturn, 1) := by decide +kernel
theorem dX1_addQuarrel_0 : decode cX1_addQuarrel 0 = .ok (.aload_n 0, 1) := by decide +kernel
theorem dX1_addQuarrel_1 : decode cX1_addQuarrel 1 = .ok (.getfield 35, 3) := by decide +kernel
theorem dX1_addQuarrel_4 : decode cX1_addQuarrel 4 = .ok (.ifCond .lt 42, 3) := by decide +kernel
theorem dX1_addQuarrel_7 : decode cX1_addQuarrel 7 = .ok (.aload_n 0, 1) := by decide +kernel
theorem dX1_addQuarrel_8 : decode cX1_addQuarrel 8 = .ok (.getfield 35, 3) := by decide +kernel
theorem dX1_addQuarrel_11 : decode cX1_addQuarrel 11 = .ok (.bipush 20, 2) := by decide +kernel
theorem dX1_addQuarrel_13 : decode cX1_addQuarrel 13 = .ok (.if_icmp .ge 33, 3) := by decide +kernel
theorem dX1_addQuarrel_16 : decode cX1_addQuarrel 16 = .ok (.aload_n 0, 1) := by decide +kernel
theorem dX1_addQuarrel_17 : decode cX1_addQuarrel 17 = .ok (.getfield 25, 3) := by decide +kernel
theorem dX1_addQuarrel_20 : decode cX1_addQuarrel 20 = .ok (.aload_n 0, 1) := by decide +kernel
theorem dX1_addQuarrel_21 : decode cX1_addQuarrel 21 = .ok (.getfield 35, 3) := by decide +kernel
theorem dX1_addQuarrel_24 : decode cX1_addQuarrel 24 = .ok (.iload_n 1, 1) := by decide +kernel
theorem dX1_addQuarrel_25 : decode cX1_addQuarrel 25 = .ok (.iastore, 1) := by decide +kernel
theorem dX1_addQuarrel_26 : decode cX1_addQuarrel 26 = .ok (.aload_n 0, 1) := by decide +kernel
theorem dX1_addQuarrel_27 : decode cX1_addQuarrel 27 = .ok (.getfield 28, 3) := by decide +kernel
theorem dX1_addQuarrel_30 : decode cX1_addQuarrel 30 = .ok (.aload_n 0, 1) := by decide +kernel
theorem dX1_addQuarrel_31 : decode cX1_addQuarrel 31 = .ok (.getfield 35, 3) := by decide +kernel
theorem dX1_addQuarrel_34 : decode cX1_addQuarrel 34 = .ok (.iload_n 2, 1) := by decide +kernel
theorem dX1_addQuarrel_35 : decode cX1_addQuarrel 35 = .ok (.iastore, 1) := by decide +kernel
theorem dX1_addQuarrel_36 : decode cX1_addQuarrel 36 = .ok (.aload_n 0, 1) := by decide +kernel
theorem dX1_addQuarrel_37 : decode cX1_addQuarrel 37 = .ok (.dup, 1) := by decide +kernel
theorem dX1_addQuarrel_38 : decode cX1_addQuarrel 38 = .ok (.getfield 35, 3) := by decide +kernel
theorem dX1_addQuarrel_41 : decode cX1_addQuarrel 41 = .ok (.iconst 1, 1) := by decide +kernel
theorem dX1_addQuarrel_42 : decode cX1_addQuarrel 42 = .ok (.iadd, 1) := by decide +kernel
theorem dX1_addQuarrel_43 : decode cX1_addQuarrel 43 = .ok (.putfield 35, 3) := by decide +kernel
theorem dX1_addQuarrel_46 : decode cX1_addQuarrel 46 = .ok (.return_, 1) := by decide +kernel
theorem dX1_removeQuarrel_0 : decode cX1_removeQuarrel 0 = .ok (.aload_n 0, 1) := by decide +kernel
theorem dX1_removeQuarrel_1 : decode cX1_removeQuarrel 1 = .ok (.iload_n 1, 1) := by decide +kernel
theorem dX1_removeQuarrel_2 : decode cX1_removeQuarrel 2 = .ok (.invokevirtual 81, 3) := by decide +kernel
theorem dX1_removeQuarrel_5 : decode cX1_removeQuarrel 5 = .ok (.ifCond .ne 4, 3) := by decide +kernel
theorem dX1_removeQuarrel_8 : decode cX1_removeQuarrel 8 = .ok (.return_, 1) := by decide +kernel
theorem dX1_removeQuarrel_9 : decode cX1_removeQuarrel 9 = .ok (.iload_n 1, 1) := by decide +kernel
theorem dX1_removeQuarrel_10 : decode cX1_removeQuarrel 10 = .ok (.iconst 1, 1) := by decide +kernel
theorem dX1_removeQuarrel_11 : decode cX1_removeQuarrel 11 = .ok (.iadd, 1) := by decide +kernel
theorem dX1_removeQuarrel_12 : decode cX1_removeQuarrel 12 = .ok (.istore_n 2, 1) := by decide +kernel
theorem dX1_removeQuarrel_13 : decode cX1_removeQuarrel 13 = .ok (.iload_n 2, 1) := by decide +kernel
theorem dX1_removeQuarrel_14 : decode cX1_removeQuarrel 14 = .ok (.aload_n 0, 1) := by decide +kernel
theorem dX1_removeQuarrel_15 : decode cX1_removeQuarrel 15 = .ok (.getfield 35, 3) := by decide +kernel
theorem dX1_removeQuarrel_18 : decode cX1_removeQuarrel 18 = .ok (.if_icmp .ge 43, 3) := by decide +kernel
theorem dX1_removeQuarrel_21 : decode cX1_removeQuarrel 21 = .ok (.iload_n 2, 1) := by decide +kernel
theorem dX1_removeQuarrel_22 : decode cX1_removeQuarrel 22 = .ok (.bipush 20, 2) := by decide +kernel
theorem dX1_removeQuarrel_24 : decode cX1_removeQuarrel 24 = .ok (.if_icmp .ge 37, 3) := by decide +kernel
theorem dX1_removeQuarrel_27 : decode cX1_removeQuarrel 27 = .ok (.aload_n 0, 1) := by decide +kernel
theorem dX1_removeQuarrel_28 : decode cX1_removeQuarrel 28 = .ok (.getfield 25, 3) := by decide +kernel
theorem dX1_removeQuarrel_31 : decode cX1_removeQuarrel 31 = .ok (.iload_n 2, 1) := by decide +kernel
theorem dX1_removeQuarrel_32 : decode cX1_removeQuarrel 32 = .ok (.iconst 1, 1) := by decide +kernel
theorem dX1_removeQuarrel_33 : decode cX1_removeQuarrel 33 = .ok (.isub, 1) := by decide +kernel
theorem dX1_removeQuarrel_34 : decode cX1_removeQuarrel 34 = .ok (.aload_n 0, 1) := by decide +kernel
theorem dX1_removeQuarrel_35 : decode cX1_removeQuarrel 35 = .ok (.getfield 25, 3) := by decide +kernel
theorem dX1_removeQuarrel_38 : decode cX1_removeQuarrel 38 = .ok (.iload_n 2, 1) := by decide +kernel
theorem dX1_removeQuarrel_39 : decode cX1_removeQuarrel 39 = .ok (.iaload, 1) := by decide +kernel
theorem dX1_removeQuarrel_40 : decode cX1_removeQuarrel 40 = .ok (.iastore, 1) := by decide +kernel
theorem dX1_removeQuarrel_41 : decode cX1_removeQuarrel 41 = .ok (.aload_n 0, 1) := by decide +kernel
theorem dX1_removeQuarrel_42 : decode cX1_removeQuarrel 42 = .ok (.getfield 28, 3) := by decide +kernel
theorem dX1_removeQuarrel_45 : decode cX1_removeQuarrel 45 = .ok (.iload_n 2, 1) := by decide +kernel
theorem dX1_removeQuarrel_46 : decode cX1_removeQuarrel 46 = .ok (.iconst 1, 1) := by decide +kernel
theorem dX1_removeQuarrel_47 : decode cX1_removeQuarrel 47 = .ok (.isub, 1) := by decide +kernel
theorem dX1_removeQuarrel_48 : decode cX1_removeQuarrel 48 = .ok (.aload_n 0, 1) := by decide +kernel
theorem dX1_removeQuarrel_49 : decode cX1_removeQuarrel 49 = .ok (.getfield 28, 3) := by decide +kernel
theorem dX1_removeQuarrel_52 : decode cX1_removeQuarrel 52 = .ok (.iload_n 2, 1) := by decide +kernel
theorem dX1_removeQuarrel_53 : decode cX1_removeQuarrel 53 = .ok (.iaload, 1) := by decide +kernel
theorem dX1_removeQuarrel_54 : decode cX1_removeQuarrel 54 = .ok (.iastore, 1) := by decide +kernel
theorem dX1_removeQuarrel_55 : decode cX1_removeQuarrel 55 = .ok (.iinc 2 1, 3) := by decide +kernel
theorem dX1_removeQuarrel_58 : decode cX1_removeQuarrel 58 = .ok (.goto (-45), 3) := by decide +kernel
theorem dX1_removeQuarrel_61 : decode cX1_removeQuarrel 61 = .ok (.aload_n 0, 1) := by decide +kernel
theorem dX1_removeQuarrel_62 : decode cX1_removeQuarrel 62 = .ok (.dup, 1) := by decide +kernel
theorem dX1_removeQuarrel_63 : decode cX1_removeQuarrel 63 = .ok (.getfield 35, 3) := by decide +kernel
theorem dX1_removeQuarrel_66 : decode cX1_removeQuarrel 66 = .ok (.iconst 1, 1) := by decide +kernel
theorem dX1_removeQuarrel_67 : decode cX1_removeQuarrel 67 = .ok (.isub, 1) := by decide +kernel
theorem dX1_removeQuarrel_68 : decode cX1_removeQuarrel 68 = .ok (.putfield 35, 3) := by decide +kernel
theorem dX1_removeQuarrel_71 : decode cX1_removeQuarrel 71 = .ok (.return_, 1) := by decide +kernel
theorem dX1_livingPersons_0 : decode cX1_livingPersons 0 = .ok (.iconst 0, 1) := by decide +kernel
theorem dX1_livingPersons_1 : decode cX1_livingPersons 1 = .ok (.istore_n 1, 1) := by decide +kernel
theorem dX1_livingPersons_2 : decode cX1_livingPersons 2 = .ok (.iconst 0, 1) := by decide +kernel
theorem dX1_livingPersons_3 : decode cX1_livingPersons 3 = .ok (.istore_n 2, 1) := by decide +kernel
theorem dX1_livingPersons_4 : decode cX1_livingPersons 4 = .ok (.iload_n 2, 1) := by decide +kernel
theorem dX1_livingPersons_5 : decode cX1_livingPersons 5 = .ok (.aload_n 0, 1) := by decide +kernel
theorem dX1_livingPersons_6 : decode cX1_livingPersons 6 = .ok (.getfield 31, 3) := by decide +kernel
theorem dX1_livingPersons_9 : decode cX1_livingPersons 9 = .ok (.if_icmp .ge 25, 3) := by decide +kernel
theorem dX1_livingPersons_12 : decode cX1_livingPersons 12 = .ok (.iload_n 1, 1) := by decide +kernel
theorem dX1_livingPersons_13 : decode cX1_livingPersons 13 = .ok (.aload_n 0, 1) := by decide +kernel
theorem dX1_livingPersons_14 : decode cX1_livingPersons 14 = .ok (.iload_n 2, 1) := by decide +kernel
theorem dX1_livingPersons_15 : decode cX1_livingPersons 15 = .ok (.invokevirtual 75, 3) := by decide +kernel
theorem dX1_livingPersons_18 : decode cX1_livingPersons 18 = .ok (.ifCond .eq 7, 3) := by decide +kernel
theorem dX1_livingPersons_21 : decode cX1_livingPersons 21 = .ok (.iconst 1, 1) := by decide +kernel
theorem dX1_livingPersons_22 : decode cX1_livingPersons 22 = .ok (.goto 4, 3) := by decide +kernel
theorem dX1_livingPersons_25 : decode cX1_livingPersons 25 = .ok (.iconst 0, 1) := by decide +kernel
theorem dX1_livingPersons_26 : decode cX1_livingPersons 26 = .ok (.iadd, 1) := by decide +kernel
theorem dX1_livingPersons_27 : decode cX1_livingPersons 27 = .ok (.istore_n 1, 1) := by decide +kernel
theorem dX1_livingPersons_28 : decode cX1_livingPersons 28 = .ok (.iinc 2 1, 3) := by decide +kernel
theorem dX1_livingPersons_31 : decode cX1_livingPersons 31 = .ok (.goto (-27), 3) := by decide +kernel
theorem dX1_livingPersons_34 : decode cX1_livingPersons 34 = .ok (.iload_n 1, 1) := by decide +kernel
theorem dX1_livingPersons_35 : decode cX1_livingPersons 35 = .ok (.ireturn, 1) := by decide +kernel
theorem dX1_oaks_0 : decode cX1_oaks 0 = .ok (.iconst 0, 1) := by decide +kernel
theorem dX1_oaks_1 : decode cX1_oaks 1 = .ok (.istore_n 1, 1) := by decide +kernel
theorem dX1_oaks_2 : decode cX1_oaks 2 = .ok (.iconst 0, 1) := by decide +kernel
theorem dX1_oaks_3 : decode cX1_oaks 3 = .ok (.istore_n 2, 1) := by decide +kernel
theorem dX1_oaks_4 : decode cX1_oaks 4 = .ok (.iload_n 2, 1) := by decide +kernel
theorem dX1_oaks_5 : decode cX1_oaks 5 = .ok (.aload_n 0, 1) := by decide +kernel
theorem dX1_oaks_6 : decode cX1_oaks 6 = .ok (.getfield 31, 3) := by decide +kernel
theorem dX1_oaks_9 : decode cX1_oaks 9 = .ok (.if_icmp .ge 26, 3) := by decide +kernel
theorem dX1_oaks_12 : decode cX1_oaks 12 = .ok (.iload_n 1, 1) := by decide +kernel
theorem dX1_oaks_13 : decode cX1_oaks 13 = .ok (.aload_n 0, 1) := by decide +kernel
theorem dX1_oaks_14 : decode cX1_oaks 14 = .ok (.iload_n 2, 1) := by decide +kernel
theorem dX1_oaks_15 : decode cX1_oaks 15 = .ok (.invokevirtual 65, 3) := by decide +kernel
theorem dX1_oaks_18 : decode cX1_oaks 18 = .ok (.iconst (-1), 1) := by decide +kernel
theorem dX1_oaks_19 : decode cX1_oaks 19 = .ok (.if_icmp .ne 7, 3) := by decide +kernel
theorem dX1_oaks_22 : decode cX1_oaks 22 = .ok (.iconst 1, 1) := by decide +kernel
theorem dX1_oaks_23 : decode cX1_oaks 23 = .ok (.goto 4, 3) := by decide +kernel
theorem dX1_oaks_26 : decode cX1_oaks 26 = .ok (.iconst 0, 1) := by decide +kernel
theorem dX1_oaks_27 : decode cX1_oaks 27 = .ok (.iadd, 1) := by decide +kernel
theorem dX1_oaks_28 : decode cX1_oaks 28 = .ok (.istore_n 1, 1) := by decide +kernel
theorem dX1_oaks_29 : decode cX1_oaks 29 = .ok (.iinc 2 1, 3) := by decide +kernel
theorem dX1_oaks_32 : decode cX1_oaks 32 = .ok (.goto (-28), 3) := by decide +kernel
theorem dX1_oaks_35 : decode cX1_oaks 35 = .ok (.iload_n 1, 1) := by decide +kernel
theorem dX1_oaks_36 : decode cX1_oaks 36 = .ok (.ireturn, 1) := by decide +kernel
theorem dX1_marriages_0 : decode cX1_marriages 0 = .ok (.iconst 0, 1) := by decide +kernel
theorem dX1_marriages_1 : decode cX1_marriages 1 = .ok (.istore_n 1, 1) := by decide +kernel
theorem dX1_marriages_2 : decode cX1_marriages 2 = .ok (.iconst 0, 1) := by decide +kernel
theorem dX1_marriages_3 : decode cX1_marriages 3 = .ok (.istore_n 2, 1) := by decide +kernel
theorem dX1_marriages_4 : decode cX1_marriages 4 = .ok (.iload_n 2, 1) := by decide +kernel
theorem dX1_marriages_5 : decode cX1_marriages 5 = .ok (.aload_n 0, 1) := by decide +kernel
theorem dX1_marriages_6 : decode cX1_marriages 6 = .ok (.getfield 31, 3) := by decide +kernel
theorem dX1_marriages_9 : decode cX1_marriages 9 = .ok (.if_icmp .ge 26, 3) := by decide +kernel
theorem dX1_marriages_12 : decode cX1_marriages 12 = .ok (.iload_n 1, 1) := by decide +kernel
theorem dX1_marriages_13 : decode cX1_marriages 13 = .ok (.aload_n 0, 1) := by decide +kernel
theorem dX1_marriages_14 : decode cX1_marriages 14 = .ok (.iload_n 2, 1) := by decide +kernel
theorem dX1_marriages_15 : decode cX1_marriages 15 = .ok (.invokevirtual 51, 3) := by decide +kernel
theorem dX1_marriages_18 : decode cX1_marriages 18 = .ok (.iload_n 2, 1) := by decide +kernel
theorem dX1_marriages_19 : decode cX1_marriages 19 = .ok (.if_icmp .le 7, 3) := by decide +kernel
theorem dX1_marriages_22 : decode cX1_marriages 22 = .ok (.iconst 1, 1) := by decide +kernel
theorem dX1_marriages_23 : decode cX1_marriages 23 = .ok (.goto 4, 3) := by decide +kernel
theorem dX1_marriages_26 : decode cX1_marriages 26 = .ok (.iconst 0, 1) := by decide +kernel
theorem dX1_marriages_27 : decode cX1_marriages 27 = .ok (.iadd, 1) := by decide +kernel
theorem dX1_marriages_28 : decode cX1_marriages 28 = .ok (.istore_n 1, 1) := by decide +kernel
theorem dX1_marriages_29 : decode cX1_marriages 29 = .ok (.iinc 2 1, 3) := by decide +kernel
theorem dX1_marriages_32 : decode cX1_marriages 32 = .ok (.goto (-28), 3) := by decide +kernel
theorem dX1_marriages_35 : decode cX1_marriages 35 = .ok (.iload_n 1, 1) := by decide +kernel
theorem dX1_marriages_36 : decode cX1_marriages 36 = .ok (.ireturn, 1) := by decide +kernel
theorem dX1_greatestDepth_0 : decode cX1_greatestDepth 0 = .ok (.iconst 0, 1) := by decide +kernel
theorem dX1_greatestDepth_1 : decode cX1_greatestDepth 1 = .ok (.istore_n 1, 1) := by decide +kernel
theorem dX1_greatestDepth_2 : decode cX1_greatestDepth 2 = .ok (.iconst 0, 1) := by decide +kernel
theorem dX1_greatestDepth_3 : decode cX1_greatestDepth 3 = .ok (.istore_n 2, 1) := by decide +kernel
theorem dX1_greatestDepth_4 : decode cX1_greatestDepth 4 = .ok (.iload_n 2, 1) := by decide +kernel
theorem dX1_greatestDepth_5 : decode cX1_greatestDepth 5 = .ok (.aload_n 0, 1) := by decide +kernel
theorem dX1_greatestDepth_6 : decode cX1_greatestDepth 6 = .ok (.getfield 31, 3) := by decide +kernel
theorem dX1_greatestDepth_9 : decode cX1_greatestDepth 9 = .ok (.if_icmp .ge 19, 3) := by decide +kernel
theorem dX1_greatestDepth_12 : decode cX1_greatestDepth 12 = .ok (.iload_n 1, 1) := by decide +kernel
theorem dX1_greatestDepth_13 : decode cX1_greatestDepth 13 = .ok (.aload_n 0, 1) := by decide +kernel
theorem dX1_greatestDepth_14 : decode cX1_greatestDepth 14 = .ok (.iload_n 2, 1) := by decide +kernel
theorem dX1_greatestDepth_15 : decode cX1_greatestDepth 15 = .ok (.invokevirtual 90, 3) := by decide +kernel
theorem dX1_greatestDepth_18 : decode cX1_greatestDepth 18 = .ok (.invokestatic 93, 3) := by decide +kernel
theorem dX1_greatestDepth_21 : decode cX1_greatestDepth 21 = .ok (.istore_n 1, 1) := by decide +kernel
theorem dX1_greatestDepth_22 : decode cX1_greatestDepth 22 = .ok (.iinc 2 1, 3) := by decide +kernel
theorem dX1_greatestDepth_25 : decode cX1_greatestDepth 25 = .ok (.goto (-21), 3) := by decide +kernel
theorem dX1_greatestDepth_28 : decode cX1_greatestDepth 28 = .ok (.iload_n 1, 1) := by decide +kernel
theorem dX1_greatestDepth_29 : decode cX1_greatestDepth 29 = .ok (.ireturn, 1) := by decide +kernel
theorem dX1_sumOfDepths_0 : decode cX1_sumOfDepths 0 = .ok (.iconst 0, 1) := by decide +kernel
theorem dX1_sumOfDepths_1 : decode cX1_sumOfDepths 1 = .ok (.istore_n 1, 1) := by decide +kernel
theorem dX1_sumOfDepths_2 : decode cX1_sumOfDepths 2 = .ok (.iconst 0, 1) := by decide +kernel
theorem dX1_sumOfDepths_3 : decode cX1_sumOfDepths 3 = .ok (.istore_n 2, 1) := by decide +kernel
theorem dX1_sumOfDepths_4 : decode cX1_sumOfDepths 4 = .ok (.iload_n 2, 1) := by decide +kernel
theorem dX1_sumOfDepths_5 : decode cX1_sumOfDepths 5 = .ok (.aload_n 0, 1) := by decide +kernel
theorem dX1_sumOfDepths_6 : decode cX1_sumOfDepths 6 = .ok (.getfield 31, 3) := by decide +kernel
theorem dX1_sumOfDepths_9 : decode cX1_sumOfDepths 9 = .ok (.if_icmp .ge 17, 3) := by decide +kernel
theorem dX1_sumOfDepths_12 : decode cX1_sumOfDepths 12 = .ok (.iload_n 1, 1) := by decide +kernel
theorem dX1_sumOfDepths_13 : decode cX1_sumOfDepths 13 = .ok (.aload_n 0, 1) := by decide +kernel
theorem dX1_sumOfDepths_14 : decode cX1_sumOfDepths 14 = .ok (.iload_n 2, 1) := by decide +kernel
theorem dX1_sumOfDepths_15 : decode cX1_sumOfDepths 15 = .ok (.invokevirtual 90, 3) := by decide +kernel
theorem dX1_sumOfDepths_18 : decode cX1_sumOfDepths 18 = .ok (.iadd, 1) := by decide +kernel
theorem dX1_sumOfDepths_19 : decode cX1_sumOfDepths 19 = .ok (.istore_n 1, 1) := by decide +kernel
theorem dX1_sumOfDepths_20 : decode cX1_sumOfDepths 20 = .ok (.iinc 2 1, 3) := by decide +kernel
theorem dX1_sumOfDepths_23 : decode cX1_sumOfDepths 23 = .ok (.goto (-19), 3) := by decide +kernel
theorem dX1_sumOfDepths_26 : decode cX1_sumOfDepths 26 = .ok (.iload_n 1, 1) := by decide +kernel
theorem dX1_sumOfDepths_27 : decode cX1_sumOfDepths 27 = .ok (.ireturn, 1) := by decide +kernel
theorem dX1_allCoins_0 : decode cX1_allCoins 0 = .ok (.iconst 0, 1) := by decide +kernel
theorem dX1_allCoins_1 : decode cX1_allCoins 1 = .ok (.istore_n 1, 1) := by decide +kernel
theorem dX1_allCoins_2 : decode cX1_allCoins 2 = .ok (.iconst 0, 1) := by decide +kernel
theorem dX1_allCoins_3 : decode cX1_allCoins 3 = .ok (.istore_n 2, 1) := by decide +kernel
theorem dX1_allCoins_4 : decode cX1_allCoins 4 = .ok (.iload_n 2, 1) := by decide +kernel
theorem dX1_allCoins_5 : decode cX1_allCoins 5 = .ok (.aload_n 0, 1) := by decide +kernel
theorem dX1_allCoins_6 : decode cX1_allCoins 6 = .ok (.getfield 31, 3) := by decide +kernel
theorem dX1_allCoins_9 : decode cX1_allCoins 9 = .ok (.if_icmp .ge 17, 3) := by decide +kernel
theorem dX1_allCoins_12 : decode cX1_allCoins 12 = .ok (.iload_n 1, 1) := by decide +kernel
theorem dX1_allCoins_13 : decode cX1_allCoins 13 = .ok (.aload_n 0, 1) := by decide +kernel
theorem dX1_allCoins_14 : decode cX1_allCoins 14 = .ok (.iload_n 2, 1) := by decide +kernel
theorem dX1_allCoins_15 : decode cX1_allCoins 15 = .ok (.invokevirtual 59, 3) := by decide +kernel
theorem dX1_allCoins_18 : decode cX1_allCoins 18 = .ok (.iadd, 1) := by decide +kernel
theorem dX1_allCoins_19 : decode cX1_allCoins 19 = .ok (.istore_n 1, 1) := by decide +kernel
theorem dX1_allCoins_20 : decode cX1_allCoins 20 = .ok (.iinc 2 1, 3) := by decide +kernel
theorem dX1_allCoins_23 : decode cX1_allCoins 23 = .ok (.goto (-19), 3) := by decide +kernel
theorem dX1_allCoins_26 : decode cX1_allCoins 26 = .ok (.iload_n 1, 1) := by decide +kernel
theorem dX1_allCoins_27 : decode cX1_allCoins 27 = .ok (.ireturn, 1) := by decide +kernel
theorem dX2_init_0 : decode cX2_init 0 = .ok (.aload_n 0, 1) := by decide +kernel
theorem dX2_init_1 : decode cX2_init 1 = .ok (.invokespecial 3, 3) := by decide +kernel
theorem dX2_init_4 : decode cX2_init 4 = .ok (.aload_n 0, 1) := by decide +kernel
theorem dX2_init_5 : decode cX2_init 5 = .ok (.bipush 24, 2) := by decide +kernel
theorem dX2_init_7 : decode cX2_init 7 = .ok (.newarray .int, 2) := by decide +kernel
theorem dX2_init_9 : decode cX2_init 9 = .ok (.putfield 9, 3) := by decide +kernel
theorem dX2_init_12 : decode cX2_init 12 = .ok (.aload_n 0, 1) := by decide +kernel
theorem dX2_init_13 : decode cX2_init 13 = .ok (.bipush 24, 2) := by decide +kernel
theorem dX2_init_15 : decode cX2_init 15 = .ok (.newarray .int, 2) := by decide +kernel
theorem dX2_init_17 : decode cX2_init 17 = .ok (.putfield 15, 3) := by decide +kernel
theorem dX2_init_20 : decode cX2_init 20 = .ok (.return_, 1) := by decide +kernel
theorem dX2_renew_0 : decode cX2_renew 0 = .ok (.iconst 0, 1) := by decide +kernel
theorem dX2_renew_1 : decode cX2_renew 1 = .ok (.istore_n 2, 1) := by decide +kernel
theorem dX2_renew_2 : decode cX2_renew 2 = .ok (.iload_n 2, 1) := by decide +kernel
theorem dX2_renew_3 : decode cX2_renew 3 = .ok (.bipush 24, 2) := by decide +kernel
theorem dX2_renew_5 : decode cX2_renew 5 = .ok (.if_icmp .ge 16, 3) := by decide +kernel
theorem dX2_renew_8 : decode cX2_renew 8 = .ok (.aload_n 0, 1) := by decide +kernel
theorem dX2_renew_9 : decode cX2_renew 9 = .ok (.getfield 9, 3) := by decide +kernel
theorem dX2_renew_12 : decode cX2_renew 12 = .ok (.iload_n 2, 1) := by decide +kernel
theorem dX2_renew_13 : decode cX2_renew 13 = .ok (.iload_n 2, 1) := by decide +kernel
theorem dX2_renew_14 : decode cX2_renew 14 = .ok (.iastore, 1) := by decide +kernel
theorem dX2_renew_15 : decode cX2_renew 15 = .ok (.iinc 2 1, 3) := by decide +kernel
theorem dX2_renew_18 : decode cX2_renew 18 = .ok (.goto (-16), 3) := by decide +kernel
theorem dX2_renew_21 : decode cX2_renew 21 = .ok (.iconst 0, 1) := by decide +kernel
theorem dX2_renew_22 : decode cX2_renew 22 = .ok (.istore_n 2, 1) := by decide +kernel
theorem dX2_renew_23 : decode cX2_renew 23 = .ok (.iload_n 2, 1) := by decide +kernel
theorem dX2_renew_24 : decode cX2_renew 24 = .ok (.bipush 24, 2) := by decide +kernel
theorem dX2_renew_26 : decode cX2_renew 26 = .ok (.if_icmp .ge 29, 3) := by decide +kernel
theorem dX2_renew_29 : decode cX2_renew 29 = .ok (.aload_n 0, 1) := by decide +kernel
theorem dX2_renew_30 : decode cX2_renew 30 = .ok (.iload_n 2, 1) := by decide +kernel
theorem dX2_renew_31 : decode cX2_renew 31 = .ok (.aload_n 1, 1) := by decide +kernel
theorem dX2_renew_32 : decode cX2_renew 32 = .ok (.iload_n 2, 1) := by decide +kernel
theorem dX2_renew_33 : decode cX2_renew 33 = .ok (.invokevirtual 18, 3) := by decide +kernel
theorem dX2_renew_36 : decode cX2_renew 36 = .ok (.invokevirtual 24, 3) := by decide +kernel
theorem dX2_renew_39 : decode cX2_renew 39 = .ok (.aload_n 0, 1) := by decide +kernel
theorem dX2_renew_40 : decode cX2_renew 40 = .ok (.iload_n 2, 1) := by decide +kernel
theorem dX2_renew_41 : decode cX2_renew 41 = .ok (.aload_n 1, 1) := by decide +kernel
theorem dX2_renew_42 : decode cX2_renew 42 = .ok (.iload_n 2, 1) := by decide +kernel
theorem dX2_renew_43 : decode cX2_renew 43 = .ok (.invokevirtual 28, 3) := by decide +kernel
theorem dX2_renew_46 : decode cX2_renew 46 = .ok (.invokevirtual 24, 3) := by decide +kernel
theorem dX2_renew_49 : decode cX2_renew 49 = .ok (.iinc 2 1, 3) := by decide +kernel
theorem dX2_renew_52 : decode cX2_renew 52 = .ok (.goto (-29), 3) := by decide +kernel
theorem dX2_renew_55 : decode cX2_renew 55 = .ok (.return_, 1) := by decide +kernel
theorem dX2_join_0 : decode cX2_join 0 = .ok (.aload_n 0, 1) := by decide +kernel
theorem dX2_join_1 : decode cX2_join 1 = .ok (.iload_n 1, 1) := by decide +kernel
theorem dX2_join_2 : decode cX2_join 2 = .ok (.invokevirtual 31, 3) := by decide +kernel
theorem dX2_join_5 : decode cX2_join 5 = .ok (.istore_n 3, 1) := by decide +kernel
theorem dX2_join_6 : decode cX2_join 6 = .ok (.aload_n 0, 1) := by decide +kernel
theorem dX2_join_7 : decode cX2_join 7 = .ok (.iload_n 2, 1) := by decide +kernel
theorem dX2_join_8 : decode cX2_join 8 = .ok (.invokevirtual 31, 3) := by decide +kernel
theorem dX2_join_11 : decode cX2_join 11 = .ok (.istore 4, 2) := by decide +kernel
theorem dX2_join_13 : decode cX2_join 13 = .ok (.iload_n 3, 1) := by decide +kernel
theorem dX2_join_14 : decode cX2_join 14 = .ok (.iconst (-1), 1) := by decide +kernel
theorem dX2_join_15 : decode cX2_join 15 = .ok (.if_icmp .eq 9, 3) := by decide +kernel
theorem dX2_join_18 : decode cX2_join 18 = .ok (.iload 4, 2) := by decide +kernel
theorem dX2_join_20 : decode cX2_join 20 = .ok (.iconst (-1), 1) := by decide +kernel
theorem dX2_join_21 : decode cX2_join 21 = .ok (.if_icmp .ne 4, 3) := by decide +kernel
theorem dX2_join_24 : decode cX2_join 24 = .ok (.return_, 1) := by decide +kernel
theorem dX2_join_25 : decode cX2_join 25 = .ok (.iload_n 3, 1) := by decide +kernel
theorem dX2_join_26 : decode cX2_join 26 = .ok (.iload 4, 2) := by decide +kernel
theorem dX2_join_28 : decode cX2_join 28 = .ok (.if_icmp .ge 14, 3) := by decide +kernel
theorem dX2_join_31 : decode cX2_join 31 = .ok (.aload_n 0, 1) := by decide +kernel
theorem dX2_join_32 : decode cX2_join 32 = .ok (.getfield 9, 3) := by decide +kernel
theorem dX2_join_35 : decode cX2_join 35 = .ok (.iload 4, 2) := by decide +kernel
theorem dX2_join_37 : decode cX2_join 37 = .ok (.iload_n 3, 1) := by decide +kernel
theorem dX2_join_38 : decode cX2_join 38 = .ok (.iastore, 1) := by decide +kernel
theorem dX2_join_39 : decode cX2_join 39 = .ok (.goto 11, 3) := by decide +kernel
theorem dX2_join_42 : decode cX2_join 42 = .ok (.aload_n 0, 1) := by decide +kernel
theorem dX2_join_43 : decode cX2_join 43 = .ok (.getfield 9, 3) := by decide +kernel
theorem dX2_join_46 : decode cX2_join 46 = .ok (.iload_n 3, 1) := by decide +kernel
theorem dX2_join_47 : decode cX2_join 47 = .ok (.iload 4, 2) := by decide +kernel
theorem dX2_join_49 : decode cX2_join 49 = .ok (.iastore, 1) := by decide +kernel
theorem dX2_join_50 : decode cX2_join 50 = .ok (.return_, 1) := by decide +kernel
theorem dX2_houseOf_0 : decode cX2_houseOf 0 = .ok (.iload_n 1, 1) := by decide +kernel
theorem dX2_houseOf_1 : decode cX2_houseOf 1 = .ok (.ifCond .lt 9, 3) := by decide +kernel
theorem dX2_houseOf_4 : decode cX2_houseOf 4 = .ok (.iload_n 1, 1) := by decide +kernel
theorem dX2_houseOf_5 : decode cX2_houseOf 5 = .ok (.bipush 24, 2) := by decide +kernel
theorem dX2_houseOf_7 : decode cX2_houseOf 7 = .ok (.if_icmp .lt 5, 3) := by decide +kernel
theorem dX2_houseOf_10 : decode cX2_houseOf 10 = .ok (.iconst (-1), 1) := by decide +kernel
theorem dX2_houseOf_11 : decode cX2_houseOf 11 = .ok (.ireturn, 1) := by decide +kernel
theorem dX2_houseOf_12 : decode cX2_houseOf 12 = .ok (.iload_n 1, 1) := by decide +kernel
theorem dX2_houseOf_13 : decode cX2_houseOf 13 = .ok (.istore_n 2, 1) := by decide +kernel
theorem dX2_houseOf_14 : decode cX2_houseOf 14 = .ok (.iconst 0, 1) := by decide +kernel
theorem dX2_houseOf_15 : decode cX2_houseOf 15 = .ok (.istore_n 3, 1) := by decide +kernel
theorem dX2_houseOf_16 : decode cX2_houseOf 16 = .ok (.iload_n 3, 1) := by decide +kernel
theorem dX2_houseOf_17 : decode cX2_houseOf 17 = .ok (.bipush 24, 2) := by decide +kernel
theorem dX2_houseOf_19 : decode cX2_houseOf 19 = .ok (.if_icmp .ge 35, 3) := by decide +kernel
theorem dX2_houseOf_22 : decode cX2_houseOf 22 = .ok (.aload_n 0, 1) := by decide +kernel
theorem dX2_houseOf_23 : decode cX2_houseOf 23 = .ok (.getfield 9, 3) := by decide +kernel
theorem dX2_houseOf_26 : decode cX2_houseOf 26 = .ok (.iload_n 2, 1) := by decide +kernel
theorem dX2_houseOf_27 : decode cX2_houseOf 27 = .ok (.iaload, 1) := by decide +kernel
theorem dX2_houseOf_28 : decode cX2_houseOf 28 = .ok (.ifCond .lt 26, 3) := by decide +kernel
theorem dX2_houseOf_31 : decode cX2_houseOf 31 = .ok (.aload_n 0, 1) := by decide +kernel
theorem dX2_houseOf_32 : decode cX2_houseOf 32 = .ok (.getfield 9, 3) := by decide +kernel
theorem dX2_houseOf_35 : decode cX2_houseOf 35 = .ok (.iload_n 2, 1) := by decide +kernel
theorem dX2_houseOf_36 : decode cX2_houseOf 36 = .ok (.iaload, 1) := by decide +kernel
theorem dX2_houseOf_37 : decode cX2_houseOf 37 = .ok (.iload_n 2, 1) := by decide +kernel
theorem dX2_houseOf_38 : decode cX2_houseOf 38 = .ok (.if_icmp .ge 16, 3) := by decide +kernel
theorem dX2_houseOf_41 : decode cX2_houseOf 41 = .ok (.aload_n 0, 1) := by decide +kernel
theorem dX2_houseOf_42 : decode cX2_houseOf 42 = .ok (.getfield 9, 3) := by decide +kernel
theorem dX2_houseOf_45 : decode cX2_houseOf 45 = .ok (.iload_n 2, 1) := by decide +kernel
theorem dX2_houseOf_46 : decode cX2_houseOf 46 = .ok (.iaload, 1) := by decide +kernel
theorem dX2_houseOf_47 : decode cX2_houseOf 47 = .ok (.istore_n 2, 1) := by decide +kernel
theorem dX2_houseOf_48 : decode cX2_houseOf 48 = .ok (.iinc 3 1, 3) := by decide +kernel
theorem dX2_houseOf_51 : decode cX2_houseOf 51 = .ok (.goto (-35), 3) := by decide +kernel
theorem dX2_houseOf_54 : decode cX2_houseOf 54 = .ok (.iload_n 2, 1) := by decide +kernel
theorem dX2_houseOf_55 : decode cX2_houseOf 55 = .ok (.ireturn, 1) := by decide +kernel
theorem dX2_isOneHouse_0 : decode cX2_isOneHouse 0 = .ok (.aload_n 0, 1) := by decide +kernel
theorem dX2_isOneHouse_1 : decode cX2_isOneHouse 1 = .ok (.iload_n 1, 1) := by decide +kernel
theorem dX2_isOneHouse_2 : decode cX2_isOneHouse 2 = .ok (.invokevirtual 31, 3) := by decide +kernel
theorem dX2_isOneHouse_5 : decode cX2_isOneHouse 5 = .ok (.aload_n 0, 1) := by decide +kernel
theorem dX2_isOneHouse_6 : decode cX2_isOneHouse 6 = .ok (.iload_n 2, 1) := by decide +kernel
theorem dX2_isOneHouse_7 : decode cX2_isOneHouse 7 = .ok (.invokevirtual 31, 3) := by decide +kernel
theorem dX2_isOneHouse_10 : decode cX2_isOneHouse 10 = .ok (.if_icmp .ne 7, 3) := by decide +kernel
theorem dX2_isOneHouse_13 : decode cX2_isOneHouse 13 = .ok (.iconst 1, 1) := by decide +kernel
theorem dX2_isOneHouse_14 : decode cX2_isOneHouse 14 = .ok (.goto 4, 3) := by decide +kernel
theorem dX2_isOneHouse_17 : decode cX2_isOneHouse 17 = .ok (.iconst 0, 1) := by decide +kernel
theorem dX2_isOneHouse_18 : decode cX2_isOneHouse 18 = .ok (.ireturn, 1) := by decide +kernel
theorem dX2_count_0 : decode cX2_count 0 = .ok (.iconst 0, 1) := by decide +kernel
theorem dX2_count_1 : decode cX2_count 1 = .ok (.istore_n 2, 1) := by decide +kernel
theorem dX2_count_2 : decode cX2_count 2 = .ok (.iconst 0, 1) := by decide +kernel
theorem dX2_count_3 : decode cX2_count 3 = .ok (.istore_n 3, 1) := by decide +kernel
theorem dX2_count_4 : decode cX2_count 4 = .ok (.iload_n 3, 1) := by decide +kernel
theorem dX2_count_5 : decode cX2_count 5 = .ok (.aload_n 1, 1) := by decide +kernel
theorem dX2_count_6 : decode cX2_count 6 = .ok (.getfield 34, 3) := by decide +kernel
theorem dX2_count_9 : decode cX2_count 9 = .ok (.if_icmp .ge 26, 3) := by decide +kernel
theorem dX2_count_12 : decode cX2_count 12 = .ok (.iload_n 2, 1) := by decide +kernel
theorem dX2_count_13 : decode cX2_count 13 = .ok (.aload_n 0, 1) := by decide +kernel
theorem dX2_count_14 : decode cX2_count 14 = .ok (.iload_n 3, 1) := by decide +kernel
theorem dX2_count_15 : decode cX2_count 15 = .ok (.invokevirtual 31, 3) := by decide +kernel
theorem dX2_count_18 : decode cX2_count 18 = .ok (.iload_n 3, 1) := by decide +kernel
theorem dX2_count_19 : decode cX2_count 19 = .ok (.if_icmp .ne 7, 3) := by decide +kernel
theorem dX2_count_22 : decode cX2_count 22 = .ok (.iconst 1, 1) := by decide +kernel
theorem dX2_count_23 : decode cX2_count 23 = .ok (.goto 4, 3) := by decide +kernel
theorem dX2_count_26 : decode cX2_count 26 = .ok (.iconst 0, 1) := by decide +kernel
theorem dX2_count_27 : decode cX2_count 27 = .ok (.iadd, 1) := by decide +kernel
theorem dX2_count_28 : decode cX2_count 28 = .ok (.istore_n 2, 1) := by decide +kernel
theorem dX2_count_29 : decode cX2_count 29 = .ok (.iinc 3 1, 3) := by decide +kernel
theorem dX2_count_32 : decode cX2_count 32 = .ok (.goto (-28), 3) := by decide +kernel
theorem dX2_count_35 : decode cX2_count 35 = .ok (.iload_n 2, 1) := by decide +kernel
theorem dX2_count_36 : decode cX2_count 36 = .ok (.ireturn, 1) := by decide +kernel
theorem dX2_countAgain_0 : decode cX2_countAgain 0 = .ok (.iconst 0, 1) := by decide +kernel
theorem dX2_countAgain_1 : decode cX2_countAgain 1 = .ok (.istore_n 2, 1) := by decide +kernel
theorem dX2_countAgain_2 : decode cX2_countAgain 2 = .ok (.iload_n 2, 1) := by decide +kernel
theorem dX2_countAgain_3 : decode cX2_countAgain 3 = .ok (.bipush 24, 2) := by decide +kernel
theorem dX2_countAgain_5 : decode cX2_countAgain 5 = .ok (.if_icmp .ge 16, 3) := by decide +kernel
theorem dX2_countAgain_8 : decode cX2_countAgain 8 = .ok (.aload_n 0, 1) := by decide +kernel
theorem dX2_countAgain_9 : decode cX2_countAgain 9 = .ok (.getfield 15, 3) := by decide +kernel
theorem dX2_countAgain_12 : decode cX2_countAgain 12 = .ok (.iload_n 2, 1) := by decide +kernel
theorem dX2_countAgain_13 : decode cX2_countAgain 13 = .ok (.iload_n 2, 1) := by decide +kernel
theorem dX2_countAgain_14 : decode cX2_countAgain 14 = .ok (.iastore, 1) := by decide +kernel
theorem dX2_countAgain_15 : decode cX2_countAgain 15 = .ok (.iinc 2 1, 3) := by decide +kernel
theorem dX2_countAgain_18 : decode cX2_countAgain 18 = .ok (.goto (-16), 3) := by decide +kernel
theorem dX2_countAgain_21 : decode cX2_countAgain 21 = .ok (.iconst 1, 1) := by decide +kernel
theorem dX2_countAgain_22 : decode cX2_countAgain 22 = .ok (.istore_n 2, 1) := by decide +kernel
theorem dX2_countAgain_23 : decode cX2_countAgain 23 = .ok (.iconst 0, 1) := by decide +kernel
theorem dX2_countAgain_24 : decode cX2_countAgain 24 = .ok (.istore_n 3, 1) := by decide +kernel
theorem dX2_countAgain_25 : decode cX2_countAgain 25 = .ok (.iload_n 3, 1) := by decide +kernel
theorem dX2_countAgain_26 : decode cX2_countAgain 26 = .ok (.bipush 24, 2) := by decide +kernel
theorem dX2_countAgain_28 : decode cX2_countAgain 28 = .ok (.if_icmp .gt 19, 3) := by decide +kernel
theorem dX2_countAgain_31 : decode cX2_countAgain 31 = .ok (.iload_n 2, 1) := by decide +kernel
theorem dX2_countAgain_32 : decode cX2_countAgain 32 = .ok (.ifCond .eq 15, 3) := by decide +kernel
theorem dX2_countAgain_35 : decode cX2_countAgain 35 = .ok (.aload_n 0, 1) := by decide +kernel
theorem dX2_countAgain_36 : decode cX2_countAgain 36 = .ok (.aload_n 1, 1) := by decide +kernel
theorem dX2_countAgain_37 : decode cX2_countAgain 37 = .ok (.invokevirtual 38, 3) := by decide +kernel
theorem dX2_countAgain_40 : decode cX2_countAgain 40 = .ok (.istore_n 2, 1) := by decide +kernel
theorem dX2_countAgain_41 : decode cX2_countAgain 41 = .ok (.iinc 3 1, 3) := by decide +kernel
theorem dX2_countAgain_44 : decode cX2_countAgain 44 = .ok (.goto (-19), 3) := by decide +kernel
theorem dX2_countAgain_47 : decode cX2_countAgain 47 = .ok (.iconst 0, 1) := by decide +kernel
theorem dX2_countAgain_48 : decode cX2_countAgain 48 = .ok (.istore_n 3, 1) := by decide +kernel
theorem dX2_countAgain_49 : decode cX2_countAgain 49 = .ok (.iconst 0, 1) := by decide +kernel
theorem dX2_countAgain_50 : decode cX2_countAgain 50 = .ok (.istore 4, 2) := by decide +kernel
theorem dX2_countAgain_52 : decode cX2_countAgain 52 = .ok (.iload 4, 2) := by decide +kernel
theorem dX2_countAgain_54 : decode cX2_countAgain 54 = .ok (.aload_n 1, 1) := by decide +kernel
theorem dX2_countAgain_55 : decode cX2_countAgain 55 = .ok (.getfield 34, 3) := by decide +kernel
theorem dX2_countAgain_58 : decode cX2_countAgain 58 = .ok (.if_icmp .ge 36, 3) := by decide +kernel
theorem dX2_countAgain_61 : decode cX2_countAgain 61 = .ok (.iload 4, 2) := by decide +kernel
theorem dX2_countAgain_63 : decode cX2_countAgain 63 = .ok (.bipush 24, 2) := by decide +kernel
theorem dX2_countAgain_65 : decode cX2_countAgain 65 = .ok (.if_icmp .ge 29, 3) := by decide +kernel
theorem dX2_countAgain_68 : decode cX2_countAgain 68 = .ok (.iload_n 3, 1) := by decide +kernel
theorem dX2_countAgain_69 : decode cX2_countAgain 69 = .ok (.aload_n 0, 1) := by decide +kernel
theorem dX2_countAgain_70 : decode cX2_countAgain 70 = .ok (.getfield 15, 3) := by decide +kernel
theorem dX2_countAgain_73 : decode cX2_countAgain 73 = .ok (.iload 4, 2) := by decide +kernel
theorem dX2_countAgain_75 : decode cX2_countAgain 75 = .ok (.iaload, 1) := by decide +kernel
theorem dX2_countAgain_76 : decode cX2_countAgain 76 = .ok (.iload 4, 2) := by decide +kernel
theorem dX2_countAgain_78 : decode cX2_countAgain 78 = .ok (.if_icmp .ne 7, 3) := by decide +kernel
theorem dX2_countAgain_81 : decode cX2_countAgain 81 = .ok (.iconst 1, 1) := by decide +kernel
theorem dX2_countAgain_82 : decode cX2_countAgain 82 = .ok (.goto 4, 3) := by decide +kernel
theorem dX2_countAgain_85 : decode cX2_countAgain 85 = .ok (.iconst 0, 1) := by decide +kernel
theorem dX2_countAgain_86 : decode cX2_countAgain 86 = .ok (.iadd, 1) := by decide +kernel
theorem dX2_countAgain_87 : decode cX2_countAgain 87 = .ok (.istore_n 3, 1) := by decide +kernel
theorem dX2_countAgain_88 : decode cX2_countAgain 88 = .ok (.iinc 4 1, 3) := by decide +kernel
theorem dX2_countAgain_91 : decode cX2_countAgain 91 = .ok (.goto (-39), 3) := by decide +kernel
theorem dX2_countAgain_94 : decode cX2_countAgain 94 = .ok (.iload_n 3, 1) := by decide +kernel
theorem dX2_countAgain_95 : decode cX2_countAgain 95 = .ok (.ireturn, 1) := by decide +kernel
theorem dX2_lowerAll_0 : decode cX2_lowerAll 0 = .ok (.iconst 0, 1) := by decide +kernel
theorem dX2_lowerAll_1 : decode cX2_lowerAll 1 = .ok (.istore_n 2, 1) := by decide +kernel
theorem dX2_lowerAll_2 : decode cX2_lowerAll 2 = .ok (.iconst 0, 1) := by decide +kernel
theorem dX2_lowerAll_3 : decode cX2_lowerAll 3 = .ok (.istore_n 3, 1) := by decide +kernel
theorem dX2_lowerAll_4 : decode cX2_lowerAll 4 = .ok (.iload_n 3, 1) := by decide +kernel
theorem dX2_lowerAll_5 : decode cX2_lowerAll 5 = .ok (.bipush 24, 2) := by decide +kernel
theorem dX2_lowerAll_7 : decode cX2_lowerAll 7 = .ok (.if_icmp .ge 71, 3) := by decide +kernel
theorem dX2_lowerAll_10 : decode cX2_lowerAll 10 = .ok (.aload_n 1, 1) := by decide +kernel
theorem dX2_lowerAll_11 : decode cX2_lowerAll 11 = .ok (.iload_n 3, 1) := by decide +kernel
theorem dX2_lowerAll_12 : decode cX2_lowerAll 12 = .ok (.invokevirtual 18, 3) := by decide +kernel
theorem dX2_lowerAll_15 : decode cX2_lowerAll 15 = .ok (.istore 4, 2) := by decide +kernel
theorem dX2_lowerAll_17 : decode cX2_lowerAll 17 = .ok (.aload_n 0, 1) := by decide +kernel
theorem dX2_lowerAll_18 : decode cX2_lowerAll 18 = .ok (.iload_n 3, 1) := by decide +kernel
theorem dX2_lowerAll_19 : decode cX2_lowerAll 19 = .ok (.iload 4, 2) := by decide +kernel
theorem dX2_lowerAll_21 : decode cX2_lowerAll 21 = .ok (.invokevirtual 42, 3) := by decide +kernel
theorem dX2_lowerAll_24 : decode cX2_lowerAll 24 = .ok (.istore 5, 2) := by decide +kernel
theorem dX2_lowerAll_26 : decode cX2_lowerAll 26 = .ok (.aload_n 0, 1) := by decide +kernel
theorem dX2_lowerAll_27 : decode cX2_lowerAll 27 = .ok (.iload 4, 2) := by decide +kernel
theorem dX2_lowerAll_29 : decode cX2_lowerAll 29 = .ok (.iload_n 3, 1) := by decide +kernel
theorem dX2_lowerAll_30 : decode cX2_lowerAll 30 = .ok (.invokevirtual 42, 3) := by decide +kernel
theorem dX2_lowerAll_33 : decode cX2_lowerAll 33 = .ok (.istore 6, 2) := by decide +kernel
theorem dX2_lowerAll_35 : decode cX2_lowerAll 35 = .ok (.aload_n 0, 1) := by decide +kernel
theorem dX2_lowerAll_36 : decode cX2_lowerAll 36 = .ok (.aload_n 1, 1) := by decide +kernel
theorem dX2_lowerAll_37 : decode cX2_lowerAll 37 = .ok (.iload_n 3, 1) := by decide +kernel
theorem dX2_lowerAll_38 : decode cX2_lowerAll 38 = .ok (.invokevirtual 28, 3) := by decide +kernel
theorem dX2_lowerAll_41 : decode cX2_lowerAll 41 = .ok (.iload_n 3, 1) := by decide +kernel
theorem dX2_lowerAll_42 : decode cX2_lowerAll 42 = .ok (.invokevirtual 42, 3) := by decide +kernel
theorem dX2_lowerAll_45 : decode cX2_lowerAll 45 = .ok (.istore 7, 2) := by decide +kernel
theorem dX2_lowerAll_47 : decode cX2_lowerAll 47 = .ok (.iload_n 2, 1) := by decide +kernel
theorem dX2_lowerAll_48 : decode cX2_lowerAll 48 = .ok (.ifCond .ne 18, 3) := by decide +kernel
theorem dX2_lowerAll_51 : decode cX2_lowerAll 51 = .ok (.iload 5, 2) := by decide +kernel
theorem dX2_lowerAll_53 : decode cX2_lowerAll 53 = .ok (.ifCond .ne 13, 3) := by decide +kernel
theorem dX2_lowerAll_56 : decode cX2_lowerAll 56 = .ok (.iload 6, 2) := by decide +kernel
theorem dX2_lowerAll_58 : decode cX2_lowerAll 58 = .ok (.ifCond .ne 8, 3) := by decide +kernel
theorem dX2_lowerAll_61 : decode cX2_lowerAll 61 = .ok (.iload 7, 2) := by decide +kernel
theorem dX2_lowerAll_63 : decode cX2_lowerAll 63 = .ok (.ifCond .eq 7, 3) := by decide +kernel
theorem dX2_lowerAll_66 : decode cX2_lowerAll 66 = .ok (.iconst 1, 1) := by decide +kernel
theorem dX2_lowerAll_67 : decode cX2_lowerAll 67 = .ok (.goto 4, 3) := by decide +kernel
theorem dX2_lowerAll_70 : decode cX2_lowerAll 70 = .ok (.iconst 0, 1) := by decide +kernel
theorem dX2_lowerAll_71 : decode cX2_lowerAll 71 = .ok (.istore_n 2, 1) := by decide +kernel
theorem dX2_lowerAll_72 : decode cX2_lowerAll 72 = .ok (.iinc 3 1, 3) := by decide +kernel
theorem dX2_lowerAll_75 : decode cX2_lowerAll 75 = .ok (.goto (-71), 3) := by decide +kernel
theorem dX2_lowerAll_78 : decode cX2_lowerAll 78 = .ok (.iload_n 2, 1) := by decide +kernel
theorem dX2_lowerAll_79 : decode cX2_lowerAll 79 = .ok (.ireturn, 1) := by decide +kernel
theorem dX2_lower_0 : decode cX2_lower 0 = .ok (.iload_n 1, 1) := by decide +kernel
theorem dX2_lower_1 : decode cX2_lower 1 = .ok (.ifCond .lt 23, 3) := by decide +kernel
theorem dX2_lower_4 : decode cX2_lower 4 = .ok (.iload_n 1, 1) := by decide +kernel
theorem dX2_lower_5 : decode cX2_lower 5 = .ok (.bipush 24, 2) := by decide +kernel
theorem dX2_lower_7 : decode cX2_lower 7 = .ok (.if_icmp .ge 17, 3) := by decide +kernel
theorem dX2_lower_10 : decode cX2_lower 10 = .ok (.iload_n 2, 1) := by decide +kernel
theorem dX2_lower_11 : decode cX2_lower 11 = .ok (.ifCond .lt 13, 3) := by decide +kernel
theorem dX2_lower_14 : decode cX2_lower 14 = .ok (.iload_n 2, 1) := by decide +kernel
theorem dX2_lower_15 : decode cX2_lower 15 = .ok (.bipush 24, 2) := by decide +kernel
theorem dX2_lower_17 : decode cX2_lower 17 = .ok (.if_icmp .ge 7, 3) := by decide +kernel
theorem dX2_lower_20 : decode cX2_lower 20 = .ok (.iconst 1, 1) := by decide +kernel
theorem dX2_lower_21 : decode cX2_lower 21 = .ok (.goto 4, 3) := by decide +kernel
theorem dX2_lower_24 : decode cX2_lower 24 = .ok (.iconst 0, 1) := by decide +kernel
theorem dX2_lower_25 : decode cX2_lower 25 = .ok (.istore_n 3, 1) := by decide +kernel
theorem dX2_lower_26 : decode cX2_lower 26 = .ok (.iload_n 3, 1) := by decide +kernel
theorem dX2_lower_27 : decode cX2_lower 27 = .ok (.ifCond .eq 18, 3) := by decide +kernel
theorem dX2_lower_30 : decode cX2_lower 30 = .ok (.aload_n 0, 1) := by decide +kernel
theorem dX2_lower_31 : decode cX2_lower 31 = .ok (.getfield 15, 3) := by decide +kernel
theorem dX2_lower_34 : decode cX2_lower 34 = .ok (.iload_n 2, 1) := by decide +kernel
theorem dX2_lower_35 : decode cX2_lower 35 = .ok (.iaload, 1) := by decide +kernel
theorem dX2_lower_36 : decode cX2_lower 36 = .ok (.aload_n 0, 1) := by decide +kernel
theorem dX2_lower_37 : decode cX2_lower 37 = .ok (.getfield 15, 3) := by decide +kernel
theorem dX2_lower_40 : decode cX2_lower 40 = .ok (.iload_n 1, 1) := by decide +kernel
theorem dX2_lower_41 : decode cX2_lower 41 = .ok (.iaload, 1) := by decide +kernel
theorem dX2_lower_42 : decode cX2_lower 42 = .ok (.if_icmp .lt 5, 3) := by decide +kernel
theorem dX2_lower_45 : decode cX2_lower 45 = .ok (.iconst 0, 1) := by decide +kernel
theorem dX2_lower_46 : decode cX2_lower 46 = .ok (.ireturn, 1) := by decide +kernel
theorem dX2_lower_47 : decode cX2_lower 47 = .ok (.aload_n 0, 1) := by decide +kernel
theorem dX2_lower_48 : decode cX2_lower 48 = .ok (.getfield 15, 3) := by decide +kernel
theorem dX2_lower_51 : decode cX2_lower 51 = .ok (.iload_n 1, 1) := by decide +kernel
theorem dX2_lower_52 : decode cX2_lower 52 = .ok (.aload_n 0, 1) := by decide +kernel
theorem dX2_lower_53 : decode cX2_lower 53 = .ok (.getfield 15, 3) := by decide +kernel
theorem dX2_lower_56 : decode cX2_lower 56 = .ok (.iload_n 2, 1) := by decide +kernel
theorem dX2_lower_57 : decode cX2_lower 57 = .ok (.iaload, 1) := by decide +kernel
theorem dX2_lower_58 : decode cX2_lower 58 = .ok (.iastore, 1) := by decide +kernel
theorem dX2_lower_59 : decode cX2_lower 59 = .ok (.iconst 1, 1) := by decide +kernel
theorem dX2_lower_60 : decode cX2_lower 60 = .ok (.ireturn, 1) := by decide +kernel
theorem dX3_init_0 : decode cX3_init 0 = .ok (.aload_n 0, 1) := by decide +kernel
theorem dX3_init_1 : decode cX3_init 1 = .ok (.invokespecial 3, 3) := by decide +kernel
theorem dX3_init_4 : decode cX3_init 4 = .ok (.aload_n 0, 1) := by decide +kernel
theorem dX3_init_5 : decode cX3_init 5 = .ok (.bipush 60, 2) := by decide +kernel
theorem dX3_init_7 : decode cX3_init 7 = .ok (.newarray .char, 2) := by decide +kernel
theorem dX3_init_9 : decode cX3_init 9 = .ok (.putfield 9, 3) := by decide +kernel
theorem dX3_init_12 : decode cX3_init 12 = .ok (.aload_n 0, 1) := by decide +kernel
theorem dX3_init_13 : decode cX3_init 13 = .ok (.bipush 30, 2) := by decide +kernel
theorem dX3_init_15 : decode cX3_init 15 = .ok (.newarray .int, 2) := by decide +kernel
theorem dX3_init_17 : decode cX3_init 17 = .ok (.putfield 15, 3) := by decide +kernel
theorem dX3_init_20 : decode cX3_init 20 = .ok (.aload_n 0, 1) := by decide +kernel
theorem dX3_init_21 : decode cX3_init 21 = .ok (.bipush 30, 2) := by decide +kernel
theorem dX3_init_23 : decode cX3_init 23 = .ok (.newarray .int, 2) := by decide +kernel
theorem dX3_init_25 : decode cX3_init 25 = .ok (.putfield 19, 3) := by decide +kernel
theorem dX3_init_28 : decode cX3_init 28 = .ok (.aload_n 0, 1) := by decide +kernel
theorem dX3_init_29 : decode cX3_init 29 = .ok (.bipush 30, 2) := by decide +kernel
theorem dX3_init_31 : decode cX3_init 31 = .ok (.newarray .int, 2) := by decide +kernel
theorem dX3_init_33 : decode cX3_init 33 = .ok (.putfield 22, 3) := by decide +kernel
theorem dX3_init_36 : decode cX3_init 36 = .ok (.aload_n 0, 1) := by decide +kernel
theorem dX3_init_37 : decode cX3_init 37 = .ok (.iconst 0, 1) := by decide +kernel
theorem dX3_init_38 : decode cX3_init 38 = .ok (.putfield 25, 3) := by decide +kernel
theorem dX3_init_41 : decode cX3_init 41 = .ok (.aload_n 0, 1) := by decide +kernel
theorem dX3_init_42 : decode cX3_init 42 = .ok (.iconst 0, 1) := by decide +kernel
theorem dX3_init_43 : decode cX3_init 43 = .ok (.putfield 29, 3) := by decide +kernel
theorem dX3_init_46 : decode cX3_init 46 = .ok (.aload_n 0, 1) := by decide +kernel
theorem dX3_init_47 : decode cX3_init 47 = .ok (.iconst 0, 1) := by decide +kernel
theorem dX3_init_48 : decode cX3_init 48 = .ok (.putfield 32, 3) := by decide +kernel
theorem dX3_init_51 : decode cX3_init 51 = .ok (.return_, 1) := by decide +kernel
theorem dX3_add_0 : decode cX3_add 0 = .ok (.aload_n 0, 1) := by decide +kernel
theorem dX3_add_1 : decode cX3_add 1 = .ok (.getfield 29, 3) := by decide +kernel
theorem dX3_add_4 : decode cX3_add 4 = .ok (.ifCond .lt 32, 3) := by decide +kernel
theorem dX3_add_7 : decode cX3_add 7 = .ok (.aload_n 0, 1) := by decide +kernel
theorem dX3_add_8 : decode cX3_add 8 = .ok (.getfield 29, 3) := by decide +kernel
theorem dX3_add_11 : decode cX3_add 11 = .ok (.bipush 60, 2) := by decide +kernel
theorem dX3_add_13 : decode cX3_add 13 = .ok (.if_icmp .ge 23, 3) := by decide +kernel
theorem dX3_add_16 : decode cX3_add 16 = .ok (.aload_n 0, 1) := by decide +kernel
theorem dX3_add_17 : decode cX3_add 17 = .ok (.getfield 9, 3) := by decide +kernel
theorem dX3_add_20 : decode cX3_add 20 = .ok (.aload_n 0, 1) := by decide +kernel
theorem dX3_add_21 : decode cX3_add 21 = .ok (.getfield 29, 3) := by decide +kernel
theorem dX3_add_24 : decode cX3_add 24 = .ok (.iload_n 1, 1) := by decide +kernel
theorem dX3_add_25 : decode cX3_add 25 = .ok (.castore, 1) := by decide +kernel
theorem dX3_add_26 : decode cX3_add 26 = .ok (.aload_n 0, 1) := by decide +kernel
theorem dX3_add_27 : decode cX3_add 27 = .ok (.dup, 1) := by decide +kernel
theorem dX3_add_28 : decode cX3_add 28 = .ok (.getfield 29, 3) := by decide +kernel
theorem dX3_add_31 : decode cX3_add 31 = .ok (.iconst 1, 1) := by decide +kernel
theorem dX3_add_32 : decode cX3_add 32 = .ok (.iadd, 1) := by decide +kernel
theorem dX3_add_33 : decode cX3_add 33 = .ok (.putfield 29, 3) := by decide +kernel
theorem dX3_add_36 : decode cX3_add 36 = .ok (.return_, 1) := by decide +kernel
theorem dX3_kindAt_0 : decode cX3_kindAt 0 = .ok (.iload_n 1, 1) := by decide +kernel
theorem dX3_kindAt_1 : decode cX3_kindAt 1 = .ok (.ifCond .lt 18, 3) := by decide +kernel
theorem dX3_kindAt_4 : decode cX3_kindAt 4 = .ok (.iload_n 1, 1) := by decide +kernel
theorem dX3_kindAt_5 : decode cX3_kindAt 5 = .ok (.bipush 30, 2) := by decide +kernel
theorem dX3_kindAt_7 : decode cX3_kindAt 7 = .ok (.if_icmp .ge 12, 3) := by decide +kernel
theorem dX3_kindAt_10 : decode cX3_kindAt 10 = .ok (.aload_n 0, 1) := by decide +kernel
theorem dX3_kindAt_11 : decode cX3_kindAt 11 = .ok (.getfield 15, 3) := by decide +kernel
theorem dX3_kindAt_14 : decode cX3_kindAt 14 = .ok (.iload_n 1, 1) := by decide +kernel
theorem dX3_kindAt_15 : decode cX3_kindAt 15 = .ok (.iaload, 1) := by decide +kernel
theorem dX3_kindAt_16 : decode cX3_kindAt 16 = .ok (.goto 4, 3) := by decide +kernel
theorem dX3_kindAt_19 : decode cX3_kindAt 19 = .ok (.iconst 0, 1) := by decide +kernel
theorem dX3_kindAt_20 : decode cX3_kindAt 20 = .ok (.ireturn, 1) := by decide +kernel
theorem dX3_firstAt_0 : decode cX3_firstAt 0 = .ok (.iload_n 1, 1) := by decide +kernel
theorem dX3_firstAt_1 : decode cX3_firstAt 1 = .ok (.ifCond .lt 18, 3) := by decide +kernel
theorem dX3_firstAt_4 : decode cX3_firstAt 4 = .ok (.iload_n 1, 1) := by decide +kernel
theorem dX3_firstAt_5 : decode cX3_firstAt 5 = .ok (.bipush 30, 2) := by decide +kernel
theorem dX3_firstAt_7 : decode cX3_firstAt 7 = .ok (.if_icmp .ge 12, 3) := by decide +kernel
theorem dX3_firstAt_10 : decode cX3_firstAt 10 = .ok (.aload_n 0, 1) := by decide +kernel
theorem dX3_firstAt_11 : decode cX3_firstAt 11 = .ok (.getfield 19, 3) := by decide +kernel
theorem dX3_firstAt_14 : decode cX3_firstAt 14 = .ok (.iload_n 1, 1) := by decide +kernel
theorem dX3_firstAt_15 : decode cX3_firstAt 15 = .ok (.iaload, 1) := by decide +kernel
theorem dX3_firstAt_16 : decode cX3_firstAt 16 = .ok (.goto 4, 3) := by decide +kernel
theorem dX3_firstAt_19 : decode cX3_firstAt 19 = .ok (.iconst (-1), 1) := by decide +kernel
theorem dX3_firstAt_20 : decode cX3_firstAt 20 = .ok (.ireturn, 1) := by decide +kernel
theorem dX3_secondAt_0 : decode cX3_secondAt 0 = .ok (.iload_n 1, 1) := by decide +kernel
theorem dX3_secondAt_1 : decode cX3_secondAt 1 = .ok (.ifCond .lt 18, 3) := by decide +kernel
theorem dX3_secondAt_4 : decode cX3_secondAt 4 = .ok (.iload_n 1, 1) := by decide +kernel
theorem dX3_secondAt_5 : decode cX3_secondAt 5 = .ok (.bipush 30, 2) := by decide +kernel
theorem dX3_secondAt_7 : decode cX3_secondAt 7 = .ok (.if_icmp .ge 12, 3) := by decide +kernel
theorem dX3_secondAt_10 : decode cX3_secondAt 10 = .ok (.aload_n 0, 1) := by decide +kernel
theorem dX3_secondAt_11 : decode cX3_secondAt 11 = .ok (.getfield 22, 3) := by decide +kernel
theorem dX3_secondAt_14 : decode cX3_secondAt 14 = .ok (.iload_n 1, 1) := by decide +kernel
theorem dX3_secondAt_15 : decode cX3_secondAt 15 = .ok (.iaload, 1) := by decide +kernel
theorem dX3_secondAt_16 : decode cX3_secondAt 16 = .ok (.goto 4, 3) := by decide +kernel
theorem dX3_secondAt_19 : decode cX3_secondAt 19 = .ok (.iconst (-1), 1) := by decide +kernel
theorem dX3_secondAt_20 : decode cX3_secondAt 20 = .ok (.ireturn, 1) := by decide +kernel
theorem dX3_takeOrders_0 : decode cX3_takeOrders 0 = .ok (.aload_n 0, 1) := by decide +kernel
theorem dX3_takeOrders_1 : decode cX3_takeOrders 1 = .ok (.iconst 0, 1) := by decide +kernel
theorem dX3_takeOrders_2 : decode cX3_takeOrders 2 = .ok (.putfield 32, 3) := by decide +kernel
theorem dX3_takeOrders_5 : decode cX3_takeOrders 5 = .ok (.aload_n 0, 1) := by decide +kernel
theorem dX3_takeOrders_6 : decode cX3_takeOrders 6 = .ok (.iconst 0, 1) := by decide +kernel
theorem dX3_takeOrders_7 : decode cX3_takeOrders 7 = .ok (.putfield 25, 3) := by decide +kernel
theorem dX3_takeOrders_10 : decode cX3_takeOrders 10 = .ok (.aload_n 0, 1) := by decide +kernel
theorem dX3_takeOrders_11 : decode cX3_takeOrders 11 = .ok (.invokevirtual 35, 3) := by decide +kernel
theorem dX3_takeOrders_14 : decode cX3_takeOrders 14 = .ok (.istore_n 1, 1) := by decide +kernel
theorem dX3_takeOrders_15 : decode cX3_takeOrders 15 = .ok (.iconst 0, 1) := by decide +kernel
theorem dX3_takeOrders_16 : decode cX3_takeOrders 16 = .ok (.istore_n 2, 1) := by decide +kernel
theorem dX3_takeOrders_17 : decode cX3_takeOrders 17 = .ok (.iload_n 2, 1) := by decide +kernel
theorem dX3_takeOrders_18 : decode cX3_takeOrders 18 = .ok (.bipush 60, 2) := by decide +kernel
theorem dX3_takeOrders_20 : decode cX3_takeOrders 20 = .ok (.if_icmp .ge 46, 3) := by decide +kernel
theorem dX3_takeOrders_23 : decode cX3_takeOrders 23 = .ok (.iload_n 1, 1) := by decide +kernel
theorem dX3_takeOrders_24 : decode cX3_takeOrders 24 = .ok (.ifCond .eq 42, 3) := by decide +kernel
theorem dX3_takeOrders_27 : decode cX3_takeOrders 27 = .ok (.aload_n 0, 1) := by decide +kernel
theorem dX3_takeOrders_28 : decode cX3_takeOrders 28 = .ok (.getfield 25, 3) := by decide +kernel
theorem dX3_takeOrders_31 : decode cX3_takeOrders 31 = .ok (.aload_n 0, 1) := by decide +kernel
theorem dX3_takeOrders_32 : decode cX3_takeOrders 32 = .ok (.getfield 29, 3) := by decide +kernel
theorem dX3_takeOrders_35 : decode cX3_takeOrders 35 = .ok (.if_icmp .ge 31, 3) := by decide +kernel
theorem dX3_takeOrders_38 : decode cX3_takeOrders 38 = .ok (.aload_n 0, 1) := by decide +kernel
theorem dX3_takeOrders_39 : decode cX3_takeOrders 39 = .ok (.bipush 59, 2) := by decide +kernel
theorem dX3_takeOrders_41 : decode cX3_takeOrders 41 = .ok (.invokevirtual 39, 3) := by decide +kernel
theorem dX3_takeOrders_44 : decode cX3_takeOrders 44 = .ok (.ifCond .eq 14, 3) := by decide +kernel
theorem dX3_takeOrders_47 : decode cX3_takeOrders 47 = .ok (.aload_n 0, 1) := by decide +kernel
theorem dX3_takeOrders_48 : decode cX3_takeOrders 48 = .ok (.invokevirtual 35, 3) := by decide +kernel
theorem dX3_takeOrders_51 : decode cX3_takeOrders 51 = .ok (.ifCond .eq 7, 3) := by decide +kernel
theorem dX3_takeOrders_54 : decode cX3_takeOrders 54 = .ok (.iconst 1, 1) := by decide +kernel
theorem dX3_takeOrders_55 : decode cX3_takeOrders 55 = .ok (.goto 4, 3) := by decide +kernel
theorem dX3_takeOrders_58 : decode cX3_takeOrders 58 = .ok (.iconst 0, 1) := by decide +kernel
theorem dX3_takeOrders_59 : decode cX3_takeOrders 59 = .ok (.istore_n 1, 1) := by decide +kernel
theorem dX3_takeOrders_60 : decode cX3_takeOrders 60 = .ok (.iinc 2 1, 3) := by decide +kernel
theorem dX3_takeOrders_63 : decode cX3_takeOrders 63 = .ok (.goto (-46), 3) := by decide +kernel
theorem dX3_takeOrders_66 : decode cX3_takeOrders 66 = .ok (.aload_n 0, 1) := by decide +kernel
theorem dX3_takeOrders_67 : decode cX3_takeOrders 67 = .ok (.iconst 0, 1) := by decide +kernel
theorem dX3_takeOrders_68 : decode cX3_takeOrders 68 = .ok (.putfield 29, 3) := by decide +kernel
theorem dX3_takeOrders_71 : decode cX3_takeOrders 71 = .ok (.iload_n 1, 1) := by decide +kernel
theorem dX3_takeOrders_72 : decode cX3_takeOrders 72 = .ok (.ifCond .eq 7, 3) := by decide +kernel
theorem dX3_takeOrders_75 : decode cX3_takeOrders 75 = .ok (.iconst (-1), 1) := by decide +kernel
theorem dX3_takeOrders_76 : decode cX3_takeOrders 76 = .ok (.goto 7, 3) := by decide +kernel
theorem dX3_takeOrders_79 : decode cX3_takeOrders 79 = .ok (.aload_n 0, 1) := by decide +kernel
theorem dX3_takeOrders_80 : decode cX3_takeOrders 80 = .ok (.getfield 25, 3) := by decide +kernel
theorem dX3_takeOrders_83 : decode cX3_takeOrders 83 = .ok (.ireturn, 1) := by decide +kernel
theorem dX3_readOrder_0 : decode cX3_readOrder 0 = .ok (.aload_n 0, 1) := by decide +kernel
theorem dX3_readOrder_1 : decode cX3_readOrder 1 = .ok (.invokevirtual 43, 3) := by decide +kernel
theorem dX3_readOrder_4 : decode cX3_readOrder 4 = .ok (.istore_n 1, 1) := by decide +kernel
theorem dX3_readOrder_5 : decode cX3_readOrder 5 = .ok (.iload_n 1, 1) := by decide +kernel
theorem dX3_readOrder_6 : decode cX3_readOrder 6 = .ok (.iconst (-1), 1) := by decide +kernel
theorem dX3_readOrder_7 : decode cX3_readOrder 7 = .ok (.if_icmp .ne 5, 3) := by decide +kernel
theorem dX3_readOrder_10 : decode cX3_readOrder 10 = .ok (.iconst 0, 1) := by decide +kernel
theorem dX3_readOrder_11 : decode cX3_readOrder 11 = .ok (.ireturn, 1) := by decide +kernel
theorem dX3_readOrder_12 : decode cX3_readOrder 12 = .ok (.aload_n 0, 1) := by decide +kernel
theorem dX3_readOrder_13 : decode cX3_readOrder 13 = .ok (.dup, 1) := by decide +kernel
theorem dX3_readOrder_14 : decode cX3_readOrder 14 = .ok (.getfield 25, 3) := by decide +kernel
theorem dX3_readOrder_17 : decode cX3_readOrder 17 = .ok (.iconst 1, 1) := by decide +kernel
theorem dX3_readOrder_18 : decode cX3_readOrder 18 = .ok (.iadd, 1) := by decide +kernel
theorem dX3_readOrder_19 : decode cX3_readOrder 19 = .ok (.putfield 25, 3) := by decide +kernel
theorem dX3_readOrder_22 : decode cX3_readOrder 22 = .ok (.iload_n 1, 1) := by decide +kernel
theorem dX3_readOrder_23 : decode cX3_readOrder 23 = .ok (.ifCond .ne 7, 3) := by decide +kernel
theorem dX3_readOrder_26 : decode cX3_readOrder 26 = .ok (.iconst 0, 1) := by decide +kernel
theorem dX3_readOrder_27 : decode cX3_readOrder 27 = .ok (.goto 8, 3) := by decide +kernel
theorem dX3_readOrder_30 : decode cX3_readOrder 30 = .ok (.aload_n 0, 1) := by decide +kernel
theorem dX3_readOrder_31 : decode cX3_readOrder 31 = .ok (.iconst 2, 1) := by decide +kernel
theorem dX3_readOrder_32 : decode cX3_readOrder 32 = .ok (.invokevirtual 47, 3) := by decide +kernel
theorem dX3_readOrder_35 : decode cX3_readOrder 35 = .ok (.istore_n 2, 1) := by decide +kernel
theorem dX3_readOrder_36 : decode cX3_readOrder 36 = .ok (.iload_n 2, 1) := by decide +kernel
theorem dX3_readOrder_37 : decode cX3_readOrder 37 = .ok (.iconst (-1), 1) := by decide +kernel
theorem dX3_readOrder_38 : decode cX3_readOrder 38 = .ok (.if_icmp .ne 5, 3) := by decide +kernel
theorem dX3_readOrder_41 : decode cX3_readOrder 41 = .ok (.iconst 0, 1) := by decide +kernel
theorem dX3_readOrder_42 : decode cX3_readOrder 42 = .ok (.ireturn, 1) := by decide +kernel
theorem dX3_readOrder_43 : decode cX3_readOrder 43 = .ok (.iconst 0, 1) := by decide +kernel
theorem dX3_readOrder_44 : decode cX3_readOrder 44 = .ok (.istore_n 3, 1) := by decide +kernel
theorem dX3_readOrder_45 : decode cX3_readOrder 45 = .ok (.aload_n 0, 1) := by decide +kernel
theorem dX3_readOrder_46 : decode cX3_readOrder 46 = .ok (.iload_n 1, 1) := by decide +kernel
theorem dX3_readOrder_47 : decode cX3_readOrder 47 = .ok (.invokevirtual 51, 3) := by decide +kernel
theorem dX3_readOrder_50 : decode cX3_readOrder 50 = .ok (.bipush 32, 2) := by decide +kernel
theorem dX3_readOrder_52 : decode cX3_readOrder 52 = .ok (.if_icmp .eq 35, 3) := by decide +kernel
theorem dX3_readOrder_55 : decode cX3_readOrder 55 = .ok (.aload_n 0, 1) := by decide +kernel
theorem dX3_readOrder_56 : decode cX3_readOrder 56 = .ok (.aload_n 0, 1) := by decide +kernel
theorem dX3_readOrder_57 : decode cX3_readOrder 57 = .ok (.iload_n 1, 1) := by decide +kernel
theorem dX3_readOrder_58 : decode cX3_readOrder 58 = .ok (.invokevirtual 51, 3) := by decide +kernel
theorem dX3_readOrder_61 : decode cX3_readOrder 61 = .ok (.invokevirtual 39, 3) := by decide +kernel
theorem dX3_readOrder_64 : decode cX3_readOrder 64 = .ok (.ifCond .eq 21, 3) := by decide +kernel
theorem dX3_readOrder_67 : decode cX3_readOrder 67 = .ok (.aload_n 0, 1) := by decide +kernel
theorem dX3_readOrder_68 : decode cX3_readOrder 68 = .ok (.iload_n 1, 1) := by decide +kernel
theorem dX3_readOrder_69 : decode cX3_readOrder 69 = .ok (.bipush 7, 2) := by decide +kernel
theorem dX3_readOrder_71 : decode cX3_readOrder 71 = .ok (.if_icmp .ne 7, 3) := by decide +kernel
theorem dX3_readOrder_74 : decode cX3_readOrder 74 = .ok (.iconst 3, 1) := by decide +kernel
theorem dX3_readOrder_75 : decode cX3_readOrder 75 = .ok (.goto 4, 3) := by decide +kernel
theorem dX3_readOrder_78 : decode cX3_readOrder 78 = .ok (.iconst 2, 1) := by decide +kernel
theorem dX3_readOrder_79 : decode cX3_readOrder 79 = .ok (.invokevirtual 47, 3) := by decide +kernel
theorem dX3_readOrder_82 : decode cX3_readOrder 82 = .ok (.goto 4, 3) := by decide +kernel
theorem dX3_readOrder_85 : decode cX3_readOrder 85 = .ok (.iconst (-1), 1) := by decide +kernel
theorem dX3_readOrder_86 : decode cX3_readOrder 86 = .ok (.istore_n 3, 1) := by decide +kernel
theorem dX3_readOrder_87 : decode cX3_readOrder 87 = .ok (.iload_n 3, 1) := by decide +kernel
theorem dX3_readOrder_88 : decode cX3_readOrder 88 = .ok (.iconst (-1), 1) := by decide +kernel
theorem dX3_readOrder_89 : decode cX3_readOrder 89 = .ok (.if_icmp .eq 17, 3) := by decide +kernel
theorem dX3_readOrder_92 : decode cX3_readOrder 92 = .ok (.aload_n 0, 1) := by decide +kernel
theorem dX3_readOrder_93 : decode cX3_readOrder 93 = .ok (.iload_n 1, 1) := by decide +kernel
theorem dX3_readOrder_94 : decode cX3_readOrder 94 = .ok (.iload_n 2, 1) := by decide +kernel
theorem dX3_readOrder_95 : decode cX3_readOrder 95 = .ok (.iload_n 3, 1) := by decide +kernel
theorem dX3_readOrder_96 : decode cX3_readOrder 96 = .ok (.invokevirtual 55, 3) := by decide +kernel
theorem dX3_readOrder_99 : decode cX3_readOrder 99 = .ok (.ifCond .eq 7, 3) := by decide +kernel
theorem dX3_readOrder_102 : decode cX3_readOrder 102 = .ok (.iconst 1, 1) := by decide +kernel
theorem dX3_readOrder_103 : decode cX3_readOrder 103 = .ok (.goto 4, 3) := by decide +kernel
theorem dX3_readOrder_106 : decode cX3_readOrder 106 = .ok (.iconst 0, 1) := by decide +kernel
theorem dX3_readOrder_107 : decode cX3_readOrder 107 = .ok (.ireturn, 1) := by decide +kernel
theorem dX3_keep_0 : decode cX3_keep 0 = .ok (.aload_n 0, 1) := by decide +kernel
theorem dX3_keep_1 : decode cX3_keep 1 = .ok (.getfield 32, 3) := by decide +kernel
theorem dX3_keep_4 : decode cX3_keep 4 = .ok (.ifCond .lt 12, 3) := by decide +kernel
theorem dX3_keep_7 : decode cX3_keep 7 = .ok (.aload_n 0, 1) := by decide +kernel
theorem dX3_keep_8 : decode cX3_keep 8 = .ok (.getfield 32, 3) := by decide +kernel
theorem dX3_keep_11 : decode cX3_keep 11 = .ok (.bipush 30, 2) := by decide +kernel
theorem dX3_keep_13 : decode cX3_keep 13 = .ok (.if_icmp .lt 5, 3) := by decide +kernel
theorem dX3_keep_16 : decode cX3_keep 16 = .ok (.iconst 0, 1) := by decide +kernel
theorem dX3_keep_17 : decode cX3_keep 17 = .ok (.ireturn, 1) := by decide +kernel
theorem dX3_keep_18 : decode cX3_keep 18 = .ok (.aload_n 0, 1) := by decide +kernel
theorem dX3_keep_19 : decode cX3_keep 19 = .ok (.getfield 15, 3) := by decide +kernel
theorem dX3_keep_22 : decode cX3_keep 22 = .ok (.aload_n 0, 1) := by decide +kernel
theorem dX3_keep_23 : decode cX3_keep 23 = .ok (.getfield 32, 3) := by decide +kernel
theorem dX3_keep_26 : decode cX3_keep 26 = .ok (.iload_n 1, 1) := by decide +kernel
theorem dX3_keep_27 : decode cX3_keep 27 = .ok (.iastore, 1) := by decide +kernel
theorem dX3_keep_28 : decode cX3_keep 28 = .ok (.aload_n 0, 1) := by decide +kernel
theorem dX3_keep_29 : decode cX3_keep 29 = .ok (.getfield 19, 3) := by decide +kernel
theorem dX3_keep_32 : decode cX3_keep 32 = .ok (.aload_n 0, 1) := by decide +kernel
theorem dX3_keep_33 : decode cX3_keep 33 = .ok (.getfield 32, 3) := by decide +kernel
theorem dX3_keep_36 : decode cX3_keep 36 = .ok (.iload_n 2, 1) := by decide +kernel
theorem dX3_keep_37 : decode cX3_keep 37 = .ok (.iastore, 1) := by decide +kernel
theorem dX3_keep_38 : decode cX3_keep 38 = .ok (.aload_n 0, 1) := by decide +kernel
theorem dX3_keep_39 : decode cX3_keep 39 = .ok (.getfield 22, 3) := by decide +kernel
theorem dX3_keep_42 : decode cX3_keep 42 = .ok (.aload_n 0, 1) := by decide +kernel
theorem dX3_keep_43 : decode cX3_keep 43 = .ok (.getfield 32, 3) := by decide +kernel
theorem dX3_keep_46 : decode cX3_keep 46 = .ok (.iload_n 3, 1) := by decide +kernel
theorem dX3_keep_47 : decode cX3_keep 47 = .ok (.iastore, 1) := by decide +kernel
theorem dX3_keep_48 : decode cX3_keep 48 = .ok (.aload_n 0, 1) := by decide +kernel
theorem dX3_keep_49 : decode cX3_keep 49 = .ok (.dup, 1) := by decide +kernel
theorem dX3_keep_50 : decode cX3_keep 50 = .ok (.getfield 32, 3) := by decide +kernel
theorem dX3_keep_53 : decode cX3_keep 53 = .ok (.iconst 1, 1) := by decide +kernel
theorem dX3_keep_54 : decode cX3_keep 54 = .ok (.iadd, 1) := by decide +kernel
theorem dX3_keep_55 : decode cX3_keep 55 = .ok (.putfield 32, 3) := by decide +kernel
theorem dX3_keep_58 : decode cX3_keep 58 = .ok (.iconst 1, 1) := by decide +kernel
theorem dX3_keep_59 : decode cX3_keep 59 = .ok (.ireturn, 1) := by decide +kernel
theorem dX3_here_0 : decode cX3_here 0 = .ok (.aload_n 0, 1) := by decide +kernel
theorem dX3_here_1 : decode cX3_here 1 = .ok (.getfield 25, 3) := by decide +kernel
theorem dX3_here_4 : decode cX3_here 4 = .ok (.ifCond .lt 35, 3) := by decide +kernel
theorem dX3_here_7 : decode cX3_here 7 = .ok (.aload_n 0, 1) := by decide +kernel
theorem dX3_here_8 : decode cX3_here 8 = .ok (.getfield 25, 3) := by decide +kernel
theorem dX3_here_11 : decode cX3_here 11 = .ok (.aload_n 0, 1) := by decide +kernel
theorem dX3_here_12 : decode cX3_here 12 = .ok (.getfield 29, 3) := by decide +kernel
theorem dX3_here_15 : decode cX3_here 15 = .ok (.if_icmp .ge 24, 3) := by decide +kernel
theorem dX3_here_18 : decode cX3_here 18 = .ok (.aload_n 0, 1) := by decide +kernel
theorem dX3_here_19 : decode cX3_here 19 = .ok (.getfield 25, 3) := by decide +kernel
theorem dX3_here_22 : decode cX3_here 22 = .ok (.bipush 60, 2) := by decide +kernel
theorem dX3_here_24 : decode cX3_here 24 = .ok (.if_icmp .ge 15, 3) := by decide +kernel
theorem dX3_here_27 : decode cX3_here 27 = .ok (.aload_n 0, 1) := by decide +kernel
theorem dX3_here_28 : decode cX3_here 28 = .ok (.getfield 9, 3) := by decide +kernel
theorem dX3_here_31 : decode cX3_here 31 = .ok (.aload_n 0, 1) := by decide +kernel
theorem dX3_here_32 : decode cX3_here 32 = .ok (.getfield 25, 3) := by decide +kernel
theorem dX3_here_35 : decode cX3_here 35 = .ok (.caload, 1) := by decide +kernel
theorem dX3_here_36 : decode cX3_here 36 = .ok (.goto 4, 3) := by decide +kernel
theorem dX3_here_39 : decode cX3_here 39 = .ok (.iconst 0, 1) := by decide +kernel
theorem dX3_here_40 : decode cX3_here 40 = .ok (.ireturn, 1) := by decide +kernel
theorem dX3_kindHere_0 : decode cX3_kindHere 0 = .ok (.aload_n 0, 1) := by decide +kernel
theorem dX3_kindHere_1 : decode cX3_kindHere 1 = .ok (.invokevirtual 59, 3) := by decide +kernel
theorem dX3_kindHere_4 : decode cX3_kindHere 4 = .ok (.istore_n 1, 1) := by decide +kernel
theorem dX3_kindHere_5 : decode cX3_kindHere 5 = .ok (.iconst 0, 1) := by decide +kernel
theorem dX3_kindHere_6 : decode cX3_kindHere 6 = .ok (.istore_n 2, 1) := by decide +kernel
theorem dX3_kindHere_7 : decode cX3_kindHere 7 = .ok (.iload_n 2, 1) := by decide +kernel
theorem dX3_kindHere_8 : decode cX3_kindHere 8 = .ok (.getstatic 63, 3) := by decide +kernel
theorem dX3_kindHere_11 : decode cX3_kindHere 11 = .ok (.arraylength, 1) := by decide +kernel
theorem dX3_kindHere_12 : decode cX3_kindHere 12 = .ok (.if_icmp .ge 20, 3) := by decide +kernel
theorem dX3_kindHere_15 : decode cX3_kindHere 15 = .ok (.getstatic 63, 3) := by decide +kernel
theorem dX3_kindHere_18 : decode cX3_kindHere 18 = .ok (.iload_n 2, 1) := by decide +kernel
theorem dX3_kindHere_19 : decode cX3_kindHere 19 = .ok (.caload, 1) := by decide +kernel
theorem dX3_kindHere_20 : decode cX3_kindHere 20 = .ok (.iload_n 1, 1) := by decide +kernel
theorem dX3_kindHere_21 : decode cX3_kindHere 21 = .ok (.if_icmp .ne 5, 3) := by decide +kernel
theorem dX3_kindHere_24 : decode cX3_kindHere 24 = .ok (.iload_n 2, 1) := by decide +kernel
theorem dX3_kindHere_25 : decode cX3_kindHere 25 = .ok (.ireturn, 1) := by decide +kernel
theorem dX3_kindHere_26 : decode cX3_kindHere 26 = .ok (.iinc 2 1, 3) := by decide +kernel
theorem dX3_kindHere_29 : decode cX3_kindHere 29 = .ok (.goto (-22), 3) := by decide +kernel
theorem dX3_kindHere_32 : decode cX3_kindHere 32 = .ok (.iconst (-1), 1) := by decide +kernel
theorem dX3_kindHere_33 : decode cX3_kindHere 33 = .ok (.ireturn, 1) := by decide +kernel
theorem dX3_signOf_0 : decode cX3_signOf 0 = .ok (.iload_n 1, 1) := by decide +kernel
theorem dX3_signOf_1 : decode cX3_signOf 1 = .ok (.ifCond .lt 19, 3) := by decide +kernel
theorem dX3_signOf_4 : decode cX3_signOf 4 = .ok (.iload_n 1, 1) := by decide +kernel
theorem dX3_signOf_5 : decode cX3_signOf 5 = .ok (.getstatic 66, 3) := by decide +kernel
theorem dX3_signOf_8 : decode cX3_signOf 8 = .ok (.arraylength, 1) := by decide +kernel
theorem dX3_signOf_9 : decode cX3_signOf 9 = .ok (.if_icmp .ge 11, 3) := by decide +kernel
theorem dX3_signOf_12 : decode cX3_signOf 12 = .ok (.getstatic 66, 3) := by decide +kernel
theorem dX3_signOf_15 : decode cX3_signOf 15 = .ok (.iload_n 1, 1) := by decide +kernel
theorem dX3_signOf_16 : decode cX3_signOf 16 = .ok (.caload, 1) := by decide +kernel
theorem dX3_signOf_17 : decode cX3_signOf 17 = .ok (.goto 5, 3) := by decide +kernel
theorem dX3_signOf_20 : decode cX3_signOf 20 = .ok (.bipush 32, 2) := by decide +kernel
theorem dX3_signOf_22 : decode cX3_signOf 22 = .ok (.ireturn, 1) := by decide +kernel
theorem dX3_readSign_0 : decode cX3_readSign 0 = .ok (.aload_n 0, 1) := by decide +kernel
theorem dX3_readSign_1 : decode cX3_readSign 1 = .ok (.invokevirtual 59, 3) := by decide +kernel
theorem dX3_readSign_4 : decode cX3_readSign 4 = .ok (.iload_n 1, 1) := by decide +kernel
theorem dX3_readSign_5 : decode cX3_readSign 5 = .ok (.if_icmp .eq 5, 3) := by decide +kernel
theorem dX3_readSign_8 : decode cX3_readSign 8 = .ok (.iconst 0, 1) := by decide +kernel
theorem dX3_readSign_9 : decode cX3_readSign 9 = .ok (.ireturn, 1) := by decide +kernel
theorem dX3_readSign_10 : decode cX3_readSign 10 = .ok (.aload_n 0, 1) := by decide +kernel
theorem dX3_readSign_11 : decode cX3_readSign 11 = .ok (.dup, 1) := by decide +kernel
theorem dX3_readSign_12 : decode cX3_readSign 12 = .ok (.getfield 25, 3) := by decide +kernel
theorem dX3_readSign_15 : decode cX3_readSign 15 = .ok (.iconst 1, 1) := by decide +kernel
theorem dX3_readSign_16 : decode cX3_readSign 16 = .ok (.iadd, 1) := by decide +kernel
theorem dX3_readSign_17 : decode cX3_readSign 17 = .ok (.putfield 25, 3) := by decide +kernel
theorem dX3_readSign_20 : decode cX3_readSign 20 = .ok (.iconst 1, 1) := by decide +kernel
theorem dX3_readSign_21 : decode cX3_readSign 21 = .ok (.ireturn, 1) := by decide +kernel
theorem dX3_readNumber_0 : decode cX3_readNumber 0 = .ok (.iconst (-1), 1) := by decide +kernel
theorem dX3_readNumber_1 : decode cX3_readNumber 1 = .ok (.istore_n 2, 1) := by decide +kernel
theorem dX3_readNumber_2 : decode cX3_readNumber 2 = .ok (.iconst 0, 1) := by decide +kernel
theorem dX3_readNumber_3 : decode cX3_readNumber 3 = .ok (.istore_n 3, 1) := by decide +kernel
theorem dX3_readNumber_4 : decode cX3_readNumber 4 = .ok (.iload_n 3, 1) := by decide +kernel
theorem dX3_readNumber_5 : decode cX3_readNumber 5 = .ok (.iload_n 1, 1) := by decide +kernel
theorem dX3_readNumber_6 : decode cX3_readNumber 6 = .ok (.if_icmp .ge 54, 3) := by decide +kernel
theorem dX3_readNumber_9 : decode cX3_readNumber 9 = .ok (.aload_n 0, 1) := by decide +kernel
theorem dX3_readNumber_10 : decode cX3_readNumber 10 = .ok (.invokevirtual 59, 3) := by decide +kernel
theorem dX3_readNumber_13 : decode cX3_readNumber 13 = .ok (.bipush 48, 2) := by decide +kernel
theorem dX3_readNumber_15 : decode cX3_readNumber 15 = .ok (.if_icmp .lt 45, 3) := by decide +kernel
theorem dX3_readNumber_18 : decode cX3_readNumber 18 = .ok (.aload_n 0, 1) := by decide +kernel
theorem dX3_readNumber_19 : decode cX3_readNumber 19 = .ok (.invokevirtual 59, 3) := by decide +kernel
theorem dX3_readNumber_22 : decode cX3_readNumber 22 = .ok (.bipush 57, 2) := by decide +kernel
theorem dX3_readNumber_24 : decode cX3_readNumber 24 = .ok (.if_icmp .gt 36, 3) := by decide +kernel
theorem dX3_readNumber_27 : decode cX3_readNumber 27 = .ok (.iload_n 2, 1) := by decide +kernel
theorem dX3_readNumber_28 : decode cX3_readNumber 28 = .ok (.iconst 0, 1) := by decide +kernel
theorem dX3_readNumber_29 : decode cX3_readNumber 29 = .ok (.invokestatic 69, 3) := by decide +kernel
theorem dX3_readNumber_32 : decode cX3_readNumber 32 = .ok (.bipush 10, 2) := by decide +kernel
theorem dX3_readNumber_34 : decode cX3_readNumber 34 = .ok (.imul, 1) := by decide +kernel
theorem dX3_readNumber_35 : decode cX3_readNumber 35 = .ok (.aload_n 0, 1) := by decide +kernel
theorem dX3_readNumber_36 : decode cX3_readNumber 36 = .ok (.invokevirtual 59, 3) := by decide +kernel
theorem dX3_readNumber_39 : decode cX3_readNumber 39 = .ok (.bipush 48, 2) := by decide +kernel
theorem dX3_readNumber_41 : decode cX3_readNumber 41 = .ok (.isub, 1) := by decide +kernel
theorem dX3_readNumber_42 : decode cX3_readNumber 42 = .ok (.iadd, 1) := by decide +kernel
theorem dX3_readNumber_43 : decode cX3_readNumber 43 = .ok (.istore_n 2, 1) := by decide +kernel
theorem dX3_readNumber_44 : decode cX3_readNumber 44 = .ok (.aload_n 0, 1) := by decide +kernel
theorem dX3_readNumber_45 : decode cX3_readNumber 45 = .ok (.dup, 1) := by decide +kernel
theorem dX3_readNumber_46 : decode cX3_readNumber 46 = .ok (.getfield 25, 3) := by decide +kernel
theorem dX3_readNumber_49 : decode cX3_readNumber 49 = .ok (.iconst 1, 1) := by decide +kernel
theorem dX3_readNumber_50 : decode cX3_readNumber 50 = .ok (.iadd, 1) := by decide +kernel
theorem dX3_readNumber_51 : decode cX3_readNumber 51 = .ok (.putfield 25, 3) := by decide +kernel
theorem dX3_readNumber_54 : decode cX3_readNumber 54 = .ok (.iinc 3 1, 3) := by decide +kernel
theorem dX3_readNumber_57 : decode cX3_readNumber 57 = .ok (.goto (-53), 3) := by decide +kernel
theorem dX3_readNumber_60 : decode cX3_readNumber 60 = .ok (.iload_n 2, 1) := by decide +kernel
theorem dX3_readNumber_61 : decode cX3_readNumber 61 = .ok (.ireturn, 1) := by decide +kernel
