theorem dX4_init_0 : decode cX4_init 0 = .ok (.aload_n 0, 1) := by decide +kernel
theorem dX4_init_1 : decode cX4_init 1 = .ok (.invokespecial 1, 3) := by decide +kernel
theorem dX4_init_4 : decode cX4_init 4 = .ok (.aload_n 0, 1) := by decide +kernel
theorem dX4_init_5 : decode cX4_init 5 = .ok (.new 7, 3) := by decide +kernel
theorem dX4_init_8 : decode cX4_init 8 = .ok (.dup, 1) := by decide +kernel
theorem dX4_init_9 : decode cX4_init 9 = .ok (.invokespecial 9, 3) := by decide +kernel
theorem dX4_init_12 : decode cX4_init 12 = .ok (.putfield 10, 3) := by decide +kernel
theorem dX4_init_15 : decode cX4_init 15 = .ok (.aload_n 0, 1) := by decide +kernel
theorem dX4_init_16 : decode cX4_init 16 = .ok (.new 7, 3) := by decide +kernel
theorem dX4_init_19 : decode cX4_init 19 = .ok (.dup, 1) := by decide +kernel
theorem dX4_init_20 : decode cX4_init 20 = .ok (.invokespecial 9, 3) := by decide +kernel
theorem dX4_init_23 : decode cX4_init 23 = .ok (.putfield 16, 3) := by decide +kernel
theorem dX4_init_26 : decode cX4_init 26 = .ok (.aload_n 0, 1) := by decide +kernel
theorem dX4_init_27 : decode cX4_init 27 = .ok (.new 7, 3) := by decide +kernel
theorem dX4_init_30 : decode cX4_init 30 = .ok (.dup, 1) := by decide +kernel
theorem dX4_init_31 : decode cX4_init 31 = .ok (.invokespecial 9, 3) := by decide +kernel
theorem dX4_init_34 : decode cX4_init 34 = .ok (.putfield 19, 3) := by decide +kernel
theorem dX4_init_37 : decode cX4_init 37 = .ok (.aload_n 0, 1) := by decide +kernel
theorem dX4_init_38 : decode cX4_init 38 = .ok (.iconst 0, 1) := by decide +kernel
theorem dX4_init_39 : decode cX4_init 39 = .ok (.putfield 22, 3) := by decide +kernel
theorem dX4_init_42 : decode cX4_init 42 = .ok (.aload_n 0, 1) := by decide +kernel
theorem dX4_init_43 : decode cX4_init 43 = .ok (.bipush 8, 2) := by decide +kernel
theorem dX4_init_45 : decode cX4_init 45 = .ok (.anewarray 7, 3) := by decide +kernel
theorem dX4_init_48 : decode cX4_init 48 = .ok (.putfield 26, 3) := by decide +kernel
theorem dX4_init_51 : decode cX4_init 51 = .ok (.aload_n 0, 1) := by decide +kernel
theorem dX4_init_52 : decode cX4_init 52 = .ok (.iconst 0, 1) := by decide +kernel
theorem dX4_init_53 : decode cX4_init 53 = .ok (.putfield 30, 3) := by decide +kernel
theorem dX4_init_56 : decode cX4_init 56 = .ok (.aload_n 0, 1) := by decide +kernel
theorem dX4_init_57 : decode cX4_init 57 = .ok (.new 34, 3) := by decide +kernel
theorem dX4_init_60 : decode cX4_init 60 = .ok (.dup, 1) := by decide +kernel
theorem dX4_init_61 : decode cX4_init 61 = .ok (.invokespecial 36, 3) := by decide +kernel
theorem dX4_init_64 : decode cX4_init 64 = .ok (.putfield 37, 3) := by decide +kernel
theorem dX4_init_67 : decode cX4_init 67 = .ok (.aload_n 0, 1) := by decide +kernel
theorem dX4_init_68 : decode cX4_init 68 = .ok (.new 41, 3) := by decide +kernel
theorem dX4_init_71 : decode cX4_init 71 = .ok (.dup, 1) := by decide +kernel
theorem dX4_init_72 : decode cX4_init 72 = .ok (.invokespecial 43, 3) := by decide +kernel
theorem dX4_init_75 : decode cX4_init 75 = .ok (.putfield 44, 3) := by decide +kernel
theorem dX4_init_78 : decode cX4_init 78 = .ok (.aload_n 0, 1) := by decide +kernel
theorem dX4_init_79 : decode cX4_init 79 = .ok (.new 48, 3) := by decide +kernel
theorem dX4_init_82 : decode cX4_init 82 = .ok (.dup, 1) := by decide +kernel
theorem dX4_init_83 : decode cX4_init 83 = .ok (.invokespecial 50, 3) := by decide +kernel
theorem dX4_init_86 : decode cX4_init 86 = .ok (.putfield 51, 3) := by decide +kernel
theorem dX4_init_89 : decode cX4_init 89 = .ok (.aload_n 0, 1) := by decide +kernel
theorem dX4_init_90 : decode cX4_init 90 = .ok (.new 55, 3) := by decide +kernel
theorem dX4_init_93 : decode cX4_init 93 = .ok (.dup, 1) := by decide +kernel
theorem dX4_init_94 : decode cX4_init 94 = .ok (.invokespecial 57, 3) := by decide +kernel
theorem dX4_init_97 : decode cX4_init 97 = .ok (.putfield 58, 3) := by decide +kernel
theorem dX4_init_100 : decode cX4_init 100 = .ok (.aload_n 0, 1) := by decide +kernel
theorem dX4_init_101 : decode cX4_init 101 = .ok (.iconst (-1), 1) := by decide +kernel
theorem dX4_init_102 : decode cX4_init 102 = .ok (.putfield 62, 3) := by decide +kernel
theorem dX4_init_105 : decode cX4_init 105 = .ok (.aload_n 0, 1) := by decide +kernel
theorem dX4_init_106 : decode cX4_init 106 = .ok (.iconst 0, 1) := by decide +kernel
theorem dX4_init_107 : decode cX4_init 107 = .ok (.putfield 65, 3) := by decide +kernel
theorem dX4_init_110 : decode cX4_init 110 = .ok (.aload_n 0, 1) := by decide +kernel
theorem dX4_init_111 : decode cX4_init 111 = .ok (.iconst 0, 1) := by decide +kernel
theorem dX4_init_112 : decode cX4_init 112 = .ok (.putfield 68, 3) := by decide +kernel
theorem dX4_init_115 : decode cX4_init 115 = .ok (.iconst 0, 1) := by decide +kernel
theorem dX4_init_116 : decode cX4_init 116 = .ok (.istore_n 1, 1) := by decide +kernel
theorem dX4_init_117 : decode cX4_init 117 = .ok (.iload_n 1, 1) := by decide +kernel
theorem dX4_init_118 : decode cX4_init 118 = .ok (.bipush 8, 2) := by decide +kernel
theorem dX4_init_120 : decode cX4_init 120 = .ok (.if_icmp .ge 22, 3) := by decide +kernel
theorem dX4_init_123 : decode cX4_init 123 = .ok (.aload_n 0, 1) := by decide +kernel
theorem dX4_init_124 : decode cX4_init 124 = .ok (.getfield 26, 3) := by decide +kernel
theorem dX4_init_127 : decode cX4_init 127 = .ok (.iload_n 1, 1) := by decide +kernel
theorem dX4_init_128 : decode cX4_init 128 = .ok (.new 7, 3) := by decide +kernel
theorem dX4_init_131 : decode cX4_init 131 = .ok (.dup, 1) := by decide +kernel
theorem dX4_init_132 : decode cX4_init 132 = .ok (.invokespecial 9, 3) := by decide +kernel
theorem dX4_init_135 : decode cX4_init 135 = .ok (.aastore, 1) := by decide +kernel
theorem dX4_init_136 : decode cX4_init 136 = .ok (.iinc 1 1, 3) := by decide +kernel
theorem dX4_init_139 : decode cX4_init 139 = .ok (.goto (-22), 3) := by decide +kernel
theorem dX4_init_142 : decode cX4_init 142 = .ok (.return_, 1) := by decide +kernel
theorem dX4_found_0 : decode cX4_found 0 = .ok (.aload_n 0, 1) := by decide +kernel
theorem dX4_found_1 : decode cX4_found 1 = .ok (.invokevirtual 71, 3) := by decide +kernel
theorem dX4_found_4 : decode cX4_found 4 = .ok (.aload_n 0, 1) := by decide +kernel
theorem dX4_found_5 : decode cX4_found 5 = .ok (.aload_n 0, 1) := by decide +kernel
theorem dX4_found_6 : decode cX4_found 6 = .ok (.iconst 0, 1) := by decide +kernel
theorem dX4_found_7 : decode cX4_found 7 = .ok (.iconst (-1), 1) := by decide +kernel
theorem dX4_found_8 : decode cX4_found 8 = .ok (.iconst (-1), 1) := by decide +kernel
theorem dX4_found_9 : decode cX4_found 9 = .ok (.invokevirtual 74, 3) := by decide +kernel
theorem dX4_found_12 : decode cX4_found 12 = .ok (.invokevirtual 78, 3) := by decide +kernel
theorem dX4_found_15 : decode cX4_found 15 = .ok (.ireturn, 1) := by decide +kernel
theorem dX4_born_0 : decode cX4_born 0 = .ok (.aload_n 0, 1) := by decide +kernel
theorem dX4_born_1 : decode cX4_born 1 = .ok (.invokevirtual 71, 3) := by decide +kernel
theorem dX4_born_4 : decode cX4_born 4 = .ok (.aload_n 0, 1) := by decide +kernel
theorem dX4_born_5 : decode cX4_born 5 = .ok (.aload_n 0, 1) := by decide +kernel
theorem dX4_born_6 : decode cX4_born 6 = .ok (.iconst 1, 1) := by decide +kernel
theorem dX4_born_7 : decode cX4_born 7 = .ok (.iload_n 1, 1) := by decide +kernel
theorem dX4_born_8 : decode cX4_born 8 = .ok (.iconst (-1), 1) := by decide +kernel
theorem dX4_born_9 : decode cX4_born 9 = .ok (.invokevirtual 74, 3) := by decide +kernel
theorem dX4_born_12 : decode cX4_born 12 = .ok (.invokevirtual 78, 3) := by decide +kernel
theorem dX4_born_15 : decode cX4_born 15 = .ok (.ireturn, 1) := by decide +kernel
theorem dX4_graft_0 : decode cX4_graft 0 = .ok (.aload_n 0, 1) := by decide +kernel
theorem dX4_graft_1 : decode cX4_graft 1 = .ok (.invokevirtual 71, 3) := by decide +kernel
theorem dX4_graft_4 : decode cX4_graft 4 = .ok (.aload_n 0, 1) := by decide +kernel
theorem dX4_graft_5 : decode cX4_graft 5 = .ok (.aload_n 0, 1) := by decide +kernel
theorem dX4_graft_6 : decode cX4_graft 6 = .ok (.iconst 2, 1) := by decide +kernel
theorem dX4_graft_7 : decode cX4_graft 7 = .ok (.iload_n 1, 1) := by decide +kernel
theorem dX4_graft_8 : decode cX4_graft 8 = .ok (.iload_n 2, 1) := by decide +kernel
theorem dX4_graft_9 : decode cX4_graft 9 = .ok (.invokevirtual 74, 3) := by decide +kernel
theorem dX4_graft_12 : decode cX4_graft 12 = .ok (.invokevirtual 78, 3) := by decide +kernel
theorem dX4_graft_15 : decode cX4_graft 15 = .ok (.ireturn, 1) := by decide +kernel
theorem dX4_cut_0 : decode cX4_cut 0 = .ok (.aload_n 0, 1) := by decide +kernel
theorem dX4_cut_1 : decode cX4_cut 1 = .ok (.invokevirtual 71, 3) := by decide +kernel
theorem dX4_cut_4 : decode cX4_cut 4 = .ok (.aload_n 0, 1) := by decide +kernel
theorem dX4_cut_5 : decode cX4_cut 5 = .ok (.aload_n 0, 1) := by decide +kernel
theorem dX4_cut_6 : decode cX4_cut 6 = .ok (.iconst 3, 1) := by decide +kernel
theorem dX4_cut_7 : decode cX4_cut 7 = .ok (.iload_n 1, 1) := by decide +kernel
theorem dX4_cut_8 : decode cX4_cut 8 = .ok (.iconst (-1), 1) := by decide +kernel
theorem dX4_cut_9 : decode cX4_cut 9 = .ok (.invokevirtual 74, 3) := by decide +kernel
theorem dX4_cut_12 : decode cX4_cut 12 = .ok (.invokevirtual 78, 3) := by decide +kernel
theorem dX4_cut_15 : decode cX4_cut 15 = .ok (.ireturn, 1) := by decide +kernel
theorem dX4_personOf_0 : decode cX4_personOf 0 = .ok (.aload_n 0, 1) := by decide +kernel
theorem dX4_personOf_1 : decode cX4_personOf 1 = .ok (.iload_n 1, 1) := by decide +kernel
theorem dX4_personOf_2 : decode cX4_personOf 2 = .ok (.invokevirtual 82, 3) := by decide +kernel
theorem dX4_personOf_5 : decode cX4_personOf 5 = .ok (.iload_n 2, 1) := by decide +kernel
theorem dX4_personOf_6 : decode cX4_personOf 6 = .ok (.tableswitch 152 0 9 #[54, 63, 72, 81, 90, 99, 108, 125, 134, 143], 54) := by decide +kernel
theorem dX4_personOf_60 : decode cX4_personOf 60 = .ok (.aload_n 0, 1) := by decide +kernel
theorem dX4_personOf_61 : decode cX4_personOf 61 = .ok (.getfield 10, 3) := by decide +kernel
theorem dX4_personOf_64 : decode cX4_personOf 64 = .ok (.iload_n 1, 1) := by decide +kernel
theorem dX4_personOf_65 : decode cX4_personOf 65 = .ok (.invokevirtual 86, 3) := by decide +kernel
theorem dX4_personOf_68 : decode cX4_personOf 68 = .ok (.ireturn, 1) := by decide +kernel
theorem dX4_personOf_69 : decode cX4_personOf 69 = .ok (.aload_n 0, 1) := by decide +kernel
theorem dX4_personOf_70 : decode cX4_personOf 70 = .ok (.getfield 10, 3) := by decide +kernel
theorem dX4_personOf_73 : decode cX4_personOf 73 = .ok (.iload_n 1, 1) := by decide +kernel
theorem dX4_personOf_74 : decode cX4_personOf 74 = .ok (.invokevirtual 89, 3) := by decide +kernel
theorem dX4_personOf_77 : decode cX4_personOf 77 = .ok (.ireturn, 1) := by decide +kernel
theorem dX4_personOf_78 : decode cX4_personOf 78 = .ok (.aload_n 0, 1) := by decide +kernel
theorem dX4_personOf_79 : decode cX4_personOf 79 = .ok (.getfield 10, 3) := by decide +kernel
theorem dX4_personOf_82 : decode cX4_personOf 82 = .ok (.iload_n 1, 1) := by decide +kernel
theorem dX4_personOf_83 : decode cX4_personOf 83 = .ok (.invokevirtual 92, 3) := by decide +kernel
theorem dX4_personOf_86 : decode cX4_personOf 86 = .ok (.ireturn, 1) := by decide +kernel
theorem dX4_personOf_87 : decode cX4_personOf 87 = .ok (.aload_n 0, 1) := by decide +kernel
theorem dX4_personOf_88 : decode cX4_personOf 88 = .ok (.getfield 10, 3) := by decide +kernel
theorem dX4_personOf_91 : decode cX4_personOf 91 = .ok (.iload_n 1, 1) := by decide +kernel
theorem dX4_personOf_92 : decode cX4_personOf 92 = .ok (.invokevirtual 95, 3) := by decide +kernel
theorem dX4_personOf_95 : decode cX4_personOf 95 = .ok (.ireturn, 1) := by decide +kernel
theorem dX4_personOf_96 : decode cX4_personOf 96 = .ok (.aload_n 0, 1) := by decide +kernel
theorem dX4_personOf_97 : decode cX4_personOf 97 = .ok (.getfield 10, 3) := by decide +kernel
theorem dX4_personOf_100 : decode cX4_personOf 100 = .ok (.iload_n 1, 1) := by decide +kernel
theorem dX4_personOf_101 : decode cX4_personOf 101 = .ok (.invokevirtual 98, 3) := by decide +kernel
theorem dX4_personOf_104 : decode cX4_personOf 104 = .ok (.ireturn, 1) := by decide +kernel
theorem dX4_personOf_105 : decode cX4_personOf 105 = .ok (.aload_n 0, 1) := by decide +kernel
theorem dX4_personOf_106 : decode cX4_personOf 106 = .ok (.getfield 10, 3) := by decide +kernel
theorem dX4_personOf_109 : decode cX4_personOf 109 = .ok (.iload_n 1, 1) := by decide +kernel
theorem dX4_personOf_110 : decode cX4_personOf 110 = .ok (.invokevirtual 101, 3) := by decide +kernel
theorem dX4_personOf_113 : decode cX4_personOf 113 = .ok (.ireturn, 1) := by decide +kernel
theorem dX4_personOf_114 : decode cX4_personOf 114 = .ok (.aload_n 0, 1) := by decide +kernel
theorem dX4_personOf_115 : decode cX4_personOf 115 = .ok (.getfield 10, 3) := by decide +kernel
theorem dX4_personOf_118 : decode cX4_personOf 118 = .ok (.iload_n 1, 1) := by decide +kernel
theorem dX4_personOf_119 : decode cX4_personOf 119 = .ok (.invokevirtual 104, 3) := by decide +kernel
theorem dX4_personOf_122 : decode cX4_personOf 122 = .ok (.ifCond .eq 7, 3) := by decide +kernel
theorem dX4_personOf_125 : decode cX4_personOf 125 = .ok (.iconst 1, 1) := by decide +kernel
theorem dX4_personOf_126 : decode cX4_personOf 126 = .ok (.goto 4, 3) := by decide +kernel
theorem dX4_personOf_129 : decode cX4_personOf 129 = .ok (.iconst 0, 1) := by decide +kernel
theorem dX4_personOf_130 : decode cX4_personOf 130 = .ok (.ireturn, 1) := by decide +kernel
theorem dX4_personOf_131 : decode cX4_personOf 131 = .ok (.aload_n 0, 1) := by decide +kernel
theorem dX4_personOf_132 : decode cX4_personOf 132 = .ok (.getfield 10, 3) := by decide +kernel
theorem dX4_personOf_135 : decode cX4_personOf 135 = .ok (.iload_n 1, 1) := by decide +kernel
theorem dX4_personOf_136 : decode cX4_personOf 136 = .ok (.invokevirtual 108, 3) := by decide +kernel
theorem dX4_personOf_139 : decode cX4_personOf 139 = .ok (.ireturn, 1) := by decide +kernel
theorem dX4_personOf_140 : decode cX4_personOf 140 = .ok (.aload_n 0, 1) := by decide +kernel
theorem dX4_personOf_141 : decode cX4_personOf 141 = .ok (.getfield 44, 3) := by decide +kernel
theorem dX4_personOf_144 : decode cX4_personOf 144 = .ok (.iload_n 1, 1) := by decide +kernel
theorem dX4_personOf_145 : decode cX4_personOf 145 = .ok (.invokevirtual 111, 3) := by decide +kernel
theorem dX4_personOf_148 : decode cX4_personOf 148 = .ok (.ireturn, 1) := by decide +kernel
theorem dX4_personOf_149 : decode cX4_personOf 149 = .ok (.aload_n 0, 1) := by decide +kernel
theorem dX4_personOf_150 : decode cX4_personOf 150 = .ok (.getfield 10, 3) := by decide +kernel
theorem dX4_personOf_153 : decode cX4_personOf 153 = .ok (.iload_n 1, 1) := by decide +kernel
theorem dX4_personOf_154 : decode cX4_personOf 154 = .ok (.invokevirtual 114, 3) := by decide +kernel
theorem dX4_personOf_157 : decode cX4_personOf 157 = .ok (.ireturn, 1) := by decide +kernel
theorem dX4_personOf_158 : decode cX4_personOf 158 = .ok (.new 117, 3) := by decide +kernel
theorem dX4_personOf_161 : decode cX4_personOf 161 = .ok (.dup, 1) := by decide +kernel
theorem dX4_personOf_162 : decode cX4_personOf 162 = .ok (.ldc 119, 2) := by decide +kernel
theorem dX4_personOf_164 : decode cX4_personOf 164 = .ok (.invokespecial 121, 3) := by decide +kernel
theorem dX4_personOf_167 : decode cX4_personOf 167 = .ok (.athrow, 1) := by decide +kernel
theorem dX4_elder_0 : decode cX4_elder 0 = .ok (.aload_n 0, 1) := by decide +kernel
theorem dX4_elder_1 : decode cX4_elder 1 = .ok (.iload_n 1, 1) := by decide +kernel
theorem dX4_elder_2 : decode cX4_elder 2 = .ok (.invokevirtual 82, 3) := by decide +kernel
theorem dX4_elder_5 : decode cX4_elder 5 = .ok (.aload_n 0, 1) := by decide +kernel
theorem dX4_elder_6 : decode cX4_elder 6 = .ok (.iload_n 1, 1) := by decide +kernel
theorem dX4_elder_7 : decode cX4_elder 7 = .ok (.iload_n 2, 1) := by decide +kernel
theorem dX4_elder_8 : decode cX4_elder 8 = .ok (.invokevirtual 124, 3) := by decide +kernel
theorem dX4_elder_11 : decode cX4_elder 11 = .ok (.iload_n 3, 1) := by decide +kernel
theorem dX4_elder_12 : decode cX4_elder 12 = .ok (.ifCond .eq 15, 3) := by decide +kernel
theorem dX4_elder_15 : decode cX4_elder 15 = .ok (.aload_n 0, 1) := by decide +kernel
theorem dX4_elder_16 : decode cX4_elder 16 = .ok (.getfield 10, 3) := by decide +kernel
theorem dX4_elder_19 : decode cX4_elder 19 = .ok (.iload_n 1, 1) := by decide +kernel
theorem dX4_elder_20 : decode cX4_elder 20 = .ok (.iload_n 2, 1) := by decide +kernel
theorem dX4_elder_21 : decode cX4_elder 21 = .ok (.invokevirtual 128, 3) := by decide +kernel
theorem dX4_elder_24 : decode cX4_elder 24 = .ok (.goto 12, 3) := by decide +kernel
theorem dX4_elder_27 : decode cX4_elder 27 = .ok (.aload_n 0, 1) := by decide +kernel
theorem dX4_elder_28 : decode cX4_elder 28 = .ok (.getfield 37, 3) := by decide +kernel
theorem dX4_elder_31 : decode cX4_elder 31 = .ok (.iload_n 1, 1) := by decide +kernel
theorem dX4_elder_32 : decode cX4_elder 32 = .ok (.iload_n 2, 1) := by decide +kernel
theorem dX4_elder_33 : decode cX4_elder 33 = .ok (.invokevirtual 132, 3) := by decide +kernel
theorem dX4_elder_36 : decode cX4_elder 36 = .ok (.ireturn, 1) := by decide +kernel
theorem dX4_common_0 : decode cX4_common 0 = .ok (.aload_n 0, 1) := by decide +kernel
theorem dX4_common_1 : decode cX4_common 1 = .ok (.iload_n 1, 1) := by decide +kernel
theorem dX4_common_2 : decode cX4_common 2 = .ok (.invokevirtual 82, 3) := by decide +kernel
theorem dX4_common_5 : decode cX4_common 5 = .ok (.aload_n 0, 1) := by decide +kernel
theorem dX4_common_6 : decode cX4_common 6 = .ok (.iload_n 2, 1) := by decide +kernel
theorem dX4_common_7 : decode cX4_common 7 = .ok (.invokevirtual 82, 3) := by decide +kernel
theorem dX4_common_10 : decode cX4_common 10 = .ok (.aload_n 0, 1) := by decide +kernel
theorem dX4_common_11 : decode cX4_common 11 = .ok (.iload_n 1, 1) := by decide +kernel
theorem dX4_common_12 : decode cX4_common 12 = .ok (.iload_n 2, 1) := by decide +kernel
theorem dX4_common_13 : decode cX4_common 13 = .ok (.invokevirtual 135, 3) := by decide +kernel
theorem dX4_common_16 : decode cX4_common 16 = .ok (.iload_n 3, 1) := by decide +kernel
theorem dX4_common_17 : decode cX4_common 17 = .ok (.ifCond .eq 15, 3) := by decide +kernel
theorem dX4_common_20 : decode cX4_common 20 = .ok (.aload_n 0, 1) := by decide +kernel
theorem dX4_common_21 : decode cX4_common 21 = .ok (.getfield 10, 3) := by decide +kernel
theorem dX4_common_24 : decode cX4_common 24 = .ok (.iload_n 1, 1) := by decide +kernel
theorem dX4_common_25 : decode cX4_common 25 = .ok (.iload_n 2, 1) := by decide +kernel
theorem dX4_common_26 : decode cX4_common 26 = .ok (.invokevirtual 138, 3) := by decide +kernel
theorem dX4_common_29 : decode cX4_common 29 = .ok (.goto 12, 3) := by decide +kernel
theorem dX4_common_32 : decode cX4_common 32 = .ok (.aload_n 0, 1) := by decide +kernel
theorem dX4_common_33 : decode cX4_common 33 = .ok (.getfield 37, 3) := by decide +kernel
theorem dX4_common_36 : decode cX4_common 36 = .ok (.iload_n 1, 1) := by decide +kernel
theorem dX4_common_37 : decode cX4_common 37 = .ok (.iload_n 2, 1) := by decide +kernel
theorem dX4_common_38 : decode cX4_common 38 = .ok (.invokevirtual 141, 3) := by decide +kernel
theorem dX4_common_41 : decode cX4_common 41 = .ok (.ireturn, 1) := by decide +kernel
theorem dX4_degree_0 : decode cX4_degree 0 = .ok (.aload_n 0, 1) := by decide +kernel
theorem dX4_degree_1 : decode cX4_degree 1 = .ok (.iload_n 1, 1) := by decide +kernel
theorem dX4_degree_2 : decode cX4_degree 2 = .ok (.invokevirtual 82, 3) := by decide +kernel
theorem dX4_degree_5 : decode cX4_degree 5 = .ok (.aload_n 0, 1) := by decide +kernel
theorem dX4_degree_6 : decode cX4_degree 6 = .ok (.iload_n 2, 1) := by decide +kernel
theorem dX4_degree_7 : decode cX4_degree 7 = .ok (.invokevirtual 82, 3) := by decide +kernel
theorem dX4_degree_10 : decode cX4_degree 10 = .ok (.aload_n 0, 1) := by decide +kernel
theorem dX4_degree_11 : decode cX4_degree 11 = .ok (.iload_n 1, 1) := by decide +kernel
theorem dX4_degree_12 : decode cX4_degree 12 = .ok (.iload_n 2, 1) := by decide +kernel
theorem dX4_degree_13 : decode cX4_degree 13 = .ok (.invokevirtual 135, 3) := by decide +kernel
theorem dX4_degree_16 : decode cX4_degree 16 = .ok (.aload_n 0, 1) := by decide +kernel
theorem dX4_degree_17 : decode cX4_degree 17 = .ok (.iload_n 1, 1) := by decide +kernel
theorem dX4_degree_18 : decode cX4_degree 18 = .ok (.iload_n 2, 1) := by decide +kernel
theorem dX4_degree_19 : decode cX4_degree 19 = .ok (.invokevirtual 144, 3) := by decide +kernel
theorem dX4_degree_22 : decode cX4_degree 22 = .ok (.ireturn, 1) := by decide +kernel
theorem dX4_leaps_0 : decode cX4_leaps 0 = .ok (.aload_n 0, 1) := by decide +kernel
theorem dX4_leaps_1 : decode cX4_leaps 1 = .ok (.iload_n 1, 1) := by decide +kernel
theorem dX4_leaps_2 : decode cX4_leaps 2 = .ok (.invokevirtual 82, 3) := by decide +kernel
theorem dX4_leaps_5 : decode cX4_leaps 5 = .ok (.aload_n 0, 1) := by decide +kernel
theorem dX4_leaps_6 : decode cX4_leaps 6 = .ok (.iload_n 1, 1) := by decide +kernel
theorem dX4_leaps_7 : decode cX4_leaps 7 = .ok (.iload_n 2, 1) := by decide +kernel
theorem dX4_leaps_8 : decode cX4_leaps 8 = .ok (.invokevirtual 124, 3) := by decide +kernel
theorem dX4_leaps_11 : decode cX4_leaps 11 = .ok (.aload_n 0, 1) := by decide +kernel
theorem dX4_leaps_12 : decode cX4_leaps 12 = .ok (.getfield 37, 3) := by decide +kernel
theorem dX4_leaps_15 : decode cX4_leaps 15 = .ok (.iload_n 2, 1) := by decide +kernel
theorem dX4_leaps_16 : decode cX4_leaps 16 = .ok (.invokevirtual 147, 3) := by decide +kernel
theorem dX4_leaps_19 : decode cX4_leaps 19 = .ok (.ireturn, 1) := by decide +kernel
theorem dX4_farthest_0 : decode cX4_farthest 0 = .ok (.aload_n 0, 1) := by decide +kernel
theorem dX4_farthest_1 : decode cX4_farthest 1 = .ok (.iload_n 1, 1) := by decide +kernel
theorem dX4_farthest_2 : decode cX4_farthest 2 = .ok (.invokevirtual 82, 3) := by decide +kernel
theorem dX4_farthest_5 : decode cX4_farthest 5 = .ok (.iload_n 1, 1) := by decide +kernel
theorem dX4_farthest_6 : decode cX4_farthest 6 = .ok (.istore_n 2, 1) := by decide +kernel
theorem dX4_farthest_7 : decode cX4_farthest 7 = .ok (.iconst 0, 1) := by decide +kernel
theorem dX4_farthest_8 : decode cX4_farthest 8 = .ok (.istore_n 3, 1) := by decide +kernel
theorem dX4_farthest_9 : decode cX4_farthest 9 = .ok (.iconst 0, 1) := by decide +kernel
theorem dX4_farthest_10 : decode cX4_farthest 10 = .ok (.istore 4, 2) := by decide +kernel
theorem dX4_farthest_12 : decode cX4_farthest 12 = .ok (.iload 4, 2) := by decide +kernel
theorem dX4_farthest_14 : decode cX4_farthest 14 = .ok (.aload_n 0, 1) := by decide +kernel
theorem dX4_farthest_15 : decode cX4_farthest 15 = .ok (.getfield 10, 3) := by decide +kernel
theorem dX4_farthest_18 : decode cX4_farthest 18 = .ok (.getfield 150, 3) := by decide +kernel
theorem dX4_farthest_21 : decode cX4_farthest 21 = .ok (.if_icmp .ge 41, 3) := by decide +kernel
theorem dX4_farthest_24 : decode cX4_farthest 24 = .ok (.aload_n 0, 1) := by decide +kernel
theorem dX4_farthest_25 : decode cX4_farthest 25 = .ok (.iload_n 1, 1) := by decide +kernel
theorem dX4_farthest_26 : decode cX4_farthest 26 = .ok (.iload 4, 2) := by decide +kernel
theorem dX4_farthest_28 : decode cX4_farthest 28 = .ok (.invokevirtual 153, 3) := by decide +kernel
theorem dX4_farthest_31 : decode cX4_farthest 31 = .ok (.ifCond .eq 25, 3) := by decide +kernel
theorem dX4_farthest_34 : decode cX4_farthest 34 = .ok (.aload_n 0, 1) := by decide +kernel
theorem dX4_farthest_35 : decode cX4_farthest 35 = .ok (.iload_n 1, 1) := by decide +kernel
theorem dX4_farthest_36 : decode cX4_farthest 36 = .ok (.iload 4, 2) := by decide +kernel
theorem dX4_farthest_38 : decode cX4_farthest 38 = .ok (.invokevirtual 144, 3) := by decide +kernel
theorem dX4_farthest_41 : decode cX4_farthest 41 = .ok (.iload_n 3, 1) := by decide +kernel
theorem dX4_farthest_42 : decode cX4_farthest 42 = .ok (.if_icmp .le 14, 3) := by decide +kernel
theorem dX4_farthest_45 : decode cX4_farthest 45 = .ok (.aload_n 0, 1) := by decide +kernel
theorem dX4_farthest_46 : decode cX4_farthest 46 = .ok (.iload_n 1, 1) := by decide +kernel
theorem dX4_farthest_47 : decode cX4_farthest 47 = .ok (.iload 4, 2) := by decide +kernel
theorem dX4_farthest_49 : decode cX4_farthest 49 = .ok (.invokevirtual 144, 3) := by decide +kernel
theorem dX4_farthest_52 : decode cX4_farthest 52 = .ok (.istore_n 3, 1) := by decide +kernel
theorem dX4_farthest_53 : decode cX4_farthest 53 = .ok (.iload 4, 2) := by decide +kernel
theorem dX4_farthest_55 : decode cX4_farthest 55 = .ok (.istore_n 2, 1) := by decide +kernel
theorem dX4_farthest_56 : decode cX4_farthest 56 = .ok (.iinc 4 1, 3) := by decide +kernel
theorem dX4_farthest_59 : decode cX4_farthest 59 = .ok (.goto (-47), 3) := by decide +kernel
theorem dX4_farthest_62 : decode cX4_farthest 62 = .ok (.iload_n 2, 1) := by decide +kernel
theorem dX4_farthest_63 : decode cX4_farthest 63 = .ok (.ireturn, 1) := by decide +kernel
theorem dX4_descendant_0 : decode cX4_descendant 0 = .ok (.aload_n 0, 1) := by decide +kernel
theorem dX4_descendant_1 : decode cX4_descendant 1 = .ok (.iload_n 1, 1) := by decide +kernel
theorem dX4_descendant_2 : decode cX4_descendant 2 = .ok (.invokevirtual 82, 3) := by decide +kernel
theorem dX4_descendant_5 : decode cX4_descendant 5 = .ok (.iload_n 2, 1) := by decide +kernel
theorem dX4_descendant_6 : decode cX4_descendant 6 = .ok (.ifCond .lt 15, 3) := by decide +kernel
theorem dX4_descendant_9 : decode cX4_descendant 9 = .ok (.iload_n 2, 1) := by decide +kernel
theorem dX4_descendant_10 : decode cX4_descendant 10 = .ok (.aload_n 0, 1) := by decide +kernel
theorem dX4_descendant_11 : decode cX4_descendant 11 = .ok (.getfield 10, 3) := by decide +kernel
theorem dX4_descendant_14 : decode cX4_descendant 14 = .ok (.iload_n 1, 1) := by decide +kernel
theorem dX4_descendant_15 : decode cX4_descendant 15 = .ok (.invokevirtual 95, 3) := by decide +kernel
theorem dX4_descendant_18 : decode cX4_descendant 18 = .ok (.if_icmp .lt 13, 3) := by decide +kernel
theorem dX4_descendant_21 : decode cX4_descendant 21 = .ok (.new 157, 3) := by decide +kernel
theorem dX4_descendant_24 : decode cX4_descendant 24 = .ok (.dup, 1) := by decide +kernel
theorem dX4_descendant_25 : decode cX4_descendant 25 = .ok (.ldc 159, 2) := by decide +kernel
theorem dX4_descendant_27 : decode cX4_descendant 27 = .ok (.invokespecial 161, 3) := by decide +kernel
theorem dX4_descendant_30 : decode cX4_descendant 30 = .ok (.athrow, 1) := by decide +kernel
theorem dX4_descendant_31 : decode cX4_descendant 31 = .ok (.iload_n 1, 1) := by decide +kernel
theorem dX4_descendant_32 : decode cX4_descendant 32 = .ok (.istore_n 3, 1) := by decide +kernel
theorem dX4_descendant_33 : decode cX4_descendant 33 = .ok (.iconst 0, 1) := by decide +kernel
theorem dX4_descendant_34 : decode cX4_descendant 34 = .ok (.istore 4, 2) := by decide +kernel
theorem dX4_descendant_36 : decode cX4_descendant 36 = .ok (.iload 4, 2) := by decide +kernel
theorem dX4_descendant_38 : decode cX4_descendant 38 = .ok (.iload_n 2, 1) := by decide +kernel
theorem dX4_descendant_39 : decode cX4_descendant 39 = .ok (.if_icmp .gt 26, 3) := by decide +kernel
theorem dX4_descendant_42 : decode cX4_descendant 42 = .ok (.iload 4, 2) := by decide +kernel
theorem dX4_descendant_44 : decode cX4_descendant 44 = .ok (.bipush 24, 2) := by decide +kernel
theorem dX4_descendant_46 : decode cX4_descendant 46 = .ok (.if_icmp .ge 19, 3) := by decide +kernel
theorem dX4_descendant_49 : decode cX4_descendant 49 = .ok (.aload_n 0, 1) := by decide +kernel
theorem dX4_descendant_50 : decode cX4_descendant 50 = .ok (.getfield 10, 3) := by decide +kernel
theorem dX4_descendant_53 : decode cX4_descendant 53 = .ok (.iload_n 1, 1) := by decide +kernel
theorem dX4_descendant_54 : decode cX4_descendant 54 = .ok (.iload_n 3, 1) := by decide +kernel
theorem dX4_descendant_55 : decode cX4_descendant 55 = .ok (.invokevirtual 162, 3) := by decide +kernel
theorem dX4_descendant_58 : decode cX4_descendant 58 = .ok (.istore_n 3, 1) := by decide +kernel
theorem dX4_descendant_59 : decode cX4_descendant 59 = .ok (.iinc 4 1, 3) := by decide +kernel
theorem dX4_descendant_62 : decode cX4_descendant 62 = .ok (.goto (-26), 3) := by decide +kernel
theorem dX4_descendant_65 : decode cX4_descendant 65 = .ok (.iload_n 3, 1) := by decide +kernel
theorem dX4_descendant_66 : decode cX4_descendant 66 = .ok (.ireturn, 1) := by decide +kernel
theorem dX4_marry_0 : decode cX4_marry 0 = .ok (.aload_n 0, 1) := by decide +kernel
theorem dX4_marry_1 : decode cX4_marry 1 = .ok (.invokevirtual 71, 3) := by decide +kernel
theorem dX4_marry_4 : decode cX4_marry 4 = .ok (.aload_n 0, 1) := by decide +kernel
theorem dX4_marry_5 : decode cX4_marry 5 = .ok (.aload_n 0, 1) := by decide +kernel
theorem dX4_marry_6 : decode cX4_marry 6 = .ok (.iconst 4, 1) := by decide +kernel
theorem dX4_marry_7 : decode cX4_marry 7 = .ok (.iload_n 1, 1) := by decide +kernel
theorem dX4_marry_8 : decode cX4_marry 8 = .ok (.iload_n 2, 1) := by decide +kernel
theorem dX4_marry_9 : decode cX4_marry 9 = .ok (.invokevirtual 74, 3) := by decide +kernel
theorem dX4_marry_12 : decode cX4_marry 12 = .ok (.invokevirtual 78, 3) := by decide +kernel
theorem dX4_marry_15 : decode cX4_marry 15 = .ok (.ireturn, 1) := by decide +kernel
theorem dX4_part_0 : decode cX4_part 0 = .ok (.aload_n 0, 1) := by decide +kernel
theorem dX4_part_1 : decode cX4_part 1 = .ok (.invokevirtual 71, 3) := by decide +kernel
theorem dX4_part_4 : decode cX4_part 4 = .ok (.aload_n 0, 1) := by decide +kernel
theorem dX4_part_5 : decode cX4_part 5 = .ok (.aload_n 0, 1) := by decide +kernel
theorem dX4_part_6 : decode cX4_part 6 = .ok (.iconst 5, 1) := by decide +kernel
theorem dX4_part_7 : decode cX4_part 7 = .ok (.iload_n 1, 1) := by decide +kernel
theorem dX4_part_8 : decode cX4_part 8 = .ok (.iconst (-1), 1) := by decide +kernel
theorem dX4_part_9 : decode cX4_part 9 = .ok (.invokevirtual 74, 3) := by decide +kernel
theorem dX4_part_12 : decode cX4_part 12 = .ok (.invokevirtual 78, 3) := by decide +kernel
theorem dX4_part_15 : decode cX4_part 15 = .ok (.ireturn, 1) := by decide +kernel
theorem dX4_quarrel_0 : decode cX4_quarrel 0 = .ok (.aload_n 0, 1) := by decide +kernel
theorem dX4_quarrel_1 : decode cX4_quarrel 1 = .ok (.invokevirtual 71, 3) := by decide +kernel
theorem dX4_quarrel_4 : decode cX4_quarrel 4 = .ok (.aload_n 0, 1) := by decide +kernel
theorem dX4_quarrel_5 : decode cX4_quarrel 5 = .ok (.aload_n 0, 1) := by decide +kernel
theorem dX4_quarrel_6 : decode cX4_quarrel 6 = .ok (.bipush 6, 2) := by decide +kernel
theorem dX4_quarrel_8 : decode cX4_quarrel 8 = .ok (.iload_n 1, 1) := by decide +kernel
theorem dX4_quarrel_9 : decode cX4_quarrel 9 = .ok (.iload_n 2, 1) := by decide +kernel
theorem dX4_quarrel_10 : decode cX4_quarrel 10 = .ok (.invokevirtual 74, 3) := by decide +kernel
theorem dX4_quarrel_13 : decode cX4_quarrel 13 = .ok (.invokevirtual 78, 3) := by decide +kernel
theorem dX4_quarrel_16 : decode cX4_quarrel 16 = .ok (.ireturn, 1) := by decide +kernel
theorem dX4_quarrelAt_0 : decode cX4_quarrelAt 0 = .ok (.iload_n 1, 1) := by decide +kernel
theorem dX4_quarrelAt_1 : decode cX4_quarrelAt 1 = .ok (.ifCond .lt 14, 3) := by decide +kernel
theorem dX4_quarrelAt_4 : decode cX4_quarrelAt 4 = .ok (.iload_n 1, 1) := by decide +kernel
theorem dX4_quarrelAt_5 : decode cX4_quarrelAt 5 = .ok (.aload_n 0, 1) := by decide +kernel
theorem dX4_quarrelAt_6 : decode cX4_quarrelAt 6 = .ok (.getfield 10, 3) := by decide +kernel
theorem dX4_quarrelAt_9 : decode cX4_quarrelAt 9 = .ok (.getfield 165, 3) := by decide +kernel
theorem dX4_quarrelAt_12 : decode cX4_quarrelAt 12 = .ok (.if_icmp .lt 13, 3) := by decide +kernel
theorem dX4_quarrelAt_15 : decode cX4_quarrelAt 15 = .ok (.new 157, 3) := by decide +kernel
theorem dX4_quarrelAt_18 : decode cX4_quarrelAt 18 = .ok (.dup, 1) := by decide +kernel
theorem dX4_quarrelAt_19 : decode cX4_quarrelAt 19 = .ok (.ldc 159, 2) := by decide +kernel
theorem dX4_quarrelAt_21 : decode cX4_quarrelAt 21 = .ok (.invokespecial 161, 3) := by decide +kernel
theorem dX4_quarrelAt_24 : decode cX4_quarrelAt 24 = .ok (.athrow, 1) := by decide +kernel
theorem dX4_quarrelAt_25 : decode cX4_quarrelAt 25 = .ok (.iload_n 2, 1) := by decide +kernel
theorem dX4_quarrelAt_26 : decode cX4_quarrelAt 26 = .ok (.ifCond .eq 14, 3) := by decide +kernel
theorem dX4_quarrelAt_29 : decode cX4_quarrelAt 29 = .ok (.aload_n 0, 1) := by decide +kernel
theorem dX4_quarrelAt_30 : decode cX4_quarrelAt 30 = .ok (.getfield 10, 3) := by decide +kernel
theorem dX4_quarrelAt_33 : decode cX4_quarrelAt 33 = .ok (.iload_n 1, 1) := by decide +kernel
theorem dX4_quarrelAt_34 : decode cX4_quarrelAt 34 = .ok (.invokevirtual 168, 3) := by decide +kernel
theorem dX4_quarrelAt_37 : decode cX4_quarrelAt 37 = .ok (.goto 11, 3) := by decide +kernel
theorem dX4_quarrelAt_40 : decode cX4_quarrelAt 40 = .ok (.aload_n 0, 1) := by decide +kernel
theorem dX4_quarrelAt_41 : decode cX4_quarrelAt 41 = .ok (.getfield 10, 3) := by decide +kernel
theorem dX4_quarrelAt_44 : decode cX4_quarrelAt 44 = .ok (.iload_n 1, 1) := by decide +kernel
theorem dX4_quarrelAt_45 : decode cX4_quarrelAt 45 = .ok (.invokevirtual 171, 3) := by decide +kernel
theorem dX4_quarrelAt_48 : decode cX4_quarrelAt 48 = .ok (.ireturn, 1) := by decide +kernel
theorem dX4_houses_0 : decode cX4_houses 0 = .ok (.aload_n 0, 1) := by decide +kernel
theorem dX4_houses_1 : decode cX4_houses 1 = .ok (.getfield 44, 3) := by decide +kernel
theorem dX4_houses_4 : decode cX4_houses 4 = .ok (.aload_n 0, 1) := by decide +kernel
theorem dX4_houses_5 : decode cX4_houses 5 = .ok (.getfield 10, 3) := by decide +kernel
theorem dX4_houses_8 : decode cX4_houses 8 = .ok (.invokevirtual 185, 3) := by decide +kernel
theorem dX4_houses_11 : decode cX4_houses 11 = .ok (.ireturn, 1) := by decide +kernel
theorem dX4_housesAgain_0 : decode cX4_housesAgain 0 = .ok (.aload_n 0, 1) := by decide +kernel
theorem dX4_housesAgain_1 : decode cX4_housesAgain 1 = .ok (.getfield 44, 3) := by decide +kernel
theorem dX4_housesAgain_4 : decode cX4_housesAgain 4 = .ok (.aload_n 0, 1) := by decide +kernel
theorem dX4_housesAgain_5 : decode cX4_housesAgain 5 = .ok (.getfield 10, 3) := by decide +kernel
theorem dX4_housesAgain_8 : decode cX4_housesAgain 8 = .ok (.invokevirtual 189, 3) := by decide +kernel
theorem dX4_housesAgain_11 : decode cX4_housesAgain 11 = .ok (.ireturn, 1) := by decide +kernel
theorem dX4_give_0 : decode cX4_give 0 = .ok (.aload_n 0, 1) := by decide +kernel
theorem dX4_give_1 : decode cX4_give 1 = .ok (.invokevirtual 71, 3) := by decide +kernel
theorem dX4_give_4 : decode cX4_give 4 = .ok (.aload_n 0, 1) := by decide +kernel
theorem dX4_give_5 : decode cX4_give 5 = .ok (.aload_n 0, 1) := by decide +kernel
theorem dX4_give_6 : decode cX4_give 6 = .ok (.bipush 7, 2) := by decide +kernel
theorem dX4_give_8 : decode cX4_give 8 = .ok (.iload_n 1, 1) := by decide +kernel
theorem dX4_give_9 : decode cX4_give 9 = .ok (.iload_n 2, 1) := by decide +kernel
theorem dX4_give_10 : decode cX4_give 10 = .ok (.invokevirtual 74, 3) := by decide +kernel
theorem dX4_give_13 : decode cX4_give 13 = .ok (.invokevirtual 78, 3) := by decide +kernel
theorem dX4_give_16 : decode cX4_give 16 = .ok (.ireturn, 1) := by decide +kernel
theorem dX4_die_0 : decode cX4_die 0 = .ok (.aload_n 0, 1) := by decide +kernel
theorem dX4_die_1 : decode cX4_die 1 = .ok (.invokevirtual 71, 3) := by decide +kernel
theorem dX4_die_4 : decode cX4_die 4 = .ok (.aload_n 0, 1) := by decide +kernel
theorem dX4_die_5 : decode cX4_die 5 = .ok (.aload_n 0, 1) := by decide +kernel
theorem dX4_die_6 : decode cX4_die 6 = .ok (.bipush 8, 2) := by decide +kernel
theorem dX4_die_8 : decode cX4_die 8 = .ok (.iload_n 1, 1) := by decide +kernel
theorem dX4_die_9 : decode cX4_die 9 = .ok (.iconst (-1), 1) := by decide +kernel
theorem dX4_die_10 : decode cX4_die 10 = .ok (.invokevirtual 74, 3) := by decide +kernel
theorem dX4_die_13 : decode cX4_die 13 = .ok (.invokevirtual 78, 3) := by decide +kernel
theorem dX4_die_16 : decode cX4_die 16 = .ok (.ireturn, 1) := by decide +kernel
theorem dX4_heir_0 : decode cX4_heir 0 = .ok (.aload_n 0, 1) := by decide +kernel
theorem dX4_heir_1 : decode cX4_heir 1 = .ok (.iload_n 1, 1) := by decide +kernel
theorem dX4_heir_2 : decode cX4_heir 2 = .ok (.invokevirtual 82, 3) := by decide +kernel
theorem dX4_heir_5 : decode cX4_heir 5 = .ok (.aload_n 0, 1) := by decide +kernel
theorem dX4_heir_6 : decode cX4_heir 6 = .ok (.getfield 10, 3) := by decide +kernel
theorem dX4_heir_9 : decode cX4_heir 9 = .ok (.iload_n 1, 1) := by decide +kernel
theorem dX4_heir_10 : decode cX4_heir 10 = .ok (.invokevirtual 104, 3) := by decide +kernel
theorem dX4_heir_13 : decode cX4_heir 13 = .ok (.ifCond .ne 13, 3) := by decide +kernel
theorem dX4_heir_16 : decode cX4_heir 16 = .ok (.new 177, 3) := by decide +kernel
theorem dX4_heir_19 : decode cX4_heir 19 = .ok (.dup, 1) := by decide +kernel
theorem dX4_heir_20 : decode cX4_heir 20 = .ok (.ldc 192, 2) := by decide +kernel
theorem dX4_heir_22 : decode cX4_heir 22 = .ok (.invokespecial 181, 3) := by decide +kernel
theorem dX4_heir_25 : decode cX4_heir 25 = .ok (.athrow, 1) := by decide +kernel
theorem dX4_heir_26 : decode cX4_heir 26 = .ok (.aload_n 0, 1) := by decide +kernel
theorem dX4_heir_27 : decode cX4_heir 27 = .ok (.getfield 10, 3) := by decide +kernel
theorem dX4_heir_30 : decode cX4_heir 30 = .ok (.iload_n 1, 1) := by decide +kernel
theorem dX4_heir_31 : decode cX4_heir 31 = .ok (.invokevirtual 194, 3) := by decide +kernel
theorem dX4_heir_34 : decode cX4_heir 34 = .ok (.ireturn, 1) := by decide +kernel
theorem dX4_ranked_0 : decode cX4_ranked 0 = .ok (.iconst 0, 1) := by decide +kernel
theorem dX4_ranked_1 : decode cX4_ranked 1 = .ok (.istore_n 2, 1) := by decide +kernel
theorem dX4_ranked_2 : decode cX4_ranked 2 = .ok (.iload_n 2, 1) := by decide +kernel
theorem dX4_ranked_3 : decode cX4_ranked 3 = .ok (.aload_n 0, 1) := by decide +kernel
theorem dX4_ranked_4 : decode cX4_ranked 4 = .ok (.getfield 10, 3) := by decide +kernel
theorem dX4_ranked_7 : decode cX4_ranked 7 = .ok (.getfield 150, 3) := by decide +kernel
theorem dX4_ranked_10 : decode cX4_ranked 10 = .ok (.if_icmp .ge 23, 3) := by decide +kernel
theorem dX4_ranked_13 : decode cX4_ranked 13 = .ok (.aload_n 0, 1) := by decide +kernel
theorem dX4_ranked_14 : decode cX4_ranked 14 = .ok (.getfield 10, 3) := by decide +kernel
theorem dX4_ranked_17 : decode cX4_ranked 17 = .ok (.iload_n 2, 1) := by decide +kernel
theorem dX4_ranked_18 : decode cX4_ranked 18 = .ok (.invokevirtual 197, 3) := by decide +kernel
theorem dX4_ranked_21 : decode cX4_ranked 21 = .ok (.iload_n 1, 1) := by decide +kernel
theorem dX4_ranked_22 : decode cX4_ranked 22 = .ok (.if_icmp .ne 5, 3) := by decide +kernel
theorem dX4_ranked_25 : decode cX4_ranked 25 = .ok (.iload_n 2, 1) := by decide +kernel
theorem dX4_ranked_26 : decode cX4_ranked 26 = .ok (.ireturn, 1) := by decide +kernel
theorem dX4_ranked_27 : decode cX4_ranked 27 = .ok (.iinc 2 1, 3) := by decide +kernel
theorem dX4_ranked_30 : decode cX4_ranked 30 = .ok (.goto (-28), 3) := by decide +kernel
theorem dX4_ranked_33 : decode cX4_ranked 33 = .ok (.new 157, 3) := by decide +kernel
theorem dX4_ranked_36 : decode cX4_ranked 36 = .ok (.dup, 1) := by decide +kernel
theorem dX4_ranked_37 : decode cX4_ranked 37 = .ok (.ldc 159, 2) := by decide +kernel
theorem dX4_ranked_39 : decode cX4_ranked 39 = .ok (.invokespecial 161, 3) := by decide +kernel
theorem dX4_ranked_42 : decode cX4_ranked 42 = .ok (.athrow, 1) := by decide +kernel
theorem dX4_line_0 : decode cX4_line 0 = .ok (.aload_n 0, 1) := by decide +kernel
theorem dX4_line_1 : decode cX4_line 1 = .ok (.iload_n 1, 1) := by decide +kernel
theorem dX4_line_2 : decode cX4_line 2 = .ok (.invokevirtual 82, 3) := by decide +kernel
theorem dX4_line_5 : decode cX4_line 5 = .ok (.aload_n 0, 1) := by decide +kernel
theorem dX4_line_6 : decode cX4_line 6 = .ok (.getfield 58, 3) := by decide +kernel
theorem dX4_line_9 : decode cX4_line 9 = .ok (.iconst 0, 1) := by decide +kernel
theorem dX4_line_10 : decode cX4_line 10 = .ok (.invokevirtual 200, 3) := by decide +kernel
theorem dX4_line_13 : decode cX4_line 13 = .ok (.aload_n 0, 1) := by decide +kernel
theorem dX4_line_14 : decode cX4_line 14 = .ok (.bipush 35, 2) := by decide +kernel
theorem dX4_line_16 : decode cX4_line 16 = .ok (.iload_n 1, 1) := by decide +kernel
theorem dX4_line_17 : decode cX4_line 17 = .ok (.invokevirtual 203, 3) := by decide +kernel
theorem dX4_line_20 : decode cX4_line 20 = .ok (.aload_n 0, 1) := by decide +kernel
theorem dX4_line_21 : decode cX4_line 21 = .ok (.getfield 10, 3) := by decide +kernel
theorem dX4_line_24 : decode cX4_line 24 = .ok (.iload_n 1, 1) := by decide +kernel
theorem dX4_line_25 : decode cX4_line 25 = .ok (.invokevirtual 86, 3) := by decide +kernel
theorem dX4_line_28 : decode cX4_line 28 = .ok (.iconst (-1), 1) := by decide +kernel
theorem dX4_line_29 : decode cX4_line 29 = .ok (.if_icmp .eq 17, 3) := by decide +kernel
theorem dX4_line_32 : decode cX4_line 32 = .ok (.aload_n 0, 1) := by decide +kernel
theorem dX4_line_33 : decode cX4_line 33 = .ok (.bipush 60, 2) := by decide +kernel
theorem dX4_line_35 : decode cX4_line 35 = .ok (.aload_n 0, 1) := by decide +kernel
theorem dX4_line_36 : decode cX4_line 36 = .ok (.getfield 10, 3) := by decide +kernel
theorem dX4_line_39 : decode cX4_line 39 = .ok (.iload_n 1, 1) := by decide +kernel
theorem dX4_line_40 : decode cX4_line 40 = .ok (.invokevirtual 86, 3) := by decide +kernel
theorem dX4_line_43 : decode cX4_line 43 = .ok (.invokevirtual 203, 3) := by decide +kernel
theorem dX4_line_46 : decode cX4_line 46 = .ok (.aload_n 0, 1) := by decide +kernel
theorem dX4_line_47 : decode cX4_line 47 = .ok (.getfield 10, 3) := by decide +kernel
theorem dX4_line_50 : decode cX4_line 50 = .ok (.iload_n 1, 1) := by decide +kernel
theorem dX4_line_51 : decode cX4_line 51 = .ok (.invokevirtual 98, 3) := by decide +kernel
theorem dX4_line_54 : decode cX4_line 54 = .ok (.iconst (-1), 1) := by decide +kernel
theorem dX4_line_55 : decode cX4_line 55 = .ok (.if_icmp .eq 17, 3) := by decide +kernel
theorem dX4_line_58 : decode cX4_line 58 = .ok (.aload_n 0, 1) := by decide +kernel
theorem dX4_line_59 : decode cX4_line 59 = .ok (.bipush 43, 2) := by decide +kernel
theorem dX4_line_61 : decode cX4_line 61 = .ok (.aload_n 0, 1) := by decide +kernel
theorem dX4_line_62 : decode cX4_line 62 = .ok (.getfield 10, 3) := by decide +kernel
theorem dX4_line_65 : decode cX4_line 65 = .ok (.iload_n 1, 1) := by decide +kernel
theorem dX4_line_66 : decode cX4_line 66 = .ok (.invokevirtual 98, 3) := by decide +kernel
theorem dX4_line_69 : decode cX4_line 69 = .ok (.invokevirtual 203, 3) := by decide +kernel
theorem dX4_line_72 : decode cX4_line 72 = .ok (.aload_n 0, 1) := by decide +kernel
theorem dX4_line_73 : decode cX4_line 73 = .ok (.getfield 10, 3) := by decide +kernel
theorem dX4_line_76 : decode cX4_line 76 = .ok (.iload_n 1, 1) := by decide +kernel
theorem dX4_line_77 : decode cX4_line 77 = .ok (.invokevirtual 101, 3) := by decide +kernel
theorem dX4_line_80 : decode cX4_line 80 = .ok (.ifCond .eq 17, 3) := by decide +kernel
theorem dX4_line_83 : decode cX4_line 83 = .ok (.aload_n 0, 1) := by decide +kernel
theorem dX4_line_84 : decode cX4_line 84 = .ok (.bipush 61, 2) := by decide +kernel
theorem dX4_line_86 : decode cX4_line 86 = .ok (.aload_n 0, 1) := by decide +kernel
theorem dX4_line_87 : decode cX4_line 87 = .ok (.getfield 10, 3) := by decide +kernel
theorem dX4_line_90 : decode cX4_line 90 = .ok (.iload_n 1, 1) := by decide +kernel
theorem dX4_line_91 : decode cX4_line 91 = .ok (.invokevirtual 101, 3) := by decide +kernel
theorem dX4_line_94 : decode cX4_line 94 = .ok (.invokevirtual 203, 3) := by decide +kernel
theorem dX4_line_97 : decode cX4_line 97 = .ok (.aload_n 0, 1) := by decide +kernel
theorem dX4_line_98 : decode cX4_line 98 = .ok (.getfield 10, 3) := by decide +kernel
theorem dX4_line_101 : decode cX4_line 101 = .ok (.iload_n 1, 1) := by decide +kernel
theorem dX4_line_102 : decode cX4_line 102 = .ok (.invokevirtual 104, 3) := by decide +kernel
theorem dX4_line_105 : decode cX4_line 105 = .ok (.ifCond .ne 13, 3) := by decide +kernel
theorem dX4_line_108 : decode cX4_line 108 = .ok (.aload_n 0, 1) := by decide +kernel
theorem dX4_line_109 : decode cX4_line 109 = .ok (.getfield 58, 3) := by decide +kernel
theorem dX4_line_112 : decode cX4_line 112 = .ok (.bipush 120, 2) := by decide +kernel
theorem dX4_line_114 : decode cX4_line 114 = .ok (.invokevirtual 207, 3) := by decide +kernel
theorem dX4_line_117 : decode cX4_line 117 = .ok (.pop, 1) := by decide +kernel
theorem dX4_line_118 : decode cX4_line 118 = .ok (.aload_n 0, 1) := by decide +kernel
theorem dX4_line_119 : decode cX4_line 119 = .ok (.getfield 58, 3) := by decide +kernel
theorem dX4_line_122 : decode cX4_line 122 = .ok (.invokevirtual 211, 3) := by decide +kernel
theorem dX4_line_125 : decode cX4_line 125 = .ok (.ireturn, 1) := by decide +kernel
theorem dX4_character_0 : decode cX4_character 0 = .ok (.iload_n 1, 1) := by decide +kernel
theorem dX4_character_1 : decode cX4_character 1 = .ok (.ifCond .lt 14, 3) := by decide +kernel
theorem dX4_character_4 : decode cX4_character 4 = .ok (.iload_n 1, 1) := by decide +kernel
theorem dX4_character_5 : decode cX4_character 5 = .ok (.aload_n 0, 1) := by decide +kernel
theorem dX4_character_6 : decode cX4_character 6 = .ok (.getfield 58, 3) := by decide +kernel
theorem dX4_character_9 : decode cX4_character 9 = .ok (.invokevirtual 211, 3) := by decide +kernel
theorem dX4_character_12 : decode cX4_character 12 = .ok (.if_icmp .lt 13, 3) := by decide +kernel
theorem dX4_character_15 : decode cX4_character 15 = .ok (.new 215, 3) := by decide +kernel
theorem dX4_character_18 : decode cX4_character 18 = .ok (.dup, 1) := by decide +kernel
theorem dX4_character_19 : decode cX4_character 19 = .ok (.ldc 217, 2) := by decide +kernel
theorem dX4_character_21 : decode cX4_character 21 = .ok (.invokespecial 219, 3) := by decide +kernel
theorem dX4_character_24 : decode cX4_character 24 = .ok (.athrow, 1) := by decide +kernel
theorem dX4_character_25 : decode cX4_character 25 = .ok (.aload_n 0, 1) := by decide +kernel
theorem dX4_character_26 : decode cX4_character 26 = .ok (.getfield 58, 3) := by decide +kernel
theorem dX4_character_29 : decode cX4_character 29 = .ok (.iload_n 1, 1) := by decide +kernel
theorem dX4_character_30 : decode cX4_character 30 = .ok (.invokevirtual 220, 3) := by decide +kernel
theorem dX4_character_33 : decode cX4_character 33 = .ok (.ireturn, 1) := by decide +kernel
theorem dX4_append_0 : decode cX4_append 0 = .ok (.aload_n 0, 1) := by decide +kernel
theorem dX4_append_1 : decode cX4_append 1 = .ok (.getfield 51, 3) := by decide +kernel
theorem dX4_append_4 : decode cX4_append 4 = .ok (.getfield 224, 3) := by decide +kernel
theorem dX4_append_7 : decode cX4_append 7 = .ok (.bipush 60, 2) := by decide +kernel
theorem dX4_append_9 : decode cX4_append 9 = .ok (.if_icmp .lt 13, 3) := by decide +kernel
theorem dX4_append_12 : decode cX4_append 12 = .ok (.new 177, 3) := by decide +kernel
theorem dX4_append_15 : decode cX4_append 15 = .ok (.dup, 1) := by decide +kernel
theorem dX4_append_16 : decode cX4_append 16 = .ok (.ldc 226, 2) := by decide +kernel
theorem dX4_append_18 : decode cX4_append 18 = .ok (.invokespecial 181, 3) := by decide +kernel
theorem dX4_append_21 : decode cX4_append 21 = .ok (.athrow, 1) := by decide +kernel
theorem dX4_append_22 : decode cX4_append 22 = .ok (.aload_n 0, 1) := by decide +kernel
theorem dX4_append_23 : decode cX4_append 23 = .ok (.getfield 51, 3) := by decide +kernel
theorem dX4_append_26 : decode cX4_append 26 = .ok (.iload_n 1, 1) := by decide +kernel
theorem dX4_append_27 : decode cX4_append 27 = .ok (.invokevirtual 228, 3) := by decide +kernel
theorem dX4_append_30 : decode cX4_append 30 = .ok (.aload_n 0, 1) := by decide +kernel
theorem dX4_append_31 : decode cX4_append 31 = .ok (.getfield 51, 3) := by decide +kernel
theorem dX4_append_34 : decode cX4_append 34 = .ok (.getfield 224, 3) := by decide +kernel
theorem dX4_append_37 : decode cX4_append 37 = .ok (.ireturn, 1) := by decide +kernel
theorem dX4_run_0 : decode cX4_run 0 = .ok (.aload_n 0, 1) := by decide +kernel
theorem dX4_run_1 : decode cX4_run 1 = .ok (.aload_n 0, 1) := by decide +kernel
theorem dX4_run_2 : decode cX4_run 2 = .ok (.getfield 51, 3) := by decide +kernel
theorem dX4_run_5 : decode cX4_run 5 = .ok (.invokevirtual 232, 3) := by decide +kernel
theorem dX4_run_8 : decode cX4_run 8 = .ok (.putfield 62, 3) := by decide +kernel
theorem dX4_run_11 : decode cX4_run 11 = .ok (.aload_n 0, 1) := by decide +kernel
theorem dX4_run_12 : decode cX4_run 12 = .ok (.getfield 62, 3) := by decide +kernel
theorem dX4_run_15 : decode cX4_run 15 = .ok (.iconst (-1), 1) := by decide +kernel
theorem dX4_run_16 : decode cX4_run 16 = .ok (.if_icmp .eq 13, 3) := by decide +kernel
theorem dX4_run_19 : decode cX4_run 19 = .ok (.new 117, 3) := by decide +kernel
theorem dX4_run_22 : decode cX4_run 22 = .ok (.dup, 1) := by decide +kernel
theorem dX4_run_23 : decode cX4_run 23 = .ok (.ldc 235, 2) := by decide +kernel
theorem dX4_run_25 : decode cX4_run 25 = .ok (.invokespecial 121, 3) := by decide +kernel
theorem dX4_run_28 : decode cX4_run 28 = .ok (.athrow, 1) := by decide +kernel
theorem dX4_run_29 : decode cX4_run 29 = .ok (.aload_n 0, 1) := by decide +kernel
theorem dX4_run_30 : decode cX4_run 30 = .ok (.invokevirtual 71, 3) := by decide +kernel
theorem dX4_run_33 : decode cX4_run 33 = .ok (.iconst 0, 1) := by decide +kernel
theorem dX4_run_34 : decode cX4_run 34 = .ok (.istore_n 1, 1) := by decide +kernel
theorem dX4_run_35 : decode cX4_run 35 = .ok (.iconst 0, 1) := by decide +kernel
theorem dX4_run_36 : decode cX4_run 36 = .ok (.istore_n 2, 1) := by decide +kernel
theorem dX4_run_37 : decode cX4_run 37 = .ok (.iload_n 2, 1) := by decide +kernel
theorem dX4_run_38 : decode cX4_run 38 = .ok (.aload_n 0, 1) := by decide +kernel
theorem dX4_run_39 : decode cX4_run 39 = .ok (.getfield 51, 3) := by decide +kernel
theorem dX4_run_42 : decode cX4_run 42 = .ok (.getfield 237, 3) := by decide +kernel
theorem dX4_run_45 : decode cX4_run 45 = .ok (.if_icmp .ge 43, 3) := by decide +kernel
theorem dX4_run_48 : decode cX4_run 48 = .ok (.iload_n 1, 1) := by decide +kernel
theorem dX4_run_49 : decode cX4_run 49 = .ok (.iconst (-1), 1) := by decide +kernel
theorem dX4_run_50 : decode cX4_run 50 = .ok (.if_icmp .lt 38, 3) := by decide +kernel
theorem dX4_run_53 : decode cX4_run 53 = .ok (.aload_n 0, 1) := by decide +kernel
theorem dX4_run_54 : decode cX4_run 54 = .ok (.aload_n 0, 1) := by decide +kernel
theorem dX4_run_55 : decode cX4_run 55 = .ok (.getfield 51, 3) := by decide +kernel
theorem dX4_run_58 : decode cX4_run 58 = .ok (.iload_n 2, 1) := by decide +kernel
theorem dX4_run_59 : decode cX4_run 59 = .ok (.invokevirtual 240, 3) := by decide +kernel
theorem dX4_run_62 : decode cX4_run 62 = .ok (.aload_n 0, 1) := by decide +kernel
theorem dX4_run_63 : decode cX4_run 63 = .ok (.getfield 51, 3) := by decide +kernel
theorem dX4_run_66 : decode cX4_run 66 = .ok (.iload_n 2, 1) := by decide +kernel
theorem dX4_run_67 : decode cX4_run 67 = .ok (.invokevirtual 243, 3) := by decide +kernel
theorem dX4_run_70 : decode cX4_run 70 = .ok (.aload_n 0, 1) := by decide +kernel
theorem dX4_run_71 : decode cX4_run 71 = .ok (.getfield 51, 3) := by decide +kernel
theorem dX4_run_74 : decode cX4_run 74 = .ok (.iload_n 2, 1) := by decide +kernel
theorem dX4_run_75 : decode cX4_run 75 = .ok (.invokevirtual 246, 3) := by decide +kernel
theorem dX4_run_78 : decode cX4_run 78 = .ok (.invokevirtual 74, 3) := by decide +kernel
theorem dX4_run_81 : decode cX4_run 81 = .ok (.istore_n 1, 1) := by decide +kernel
theorem dX4_run_82 : decode cX4_run 82 = .ok (.iinc 2 1, 3) := by decide +kernel
theorem dX4_run_85 : decode cX4_run 85 = .ok (.goto (-48), 3) := by decide +kernel
theorem dX4_run_88 : decode cX4_run 88 = .ok (.iload_n 1, 1) := by decide +kernel
theorem dX4_run_89 : decode cX4_run 89 = .ok (.iconst (-1), 1) := by decide +kernel
theorem dX4_run_90 : decode cX4_run 90 = .ok (.if_icmp .ge 11, 3) := by decide +kernel
theorem dX4_run_93 : decode cX4_run 93 = .ok (.aload_n 0, 1) := by decide +kernel
theorem dX4_run_94 : decode cX4_run 94 = .ok (.aload_n 0, 1) := by decide +kernel
theorem dX4_run_95 : decode cX4_run 95 = .ok (.getfield 16, 3) := by decide +kernel
theorem dX4_run_98 : decode cX4_run 98 = .ok (.invokevirtual 249, 3) := by decide +kernel
theorem dX4_run_101 : decode cX4_run 101 = .ok (.iload_n 1, 1) := by decide +kernel
theorem dX4_run_102 : decode cX4_run 102 = .ok (.bipush (-4), 2) := by decide +kernel
theorem dX4_run_104 : decode cX4_run 104 = .ok (.if_icmp .ne 13, 3) := by decide +kernel
theorem dX4_run_107 : decode cX4_run 107 = .ok (.new 253, 3) := by decide +kernel
theorem dX4_run_110 : decode cX4_run 110 = .ok (.dup, 1) := by decide +kernel
theorem dX4_run_111 : decode cX4_run 111 = .ok (.ldc 255, 2) := by decide +kernel
theorem dX4_run_113 : decode cX4_run 113 = .ok (.invokespecial 257, 3) := by decide +kernel
theorem dX4_run_116 : decode cX4_run 116 = .ok (.athrow, 1) := by decide +kernel
theorem dX4_run_117 : decode cX4_run 117 = .ok (.iload_n 1, 1) := by decide +kernel
theorem dX4_run_118 : decode cX4_run 118 = .ok (.iconst (-1), 1) := by decide +kernel
theorem dX4_run_119 : decode cX4_run 119 = .ok (.if_icmp .ge 14, 3) := by decide +kernel
theorem dX4_run_122 : decode cX4_run 122 = .ok (.new 117, 3) := by decide +kernel
theorem dX4_run_125 : decode cX4_run 125 = .ok (.dup, 1) := by decide +kernel
theorem dX4_run_126 : decode cX4_run 126 = .ok (.ldc_w 258, 3) := by decide +kernel
theorem dX4_run_129 : decode cX4_run 129 = .ok (.invokespecial 121, 3) := by decide +kernel
theorem dX4_run_132 : decode cX4_run 132 = .ok (.athrow, 1) := by decide +kernel
theorem dX4_run_133 : decode cX4_run 133 = .ok (.aload_n 0, 1) := by decide +kernel
theorem dX4_run_134 : decode cX4_run 134 = .ok (.invokevirtual 260, 3) := by decide +kernel
theorem dX4_run_137 : decode cX4_run 137 = .ok (.aload_n 0, 1) := by decide +kernel
theorem dX4_run_138 : decode cX4_run 138 = .ok (.getfield 51, 3) := by decide +kernel
theorem dX4_run_141 : decode cX4_run 141 = .ok (.getfield 237, 3) := by decide +kernel
theorem dX4_run_144 : decode cX4_run 144 = .ok (.ireturn, 1) := by decide +kernel
theorem dX4_account_0 : decode cX4_account 0 = .ok (.iload_n 1, 1) := by decide +kernel
theorem dX4_account_1 : decode cX4_account 1 = .ok (.tableswitch 156 0 11 #[63, 71, 79, 87, 95, 103, 111, 119, 127, 135, 143, 151], 63) := by decide +kernel
theorem dX4_account_64 : decode cX4_account 64 = .ok (.aload_n 0, 1) := by decide +kernel
theorem dX4_account_65 : decode cX4_account 65 = .ok (.getfield 10, 3) := by decide +kernel
theorem dX4_account_68 : decode cX4_account 68 = .ok (.getfield 150, 3) := by decide +kernel
theorem dX4_account_71 : decode cX4_account 71 = .ok (.ireturn, 1) := by decide +kernel
theorem dX4_account_72 : decode cX4_account 72 = .ok (.aload_n 0, 1) := by decide +kernel
theorem dX4_account_73 : decode cX4_account 73 = .ok (.getfield 10, 3) := by decide +kernel
theorem dX4_account_76 : decode cX4_account 76 = .ok (.invokevirtual 265, 3) := by decide +kernel
theorem dX4_account_79 : decode cX4_account 79 = .ok (.ireturn, 1) := by decide +kernel
theorem dX4_account_80 : decode cX4_account 80 = .ok (.aload_n 0, 1) := by decide +kernel
theorem dX4_account_81 : decode cX4_account 81 = .ok (.getfield 10, 3) := by decide +kernel
theorem dX4_account_84 : decode cX4_account 84 = .ok (.invokevirtual 268, 3) := by decide +kernel
theorem dX4_account_87 : decode cX4_account 87 = .ok (.ireturn, 1) := by decide +kernel
theorem dX4_account_88 : decode cX4_account 88 = .ok (.aload_n 0, 1) := by decide +kernel
theorem dX4_account_89 : decode cX4_account 89 = .ok (.getfield 10, 3) := by decide +kernel
theorem dX4_account_92 : decode cX4_account 92 = .ok (.invokevirtual 271, 3) := by decide +kernel
theorem dX4_account_95 : decode cX4_account 95 = .ok (.ireturn, 1) := by decide +kernel
theorem dX4_account_96 : decode cX4_account 96 = .ok (.aload_n 0, 1) := by decide +kernel
theorem dX4_account_97 : decode cX4_account 97 = .ok (.getfield 10, 3) := by decide +kernel
theorem dX4_account_100 : decode cX4_account 100 = .ok (.getfield 165, 3) := by decide +kernel
theorem dX4_account_103 : decode cX4_account 103 = .ok (.ireturn, 1) := by decide +kernel
theorem dX4_account_104 : decode cX4_account 104 = .ok (.aload_n 0, 1) := by decide +kernel
theorem dX4_account_105 : decode cX4_account 105 = .ok (.getfield 10, 3) := by decide +kernel
theorem dX4_account_108 : decode cX4_account 108 = .ok (.getfield 274, 3) := by decide +kernel
theorem dX4_account_111 : decode cX4_account 111 = .ok (.ireturn, 1) := by decide +kernel
theorem dX4_account_112 : decode cX4_account 112 = .ok (.aload_n 0, 1) := by decide +kernel
theorem dX4_account_113 : decode cX4_account 113 = .ok (.getfield 10, 3) := by decide +kernel
theorem dX4_account_116 : decode cX4_account 116 = .ok (.invokevirtual 277, 3) := by decide +kernel
theorem dX4_account_119 : decode cX4_account 119 = .ok (.ireturn, 1) := by decide +kernel
theorem dX4_account_120 : decode cX4_account 120 = .ok (.aload_n 0, 1) := by decide +kernel
theorem dX4_account_121 : decode cX4_account 121 = .ok (.getfield 10, 3) := by decide +kernel
theorem dX4_account_124 : decode cX4_account 124 = .ok (.invokevirtual 280, 3) := by decide +kernel
theorem dX4_account_127 : decode cX4_account 127 = .ok (.ireturn, 1) := by decide +kernel
theorem dX4_account_128 : decode cX4_account 128 = .ok (.aload_n 0, 1) := by decide +kernel
theorem dX4_account_129 : decode cX4_account 129 = .ok (.getfield 10, 3) := by decide +kernel
theorem dX4_account_132 : decode cX4_account 132 = .ok (.getfield 283, 3) := by decide +kernel
theorem dX4_account_135 : decode cX4_account 135 = .ok (.ireturn, 1) := by decide +kernel
theorem dX4_account_136 : decode cX4_account 136 = .ok (.aload_n 0, 1) := by decide +kernel
theorem dX4_account_137 : decode cX4_account 137 = .ok (.getfield 10, 3) := by decide +kernel
theorem dX4_account_140 : decode cX4_account 140 = .ok (.getfield 286, 3) := by decide +kernel
theorem dX4_account_143 : decode cX4_account 143 = .ok (.ireturn, 1) := by decide +kernel
theorem dX4_account_144 : decode cX4_account 144 = .ok (.aload_n 0, 1) := by decide +kernel
theorem dX4_account_145 : decode cX4_account 145 = .ok (.getfield 51, 3) := by decide +kernel
theorem dX4_account_148 : decode cX4_account 148 = .ok (.getfield 224, 3) := by decide +kernel
theorem dX4_account_151 : decode cX4_account 151 = .ok (.ireturn, 1) := by decide +kernel
theorem dX4_account_152 : decode cX4_account 152 = .ok (.aload_n 0, 1) := by decide +kernel
theorem dX4_account_153 : decode cX4_account 153 = .ok (.getfield 30, 3) := by decide +kernel
theorem dX4_account_156 : decode cX4_account 156 = .ok (.ireturn, 1) := by decide +kernel
theorem dX4_account_157 : decode cX4_account 157 = .ok (.new 117, 3) := by decide +kernel
theorem dX4_account_160 : decode cX4_account 160 = .ok (.dup, 1) := by decide +kernel
theorem dX4_account_161 : decode cX4_account 161 = .ok (.ldc_w 289, 3) := by decide +kernel
theorem dX4_account_164 : decode cX4_account 164 = .ok (.invokespecial 121, 3) := by decide +kernel
theorem dX4_account_167 : decode cX4_account 167 = .ok (.athrow, 1) := by decide +kernel
theorem dX4_isWell_0 : decode cX4_isWell 0 = .ok (.aload_n 0, 1) := by decide +kernel
theorem dX4_isWell_1 : decode cX4_isWell 1 = .ok (.getfield 44, 3) := by decide +kernel
theorem dX4_isWell_4 : decode cX4_isWell 4 = .ok (.aload_n 0, 1) := by decide +kernel
theorem dX4_isWell_5 : decode cX4_isWell 5 = .ok (.getfield 10, 3) := by decide +kernel
theorem dX4_isWell_8 : decode cX4_isWell 8 = .ok (.invokevirtual 185, 3) := by decide +kernel
theorem dX4_isWell_11 : decode cX4_isWell 11 = .ok (.aload_n 0, 1) := by decide +kernel
theorem dX4_isWell_12 : decode cX4_isWell 12 = .ok (.getfield 44, 3) := by decide +kernel
theorem dX4_isWell_15 : decode cX4_isWell 15 = .ok (.aload_n 0, 1) := by decide +kernel
theorem dX4_isWell_16 : decode cX4_isWell 16 = .ok (.getfield 10, 3) := by decide +kernel
theorem dX4_isWell_19 : decode cX4_isWell 19 = .ok (.invokevirtual 189, 3) := by decide +kernel
theorem dX4_isWell_22 : decode cX4_isWell 22 = .ok (.if_icmp .ne 53, 3) := by decide +kernel
theorem dX4_isWell_25 : decode cX4_isWell 25 = .ok (.aload_n 0, 1) := by decide +kernel
theorem dX4_isWell_26 : decode cX4_isWell 26 = .ok (.invokevirtual 291, 3) := by decide +kernel
theorem dX4_isWell_29 : decode cX4_isWell 29 = .ok (.ifCond .eq 46, 3) := by decide +kernel
theorem dX4_isWell_32 : decode cX4_isWell 32 = .ok (.aload_n 0, 1) := by decide +kernel
theorem dX4_isWell_33 : decode cX4_isWell 33 = .ok (.invokevirtual 295, 3) := by decide +kernel
theorem dX4_isWell_36 : decode cX4_isWell 36 = .ok (.ifCond .eq 39, 3) := by decide +kernel
theorem dX4_isWell_39 : decode cX4_isWell 39 = .ok (.aload_n 0, 1) := by decide +kernel
theorem dX4_isWell_40 : decode cX4_isWell 40 = .ok (.invokevirtual 298, 3) := by decide +kernel
theorem dX4_isWell_43 : decode cX4_isWell 43 = .ok (.ifCond .eq 32, 3) := by decide +kernel
theorem dX4_isWell_46 : decode cX4_isWell 46 = .ok (.aload_n 0, 1) := by decide +kernel
theorem dX4_isWell_47 : decode cX4_isWell 47 = .ok (.getfield 10, 3) := by decide +kernel
theorem dX4_isWell_50 : decode cX4_isWell 50 = .ok (.getfield 283, 3) := by decide +kernel
theorem dX4_isWell_53 : decode cX4_isWell 53 = .ok (.aload_n 0, 1) := by decide +kernel
theorem dX4_isWell_54 : decode cX4_isWell 54 = .ok (.getfield 10, 3) := by decide +kernel
theorem dX4_isWell_57 : decode cX4_isWell 57 = .ok (.invokevirtual 280, 3) := by decide +kernel
theorem dX4_isWell_60 : decode cX4_isWell 60 = .ok (.aload_n 0, 1) := by decide +kernel
theorem dX4_isWell_61 : decode cX4_isWell 61 = .ok (.getfield 10, 3) := by decide +kernel
theorem dX4_isWell_64 : decode cX4_isWell 64 = .ok (.getfield 286, 3) := by decide +kernel
theorem dX4_isWell_67 : decode cX4_isWell 67 = .ok (.iadd, 1) := by decide +kernel
theorem dX4_isWell_68 : decode cX4_isWell 68 = .ok (.if_icmp .ne 7, 3) := by decide +kernel
theorem dX4_isWell_71 : decode cX4_isWell 71 = .ok (.iconst 1, 1) := by decide +kernel
theorem dX4_isWell_72 : decode cX4_isWell 72 = .ok (.goto 4, 3) := by decide +kernel
theorem dX4_isWell_75 : decode cX4_isWell 75 = .ok (.iconst 0, 1) := by decide +kernel
theorem dX4_isWell_76 : decode cX4_isWell 76 = .ok (.ireturn, 1) := by decide +kernel
theorem dX4_meanDepth_0 : decode cX4_meanDepth 0 = .ok (.aload_n 0, 1) := by decide +kernel
theorem dX4_meanDepth_1 : decode cX4_meanDepth 1 = .ok (.getfield 10, 3) := by decide +kernel
theorem dX4_meanDepth_4 : decode cX4_meanDepth 4 = .ok (.getfield 150, 3) := by decide +kernel
theorem dX4_meanDepth_7 : decode cX4_meanDepth 7 = .ok (.ifCond .ne 14, 3) := by decide +kernel
theorem dX4_meanDepth_10 : decode cX4_meanDepth 10 = .ok (.new 301, 3) := by decide +kernel
theorem dX4_meanDepth_13 : decode cX4_meanDepth 13 = .ok (.dup, 1) := by decide +kernel
theorem dX4_meanDepth_14 : decode cX4_meanDepth 14 = .ok (.ldc_w 303, 3) := by decide +kernel
theorem dX4_meanDepth_17 : decode cX4_meanDepth 17 = .ok (.invokespecial 305, 3) := by decide +kernel
theorem dX4_meanDepth_20 : decode cX4_meanDepth 20 = .ok (.athrow, 1) := by decide +kernel
theorem dX4_meanDepth_21 : decode cX4_meanDepth 21 = .ok (.aload_n 0, 1) := by decide +kernel
theorem dX4_meanDepth_22 : decode cX4_meanDepth 22 = .ok (.getfield 10, 3) := by decide +kernel
theorem dX4_meanDepth_25 : decode cX4_meanDepth 25 = .ok (.invokevirtual 306, 3) := by decide +kernel
theorem dX4_meanDepth_28 : decode cX4_meanDepth 28 = .ok (.i2d, 1) := by decide +kernel
theorem dX4_meanDepth_29 : decode cX4_meanDepth 29 = .ok (.aload_n 0, 1) := by decide +kernel
theorem dX4_meanDepth_30 : decode cX4_meanDepth 30 = .ok (.getfield 10, 3) := by decide +kernel
theorem dX4_meanDepth_33 : decode cX4_meanDepth 33 = .ok (.getfield 150, 3) := by decide +kernel
theorem dX4_meanDepth_36 : decode cX4_meanDepth 36 = .ok (.i2d, 1) := by decide +kernel
theorem dX4_meanDepth_37 : decode cX4_meanDepth 37 = .ok (.ddiv, 1) := by decide +kernel
theorem dX4_meanDepth_38 : decode cX4_meanDepth 38 = .ok (.dreturn, 1) := by decide +kernel
theorem dX4_livingShare_0 : decode cX4_livingShare 0 = .ok (.aload_n 0, 1) := by decide +kernel
theorem dX4_livingShare_1 : decode cX4_livingShare 1 = .ok (.getfield 10, 3) := by decide +kernel
theorem dX4_livingShare_4 : decode cX4_livingShare 4 = .ok (.getfield 150, 3) := by decide +kernel
theorem dX4_livingShare_7 : decode cX4_livingShare 7 = .ok (.ifCond .ne 14, 3) := by decide +kernel
theorem dX4_livingShare_10 : decode cX4_livingShare 10 = .ok (.new 301, 3) := by decide +kernel
theorem dX4_livingShare_13 : decode cX4_livingShare 13 = .ok (.dup, 1) := by decide +kernel
theorem dX4_livingShare_14 : decode cX4_livingShare 14 = .ok (.ldc_w 303, 3) := by decide +kernel
theorem dX4_livingShare_17 : decode cX4_livingShare 17 = .ok (.invokespecial 305, 3) := by decide +kernel
theorem dX4_livingShare_20 : decode cX4_livingShare 20 = .ok (.athrow, 1) := by decide +kernel
theorem dX4_livingShare_21 : decode cX4_livingShare 21 = .ok (.aload_n 0, 1) := by decide +kernel
theorem dX4_livingShare_22 : decode cX4_livingShare 22 = .ok (.getfield 10, 3) := by decide +kernel
theorem dX4_livingShare_25 : decode cX4_livingShare 25 = .ok (.invokevirtual 265, 3) := by decide +kernel
theorem dX4_livingShare_28 : decode cX4_livingShare 28 = .ok (.i2f, 1) := by decide +kernel
theorem dX4_livingShare_29 : decode cX4_livingShare 29 = .ok (.aload_n 0, 1) := by decide +kernel
theorem dX4_livingShare_30 : decode cX4_livingShare 30 = .ok (.getfield 10, 3) := by decide +kernel
theorem dX4_livingShare_33 : decode cX4_livingShare 33 = .ok (.getfield 150, 3) := by decide +kernel
theorem dX4_livingShare_36 : decode cX4_livingShare 36 = .ok (.i2f, 1) := by decide +kernel
theorem dX4_livingShare_37 : decode cX4_livingShare 37 = .ok (.fdiv, 1) := by decide +kernel
theorem dX4_livingShare_38 : decode cX4_livingShare 38 = .ok (.freturn, 1) := by decide +kernel
theorem dX4_undo_0 : decode cX4_undo 0 = .ok (.aload_n 0, 1) := by decide +kernel
theorem dX4_undo_1 : decode cX4_undo 1 = .ok (.aload_n 0, 1) := by decide +kernel
theorem dX4_undo_2 : decode cX4_undo 2 = .ok (.getfield 30, 3) := by decide +kernel
theorem dX4_undo_5 : decode cX4_undo 5 = .ok (.iconst 1, 1) := by decide +kernel
theorem dX4_undo_6 : decode cX4_undo 6 = .ok (.isub, 1) := by decide +kernel
theorem dX4_undo_7 : decode cX4_undo 7 = .ok (.invokevirtual 309, 3) := by decide +kernel
theorem dX4_undo_10 : decode cX4_undo 10 = .ok (.astore_n 1, 1) := by decide +kernel
theorem dX4_undo_11 : decode cX4_undo 11 = .ok (.aload_n 1, 1) := by decide +kernel
theorem dX4_undo_12 : decode cX4_undo 12 = .ok (.ifnonnull 14, 3) := by decide +kernel
theorem dX4_undo_15 : decode cX4_undo 15 = .ok (.new 177, 3) := by decide +kernel
theorem dX4_undo_18 : decode cX4_undo 18 = .ok (.dup, 1) := by decide +kernel
theorem dX4_undo_19 : decode cX4_undo 19 = .ok (.ldc_w 313, 3) := by decide +kernel
theorem dX4_undo_22 : decode cX4_undo 22 = .ok (.invokespecial 181, 3) := by decide +kernel
theorem dX4_undo_25 : decode cX4_undo 25 = .ok (.athrow, 1) := by decide +kernel
theorem dX4_undo_26 : decode cX4_undo 26 = .ok (.aload_n 0, 1) := by decide +kernel
theorem dX4_undo_27 : decode cX4_undo 27 = .ok (.aload_n 1, 1) := by decide +kernel
theorem dX4_undo_28 : decode cX4_undo 28 = .ok (.invokevirtual 249, 3) := by decide +kernel
theorem dX4_undo_31 : decode cX4_undo 31 = .ok (.aload_n 0, 1) := by decide +kernel
theorem dX4_undo_32 : decode cX4_undo 32 = .ok (.dup, 1) := by decide +kernel
theorem dX4_undo_33 : decode cX4_undo 33 = .ok (.getfield 30, 3) := by decide +kernel
theorem dX4_undo_36 : decode cX4_undo 36 = .ok (.iconst 1, 1) := by decide +kernel
theorem dX4_undo_37 : decode cX4_undo 37 = .ok (.isub, 1) := by decide +kernel
theorem dX4_undo_38 : decode cX4_undo 38 = .ok (.putfield 30, 3) := by decide +kernel
theorem dX4_undo_41 : decode cX4_undo 41 = .ok (.aload_n 0, 1) := by decide +kernel
theorem dX4_undo_42 : decode cX4_undo 42 = .ok (.getfield 30, 3) := by decide +kernel
theorem dX4_undo_45 : decode cX4_undo 45 = .ok (.ireturn, 1) := by decide +kernel
theorem dX4_needPerson_0 : decode cX4_needPerson 0 = .ok (.aload_n 0, 1) := by decide +kernel
theorem dX4_needPerson_1 : decode cX4_needPerson 1 = .ok (.getfield 10, 3) := by decide +kernel
theorem dX4_needPerson_4 : decode cX4_needPerson 4 = .ok (.iload_n 1, 1) := by decide +kernel
theorem dX4_needPerson_5 : decode cX4_needPerson 5 = .ok (.invokevirtual 320, 3) := by decide +kernel
theorem dX4_needPerson_8 : decode cX4_needPerson 8 = .ok (.ifCond .ne 14, 3) := by decide +kernel
theorem dX4_needPerson_11 : decode cX4_needPerson 11 = .ok (.new 215, 3) := by decide +kernel
theorem dX4_needPerson_14 : decode cX4_needPerson 14 = .ok (.dup, 1) := by decide +kernel
theorem dX4_needPerson_15 : decode cX4_needPerson 15 = .ok (.ldc_w 323, 3) := by decide +kernel
theorem dX4_needPerson_18 : decode cX4_needPerson 18 = .ok (.invokespecial 219, 3) := by decide +kernel
theorem dX4_needPerson_21 : decode cX4_needPerson 21 = .ok (.athrow, 1) := by decide +kernel
theorem dX4_needPerson_22 : decode cX4_needPerson 22 = .ok (.return_, 1) := by decide +kernel
theorem dX4_needElder_0 : decode cX4_needElder 0 = .ok (.iload_n 2, 1) := by decide +kernel
theorem dX4_needElder_1 : decode cX4_needElder 1 = .ok (.ifCond .lt 15, 3) := by decide +kernel
theorem dX4_needElder_4 : decode cX4_needElder 4 = .ok (.iload_n 2, 1) := by decide +kernel
theorem dX4_needElder_5 : decode cX4_needElder 5 = .ok (.aload_n 0, 1) := by decide +kernel
theorem dX4_needElder_6 : decode cX4_needElder 6 = .ok (.getfield 10, 3) := by decide +kernel
theorem dX4_needElder_9 : decode cX4_needElder 9 = .ok (.iload_n 1, 1) := by decide +kernel
theorem dX4_needElder_10 : decode cX4_needElder 10 = .ok (.invokevirtual 89, 3) := by decide +kernel
theorem dX4_needElder_13 : decode cX4_needElder 13 = .ok (.if_icmp .le 14, 3) := by decide +kernel
theorem dX4_needElder_16 : decode cX4_needElder 16 = .ok (.new 157, 3) := by decide +kernel
theorem dX4_needElder_19 : decode cX4_needElder 19 = .ok (.dup, 1) := by decide +kernel
theorem dX4_needElder_20 : decode cX4_needElder 20 = .ok (.ldc_w 325, 3) := by decide +kernel
theorem dX4_needElder_23 : decode cX4_needElder 23 = .ok (.invokespecial 161, 3) := by decide +kernel
theorem dX4_needElder_26 : decode cX4_needElder 26 = .ok (.athrow, 1) := by decide +kernel
theorem dX4_needElder_27 : decode cX4_needElder 27 = .ok (.return_, 1) := by decide +kernel
theorem dX4_needOneOak_0 : decode cX4_needOneOak 0 = .ok (.aload_n 0, 1) := by decide +kernel
theorem dX4_needOneOak_1 : decode cX4_needOneOak 1 = .ok (.iload_n 1, 1) := by decide +kernel
theorem dX4_needOneOak_2 : decode cX4_needOneOak 2 = .ok (.iload_n 2, 1) := by decide +kernel
theorem dX4_needOneOak_3 : decode cX4_needOneOak 3 = .ok (.invokevirtual 153, 3) := by decide +kernel
theorem dX4_needOneOak_6 : decode cX4_needOneOak 6 = .ok (.ifCond .ne 14, 3) := by decide +kernel
theorem dX4_needOneOak_9 : decode cX4_needOneOak 9 = .ok (.new 157, 3) := by decide +kernel
theorem dX4_needOneOak_12 : decode cX4_needOneOak 12 = .ok (.dup, 1) := by decide +kernel
theorem dX4_needOneOak_13 : decode cX4_needOneOak 13 = .ok (.ldc_w 327, 3) := by decide +kernel
theorem dX4_needOneOak_16 : decode cX4_needOneOak 16 = .ok (.invokespecial 161, 3) := by decide +kernel
theorem dX4_needOneOak_19 : decode cX4_needOneOak 19 = .ok (.athrow, 1) := by decide +kernel
theorem dX4_needOneOak_20 : decode cX4_needOneOak 20 = .ok (.return_, 1) := by decide +kernel
theorem dX4_begin_0 : decode cX4_begin 0 = .ok (.aload_n 0, 1) := by decide +kernel
theorem dX4_begin_1 : decode cX4_begin 1 = .ok (.getfield 16, 3) := by decide +kernel
theorem dX4_begin_4 : decode cX4_begin 4 = .ok (.aload_n 0, 1) := by decide +kernel
theorem dX4_begin_5 : decode cX4_begin 5 = .ok (.getfield 10, 3) := by decide +kernel
theorem dX4_begin_8 : decode cX4_begin 8 = .ok (.invokevirtual 315, 3) := by decide +kernel
theorem dX4_begin_11 : decode cX4_begin 11 = .ok (.return_, 1) := by decide +kernel
theorem dX4_end_0 : decode cX4_end 0 = .ok (.iload_n 1, 1) := by decide +kernel
theorem dX4_end_1 : decode cX4_end 1 = .ok (.bipush (-2), 2) := by decide +kernel
theorem dX4_end_3 : decode cX4_end 3 = .ok (.if_icmp .ne 14, 3) := by decide +kernel
theorem dX4_end_6 : decode cX4_end 6 = .ok (.new 215, 3) := by decide +kernel
theorem dX4_end_9 : decode cX4_end 9 = .ok (.dup, 1) := by decide +kernel
theorem dX4_end_10 : decode cX4_end 10 = .ok (.ldc_w 323, 3) := by decide +kernel
theorem dX4_end_13 : decode cX4_end 13 = .ok (.invokespecial 219, 3) := by decide +kernel
theorem dX4_end_16 : decode cX4_end 16 = .ok (.athrow, 1) := by decide +kernel
theorem dX4_end_17 : decode cX4_end 17 = .ok (.iload_n 1, 1) := by decide +kernel
theorem dX4_end_18 : decode cX4_end 18 = .ok (.bipush (-3), 2) := by decide +kernel
theorem dX4_end_20 : decode cX4_end 20 = .ok (.if_icmp .ne 14, 3) := by decide +kernel
theorem dX4_end_23 : decode cX4_end 23 = .ok (.new 117, 3) := by decide +kernel
theorem dX4_end_26 : decode cX4_end 26 = .ok (.dup, 1) := by decide +kernel
theorem dX4_end_27 : decode cX4_end 27 = .ok (.ldc_w 329, 3) := by decide +kernel
theorem dX4_end_30 : decode cX4_end 30 = .ok (.invokespecial 121, 3) := by decide +kernel
theorem dX4_end_33 : decode cX4_end 33 = .ok (.athrow, 1) := by decide +kernel
theorem dX4_end_34 : decode cX4_end 34 = .ok (.iload_n 1, 1) := by decide +kernel
theorem dX4_end_35 : decode cX4_end 35 = .ok (.bipush (-4), 2) := by decide +kernel
theorem dX4_end_37 : decode cX4_end 37 = .ok (.if_icmp .ne 14, 3) := by decide +kernel
theorem dX4_end_40 : decode cX4_end 40 = .ok (.new 253, 3) := by decide +kernel
theorem dX4_end_43 : decode cX4_end 43 = .ok (.dup, 1) := by decide +kernel
theorem dX4_end_44 : decode cX4_end 44 = .ok (.ldc_w 331, 3) := by decide +kernel
theorem dX4_end_47 : decode cX4_end 47 = .ok (.invokespecial 257, 3) := by decide +kernel
theorem dX4_end_50 : decode cX4_end 50 = .ok (.athrow, 1) := by decide +kernel
theorem dX4_end_51 : decode cX4_end 51 = .ok (.aload_n 0, 1) := by decide +kernel
theorem dX4_end_52 : decode cX4_end 52 = .ok (.invokevirtual 260, 3) := by decide +kernel
theorem dX4_end_55 : decode cX4_end 55 = .ok (.iload_n 1, 1) := by decide +kernel
theorem dX4_end_56 : decode cX4_end 56 = .ok (.ireturn, 1) := by decide +kernel
theorem dX4_keepBefore_0 : decode cX4_keepBefore 0 = .ok (.aload_n 0, 1) := by decide +kernel
theorem dX4_keepBefore_1 : decode cX4_keepBefore 1 = .ok (.getfield 30, 3) := by decide +kernel
theorem dX4_keepBefore_4 : decode cX4_keepBefore 4 = .ok (.bipush 8, 2) := by decide +kernel
theorem dX4_keepBefore_6 : decode cX4_keepBefore 6 = .ok (.if_icmp .lt 7, 3) := by decide +kernel
theorem dX4_keepBefore_9 : decode cX4_keepBefore 9 = .ok (.aload_n 0, 1) := by decide +kernel
theorem dX4_keepBefore_10 : decode cX4_keepBefore 10 = .ok (.invokevirtual 333, 3) := by decide +kernel
theorem dX4_keepBefore_13 : decode cX4_keepBefore 13 = .ok (.aload_n 0, 1) := by decide +kernel
theorem dX4_keepBefore_14 : decode cX4_keepBefore 14 = .ok (.aload_n 0, 1) := by decide +kernel
theorem dX4_keepBefore_15 : decode cX4_keepBefore 15 = .ok (.getfield 30, 3) := by decide +kernel
theorem dX4_keepBefore_18 : decode cX4_keepBefore 18 = .ok (.invokevirtual 309, 3) := by decide +kernel
theorem dX4_keepBefore_21 : decode cX4_keepBefore 21 = .ok (.astore_n 1, 1) := by decide +kernel
theorem dX4_keepBefore_22 : decode cX4_keepBefore 22 = .ok (.aload_n 1, 1) := by decide +kernel
theorem dX4_keepBefore_23 : decode cX4_keepBefore 23 = .ok (.ifnull 21, 3) := by decide +kernel
theorem dX4_keepBefore_26 : decode cX4_keepBefore 26 = .ok (.aload_n 1, 1) := by decide +kernel
theorem dX4_keepBefore_27 : decode cX4_keepBefore 27 = .ok (.aload_n 0, 1) := by decide +kernel
theorem dX4_keepBefore_28 : decode cX4_keepBefore 28 = .ok (.getfield 16, 3) := by decide +kernel
theorem dX4_keepBefore_31 : decode cX4_keepBefore 31 = .ok (.invokevirtual 315, 3) := by decide +kernel
theorem dX4_keepBefore_34 : decode cX4_keepBefore 34 = .ok (.aload_n 0, 1) := by decide +kernel
theorem dX4_keepBefore_35 : decode cX4_keepBefore 35 = .ok (.dup, 1) := by decide +kernel
theorem dX4_keepBefore_36 : decode cX4_keepBefore 36 = .ok (.getfield 30, 3) := by decide +kernel
theorem dX4_keepBefore_39 : decode cX4_keepBefore 39 = .ok (.iconst 1, 1) := by decide +kernel
theorem dX4_keepBefore_40 : decode cX4_keepBefore 40 = .ok (.iadd, 1) := by decide +kernel
theorem dX4_keepBefore_41 : decode cX4_keepBefore 41 = .ok (.putfield 30, 3) := by decide +kernel
theorem dX4_keepBefore_44 : decode cX4_keepBefore 44 = .ok (.return_, 1) := by decide +kernel
theorem dX4_pastAt_0 : decode cX4_pastAt 0 = .ok (.iload_n 1, 1) := by decide +kernel
theorem dX4_pastAt_1 : decode cX4_pastAt 1 = .ok (.ifCond .lt 18, 3) := by decide +kernel
theorem dX4_pastAt_4 : decode cX4_pastAt 4 = .ok (.iload_n 1, 1) := by decide +kernel
theorem dX4_pastAt_5 : decode cX4_pastAt 5 = .ok (.bipush 8, 2) := by decide +kernel
theorem dX4_pastAt_7 : decode cX4_pastAt 7 = .ok (.if_icmp .ge 12, 3) := by decide +kernel
theorem dX4_pastAt_10 : decode cX4_pastAt 10 = .ok (.aload_n 0, 1) := by decide +kernel
theorem dX4_pastAt_11 : decode cX4_pastAt 11 = .ok (.getfield 26, 3) := by decide +kernel
theorem dX4_pastAt_14 : decode cX4_pastAt 14 = .ok (.iload_n 1, 1) := by decide +kernel
theorem dX4_pastAt_15 : decode cX4_pastAt 15 = .ok (.aaload, 1) := by decide +kernel
theorem dX4_pastAt_16 : decode cX4_pastAt 16 = .ok (.goto 4, 3) := by decide +kernel
theorem dX4_pastAt_19 : decode cX4_pastAt 19 = .ok (.aconst_null, 1) := by decide +kernel
theorem dX4_pastAt_20 : decode cX4_pastAt 20 = .ok (.areturn, 1) := by decide +kernel
theorem dX4_forgetOldest_0 : decode cX4_forgetOldest 0 = .ok (.aload_n 0, 1) := by decide +kernel
theorem dX4_forgetOldest_1 : decode cX4_forgetOldest 1 = .ok (.getfield 26, 3) := by decide +kernel
theorem dX4_forgetOldest_4 : decode cX4_forgetOldest 4 = .ok (.iconst 0, 1) := by decide +kernel
theorem dX4_forgetOldest_5 : decode cX4_forgetOldest 5 = .ok (.aaload, 1) := by decide +kernel
theorem dX4_forgetOldest_6 : decode cX4_forgetOldest 6 = .ok (.astore_n 1, 1) := by decide +kernel
theorem dX4_forgetOldest_7 : decode cX4_forgetOldest 7 = .ok (.iconst 1, 1) := by decide +kernel
theorem dX4_forgetOldest_8 : decode cX4_forgetOldest 8 = .ok (.istore_n 2, 1) := by decide +kernel
theorem dX4_forgetOldest_9 : decode cX4_forgetOldest 9 = .ok (.iload_n 2, 1) := by decide +kernel
theorem dX4_forgetOldest_10 : decode cX4_forgetOldest 10 = .ok (.bipush 8, 2) := by decide +kernel
theorem dX4_forgetOldest_12 : decode cX4_forgetOldest 12 = .ok (.if_icmp .ge 23, 3) := by decide +kernel
theorem dX4_forgetOldest_15 : decode cX4_forgetOldest 15 = .ok (.aload_n 0, 1) := by decide +kernel
theorem dX4_forgetOldest_16 : decode cX4_forgetOldest 16 = .ok (.getfield 26, 3) := by decide +kernel
theorem dX4_forgetOldest_19 : decode cX4_forgetOldest 19 = .ok (.iload_n 2, 1) := by decide +kernel
theorem dX4_forgetOldest_20 : decode cX4_forgetOldest 20 = .ok (.iconst 1, 1) := by decide +kernel
theorem dX4_forgetOldest_21 : decode cX4_forgetOldest 21 = .ok (.isub, 1) := by decide +kernel
theorem dX4_forgetOldest_22 : decode cX4_forgetOldest 22 = .ok (.aload_n 0, 1) := by decide +kernel
theorem dX4_forgetOldest_23 : decode cX4_forgetOldest 23 = .ok (.getfield 26, 3) := by decide +kernel
theorem dX4_forgetOldest_26 : decode cX4_forgetOldest 26 = .ok (.iload_n 2, 1) := by decide +kernel
theorem dX4_forgetOldest_27 : decode cX4_forgetOldest 27 = .ok (.aaload, 1) := by decide +kernel
theorem dX4_forgetOldest_28 : decode cX4_forgetOldest 28 = .ok (.aastore, 1) := by decide +kernel
theorem dX4_forgetOldest_29 : decode cX4_forgetOldest 29 = .ok (.iinc 2 1, 3) := by decide +kernel
theorem dX4_forgetOldest_32 : decode cX4_forgetOldest 32 = .ok (.goto (-23), 3) := by decide +kernel
theorem dX4_forgetOldest_35 : decode cX4_forgetOldest 35 = .ok (.aload_n 0, 1) := by decide +kernel
theorem dX4_forgetOldest_36 : decode cX4_forgetOldest 36 = .ok (.getfield 26, 3) := by decide +kernel
theorem dX4_forgetOldest_39 : decode cX4_forgetOldest 39 = .ok (.bipush 7, 2) := by decide +kernel
theorem dX4_forgetOldest_41 : decode cX4_forgetOldest 41 = .ok (.aload_n 1, 1) := by decide +kernel
theorem dX4_forgetOldest_42 : decode cX4_forgetOldest 42 = .ok (.aastore, 1) := by decide +kernel
theorem dX4_forgetOldest_43 : decode cX4_forgetOldest 43 = .ok (.aload_n 0, 1) := by decide +kernel
theorem dX4_forgetOldest_44 : decode cX4_forgetOldest 44 = .ok (.bipush 7, 2) := by decide +kernel
theorem dX4_forgetOldest_46 : decode cX4_forgetOldest 46 = .ok (.putfield 30, 3) := by decide +kernel
theorem dX4_forgetOldest_49 : decode cX4_forgetOldest 49 = .ok (.return_, 1) := by decide +kernel
theorem dX4_goBackTo_0 : decode cX4_goBackTo 0 = .ok (.aload_n 0, 1) := by decide +kernel
theorem dX4_goBackTo_1 : decode cX4_goBackTo 1 = .ok (.getfield 10, 3) := by decide +kernel
theorem dX4_goBackTo_4 : decode cX4_goBackTo 4 = .ok (.aload_n 1, 1) := by decide +kernel
theorem dX4_goBackTo_5 : decode cX4_goBackTo 5 = .ok (.invokevirtual 315, 3) := by decide +kernel
theorem dX4_goBackTo_8 : decode cX4_goBackTo 8 = .ok (.aload_n 0, 1) := by decide +kernel
theorem dX4_goBackTo_9 : decode cX4_goBackTo 9 = .ok (.invokevirtual 336, 3) := by decide +kernel
theorem dX4_goBackTo_12 : decode cX4_goBackTo 12 = .ok (.return_, 1) := by decide +kernel
theorem dX4_renew_0 : decode cX4_renew 0 = .ok (.aload_n 0, 1) := by decide +kernel
theorem dX4_renew_1 : decode cX4_renew 1 = .ok (.getfield 37, 3) := by decide +kernel
theorem dX4_renew_4 : decode cX4_renew 4 = .ok (.aload_n 0, 1) := by decide +kernel
theorem dX4_renew_5 : decode cX4_renew 5 = .ok (.getfield 10, 3) := by decide +kernel
theorem dX4_renew_8 : decode cX4_renew 8 = .ok (.invokevirtual 339, 3) := by decide +kernel
theorem dX4_renew_11 : decode cX4_renew 11 = .ok (.aload_n 0, 1) := by decide +kernel
theorem dX4_renew_12 : decode cX4_renew 12 = .ok (.getfield 44, 3) := by decide +kernel
theorem dX4_renew_15 : decode cX4_renew 15 = .ok (.aload_n 0, 1) := by decide +kernel
theorem dX4_renew_16 : decode cX4_renew 16 = .ok (.getfield 10, 3) := by decide +kernel
theorem dX4_renew_19 : decode cX4_renew 19 = .ok (.invokevirtual 341, 3) := by decide +kernel
theorem dX4_renew_22 : decode cX4_renew 22 = .ok (.return_, 1) := by decide +kernel
theorem dX4_attempt_0 : decode cX4_attempt 0 = .ok (.iload_n 1, 1) := by decide +kernel
theorem dX4_attempt_1 : decode cX4_attempt 1 = .ok (.ifCond .ne 8, 3) := by decide +kernel
theorem dX4_attempt_4 : decode cX4_attempt 4 = .ok (.aload_n 0, 1) := by decide +kernel
theorem dX4_attempt_5 : decode cX4_attempt 5 = .ok (.invokevirtual 342, 3) := by decide +kernel
theorem dX4_attempt_8 : decode cX4_attempt 8 = .ok (.ireturn, 1) := by decide +kernel
theorem dX4_attempt_9 : decode cX4_attempt 9 = .ok (.iload_n 1, 1) := by decide +kernel
theorem dX4_attempt_10 : decode cX4_attempt 10 = .ok (.iconst 2, 1) := by decide +kernel
theorem dX4_attempt_11 : decode cX4_attempt 11 = .ok (.if_icmp .eq 14, 3) := by decide +kernel
theorem dX4_attempt_14 : decode cX4_attempt 14 = .ok (.iload_n 1, 1) := by decide +kernel
theorem dX4_attempt_15 : decode cX4_attempt 15 = .ok (.iconst 4, 1) := by decide +kernel
theorem dX4_attempt_16 : decode cX4_attempt 16 = .ok (.if_icmp .eq 9, 3) := by decide +kernel
theorem dX4_attempt_19 : decode cX4_attempt 19 = .ok (.iload_n 1, 1) := by decide +kernel
theorem dX4_attempt_20 : decode cX4_attempt 20 = .ok (.bipush 6, 2) := by decide +kernel
theorem dX4_attempt_22 : decode cX4_attempt 22 = .ok (.if_icmp .ne 7, 3) := by decide +kernel
theorem dX4_attempt_25 : decode cX4_attempt 25 = .ok (.iconst 1, 1) := by decide +kernel
theorem dX4_attempt_26 : decode cX4_attempt 26 = .ok (.goto 4, 3) := by decide +kernel
theorem dX4_attempt_29 : decode cX4_attempt 29 = .ok (.iconst 0, 1) := by decide +kernel
theorem dX4_attempt_30 : decode cX4_attempt 30 = .ok (.istore 4, 2) := by decide +kernel
theorem dX4_attempt_32 : decode cX4_attempt 32 = .ok (.aload_n 0, 1) := by decide +kernel
theorem dX4_attempt_33 : decode cX4_attempt 33 = .ok (.getfield 10, 3) := by decide +kernel
theorem dX4_attempt_36 : decode cX4_attempt 36 = .ok (.iload_n 2, 1) := by decide +kernel
theorem dX4_attempt_37 : decode cX4_attempt 37 = .ok (.invokevirtual 320, 3) := by decide +kernel
theorem dX4_attempt_40 : decode cX4_attempt 40 = .ok (.ifCond .eq 19, 3) := by decide +kernel
theorem dX4_attempt_43 : decode cX4_attempt 43 = .ok (.iload 4, 2) := by decide +kernel
theorem dX4_attempt_45 : decode cX4_attempt 45 = .ok (.ifCond .eq 17, 3) := by decide +kernel
theorem dX4_attempt_48 : decode cX4_attempt 48 = .ok (.aload_n 0, 1) := by decide +kernel
theorem dX4_attempt_49 : decode cX4_attempt 49 = .ok (.getfield 10, 3) := by decide +kernel
theorem dX4_attempt_52 : decode cX4_attempt 52 = .ok (.iload_n 3, 1) := by decide +kernel
theorem dX4_attempt_53 : decode cX4_attempt 53 = .ok (.invokevirtual 320, 3) := by decide +kernel
theorem dX4_attempt_56 : decode cX4_attempt 56 = .ok (.ifCond .ne 6, 3) := by decide +kernel
theorem dX4_attempt_59 : decode cX4_attempt 59 = .ok (.bipush (-2), 2) := by decide +kernel
theorem dX4_attempt_61 : decode cX4_attempt 61 = .ok (.ireturn, 1) := by decide +kernel
theorem dX4_attempt_62 : decode cX4_attempt 62 = .ok (.iload_n 1, 1) := by decide +kernel
theorem dX4_attempt_63 : decode cX4_attempt 63 = .ok (.tableswitch 87 1 7 #[41, 47, 54, 60, 67, 73, 80], 41) := by decide +kernel
theorem dX4_attempt_104 : decode cX4_attempt 104 = .ok (.aload_n 0, 1) := by decide +kernel
theorem dX4_attempt_105 : decode cX4_attempt 105 = .ok (.iload_n 2, 1) := by decide +kernel
theorem dX4_attempt_106 : decode cX4_attempt 106 = .ok (.invokevirtual 345, 3) := by decide +kernel
theorem dX4_attempt_109 : decode cX4_attempt 109 = .ok (.ireturn, 1) := by decide +kernel
theorem dX4_attempt_110 : decode cX4_attempt 110 = .ok (.aload_n 0, 1) := by decide +kernel
theorem dX4_attempt_111 : decode cX4_attempt 111 = .ok (.iload_n 2, 1) := by decide +kernel
theorem dX4_attempt_112 : decode cX4_attempt 112 = .ok (.iload_n 3, 1) := by decide +kernel
theorem dX4_attempt_113 : decode cX4_attempt 113 = .ok (.invokevirtual 348, 3) := by decide +kernel
theorem dX4_attempt_116 : decode cX4_attempt 116 = .ok (.ireturn, 1) := by decide +kernel
theorem dX4_attempt_117 : decode cX4_attempt 117 = .ok (.aload_n 0, 1) := by decide +kernel
theorem dX4_attempt_118 : decode cX4_attempt 118 = .ok (.iload_n 2, 1) := by decide +kernel
theorem dX4_attempt_119 : decode cX4_attempt 119 = .ok (.invokevirtual 351, 3) := by decide +kernel
theorem dX4_attempt_122 : decode cX4_attempt 122 = .ok (.ireturn, 1) := by decide +kernel
theorem dX4_attempt_123 : decode cX4_attempt 123 = .ok (.aload_n 0, 1) := by decide +kernel
theorem dX4_attempt_124 : decode cX4_attempt 124 = .ok (.iload_n 2, 1) := by decide +kernel
theorem dX4_attempt_125 : decode cX4_attempt 125 = .ok (.iload_n 3, 1) := by decide +kernel
theorem dX4_attempt_126 : decode cX4_attempt 126 = .ok (.invokevirtual 354, 3) := by decide +kernel
theorem dX4_attempt_129 : decode cX4_attempt 129 = .ok (.ireturn, 1) := by decide +kernel
theorem dX4_attempt_130 : decode cX4_attempt 130 = .ok (.aload_n 0, 1) := by decide +kernel
theorem dX4_attempt_131 : decode cX4_attempt 131 = .ok (.iload_n 2, 1) := by decide +kernel
theorem dX4_attempt_132 : decode cX4_attempt 132 = .ok (.invokevirtual 357, 3) := by decide +kernel
theorem dX4_attempt_135 : decode cX4_attempt 135 = .ok (.ireturn, 1) := by decide +kernel
theorem dX4_attempt_136 : decode cX4_attempt 136 = .ok (.aload_n 0, 1) := by decide +kernel
theorem dX4_attempt_137 : decode cX4_attempt 137 = .ok (.iload_n 2, 1) := by decide +kernel
theorem dX4_attempt_138 : decode cX4_attempt 138 = .ok (.iload_n 3, 1) := by decide +kernel
theorem dX4_attempt_139 : decode cX4_attempt 139 = .ok (.invokevirtual 360, 3) := by decide +kernel
theorem dX4_attempt_142 : decode cX4_attempt 142 = .ok (.ireturn, 1) := by decide +kernel
theorem dX4_attempt_143 : decode cX4_attempt 143 = .ok (.aload_n 0, 1) := by decide +kernel
theorem dX4_attempt_144 : decode cX4_attempt 144 = .ok (.iload_n 2, 1) := by decide +kernel
theorem dX4_attempt_145 : decode cX4_attempt 145 = .ok (.iload_n 3, 1) := by decide +kernel
theorem dX4_attempt_146 : decode cX4_attempt 146 = .ok (.invokevirtual 363, 3) := by decide +kernel
theorem dX4_attempt_149 : decode cX4_attempt 149 = .ok (.ireturn, 1) := by decide +kernel
theorem dX4_attempt_150 : decode cX4_attempt 150 = .ok (.aload_n 0, 1) := by decide +kernel
theorem dX4_attempt_151 : decode cX4_attempt 151 = .ok (.iload_n 2, 1) := by decide +kernel
theorem dX4_attempt_152 : decode cX4_attempt 152 = .ok (.invokevirtual 366, 3) := by decide +kernel
theorem dX4_attempt_155 : decode cX4_attempt 155 = .ok (.ireturn, 1) := by decide +kernel
theorem dX4_refuse_0 : decode cX4_refuse 0 = .ok (.aload_n 0, 1) := by decide +kernel
theorem dX4_refuse_1 : decode cX4_refuse 1 = .ok (.iload_n 1, 1) := by decide +kernel
theorem dX4_refuse_2 : decode cX4_refuse 2 = .ok (.putfield 65, 3) := by decide +kernel
theorem dX4_refuse_5 : decode cX4_refuse 5 = .ok (.aload_n 0, 1) := by decide +kernel
theorem dX4_refuse_6 : decode cX4_refuse 6 = .ok (.iload_n 2, 1) := by decide +kernel
theorem dX4_refuse_7 : decode cX4_refuse 7 = .ok (.putfield 68, 3) := by decide +kernel
theorem dX4_refuse_10 : decode cX4_refuse 10 = .ok (.bipush (-4), 2) := by decide +kernel
theorem dX4_refuse_12 : decode cX4_refuse 12 = .ok (.ireturn, 1) := by decide +kernel
theorem dX4_tryFound_0 : decode cX4_tryFound 0 = .ok (.aload_n 0, 1) := by decide +kernel
theorem dX4_tryFound_1 : decode cX4_tryFound 1 = .ok (.getfield 10, 3) := by decide +kernel
theorem dX4_tryFound_4 : decode cX4_tryFound 4 = .ok (.getfield 150, 3) := by decide +kernel
theorem dX4_tryFound_7 : decode cX4_tryFound 7 = .ok (.bipush 24, 2) := by decide +kernel
theorem dX4_tryFound_9 : decode cX4_tryFound 9 = .ok (.if_icmp .lt 11, 3) := by decide +kernel
theorem dX4_tryFound_12 : decode cX4_tryFound 12 = .ok (.aload_n 0, 1) := by decide +kernel
theorem dX4_tryFound_13 : decode cX4_tryFound 13 = .ok (.iconst 1, 1) := by decide +kernel
theorem dX4_tryFound_14 : decode cX4_tryFound 14 = .ok (.bipush 24, 2) := by decide +kernel
theorem dX4_tryFound_16 : decode cX4_tryFound 16 = .ok (.invokevirtual 369, 3) := by decide +kernel
theorem dX4_tryFound_19 : decode cX4_tryFound 19 = .ok (.ireturn, 1) := by decide +kernel
theorem dX4_tryFound_20 : decode cX4_tryFound 20 = .ok (.aload_n 0, 1) := by decide +kernel
theorem dX4_tryFound_21 : decode cX4_tryFound 21 = .ok (.getfield 10, 3) := by decide +kernel
theorem dX4_tryFound_24 : decode cX4_tryFound 24 = .ok (.iconst (-1), 1) := by decide +kernel
theorem dX4_tryFound_25 : decode cX4_tryFound 25 = .ok (.invokevirtual 372, 3) := by decide +kernel
theorem dX4_tryFound_28 : decode cX4_tryFound 28 = .ok (.aload_n 0, 1) := by decide +kernel
theorem dX4_tryFound_29 : decode cX4_tryFound 29 = .ok (.invokevirtual 336, 3) := by decide +kernel
theorem dX4_tryFound_32 : decode cX4_tryFound 32 = .ok (.aload_n 0, 1) := by decide +kernel
theorem dX4_tryFound_33 : decode cX4_tryFound 33 = .ok (.getfield 10, 3) := by decide +kernel
theorem dX4_tryFound_36 : decode cX4_tryFound 36 = .ok (.getfield 150, 3) := by decide +kernel
theorem dX4_tryFound_39 : decode cX4_tryFound 39 = .ok (.iconst 1, 1) := by decide +kernel
theorem dX4_tryFound_40 : decode cX4_tryFound 40 = .ok (.isub, 1) := by decide +kernel
theorem dX4_tryFound_41 : decode cX4_tryFound 41 = .ok (.ireturn, 1) := by decide +kernel
theorem dX4_tryBorn_0 : decode cX4_tryBorn 0 = .ok (.aload_n 0, 1) := by decide +kernel
theorem dX4_tryBorn_1 : decode cX4_tryBorn 1 = .ok (.getfield 10, 3) := by decide +kernel
theorem dX4_tryBorn_4 : decode cX4_tryBorn 4 = .ok (.iload_n 1, 1) := by decide +kernel
theorem dX4_tryBorn_5 : decode cX4_tryBorn 5 = .ok (.invokevirtual 104, 3) := by decide +kernel
theorem dX4_tryBorn_8 : decode cX4_tryBorn 8 = .ok (.ifCond .ne 10, 3) := by decide +kernel
theorem dX4_tryBorn_11 : decode cX4_tryBorn 11 = .ok (.aload_n 0, 1) := by decide +kernel
theorem dX4_tryBorn_12 : decode cX4_tryBorn 12 = .ok (.iconst 2, 1) := by decide +kernel
theorem dX4_tryBorn_13 : decode cX4_tryBorn 13 = .ok (.iload_n 1, 1) := by decide +kernel
theorem dX4_tryBorn_14 : decode cX4_tryBorn 14 = .ok (.invokevirtual 369, 3) := by decide +kernel
theorem dX4_tryBorn_17 : decode cX4_tryBorn 17 = .ok (.ireturn, 1) := by decide +kernel
theorem dX4_tryBorn_18 : decode cX4_tryBorn 18 = .ok (.aload_n 0, 1) := by decide +kernel
theorem dX4_tryBorn_19 : decode cX4_tryBorn 19 = .ok (.getfield 10, 3) := by decide +kernel
theorem dX4_tryBorn_22 : decode cX4_tryBorn 22 = .ok (.getfield 150, 3) := by decide +kernel
theorem dX4_tryBorn_25 : decode cX4_tryBorn 25 = .ok (.bipush 24, 2) := by decide +kernel
theorem dX4_tryBorn_27 : decode cX4_tryBorn 27 = .ok (.if_icmp .lt 11, 3) := by decide +kernel
theorem dX4_tryBorn_30 : decode cX4_tryBorn 30 = .ok (.aload_n 0, 1) := by decide +kernel
theorem dX4_tryBorn_31 : decode cX4_tryBorn 31 = .ok (.iconst 1, 1) := by decide +kernel
theorem dX4_tryBorn_32 : decode cX4_tryBorn 32 = .ok (.bipush 24, 2) := by decide +kernel
theorem dX4_tryBorn_34 : decode cX4_tryBorn 34 = .ok (.invokevirtual 369, 3) := by decide +kernel
theorem dX4_tryBorn_37 : decode cX4_tryBorn 37 = .ok (.ireturn, 1) := by decide +kernel
theorem dX4_tryBorn_38 : decode cX4_tryBorn 38 = .ok (.aload_n 0, 1) := by decide +kernel
theorem dX4_tryBorn_39 : decode cX4_tryBorn 39 = .ok (.getfield 10, 3) := by decide +kernel
theorem dX4_tryBorn_42 : decode cX4_tryBorn 42 = .ok (.iload_n 1, 1) := by decide +kernel
theorem dX4_tryBorn_43 : decode cX4_tryBorn 43 = .ok (.invokevirtual 372, 3) := by decide +kernel
theorem dX4_tryBorn_46 : decode cX4_tryBorn 46 = .ok (.aload_n 0, 1) := by decide +kernel
theorem dX4_tryBorn_47 : decode cX4_tryBorn 47 = .ok (.invokevirtual 336, 3) := by decide +kernel
theorem dX4_tryBorn_50 : decode cX4_tryBorn 50 = .ok (.aload_n 0, 1) := by decide +kernel
theorem dX4_tryBorn_51 : decode cX4_tryBorn 51 = .ok (.getfield 10, 3) := by decide +kernel
theorem dX4_tryBorn_54 : decode cX4_tryBorn 54 = .ok (.getfield 150, 3) := by decide +kernel
theorem dX4_tryBorn_57 : decode cX4_tryBorn 57 = .ok (.iconst 1, 1) := by decide +kernel
theorem dX4_tryBorn_58 : decode cX4_tryBorn 58 = .ok (.isub, 1) := by decide +kernel
theorem dX4_tryBorn_59 : decode cX4_tryBorn 59 = .ok (.ireturn, 1) := by decide +kernel
theorem dX4_tryGraft_0 : decode cX4_tryGraft 0 = .ok (.aload_n 0, 1) := by decide +kernel
theorem dX4_tryGraft_1 : decode cX4_tryGraft 1 = .ok (.getfield 10, 3) := by decide +kernel
theorem dX4_tryGraft_4 : decode cX4_tryGraft 4 = .ok (.iload_n 1, 1) := by decide +kernel
theorem dX4_tryGraft_5 : decode cX4_tryGraft 5 = .ok (.invokevirtual 86, 3) := by decide +kernel
theorem dX4_tryGraft_8 : decode cX4_tryGraft 8 = .ok (.iconst (-1), 1) := by decide +kernel
theorem dX4_tryGraft_9 : decode cX4_tryGraft 9 = .ok (.if_icmp .eq 17, 3) := by decide +kernel
theorem dX4_tryGraft_12 : decode cX4_tryGraft 12 = .ok (.aload_n 0, 1) := by decide +kernel
theorem dX4_tryGraft_13 : decode cX4_tryGraft 13 = .ok (.iconst 3, 1) := by decide +kernel
theorem dX4_tryGraft_14 : decode cX4_tryGraft 14 = .ok (.aload_n 0, 1) := by decide +kernel
theorem dX4_tryGraft_15 : decode cX4_tryGraft 15 = .ok (.getfield 10, 3) := by decide +kernel
theorem dX4_tryGraft_18 : decode cX4_tryGraft 18 = .ok (.iload_n 1, 1) := by decide +kernel
theorem dX4_tryGraft_19 : decode cX4_tryGraft 19 = .ok (.invokevirtual 86, 3) := by decide +kernel
theorem dX4_tryGraft_22 : decode cX4_tryGraft 22 = .ok (.invokevirtual 369, 3) := by decide +kernel
theorem dX4_tryGraft_25 : decode cX4_tryGraft 25 = .ok (.ireturn, 1) := by decide +kernel
theorem dX4_tryGraft_26 : decode cX4_tryGraft 26 = .ok (.aload_n 0, 1) := by decide +kernel
theorem dX4_tryGraft_27 : decode cX4_tryGraft 27 = .ok (.iload_n 1, 1) := by decide +kernel
theorem dX4_tryGraft_28 : decode cX4_tryGraft 28 = .ok (.iload_n 2, 1) := by decide +kernel
theorem dX4_tryGraft_29 : decode cX4_tryGraft 29 = .ok (.invokevirtual 153, 3) := by decide +kernel
theorem dX4_tryGraft_32 : decode cX4_tryGraft 32 = .ok (.ifCond .eq 10, 3) := by decide +kernel
theorem dX4_tryGraft_35 : decode cX4_tryGraft 35 = .ok (.aload_n 0, 1) := by decide +kernel
theorem dX4_tryGraft_36 : decode cX4_tryGraft 36 = .ok (.iconst 4, 1) := by decide +kernel
theorem dX4_tryGraft_37 : decode cX4_tryGraft 37 = .ok (.iload_n 1, 1) := by decide +kernel
theorem dX4_tryGraft_38 : decode cX4_tryGraft 38 = .ok (.invokevirtual 369, 3) := by decide +kernel
theorem dX4_tryGraft_41 : decode cX4_tryGraft 41 = .ok (.ireturn, 1) := by decide +kernel
theorem dX4_tryGraft_42 : decode cX4_tryGraft 42 = .ok (.aload_n 0, 1) := by decide +kernel
theorem dX4_tryGraft_43 : decode cX4_tryGraft 43 = .ok (.getfield 10, 3) := by decide +kernel
theorem dX4_tryGraft_46 : decode cX4_tryGraft 46 = .ok (.iload_n 1, 1) := by decide +kernel
theorem dX4_tryGraft_47 : decode cX4_tryGraft 47 = .ok (.iload_n 2, 1) := by decide +kernel
theorem dX4_tryGraft_48 : decode cX4_tryGraft 48 = .ok (.invokevirtual 374, 3) := by decide +kernel
theorem dX4_tryGraft_51 : decode cX4_tryGraft 51 = .ok (.aload_n 0, 1) := by decide +kernel
theorem dX4_tryGraft_52 : decode cX4_tryGraft 52 = .ok (.invokevirtual 336, 3) := by decide +kernel
theorem dX4_tryGraft_55 : decode cX4_tryGraft 55 = .ok (.aload_n 0, 1) := by decide +kernel
theorem dX4_tryGraft_56 : decode cX4_tryGraft 56 = .ok (.invokevirtual 377, 3) := by decide +kernel
theorem dX4_tryGraft_59 : decode cX4_tryGraft 59 = .ok (.pop, 1) := by decide +kernel
theorem dX4_tryGraft_60 : decode cX4_tryGraft 60 = .ok (.aload_n 0, 1) := by decide +kernel
theorem dX4_tryGraft_61 : decode cX4_tryGraft 61 = .ok (.getfield 10, 3) := by decide +kernel
theorem dX4_tryGraft_64 : decode cX4_tryGraft 64 = .ok (.invokevirtual 268, 3) := by decide +kernel
theorem dX4_tryGraft_67 : decode cX4_tryGraft 67 = .ok (.ireturn, 1) := by decide +kernel
theorem dX4_tryCut_0 : decode cX4_tryCut 0 = .ok (.aload_n 0, 1) := by decide +kernel
theorem dX4_tryCut_1 : decode cX4_tryCut 1 = .ok (.getfield 10, 3) := by decide +kernel
theorem dX4_tryCut_4 : decode cX4_tryCut 4 = .ok (.iload_n 1, 1) := by decide +kernel
theorem dX4_tryCut_5 : decode cX4_tryCut 5 = .ok (.invokevirtual 86, 3) := by decide +kernel
theorem dX4_tryCut_8 : decode cX4_tryCut 8 = .ok (.iconst (-1), 1) := by decide +kernel
theorem dX4_tryCut_9 : decode cX4_tryCut 9 = .ok (.if_icmp .ne 10, 3) := by decide +kernel
theorem dX4_tryCut_12 : decode cX4_tryCut 12 = .ok (.aload_n 0, 1) := by decide +kernel
theorem dX4_tryCut_13 : decode cX4_tryCut 13 = .ok (.iconst 5, 1) := by decide +kernel
theorem dX4_tryCut_14 : decode cX4_tryCut 14 = .ok (.iload_n 1, 1) := by decide +kernel
theorem dX4_tryCut_15 : decode cX4_tryCut 15 = .ok (.invokevirtual 369, 3) := by decide +kernel
theorem dX4_tryCut_18 : decode cX4_tryCut 18 = .ok (.ireturn, 1) := by decide +kernel
theorem dX4_tryCut_19 : decode cX4_tryCut 19 = .ok (.aload_n 0, 1) := by decide +kernel
theorem dX4_tryCut_20 : decode cX4_tryCut 20 = .ok (.getfield 10, 3) := by decide +kernel
theorem dX4_tryCut_23 : decode cX4_tryCut 23 = .ok (.iload_n 1, 1) := by decide +kernel
theorem dX4_tryCut_24 : decode cX4_tryCut 24 = .ok (.iconst (-1), 1) := by decide +kernel
theorem dX4_tryCut_25 : decode cX4_tryCut 25 = .ok (.invokevirtual 374, 3) := by decide +kernel
theorem dX4_tryCut_28 : decode cX4_tryCut 28 = .ok (.aload_n 0, 1) := by decide +kernel
theorem dX4_tryCut_29 : decode cX4_tryCut 29 = .ok (.invokevirtual 336, 3) := by decide +kernel
theorem dX4_tryCut_32 : decode cX4_tryCut 32 = .ok (.aload_n 0, 1) := by decide +kernel
theorem dX4_tryCut_33 : decode cX4_tryCut 33 = .ok (.getfield 10, 3) := by decide +kernel
theorem dX4_tryCut_36 : decode cX4_tryCut 36 = .ok (.invokevirtual 268, 3) := by decide +kernel
theorem dX4_tryCut_39 : decode cX4_tryCut 39 = .ok (.ireturn, 1) := by decide +kernel
theorem dX4_tryMarry_0 : decode cX4_tryMarry 0 = .ok (.aload_n 0, 1) := by decide +kernel
theorem dX4_tryMarry_1 : decode cX4_tryMarry 1 = .ok (.iload_n 1, 1) := by decide +kernel
theorem dX4_tryMarry_2 : decode cX4_tryMarry 2 = .ok (.iload_n 2, 1) := by decide +kernel
theorem dX4_tryMarry_3 : decode cX4_tryMarry 3 = .ok (.invokevirtual 174, 3) := by decide +kernel
theorem dX4_tryMarry_6 : decode cX4_tryMarry 6 = .ok (.istore_n 3, 1) := by decide +kernel
theorem dX4_tryMarry_7 : decode cX4_tryMarry 7 = .ok (.iload_n 3, 1) := by decide +kernel
theorem dX4_tryMarry_8 : decode cX4_tryMarry 8 = .ok (.iconst 2, 1) := by decide +kernel
theorem dX4_tryMarry_9 : decode cX4_tryMarry 9 = .ok (.if_icmp .ne 15, 3) := by decide +kernel
theorem dX4_tryMarry_12 : decode cX4_tryMarry 12 = .ok (.aload_n 0, 1) := by decide +kernel
theorem dX4_tryMarry_13 : decode cX4_tryMarry 13 = .ok (.iconst 2, 1) := by decide +kernel
theorem dX4_tryMarry_14 : decode cX4_tryMarry 14 = .ok (.aload_n 0, 1) := by decide +kernel
theorem dX4_tryMarry_15 : decode cX4_tryMarry 15 = .ok (.iload_n 1, 1) := by decide +kernel
theorem dX4_tryMarry_16 : decode cX4_tryMarry 16 = .ok (.iload_n 2, 1) := by decide +kernel
theorem dX4_tryMarry_17 : decode cX4_tryMarry 17 = .ok (.invokevirtual 380, 3) := by decide +kernel
theorem dX4_tryMarry_20 : decode cX4_tryMarry 20 = .ok (.invokevirtual 369, 3) := by decide +kernel
theorem dX4_tryMarry_23 : decode cX4_tryMarry 23 = .ok (.ireturn, 1) := by decide +kernel
theorem dX4_tryMarry_24 : decode cX4_tryMarry 24 = .ok (.iload_n 3, 1) := by decide +kernel
theorem dX4_tryMarry_25 : decode cX4_tryMarry 25 = .ok (.bipush 6, 2) := by decide +kernel
theorem dX4_tryMarry_27 : decode cX4_tryMarry 27 = .ok (.if_icmp .ne 16, 3) := by decide +kernel
theorem dX4_tryMarry_30 : decode cX4_tryMarry 30 = .ok (.aload_n 0, 1) := by decide +kernel
theorem dX4_tryMarry_31 : decode cX4_tryMarry 31 = .ok (.bipush 6, 2) := by decide +kernel
theorem dX4_tryMarry_33 : decode cX4_tryMarry 33 = .ok (.aload_n 0, 1) := by decide +kernel
theorem dX4_tryMarry_34 : decode cX4_tryMarry 34 = .ok (.iload_n 1, 1) := by decide +kernel
theorem dX4_tryMarry_35 : decode cX4_tryMarry 35 = .ok (.iload_n 2, 1) := by decide +kernel
theorem dX4_tryMarry_36 : decode cX4_tryMarry 36 = .ok (.invokevirtual 383, 3) := by decide +kernel
theorem dX4_tryMarry_39 : decode cX4_tryMarry 39 = .ok (.invokevirtual 369, 3) := by decide +kernel
theorem dX4_tryMarry_42 : decode cX4_tryMarry 42 = .ok (.ireturn, 1) := by decide +kernel
theorem dX4_tryMarry_43 : decode cX4_tryMarry 43 = .ok (.iload_n 3, 1) := by decide +kernel
theorem dX4_tryMarry_44 : decode cX4_tryMarry 44 = .ok (.bipush 7, 2) := by decide +kernel
theorem dX4_tryMarry_46 : decode cX4_tryMarry 46 = .ok (.if_icmp .ne 16, 3) := by decide +kernel
theorem dX4_tryMarry_49 : decode cX4_tryMarry 49 = .ok (.aload_n 0, 1) := by decide +kernel
theorem dX4_tryMarry_50 : decode cX4_tryMarry 50 = .ok (.bipush 7, 2) := by decide +kernel
theorem dX4_tryMarry_52 : decode cX4_tryMarry 52 = .ok (.aload_n 0, 1) := by decide +kernel
theorem dX4_tryMarry_53 : decode cX4_tryMarry 53 = .ok (.iload_n 1, 1) := by decide +kernel
theorem dX4_tryMarry_54 : decode cX4_tryMarry 54 = .ok (.iload_n 2, 1) := by decide +kernel
theorem dX4_tryMarry_55 : decode cX4_tryMarry 55 = .ok (.invokevirtual 144, 3) := by decide +kernel
theorem dX4_tryMarry_58 : decode cX4_tryMarry 58 = .ok (.invokevirtual 369, 3) := by decide +kernel
theorem dX4_tryMarry_61 : decode cX4_tryMarry 61 = .ok (.ireturn, 1) := by decide +kernel
theorem dX4_tryMarry_62 : decode cX4_tryMarry 62 = .ok (.aload_n 0, 1) := by decide +kernel
theorem dX4_tryMarry_63 : decode cX4_tryMarry 63 = .ok (.getfield 10, 3) := by decide +kernel
theorem dX4_tryMarry_66 : decode cX4_tryMarry 66 = .ok (.iload_n 1, 1) := by decide +kernel
theorem dX4_tryMarry_67 : decode cX4_tryMarry 67 = .ok (.iload_n 2, 1) := by decide +kernel
theorem dX4_tryMarry_68 : decode cX4_tryMarry 68 = .ok (.invokevirtual 386, 3) := by decide +kernel
theorem dX4_tryMarry_71 : decode cX4_tryMarry 71 = .ok (.aload_n 0, 1) := by decide +kernel
theorem dX4_tryMarry_72 : decode cX4_tryMarry 72 = .ok (.getfield 10, 3) := by decide +kernel
theorem dX4_tryMarry_75 : decode cX4_tryMarry 75 = .ok (.iload_n 2, 1) := by decide +kernel
theorem dX4_tryMarry_76 : decode cX4_tryMarry 76 = .ok (.iload_n 1, 1) := by decide +kernel
theorem dX4_tryMarry_77 : decode cX4_tryMarry 77 = .ok (.invokevirtual 386, 3) := by decide +kernel
theorem dX4_tryMarry_80 : decode cX4_tryMarry 80 = .ok (.aload_n 0, 1) := by decide +kernel
theorem dX4_tryMarry_81 : decode cX4_tryMarry 81 = .ok (.invokevirtual 336, 3) := by decide +kernel
theorem dX4_tryMarry_84 : decode cX4_tryMarry 84 = .ok (.aload_n 0, 1) := by decide +kernel
theorem dX4_tryMarry_85 : decode cX4_tryMarry 85 = .ok (.invokevirtual 377, 3) := by decide +kernel
theorem dX4_tryMarry_88 : decode cX4_tryMarry 88 = .ok (.ireturn, 1) := by decide +kernel
theorem dX4_tryPart_0 : decode cX4_tryPart 0 = .ok (.aload_n 0, 1) := by decide +kernel
theorem dX4_tryPart_1 : decode cX4_tryPart 1 = .ok (.getfield 10, 3) := by decide +kernel
theorem dX4_tryPart_4 : decode cX4_tryPart 4 = .ok (.iload_n 1, 1) := by decide +kernel
theorem dX4_tryPart_5 : decode cX4_tryPart 5 = .ok (.invokevirtual 98, 3) := by decide +kernel
theorem dX4_tryPart_8 : decode cX4_tryPart 8 = .ok (.istore_n 2, 1) := by decide +kernel
theorem dX4_tryPart_9 : decode cX4_tryPart 9 = .ok (.iload_n 2, 1) := by decide +kernel
theorem dX4_tryPart_10 : decode cX4_tryPart 10 = .ok (.iconst (-1), 1) := by decide +kernel
theorem dX4_tryPart_11 : decode cX4_tryPart 11 = .ok (.if_icmp .ne 11, 3) := by decide +kernel
theorem dX4_tryPart_14 : decode cX4_tryPart 14 = .ok (.aload_n 0, 1) := by decide +kernel
theorem dX4_tryPart_15 : decode cX4_tryPart 15 = .ok (.bipush 8, 2) := by decide +kernel
theorem dX4_tryPart_17 : decode cX4_tryPart 17 = .ok (.iload_n 1, 1) := by decide +kernel
theorem dX4_tryPart_18 : decode cX4_tryPart 18 = .ok (.invokevirtual 369, 3) := by decide +kernel
theorem dX4_tryPart_21 : decode cX4_tryPart 21 = .ok (.ireturn, 1) := by decide +kernel
theorem dX4_tryPart_22 : decode cX4_tryPart 22 = .ok (.aload_n 0, 1) := by decide +kernel
theorem dX4_tryPart_23 : decode cX4_tryPart 23 = .ok (.getfield 10, 3) := by decide +kernel
theorem dX4_tryPart_26 : decode cX4_tryPart 26 = .ok (.iload_n 1, 1) := by decide +kernel
theorem dX4_tryPart_27 : decode cX4_tryPart 27 = .ok (.invokevirtual 389, 3) := by decide +kernel
theorem dX4_tryPart_30 : decode cX4_tryPart 30 = .ok (.aload_n 0, 1) := by decide +kernel
theorem dX4_tryPart_31 : decode cX4_tryPart 31 = .ok (.invokevirtual 336, 3) := by decide +kernel
theorem dX4_tryPart_34 : decode cX4_tryPart 34 = .ok (.iload_n 2, 1) := by decide +kernel
theorem dX4_tryPart_35 : decode cX4_tryPart 35 = .ok (.ireturn, 1) := by decide +kernel
theorem dX4_tryQuarrel_0 : decode cX4_tryQuarrel 0 = .ok (.aload_n 0, 1) := by decide +kernel
theorem dX4_tryQuarrel_1 : decode cX4_tryQuarrel 1 = .ok (.getfield 10, 3) := by decide +kernel
theorem dX4_tryQuarrel_4 : decode cX4_tryQuarrel 4 = .ok (.iload_n 1, 1) := by decide +kernel
theorem dX4_tryQuarrel_5 : decode cX4_tryQuarrel 5 = .ok (.invokevirtual 104, 3) := by decide +kernel
theorem dX4_tryQuarrel_8 : decode cX4_tryQuarrel 8 = .ok (.ifCond .eq 14, 3) := by decide +kernel
theorem dX4_tryQuarrel_11 : decode cX4_tryQuarrel 11 = .ok (.aload_n 0, 1) := by decide +kernel
theorem dX4_tryQuarrel_12 : decode cX4_tryQuarrel 12 = .ok (.getfield 10, 3) := by decide +kernel
theorem dX4_tryQuarrel_15 : decode cX4_tryQuarrel 15 = .ok (.iload_n 2, 1) := by decide +kernel
theorem dX4_tryQuarrel_16 : decode cX4_tryQuarrel 16 = .ok (.invokevirtual 104, 3) := by decide +kernel
theorem dX4_tryQuarrel_19 : decode cX4_tryQuarrel 19 = .ok (.ifCond .ne 15, 3) := by decide +kernel
theorem dX4_tryQuarrel_22 : decode cX4_tryQuarrel 22 = .ok (.aload_n 0, 1) := by decide +kernel
theorem dX4_tryQuarrel_23 : decode cX4_tryQuarrel 23 = .ok (.iconst 2, 1) := by decide +kernel
theorem dX4_tryQuarrel_24 : decode cX4_tryQuarrel 24 = .ok (.aload_n 0, 1) := by decide +kernel
theorem dX4_tryQuarrel_25 : decode cX4_tryQuarrel 25 = .ok (.iload_n 1, 1) := by decide +kernel
theorem dX4_tryQuarrel_26 : decode cX4_tryQuarrel 26 = .ok (.iload_n 2, 1) := by decide +kernel
theorem dX4_tryQuarrel_27 : decode cX4_tryQuarrel 27 = .ok (.invokevirtual 380, 3) := by decide +kernel
theorem dX4_tryQuarrel_30 : decode cX4_tryQuarrel 30 = .ok (.invokevirtual 369, 3) := by decide +kernel
theorem dX4_tryQuarrel_33 : decode cX4_tryQuarrel 33 = .ok (.ireturn, 1) := by decide +kernel
theorem dX4_tryQuarrel_34 : decode cX4_tryQuarrel 34 = .ok (.aload_n 0, 1) := by decide +kernel
theorem dX4_tryQuarrel_35 : decode cX4_tryQuarrel 35 = .ok (.getfield 44, 3) := by decide +kernel
theorem dX4_tryQuarrel_38 : decode cX4_tryQuarrel 38 = .ok (.iload_n 1, 1) := by decide +kernel
theorem dX4_tryQuarrel_39 : decode cX4_tryQuarrel 39 = .ok (.iload_n 2, 1) := by decide +kernel
theorem dX4_tryQuarrel_40 : decode cX4_tryQuarrel 40 = .ok (.invokevirtual 392, 3) := by decide +kernel
theorem dX4_tryQuarrel_43 : decode cX4_tryQuarrel 43 = .ok (.ifCond .eq 18, 3) := by decide +kernel
theorem dX4_tryQuarrel_46 : decode cX4_tryQuarrel 46 = .ok (.aload_n 0, 1) := by decide +kernel
theorem dX4_tryQuarrel_47 : decode cX4_tryQuarrel 47 = .ok (.bipush 9, 2) := by decide +kernel
theorem dX4_tryQuarrel_49 : decode cX4_tryQuarrel 49 = .ok (.aload_n 0, 1) := by decide +kernel
theorem dX4_tryQuarrel_50 : decode cX4_tryQuarrel 50 = .ok (.getfield 44, 3) := by decide +kernel
theorem dX4_tryQuarrel_53 : decode cX4_tryQuarrel 53 = .ok (.iload_n 1, 1) := by decide +kernel
theorem dX4_tryQuarrel_54 : decode cX4_tryQuarrel 54 = .ok (.invokevirtual 111, 3) := by decide +kernel
theorem dX4_tryQuarrel_57 : decode cX4_tryQuarrel 57 = .ok (.invokevirtual 369, 3) := by decide +kernel
theorem dX4_tryQuarrel_60 : decode cX4_tryQuarrel 60 = .ok (.ireturn, 1) := by decide +kernel
theorem dX4_tryQuarrel_61 : decode cX4_tryQuarrel 61 = .ok (.aload_n 0, 1) := by decide +kernel
theorem dX4_tryQuarrel_62 : decode cX4_tryQuarrel 62 = .ok (.getfield 10, 3) := by decide +kernel
theorem dX4_tryQuarrel_65 : decode cX4_tryQuarrel 65 = .ok (.iload_n 1, 1) := by decide +kernel
theorem dX4_tryQuarrel_66 : decode cX4_tryQuarrel 66 = .ok (.iload_n 2, 1) := by decide +kernel
theorem dX4_tryQuarrel_67 : decode cX4_tryQuarrel 67 = .ok (.invokevirtual 395, 3) := by decide +kernel
theorem dX4_tryQuarrel_70 : decode cX4_tryQuarrel 70 = .ok (.ifCond .eq 17, 3) := by decide +kernel
theorem dX4_tryQuarrel_73 : decode cX4_tryQuarrel 73 = .ok (.aload_n 0, 1) := by decide +kernel
theorem dX4_tryQuarrel_74 : decode cX4_tryQuarrel 74 = .ok (.bipush 10, 2) := by decide +kernel
theorem dX4_tryQuarrel_76 : decode cX4_tryQuarrel 76 = .ok (.aload_n 0, 1) := by decide +kernel
theorem dX4_tryQuarrel_77 : decode cX4_tryQuarrel 77 = .ok (.getfield 10, 3) := by decide +kernel
theorem dX4_tryQuarrel_80 : decode cX4_tryQuarrel 80 = .ok (.getfield 165, 3) := by decide +kernel
theorem dX4_tryQuarrel_83 : decode cX4_tryQuarrel 83 = .ok (.invokevirtual 369, 3) := by decide +kernel
theorem dX4_tryQuarrel_86 : decode cX4_tryQuarrel 86 = .ok (.ireturn, 1) := by decide +kernel
theorem dX4_tryQuarrel_87 : decode cX4_tryQuarrel 87 = .ok (.aload_n 0, 1) := by decide +kernel
theorem dX4_tryQuarrel_88 : decode cX4_tryQuarrel 88 = .ok (.getfield 10, 3) := by decide +kernel
theorem dX4_tryQuarrel_91 : decode cX4_tryQuarrel 91 = .ok (.getfield 165, 3) := by decide +kernel
theorem dX4_tryQuarrel_94 : decode cX4_tryQuarrel 94 = .ok (.bipush 20, 2) := by decide +kernel
theorem dX4_tryQuarrel_96 : decode cX4_tryQuarrel 96 = .ok (.if_icmp .lt 11, 3) := by decide +kernel
theorem dX4_tryQuarrel_99 : decode cX4_tryQuarrel 99 = .ok (.aload_n 0, 1) := by decide +kernel
theorem dX4_tryQuarrel_100 : decode cX4_tryQuarrel 100 = .ok (.iconst 1, 1) := by decide +kernel
theorem dX4_tryQuarrel_101 : decode cX4_tryQuarrel 101 = .ok (.bipush 20, 2) := by decide +kernel
theorem dX4_tryQuarrel_103 : decode cX4_tryQuarrel 103 = .ok (.invokevirtual 369, 3) := by decide +kernel
theorem dX4_tryQuarrel_106 : decode cX4_tryQuarrel 106 = .ok (.ireturn, 1) := by decide +kernel
theorem dX4_tryQuarrel_107 : decode cX4_tryQuarrel 107 = .ok (.aload_n 0, 1) := by decide +kernel
theorem dX4_tryQuarrel_108 : decode cX4_tryQuarrel 108 = .ok (.getfield 10, 3) := by decide +kernel
theorem dX4_tryQuarrel_111 : decode cX4_tryQuarrel 111 = .ok (.iload_n 1, 1) := by decide +kernel
theorem dX4_tryQuarrel_112 : decode cX4_tryQuarrel 112 = .ok (.iload_n 2, 1) := by decide +kernel
theorem dX4_tryQuarrel_113 : decode cX4_tryQuarrel 113 = .ok (.invokevirtual 398, 3) := by decide +kernel
theorem dX4_tryQuarrel_116 : decode cX4_tryQuarrel 116 = .ok (.aload_n 0, 1) := by decide +kernel
theorem dX4_tryQuarrel_117 : decode cX4_tryQuarrel 117 = .ok (.getfield 10, 3) := by decide +kernel
theorem dX4_tryQuarrel_120 : decode cX4_tryQuarrel 120 = .ok (.getfield 165, 3) := by decide +kernel
theorem dX4_tryQuarrel_123 : decode cX4_tryQuarrel 123 = .ok (.ireturn, 1) := by decide +kernel
theorem dX4_tryGive_0 : decode cX4_tryGive 0 = .ok (.iload_n 2, 1) := by decide +kernel
theorem dX4_tryGive_1 : decode cX4_tryGive 1 = .ok (.iconst 1, 1) := by decide +kernel
theorem dX4_tryGive_2 : decode cX4_tryGive 2 = .ok (.if_icmp .lt 10, 3) := by decide +kernel
theorem dX4_tryGive_5 : decode cX4_tryGive 5 = .ok (.iload_n 2, 1) := by decide +kernel
theorem dX4_tryGive_6 : decode cX4_tryGive 6 = .ok (.sipush 999, 3) := by decide +kernel
theorem dX4_tryGive_9 : decode cX4_tryGive 9 = .ok (.if_icmp .le 6, 3) := by decide +kernel
theorem dX4_tryGive_12 : decode cX4_tryGive 12 = .ok (.bipush (-3), 2) := by decide +kernel
theorem dX4_tryGive_14 : decode cX4_tryGive 14 = .ok (.ireturn, 1) := by decide +kernel
theorem dX4_tryGive_15 : decode cX4_tryGive 15 = .ok (.aload_n 0, 1) := by decide +kernel
theorem dX4_tryGive_16 : decode cX4_tryGive 16 = .ok (.getfield 10, 3) := by decide +kernel
theorem dX4_tryGive_19 : decode cX4_tryGive 19 = .ok (.iload_n 1, 1) := by decide +kernel
theorem dX4_tryGive_20 : decode cX4_tryGive 20 = .ok (.invokevirtual 104, 3) := by decide +kernel
theorem dX4_tryGive_23 : decode cX4_tryGive 23 = .ok (.ifCond .ne 10, 3) := by decide +kernel
theorem dX4_tryGive_26 : decode cX4_tryGive 26 = .ok (.aload_n 0, 1) := by decide +kernel
theorem dX4_tryGive_27 : decode cX4_tryGive 27 = .ok (.iconst 2, 1) := by decide +kernel
theorem dX4_tryGive_28 : decode cX4_tryGive 28 = .ok (.iload_n 1, 1) := by decide +kernel
theorem dX4_tryGive_29 : decode cX4_tryGive 29 = .ok (.invokevirtual 369, 3) := by decide +kernel
theorem dX4_tryGive_32 : decode cX4_tryGive 32 = .ok (.ireturn, 1) := by decide +kernel
theorem dX4_tryGive_33 : decode cX4_tryGive 33 = .ok (.aload_n 0, 1) := by decide +kernel
theorem dX4_tryGive_34 : decode cX4_tryGive 34 = .ok (.getfield 10, 3) := by decide +kernel
theorem dX4_tryGive_37 : decode cX4_tryGive 37 = .ok (.iload_n 1, 1) := by decide +kernel
theorem dX4_tryGive_38 : decode cX4_tryGive 38 = .ok (.iload_n 2, 1) := by decide +kernel
theorem dX4_tryGive_39 : decode cX4_tryGive 39 = .ok (.invokevirtual 401, 3) := by decide +kernel
theorem dX4_tryGive_42 : decode cX4_tryGive 42 = .ok (.aload_n 0, 1) := by decide +kernel
theorem dX4_tryGive_43 : decode cX4_tryGive 43 = .ok (.getfield 10, 3) := by decide +kernel
theorem dX4_tryGive_46 : decode cX4_tryGive 46 = .ok (.dup, 1) := by decide +kernel
theorem dX4_tryGive_47 : decode cX4_tryGive 47 = .ok (.getfield 283, 3) := by decide +kernel
theorem dX4_tryGive_50 : decode cX4_tryGive 50 = .ok (.iload_n 2, 1) := by decide +kernel
theorem dX4_tryGive_51 : decode cX4_tryGive 51 = .ok (.iadd, 1) := by decide +kernel
theorem dX4_tryGive_52 : decode cX4_tryGive 52 = .ok (.putfield 283, 3) := by decide +kernel
theorem dX4_tryGive_55 : decode cX4_tryGive 55 = .ok (.aload_n 0, 1) := by decide +kernel
theorem dX4_tryGive_56 : decode cX4_tryGive 56 = .ok (.getfield 10, 3) := by decide +kernel
theorem dX4_tryGive_59 : decode cX4_tryGive 59 = .ok (.iload_n 1, 1) := by decide +kernel
theorem dX4_tryGive_60 : decode cX4_tryGive 60 = .ok (.invokevirtual 101, 3) := by decide +kernel
theorem dX4_tryGive_63 : decode cX4_tryGive 63 = .ok (.ireturn, 1) := by decide +kernel
theorem dX4_tryDie_0 : decode cX4_tryDie 0 = .ok (.aload_n 0, 1) := by decide +kernel
theorem dX4_tryDie_1 : decode cX4_tryDie 1 = .ok (.getfield 10, 3) := by decide +kernel
theorem dX4_tryDie_4 : decode cX4_tryDie 4 = .ok (.iload_n 1, 1) := by decide +kernel
theorem dX4_tryDie_5 : decode cX4_tryDie 5 = .ok (.invokevirtual 104, 3) := by decide +kernel
theorem dX4_tryDie_8 : decode cX4_tryDie 8 = .ok (.ifCond .ne 10, 3) := by decide +kernel
theorem dX4_tryDie_11 : decode cX4_tryDie 11 = .ok (.aload_n 0, 1) := by decide +kernel
theorem dX4_tryDie_12 : decode cX4_tryDie 12 = .ok (.iconst 2, 1) := by decide +kernel
theorem dX4_tryDie_13 : decode cX4_tryDie 13 = .ok (.iload_n 1, 1) := by decide +kernel
theorem dX4_tryDie_14 : decode cX4_tryDie 14 = .ok (.invokevirtual 369, 3) := by decide +kernel
theorem dX4_tryDie_17 : decode cX4_tryDie 17 = .ok (.ireturn, 1) := by decide +kernel
theorem dX4_tryDie_18 : decode cX4_tryDie 18 = .ok (.aload_n 0, 1) := by decide +kernel
theorem dX4_tryDie_19 : decode cX4_tryDie 19 = .ok (.getfield 10, 3) := by decide +kernel
theorem dX4_tryDie_22 : decode cX4_tryDie 22 = .ok (.iload_n 1, 1) := by decide +kernel
theorem dX4_tryDie_23 : decode cX4_tryDie 23 = .ok (.invokevirtual 194, 3) := by decide +kernel
theorem dX4_tryDie_26 : decode cX4_tryDie 26 = .ok (.istore_n 2, 1) := by decide +kernel
theorem dX4_tryDie_27 : decode cX4_tryDie 27 = .ok (.aload_n 0, 1) := by decide +kernel
theorem dX4_tryDie_28 : decode cX4_tryDie 28 = .ok (.getfield 10, 3) := by decide +kernel
theorem dX4_tryDie_31 : decode cX4_tryDie 31 = .ok (.iload_n 1, 1) := by decide +kernel
theorem dX4_tryDie_32 : decode cX4_tryDie 32 = .ok (.iload_n 2, 1) := by decide +kernel
theorem dX4_tryDie_33 : decode cX4_tryDie 33 = .ok (.invokevirtual 404, 3) := by decide +kernel
theorem dX4_tryDie_36 : decode cX4_tryDie 36 = .ok (.aload_n 0, 1) := by decide +kernel
theorem dX4_tryDie_37 : decode cX4_tryDie 37 = .ok (.getfield 10, 3) := by decide +kernel
theorem dX4_tryDie_40 : decode cX4_tryDie 40 = .ok (.iload_n 1, 1) := by decide +kernel
theorem dX4_tryDie_41 : decode cX4_tryDie 41 = .ok (.invokevirtual 389, 3) := by decide +kernel
theorem dX4_tryDie_44 : decode cX4_tryDie 44 = .ok (.aload_n 0, 1) := by decide +kernel
theorem dX4_tryDie_45 : decode cX4_tryDie 45 = .ok (.getfield 10, 3) := by decide +kernel
theorem dX4_tryDie_48 : decode cX4_tryDie 48 = .ok (.iload_n 1, 1) := by decide +kernel
theorem dX4_tryDie_49 : decode cX4_tryDie 49 = .ok (.invokevirtual 407, 3) := by decide +kernel
theorem dX4_tryDie_52 : decode cX4_tryDie 52 = .ok (.aload_n 0, 1) := by decide +kernel
theorem dX4_tryDie_53 : decode cX4_tryDie 53 = .ok (.invokevirtual 336, 3) := by decide +kernel
theorem dX4_tryDie_56 : decode cX4_tryDie 56 = .ok (.iload_n 2, 1) := by decide +kernel
theorem dX4_tryDie_57 : decode cX4_tryDie 57 = .ok (.ireturn, 1) := by decide +kernel
theorem dX4_isOneOak_0 : decode cX4_isOneOak 0 = .ok (.aload_n 0, 1) := by decide +kernel
theorem dX4_isOneOak_1 : decode cX4_isOneOak 1 = .ok (.getfield 10, 3) := by decide +kernel
theorem dX4_isOneOak_4 : decode cX4_isOneOak 4 = .ok (.iload_n 1, 1) := by decide +kernel
theorem dX4_isOneOak_5 : decode cX4_isOneOak 5 = .ok (.invokevirtual 108, 3) := by decide +kernel
theorem dX4_isOneOak_8 : decode cX4_isOneOak 8 = .ok (.aload_n 0, 1) := by decide +kernel
theorem dX4_isOneOak_9 : decode cX4_isOneOak 9 = .ok (.getfield 10, 3) := by decide +kernel
theorem dX4_isOneOak_12 : decode cX4_isOneOak 12 = .ok (.iload_n 2, 1) := by decide +kernel
theorem dX4_isOneOak_13 : decode cX4_isOneOak 13 = .ok (.invokevirtual 108, 3) := by decide +kernel
theorem dX4_isOneOak_16 : decode cX4_isOneOak 16 = .ok (.if_icmp .ne 7, 3) := by decide +kernel
theorem dX4_isOneOak_19 : decode cX4_isOneOak 19 = .ok (.iconst 1, 1) := by decide +kernel
theorem dX4_isOneOak_20 : decode cX4_isOneOak 20 = .ok (.goto 4, 3) := by decide +kernel
theorem dX4_isOneOak_23 : decode cX4_isOneOak 23 = .ok (.iconst 0, 1) := by decide +kernel
theorem dX4_isOneOak_24 : decode cX4_isOneOak 24 = .ok (.ireturn, 1) := by decide +kernel
theorem dX4_degreeBetween_0 : decode cX4_degreeBetween 0 = .ok (.aload_n 0, 1) := by decide +kernel
theorem dX4_degreeBetween_1 : decode cX4_degreeBetween 1 = .ok (.getfield 37, 3) := by decide +kernel
theorem dX4_degreeBetween_4 : decode cX4_degreeBetween 4 = .ok (.iload_n 1, 1) := by decide +kernel
theorem dX4_degreeBetween_5 : decode cX4_degreeBetween 5 = .ok (.iload_n 2, 1) := by decide +kernel
theorem dX4_degreeBetween_6 : decode cX4_degreeBetween 6 = .ok (.invokevirtual 141, 3) := by decide +kernel
theorem dX4_degreeBetween_9 : decode cX4_degreeBetween 9 = .ok (.istore_n 3, 1) := by decide +kernel
theorem dX4_degreeBetween_10 : decode cX4_degreeBetween 10 = .ok (.aload_n 0, 1) := by decide +kernel
theorem dX4_degreeBetween_11 : decode cX4_degreeBetween 11 = .ok (.getfield 10, 3) := by decide +kernel
theorem dX4_degreeBetween_14 : decode cX4_degreeBetween 14 = .ok (.iload_n 1, 1) := by decide +kernel
theorem dX4_degreeBetween_15 : decode cX4_degreeBetween 15 = .ok (.invokevirtual 89, 3) := by decide +kernel
theorem dX4_degreeBetween_18 : decode cX4_degreeBetween 18 = .ok (.aload_n 0, 1) := by decide +kernel
theorem dX4_degreeBetween_19 : decode cX4_degreeBetween 19 = .ok (.getfield 10, 3) := by decide +kernel
theorem dX4_degreeBetween_22 : decode cX4_degreeBetween 22 = .ok (.iload_n 2, 1) := by decide +kernel
theorem dX4_degreeBetween_23 : decode cX4_degreeBetween 23 = .ok (.invokevirtual 89, 3) := by decide +kernel
theorem dX4_degreeBetween_26 : decode cX4_degreeBetween 26 = .ok (.iadd, 1) := by decide +kernel
theorem dX4_degreeBetween_27 : decode cX4_degreeBetween 27 = .ok (.iconst 2, 1) := by decide +kernel
theorem dX4_degreeBetween_28 : decode cX4_degreeBetween 28 = .ok (.aload_n 0, 1) := by decide +kernel
theorem dX4_degreeBetween_29 : decode cX4_degreeBetween 29 = .ok (.getfield 10, 3) := by decide +kernel
theorem dX4_degreeBetween_32 : decode cX4_degreeBetween 32 = .ok (.iload_n 3, 1) := by decide +kernel
theorem dX4_degreeBetween_33 : decode cX4_degreeBetween 33 = .ok (.invokevirtual 89, 3) := by decide +kernel
theorem dX4_degreeBetween_36 : decode cX4_degreeBetween 36 = .ok (.imul, 1) := by decide +kernel
theorem dX4_degreeBetween_37 : decode cX4_degreeBetween 37 = .ok (.isub, 1) := by decide +kernel
theorem dX4_degreeBetween_38 : decode cX4_degreeBetween 38 = .ok (.ireturn, 1) := by decide +kernel
theorem dX4_whyNotMarry_0 : decode cX4_whyNotMarry 0 = .ok (.aload_n 0, 1) := by decide +kernel
theorem dX4_whyNotMarry_1 : decode cX4_whyNotMarry 1 = .ok (.getfield 10, 3) := by decide +kernel
theorem dX4_whyNotMarry_4 : decode cX4_whyNotMarry 4 = .ok (.iload_n 1, 1) := by decide +kernel
theorem dX4_whyNotMarry_5 : decode cX4_whyNotMarry 5 = .ok (.invokevirtual 104, 3) := by decide +kernel
theorem dX4_whyNotMarry_8 : decode cX4_whyNotMarry 8 = .ok (.ifCond .eq 14, 3) := by decide +kernel
theorem dX4_whyNotMarry_11 : decode cX4_whyNotMarry 11 = .ok (.aload_n 0, 1) := by decide +kernel
theorem dX4_whyNotMarry_12 : decode cX4_whyNotMarry 12 = .ok (.getfield 10, 3) := by decide +kernel
theorem dX4_whyNotMarry_15 : decode cX4_whyNotMarry 15 = .ok (.iload_n 2, 1) := by decide +kernel
theorem dX4_whyNotMarry_16 : decode cX4_whyNotMarry 16 = .ok (.invokevirtual 104, 3) := by decide +kernel
theorem dX4_whyNotMarry_19 : decode cX4_whyNotMarry 19 = .ok (.ifCond .ne 5, 3) := by decide +kernel
theorem dX4_whyNotMarry_22 : decode cX4_whyNotMarry 22 = .ok (.iconst 2, 1) := by decide +kernel
theorem dX4_whyNotMarry_23 : decode cX4_whyNotMarry 23 = .ok (.ireturn, 1) := by decide +kernel
theorem dX4_whyNotMarry_24 : decode cX4_whyNotMarry 24 = .ok (.aload_n 0, 1) := by decide +kernel
theorem dX4_whyNotMarry_25 : decode cX4_whyNotMarry 25 = .ok (.getfield 10, 3) := by decide +kernel
theorem dX4_whyNotMarry_28 : decode cX4_whyNotMarry 28 = .ok (.iload_n 1, 1) := by decide +kernel
theorem dX4_whyNotMarry_29 : decode cX4_whyNotMarry 29 = .ok (.invokevirtual 98, 3) := by decide +kernel
theorem dX4_whyNotMarry_32 : decode cX4_whyNotMarry 32 = .ok (.iconst (-1), 1) := by decide +kernel
theorem dX4_whyNotMarry_33 : decode cX4_whyNotMarry 33 = .ok (.if_icmp .ne 15, 3) := by decide +kernel
theorem dX4_whyNotMarry_36 : decode cX4_whyNotMarry 36 = .ok (.aload_n 0, 1) := by decide +kernel
theorem dX4_whyNotMarry_37 : decode cX4_whyNotMarry 37 = .ok (.getfield 10, 3) := by decide +kernel
theorem dX4_whyNotMarry_40 : decode cX4_whyNotMarry 40 = .ok (.iload_n 2, 1) := by decide +kernel
theorem dX4_whyNotMarry_41 : decode cX4_whyNotMarry 41 = .ok (.invokevirtual 98, 3) := by decide +kernel
theorem dX4_whyNotMarry_44 : decode cX4_whyNotMarry 44 = .ok (.iconst (-1), 1) := by decide +kernel
theorem dX4_whyNotMarry_45 : decode cX4_whyNotMarry 45 = .ok (.if_icmp .eq 6, 3) := by decide +kernel
theorem dX4_whyNotMarry_48 : decode cX4_whyNotMarry 48 = .ok (.bipush 6, 2) := by decide +kernel
theorem dX4_whyNotMarry_50 : decode cX4_whyNotMarry 50 = .ok (.ireturn, 1) := by decide +kernel
theorem dX4_whyNotMarry_51 : decode cX4_whyNotMarry 51 = .ok (.aload_n 0, 1) := by decide +kernel
theorem dX4_whyNotMarry_52 : decode cX4_whyNotMarry 52 = .ok (.iload_n 1, 1) := by decide +kernel
theorem dX4_whyNotMarry_53 : decode cX4_whyNotMarry 53 = .ok (.iload_n 2, 1) := by decide +kernel
theorem dX4_whyNotMarry_54 : decode cX4_whyNotMarry 54 = .ok (.invokevirtual 153, 3) := by decide +kernel
theorem dX4_whyNotMarry_57 : decode cX4_whyNotMarry 57 = .ok (.ifCond .eq 17, 3) := by decide +kernel
theorem dX4_whyNotMarry_60 : decode cX4_whyNotMarry 60 = .ok (.aload_n 0, 1) := by decide +kernel
theorem dX4_whyNotMarry_61 : decode cX4_whyNotMarry 61 = .ok (.iload_n 1, 1) := by decide +kernel
theorem dX4_whyNotMarry_62 : decode cX4_whyNotMarry 62 = .ok (.iload_n 2, 1) := by decide +kernel
theorem dX4_whyNotMarry_63 : decode cX4_whyNotMarry 63 = .ok (.invokevirtual 144, 3) := by decide +kernel
theorem dX4_whyNotMarry_66 : decode cX4_whyNotMarry 66 = .ok (.iconst 5, 1) := by decide +kernel
theorem dX4_whyNotMarry_67 : decode cX4_whyNotMarry 67 = .ok (.if_icmp .ge 7, 3) := by decide +kernel
theorem dX4_whyNotMarry_70 : decode cX4_whyNotMarry 70 = .ok (.iconst 1, 1) := by decide +kernel
theorem dX4_whyNotMarry_71 : decode cX4_whyNotMarry 71 = .ok (.goto 4, 3) := by decide +kernel
theorem dX4_whyNotMarry_74 : decode cX4_whyNotMarry 74 = .ok (.iconst 0, 1) := by decide +kernel
theorem dX4_whyNotMarry_75 : decode cX4_whyNotMarry 75 = .ok (.istore_n 3, 1) := by decide +kernel
theorem dX4_whyNotMarry_76 : decode cX4_whyNotMarry 76 = .ok (.iload_n 3, 1) := by decide +kernel
theorem dX4_whyNotMarry_77 : decode cX4_whyNotMarry 77 = .ok (.ifCond .eq 8, 3) := by decide +kernel
theorem dX4_whyNotMarry_80 : decode cX4_whyNotMarry 80 = .ok (.bipush 7, 2) := by decide +kernel
theorem dX4_whyNotMarry_82 : decode cX4_whyNotMarry 82 = .ok (.goto 4, 3) := by decide +kernel
theorem dX4_whyNotMarry_85 : decode cX4_whyNotMarry 85 = .ok (.iconst 0, 1) := by decide +kernel
theorem dX4_whyNotMarry_86 : decode cX4_whyNotMarry 86 = .ok (.ireturn, 1) := by decide +kernel
theorem dX4_firstDead_0 : decode cX4_firstDead 0 = .ok (.aload_n 0, 1) := by decide +kernel
theorem dX4_firstDead_1 : decode cX4_firstDead 1 = .ok (.getfield 10, 3) := by decide +kernel
theorem dX4_firstDead_4 : decode cX4_firstDead 4 = .ok (.iload_n 1, 1) := by decide +kernel
theorem dX4_firstDead_5 : decode cX4_firstDead 5 = .ok (.invokevirtual 104, 3) := by decide +kernel
theorem dX4_firstDead_8 : decode cX4_firstDead 8 = .ok (.ifCond .eq 7, 3) := by decide +kernel
theorem dX4_firstDead_11 : decode cX4_firstDead 11 = .ok (.iload_n 2, 1) := by decide +kernel
theorem dX4_firstDead_12 : decode cX4_firstDead 12 = .ok (.goto 4, 3) := by decide +kernel
theorem dX4_firstDead_15 : decode cX4_firstDead 15 = .ok (.iload_n 1, 1) := by decide +kernel
theorem dX4_firstDead_16 : decode cX4_firstDead 16 = .ok (.ireturn, 1) := by decide +kernel
theorem dX4_firstSpouse_0 : decode cX4_firstSpouse 0 = .ok (.aload_n 0, 1) := by decide +kernel
theorem dX4_firstSpouse_1 : decode cX4_firstSpouse 1 = .ok (.getfield 10, 3) := by decide +kernel
theorem dX4_firstSpouse_4 : decode cX4_firstSpouse 4 = .ok (.iload_n 1, 1) := by decide +kernel
theorem dX4_firstSpouse_5 : decode cX4_firstSpouse 5 = .ok (.invokevirtual 98, 3) := by decide +kernel
theorem dX4_firstSpouse_8 : decode cX4_firstSpouse 8 = .ok (.iconst (-1), 1) := by decide +kernel
theorem dX4_firstSpouse_9 : decode cX4_firstSpouse 9 = .ok (.if_icmp .eq 14, 3) := by decide +kernel
theorem dX4_firstSpouse_12 : decode cX4_firstSpouse 12 = .ok (.aload_n 0, 1) := by decide +kernel
theorem dX4_firstSpouse_13 : decode cX4_firstSpouse 13 = .ok (.getfield 10, 3) := by decide +kernel
theorem dX4_firstSpouse_16 : decode cX4_firstSpouse 16 = .ok (.iload_n 1, 1) := by decide +kernel
theorem dX4_firstSpouse_17 : decode cX4_firstSpouse 17 = .ok (.invokevirtual 98, 3) := by decide +kernel
theorem dX4_firstSpouse_20 : decode cX4_firstSpouse 20 = .ok (.goto 11, 3) := by decide +kernel
theorem dX4_firstSpouse_23 : decode cX4_firstSpouse 23 = .ok (.aload_n 0, 1) := by decide +kernel
theorem dX4_firstSpouse_24 : decode cX4_firstSpouse 24 = .ok (.getfield 10, 3) := by decide +kernel
theorem dX4_firstSpouse_27 : decode cX4_firstSpouse 27 = .ok (.iload_n 2, 1) := by decide +kernel
theorem dX4_firstSpouse_28 : decode cX4_firstSpouse 28 = .ok (.invokevirtual 98, 3) := by decide +kernel
theorem dX4_firstSpouse_31 : decode cX4_firstSpouse 31 = .ok (.ireturn, 1) := by decide +kernel
theorem dX4_endQuarrelsAtHome_0 : decode cX4_endQuarrelsAtHome 0 = .ok (.iconst 0, 1) := by decide +kernel
theorem dX4_endQuarrelsAtHome_1 : decode cX4_endQuarrelsAtHome 1 = .ok (.istore_n 1, 1) := by decide +kernel
theorem dX4_endQuarrelsAtHome_2 : decode cX4_endQuarrelsAtHome 2 = .ok (.aload_n 0, 1) := by decide +kernel
theorem dX4_endQuarrelsAtHome_3 : decode cX4_endQuarrelsAtHome 3 = .ok (.getfield 10, 3) := by decide +kernel
theorem dX4_endQuarrelsAtHome_6 : decode cX4_endQuarrelsAtHome 6 = .ok (.getfield 165, 3) := by decide +kernel
theorem dX4_endQuarrelsAtHome_9 : decode cX4_endQuarrelsAtHome 9 = .ok (.iconst 1, 1) := by decide +kernel
theorem dX4_endQuarrelsAtHome_10 : decode cX4_endQuarrelsAtHome 10 = .ok (.isub, 1) := by decide +kernel
theorem dX4_endQuarrelsAtHome_11 : decode cX4_endQuarrelsAtHome 11 = .ok (.istore_n 2, 1) := by decide +kernel
theorem dX4_endQuarrelsAtHome_12 : decode cX4_endQuarrelsAtHome 12 = .ok (.iload_n 2, 1) := by decide +kernel
theorem dX4_endQuarrelsAtHome_13 : decode cX4_endQuarrelsAtHome 13 = .ok (.ifCond .lt 46, 3) := by decide +kernel
theorem dX4_endQuarrelsAtHome_16 : decode cX4_endQuarrelsAtHome 16 = .ok (.aload_n 0, 1) := by decide +kernel
theorem dX4_endQuarrelsAtHome_17 : decode cX4_endQuarrelsAtHome 17 = .ok (.getfield 44, 3) := by decide +kernel
theorem dX4_endQuarrelsAtHome_20 : decode cX4_endQuarrelsAtHome 20 = .ok (.aload_n 0, 1) := by decide +kernel
theorem dX4_endQuarrelsAtHome_21 : decode cX4_endQuarrelsAtHome 21 = .ok (.getfield 10, 3) := by decide +kernel
theorem dX4_endQuarrelsAtHome_24 : decode cX4_endQuarrelsAtHome 24 = .ok (.iload_n 2, 1) := by decide +kernel
theorem dX4_endQuarrelsAtHome_25 : decode cX4_endQuarrelsAtHome 25 = .ok (.invokevirtual 171, 3) := by decide +kernel
theorem dX4_endQuarrelsAtHome_28 : decode cX4_endQuarrelsAtHome 28 = .ok (.aload_n 0, 1) := by decide +kernel
theorem dX4_endQuarrelsAtHome_29 : decode cX4_endQuarrelsAtHome 29 = .ok (.getfield 10, 3) := by decide +kernel
theorem dX4_endQuarrelsAtHome_32 : decode cX4_endQuarrelsAtHome 32 = .ok (.iload_n 2, 1) := by decide +kernel
theorem dX4_endQuarrelsAtHome_33 : decode cX4_endQuarrelsAtHome 33 = .ok (.invokevirtual 168, 3) := by decide +kernel
theorem dX4_endQuarrelsAtHome_36 : decode cX4_endQuarrelsAtHome 36 = .ok (.invokevirtual 392, 3) := by decide +kernel
theorem dX4_endQuarrelsAtHome_39 : decode cX4_endQuarrelsAtHome 39 = .ok (.ifCond .eq 14, 3) := by decide +kernel
theorem dX4_endQuarrelsAtHome_42 : decode cX4_endQuarrelsAtHome 42 = .ok (.aload_n 0, 1) := by decide +kernel
theorem dX4_endQuarrelsAtHome_43 : decode cX4_endQuarrelsAtHome 43 = .ok (.getfield 10, 3) := by decide +kernel
theorem dX4_endQuarrelsAtHome_46 : decode cX4_endQuarrelsAtHome 46 = .ok (.iload_n 2, 1) := by decide +kernel
theorem dX4_endQuarrelsAtHome_47 : decode cX4_endQuarrelsAtHome 47 = .ok (.invokevirtual 410, 3) := by decide +kernel
theorem dX4_endQuarrelsAtHome_50 : decode cX4_endQuarrelsAtHome 50 = .ok (.iinc 1 1, 3) := by decide +kernel
theorem dX4_endQuarrelsAtHome_53 : decode cX4_endQuarrelsAtHome 53 = .ok (.iinc 2 (-1), 3) := by decide +kernel
theorem dX4_endQuarrelsAtHome_56 : decode cX4_endQuarrelsAtHome 56 = .ok (.goto (-44), 3) := by decide +kernel
theorem dX4_endQuarrelsAtHome_59 : decode cX4_endQuarrelsAtHome 59 = .ok (.aload_n 0, 1) := by decide +kernel
theorem dX4_endQuarrelsAtHome_60 : decode cX4_endQuarrelsAtHome 60 = .ok (.getfield 10, 3) := by decide +kernel
theorem dX4_endQuarrelsAtHome_63 : decode cX4_endQuarrelsAtHome 63 = .ok (.dup, 1) := by decide +kernel
theorem dX4_endQuarrelsAtHome_64 : decode cX4_endQuarrelsAtHome 64 = .ok (.getfield 274, 3) := by decide +kernel
theorem dX4_endQuarrelsAtHome_67 : decode cX4_endQuarrelsAtHome 67 = .ok (.iload_n 1, 1) := by decide +kernel
theorem dX4_endQuarrelsAtHome_68 : decode cX4_endQuarrelsAtHome 68 = .ok (.iadd, 1) := by decide +kernel
theorem dX4_endQuarrelsAtHome_69 : decode cX4_endQuarrelsAtHome 69 = .ok (.putfield 274, 3) := by decide +kernel
theorem dX4_endQuarrelsAtHome_72 : decode cX4_endQuarrelsAtHome 72 = .ok (.iload_n 1, 1) := by decide +kernel
theorem dX4_endQuarrelsAtHome_73 : decode cX4_endQuarrelsAtHome 73 = .ok (.ireturn, 1) := by decide +kernel
theorem dX4_writePart_0 : decode cX4_writePart 0 = .ok (.aload_n 0, 1) := by decide +kernel
theorem dX4_writePart_1 : decode cX4_writePart 1 = .ok (.getfield 58, 3) := by decide +kernel
theorem dX4_writePart_4 : decode cX4_writePart 4 = .ok (.iload_n 1, 1) := by decide +kernel
theorem dX4_writePart_5 : decode cX4_writePart 5 = .ok (.invokevirtual 207, 3) := by decide +kernel
theorem dX4_writePart_8 : decode cX4_writePart 8 = .ok (.pop, 1) := by decide +kernel
theorem dX4_writePart_9 : decode cX4_writePart 9 = .ok (.aload_n 0, 1) := by decide +kernel
theorem dX4_writePart_10 : decode cX4_writePart 10 = .ok (.getfield 58, 3) := by decide +kernel
theorem dX4_writePart_13 : decode cX4_writePart 13 = .ok (.iload_n 2, 1) := by decide +kernel
theorem dX4_writePart_14 : decode cX4_writePart 14 = .ok (.invokevirtual 413, 3) := by decide +kernel
theorem dX4_writePart_17 : decode cX4_writePart 17 = .ok (.pop, 1) := by decide +kernel
theorem dX4_writePart_18 : decode cX4_writePart 18 = .ok (.return_, 1) := by decide +kernel
theorem dX4_areEldersSame_0 : decode cX4_areEldersSame 0 = .ok (.iconst 0, 1) := by decide +kernel
theorem dX4_areEldersSame_1 : decode cX4_areEldersSame 1 = .ok (.istore_n 1, 1) := by decide +kernel
theorem dX4_areEldersSame_2 : decode cX4_areEldersSame 2 = .ok (.iload_n 1, 1) := by decide +kernel
theorem dX4_areEldersSame_3 : decode cX4_areEldersSame 3 = .ok (.aload_n 0, 1) := by decide +kernel
theorem dX4_areEldersSame_4 : decode cX4_areEldersSame 4 = .ok (.getfield 10, 3) := by decide +kernel
theorem dX4_areEldersSame_7 : decode cX4_areEldersSame 7 = .ok (.getfield 150, 3) := by decide +kernel
theorem dX4_areEldersSame_10 : decode cX4_areEldersSame 10 = .ok (.if_icmp .ge 54, 3) := by decide +kernel
theorem dX4_areEldersSame_13 : decode cX4_areEldersSame 13 = .ok (.aload_n 0, 1) := by decide +kernel
theorem dX4_areEldersSame_14 : decode cX4_areEldersSame 14 = .ok (.getfield 10, 3) := by decide +kernel
theorem dX4_areEldersSame_17 : decode cX4_areEldersSame 17 = .ok (.iload_n 1, 1) := by decide +kernel
theorem dX4_areEldersSame_18 : decode cX4_areEldersSame 18 = .ok (.invokevirtual 89, 3) := by decide +kernel
theorem dX4_areEldersSame_21 : decode cX4_areEldersSame 21 = .ok (.istore_n 2, 1) := by decide +kernel
theorem dX4_areEldersSame_22 : decode cX4_areEldersSame 22 = .ok (.iconst 0, 1) := by decide +kernel
theorem dX4_areEldersSame_23 : decode cX4_areEldersSame 23 = .ok (.istore_n 3, 1) := by decide +kernel
theorem dX4_areEldersSame_24 : decode cX4_areEldersSame 24 = .ok (.iload_n 3, 1) := by decide +kernel
theorem dX4_areEldersSame_25 : decode cX4_areEldersSame 25 = .ok (.iload_n 2, 1) := by decide +kernel
theorem dX4_areEldersSame_26 : decode cX4_areEldersSame 26 = .ok (.if_icmp .gt 32, 3) := by decide +kernel
theorem dX4_areEldersSame_29 : decode cX4_areEldersSame 29 = .ok (.aload_n 0, 1) := by decide +kernel
theorem dX4_areEldersSame_30 : decode cX4_areEldersSame 30 = .ok (.getfield 37, 3) := by decide +kernel
theorem dX4_areEldersSame_33 : decode cX4_areEldersSame 33 = .ok (.iload_n 1, 1) := by decide +kernel
theorem dX4_areEldersSame_34 : decode cX4_areEldersSame 34 = .ok (.iload_n 3, 1) := by decide +kernel
theorem dX4_areEldersSame_35 : decode cX4_areEldersSame 35 = .ok (.invokevirtual 132, 3) := by decide +kernel
theorem dX4_areEldersSame_38 : decode cX4_areEldersSame 38 = .ok (.aload_n 0, 1) := by decide +kernel
theorem dX4_areEldersSame_39 : decode cX4_areEldersSame 39 = .ok (.getfield 10, 3) := by decide +kernel
theorem dX4_areEldersSame_42 : decode cX4_areEldersSame 42 = .ok (.iload_n 1, 1) := by decide +kernel
theorem dX4_areEldersSame_43 : decode cX4_areEldersSame 43 = .ok (.iload_n 3, 1) := by decide +kernel
theorem dX4_areEldersSame_44 : decode cX4_areEldersSame 44 = .ok (.invokevirtual 128, 3) := by decide +kernel
theorem dX4_areEldersSame_47 : decode cX4_areEldersSame 47 = .ok (.if_icmp .eq 5, 3) := by decide +kernel
theorem dX4_areEldersSame_50 : decode cX4_areEldersSame 50 = .ok (.iconst 0, 1) := by decide +kernel
theorem dX4_areEldersSame_51 : decode cX4_areEldersSame 51 = .ok (.ireturn, 1) := by decide +kernel
theorem dX4_areEldersSame_52 : decode cX4_areEldersSame 52 = .ok (.iinc 3 1, 3) := by decide +kernel
theorem dX4_areEldersSame_55 : decode cX4_areEldersSame 55 = .ok (.goto (-31), 3) := by decide +kernel
theorem dX4_areEldersSame_58 : decode cX4_areEldersSame 58 = .ok (.iinc 1 1, 3) := by decide +kernel
theorem dX4_areEldersSame_61 : decode cX4_areEldersSame 61 = .ok (.goto (-59), 3) := by decide +kernel
theorem dX4_areEldersSame_64 : decode cX4_areEldersSame 64 = .ok (.iconst 1, 1) := by decide +kernel
theorem dX4_areEldersSame_65 : decode cX4_areEldersSame 65 = .ok (.ireturn, 1) := by decide +kernel
theorem dX4_areCommonsSame_0 : decode cX4_areCommonsSame 0 = .ok (.iconst 0, 1) := by decide +kernel
theorem dX4_areCommonsSame_1 : decode cX4_areCommonsSame 1 = .ok (.istore_n 1, 1) := by decide +kernel
theorem dX4_areCommonsSame_2 : decode cX4_areCommonsSame 2 = .ok (.iload_n 1, 1) := by decide +kernel
theorem dX4_areCommonsSame_3 : decode cX4_areCommonsSame 3 = .ok (.aload_n 0, 1) := by decide +kernel
theorem dX4_areCommonsSame_4 : decode cX4_areCommonsSame 4 = .ok (.getfield 10, 3) := by decide +kernel
theorem dX4_areCommonsSame_7 : decode cX4_areCommonsSame 7 = .ok (.getfield 150, 3) := by decide +kernel
theorem dX4_areCommonsSame_10 : decode cX4_areCommonsSame 10 = .ok (.if_icmp .ge 60, 3) := by decide +kernel
theorem dX4_areCommonsSame_13 : decode cX4_areCommonsSame 13 = .ok (.iconst 0, 1) := by decide +kernel
theorem dX4_areCommonsSame_14 : decode cX4_areCommonsSame 14 = .ok (.istore_n 2, 1) := by decide +kernel
theorem dX4_areCommonsSame_15 : decode cX4_areCommonsSame 15 = .ok (.iload_n 2, 1) := by decide +kernel
theorem dX4_areCommonsSame_16 : decode cX4_areCommonsSame 16 = .ok (.aload_n 0, 1) := by decide +kernel
theorem dX4_areCommonsSame_17 : decode cX4_areCommonsSame 17 = .ok (.getfield 10, 3) := by decide +kernel
theorem dX4_areCommonsSame_20 : decode cX4_areCommonsSame 20 = .ok (.getfield 150, 3) := by decide +kernel
theorem dX4_areCommonsSame_23 : decode cX4_areCommonsSame 23 = .ok (.if_icmp .ge 41, 3) := by decide +kernel
theorem dX4_areCommonsSame_26 : decode cX4_areCommonsSame 26 = .ok (.aload_n 0, 1) := by decide +kernel
theorem dX4_areCommonsSame_27 : decode cX4_areCommonsSame 27 = .ok (.iload_n 1, 1) := by decide +kernel
theorem dX4_areCommonsSame_28 : decode cX4_areCommonsSame 28 = .ok (.iload_n 2, 1) := by decide +kernel
theorem dX4_areCommonsSame_29 : decode cX4_areCommonsSame 29 = .ok (.invokevirtual 153, 3) := by decide +kernel
theorem dX4_areCommonsSame_32 : decode cX4_areCommonsSame 32 = .ok (.ifCond .eq 26, 3) := by decide +kernel
theorem dX4_areCommonsSame_35 : decode cX4_areCommonsSame 35 = .ok (.aload_n 0, 1) := by decide +kernel
theorem dX4_areCommonsSame_36 : decode cX4_areCommonsSame 36 = .ok (.getfield 37, 3) := by decide +kernel
theorem dX4_areCommonsSame_39 : decode cX4_areCommonsSame 39 = .ok (.iload_n 1, 1) := by decide +kernel
theorem dX4_areCommonsSame_40 : decode cX4_areCommonsSame 40 = .ok (.iload_n 2, 1) := by decide +kernel
theorem dX4_areCommonsSame_41 : decode cX4_areCommonsSame 41 = .ok (.invokevirtual 141, 3) := by decide +kernel
theorem dX4_areCommonsSame_44 : decode cX4_areCommonsSame 44 = .ok (.aload_n 0, 1) := by decide +kernel
theorem dX4_areCommonsSame_45 : decode cX4_areCommonsSame 45 = .ok (.getfield 10, 3) := by decide +kernel
theorem dX4_areCommonsSame_48 : decode cX4_areCommonsSame 48 = .ok (.iload_n 1, 1) := by decide +kernel
theorem dX4_areCommonsSame_49 : decode cX4_areCommonsSame 49 = .ok (.iload_n 2, 1) := by decide +kernel
theorem dX4_areCommonsSame_50 : decode cX4_areCommonsSame 50 = .ok (.invokevirtual 138, 3) := by decide +kernel
theorem dX4_areCommonsSame_53 : decode cX4_areCommonsSame 53 = .ok (.if_icmp .eq 5, 3) := by decide +kernel
theorem dX4_areCommonsSame_56 : decode cX4_areCommonsSame 56 = .ok (.iconst 0, 1) := by decide +kernel
theorem dX4_areCommonsSame_57 : decode cX4_areCommonsSame 57 = .ok (.ireturn, 1) := by decide +kernel
theorem dX4_areCommonsSame_58 : decode cX4_areCommonsSame 58 = .ok (.iinc 2 1, 3) := by decide +kernel
theorem dX4_areCommonsSame_61 : decode cX4_areCommonsSame 61 = .ok (.goto (-46), 3) := by decide +kernel
theorem dX4_areCommonsSame_64 : decode cX4_areCommonsSame 64 = .ok (.iinc 1 1, 3) := by decide +kernel
theorem dX4_areCommonsSame_67 : decode cX4_areCommonsSame 67 = .ok (.goto (-65), 3) := by decide +kernel
theorem dX4_areCommonsSame_70 : decode cX4_areCommonsSame 70 = .ok (.iconst 1, 1) := by decide +kernel
theorem dX4_areCommonsSame_71 : decode cX4_areCommonsSame 71 = .ok (.ireturn, 1) := by decide +kernel
theorem dX4_isPeaceAtHome_0 : decode cX4_isPeaceAtHome 0 = .ok (.iconst 0, 1) := by decide +kernel
theorem dX4_isPeaceAtHome_1 : decode cX4_isPeaceAtHome 1 = .ok (.istore_n 1, 1) := by decide +kernel
theorem dX4_isPeaceAtHome_2 : decode cX4_isPeaceAtHome 2 = .ok (.iload_n 1, 1) := by decide +kernel
theorem dX4_isPeaceAtHome_3 : decode cX4_isPeaceAtHome 3 = .ok (.aload_n 0, 1) := by decide +kernel
theorem dX4_isPeaceAtHome_4 : decode cX4_isPeaceAtHome 4 = .ok (.getfield 10, 3) := by decide +kernel
theorem dX4_isPeaceAtHome_7 : decode cX4_isPeaceAtHome 7 = .ok (.getfield 165, 3) := by decide +kernel
theorem dX4_isPeaceAtHome_10 : decode cX4_isPeaceAtHome 10 = .ok (.if_icmp .ge 37, 3) := by decide +kernel
theorem dX4_isPeaceAtHome_13 : decode cX4_isPeaceAtHome 13 = .ok (.aload_n 0, 1) := by decide +kernel
theorem dX4_isPeaceAtHome_14 : decode cX4_isPeaceAtHome 14 = .ok (.getfield 44, 3) := by decide +kernel
theorem dX4_isPeaceAtHome_17 : decode cX4_isPeaceAtHome 17 = .ok (.aload_n 0, 1) := by decide +kernel
theorem dX4_isPeaceAtHome_18 : decode cX4_isPeaceAtHome 18 = .ok (.getfield 10, 3) := by decide +kernel
theorem dX4_isPeaceAtHome_21 : decode cX4_isPeaceAtHome 21 = .ok (.iload_n 1, 1) := by decide +kernel
theorem dX4_isPeaceAtHome_22 : decode cX4_isPeaceAtHome 22 = .ok (.invokevirtual 171, 3) := by decide +kernel
theorem dX4_isPeaceAtHome_25 : decode cX4_isPeaceAtHome 25 = .ok (.aload_n 0, 1) := by decide +kernel
theorem dX4_isPeaceAtHome_26 : decode cX4_isPeaceAtHome 26 = .ok (.getfield 10, 3) := by decide +kernel
theorem dX4_isPeaceAtHome_29 : decode cX4_isPeaceAtHome 29 = .ok (.iload_n 1, 1) := by decide +kernel
theorem dX4_isPeaceAtHome_30 : decode cX4_isPeaceAtHome 30 = .ok (.invokevirtual 168, 3) := by decide +kernel
theorem dX4_isPeaceAtHome_33 : decode cX4_isPeaceAtHome 33 = .ok (.invokevirtual 392, 3) := by decide +kernel
theorem dX4_isPeaceAtHome_36 : decode cX4_isPeaceAtHome 36 = .ok (.ifCond .eq 5, 3) := by decide +kernel
theorem dX4_isPeaceAtHome_39 : decode cX4_isPeaceAtHome 39 = .ok (.iconst 0, 1) := by decide +kernel
theorem dX4_isPeaceAtHome_40 : decode cX4_isPeaceAtHome 40 = .ok (.ireturn, 1) := by decide +kernel
theorem dX4_isPeaceAtHome_41 : decode cX4_isPeaceAtHome 41 = .ok (.iinc 1 1, 3) := by decide +kernel
theorem dX4_isPeaceAtHome_44 : decode cX4_isPeaceAtHome 44 = .ok (.goto (-42), 3) := by decide +kernel
theorem dX4_isPeaceAtHome_47 : decode cX4_isPeaceAtHome 47 = .ok (.iconst 1, 1) := by decide +kernel
theorem dX4_isPeaceAtHome_48 : decode cX4_isPeaceAtHome 48 = .ok (.ireturn, 1) := by decide +kernel
