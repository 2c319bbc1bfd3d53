theorem dL_cell_0 : decode cL_cell 0 = .ok (.iload_n 1, 1) := by decide +kernel
theorem dL_cell_1 : decode cL_cell 1 = .ok (.aload_n 0, 1) := by decide +kernel
theorem dL_cell_2 : decode cL_cell 2 = .ok (.arraylength, 1) := by decide +kernel
theorem dL_cell_3 : decode cL_cell 3 = .ok (.if_icmp .ge 9, 3) := by decide +kernel
theorem dL_cell_6 : decode cL_cell 6 = .ok (.aload_n 0, 1) := by decide +kernel
theorem dL_cell_7 : decode cL_cell 7 = .ok (.iload_n 1, 1) := by decide +kernel
theorem dL_cell_8 : decode cL_cell 8 = .ok (.iaload, 1) := by decide +kernel
theorem dL_cell_9 : decode cL_cell 9 = .ok (.goto 7, 3) := by decide +kernel
theorem dL_cell_12 : decode cL_cell 12 = .ok (.ldc 7, 2) := by decide +kernel
theorem dL_cell_14 : decode cL_cell 14 = .ok (.iload_n 1, 1) := by decide +kernel
theorem dL_cell_15 : decode cL_cell 15 = .ok (.imul, 1) := by decide +kernel
theorem dL_cell_16 : decode cL_cell 16 = .ok (.ireturn, 1) := by decide +kernel
theorem dL_found_0 : decode cL_found 0 = .ok (.aload_n 0, 1) := by decide +kernel
theorem dL_found_1 : decode cL_found 1 = .ok (.invokevirtual 8, 3) := by decide +kernel
theorem dL_found_4 : decode cL_found 4 = .ok (.ireturn, 1) := by decide +kernel
theorem dL_found_5 : decode cL_found 5 = .ok (.astore_n 1, 1) := by decide +kernel
theorem dL_found_6 : decode cL_found 6 = .ok (.bipush (-2), 2) := by decide +kernel
theorem dL_found_8 : decode cL_found 8 = .ok (.ireturn, 1) := by decide +kernel
theorem dL_born_0 : decode cL_born 0 = .ok (.aload_n 0, 1) := by decide +kernel
theorem dL_born_1 : decode cL_born 1 = .ok (.iload_n 1, 1) := by decide +kernel
theorem dL_born_2 : decode cL_born 2 = .ok (.invokevirtual 16, 3) := by decide +kernel
theorem dL_born_5 : decode cL_born 5 = .ok (.ireturn, 1) := by decide +kernel
theorem dL_born_6 : decode cL_born 6 = .ok (.astore_n 2, 1) := by decide +kernel
theorem dL_born_7 : decode cL_born 7 = .ok (.iconst (-1), 1) := by decide +kernel
theorem dL_born_8 : decode cL_born 8 = .ok (.ireturn, 1) := by decide +kernel
theorem dL_born_9 : decode cL_born 9 = .ok (.astore_n 2, 1) := by decide +kernel
theorem dL_born_10 : decode cL_born 10 = .ok (.bipush (-2), 2) := by decide +kernel
theorem dL_born_12 : decode cL_born 12 = .ok (.ireturn, 1) := by decide +kernel
theorem dL_graft_0 : decode cL_graft 0 = .ok (.aload_n 0, 1) := by decide +kernel
theorem dL_graft_1 : decode cL_graft 1 = .ok (.iload_n 1, 1) := by decide +kernel
theorem dL_graft_2 : decode cL_graft 2 = .ok (.iload_n 2, 1) := by decide +kernel
theorem dL_graft_3 : decode cL_graft 3 = .ok (.invokevirtual 22, 3) := by decide +kernel
theorem dL_graft_6 : decode cL_graft 6 = .ok (.ireturn, 1) := by decide +kernel
theorem dL_graft_7 : decode cL_graft 7 = .ok (.astore_n 3, 1) := by decide +kernel
theorem dL_graft_8 : decode cL_graft 8 = .ok (.iconst (-1), 1) := by decide +kernel
theorem dL_graft_9 : decode cL_graft 9 = .ok (.ireturn, 1) := by decide +kernel
theorem dL_graft_10 : decode cL_graft 10 = .ok (.astore_n 3, 1) := by decide +kernel
theorem dL_graft_11 : decode cL_graft 11 = .ok (.bipush (-2), 2) := by decide +kernel
theorem dL_graft_13 : decode cL_graft 13 = .ok (.ireturn, 1) := by decide +kernel
theorem dL_cut_0 : decode cL_cut 0 = .ok (.aload_n 0, 1) := by decide +kernel
theorem dL_cut_1 : decode cL_cut 1 = .ok (.iload_n 1, 1) := by decide +kernel
theorem dL_cut_2 : decode cL_cut 2 = .ok (.invokevirtual 26, 3) := by decide +kernel
theorem dL_cut_5 : decode cL_cut 5 = .ok (.ireturn, 1) := by decide +kernel
theorem dL_cut_6 : decode cL_cut 6 = .ok (.astore_n 2, 1) := by decide +kernel
theorem dL_cut_7 : decode cL_cut 7 = .ok (.iconst (-1), 1) := by decide +kernel
theorem dL_cut_8 : decode cL_cut 8 = .ok (.ireturn, 1) := by decide +kernel
theorem dL_cut_9 : decode cL_cut 9 = .ok (.astore_n 2, 1) := by decide +kernel
theorem dL_cut_10 : decode cL_cut 10 = .ok (.bipush (-2), 2) := by decide +kernel
theorem dL_cut_12 : decode cL_cut 12 = .ok (.ireturn, 1) := by decide +kernel
theorem dL_of_0 : decode cL_of 0 = .ok (.aload_n 0, 1) := by decide +kernel
theorem dL_of_1 : decode cL_of 1 = .ok (.iload_n 1, 1) := by decide +kernel
theorem dL_of_2 : decode cL_of 2 = .ok (.iload_n 2, 1) := by decide +kernel
theorem dL_of_3 : decode cL_of 3 = .ok (.invokevirtual 29, 3) := by decide +kernel
theorem dL_of_6 : decode cL_of 6 = .ok (.ireturn, 1) := by decide +kernel
theorem dL_of_7 : decode cL_of 7 = .ok (.astore_n 3, 1) := by decide +kernel
theorem dL_of_8 : decode cL_of 8 = .ok (.bipush (-11), 2) := by decide +kernel
theorem dL_of_10 : decode cL_of 10 = .ok (.ireturn, 1) := by decide +kernel
theorem dL_of_11 : decode cL_of 11 = .ok (.astore_n 3, 1) := by decide +kernel
theorem dL_of_12 : decode cL_of 12 = .ok (.bipush (-12), 2) := by decide +kernel
theorem dL_of_14 : decode cL_of 14 = .ok (.ireturn, 1) := by decide +kernel
theorem dL_elder_0 : decode cL_elder 0 = .ok (.aload_n 0, 1) := by decide +kernel
theorem dL_elder_1 : decode cL_elder 1 = .ok (.iload_n 1, 1) := by decide +kernel
theorem dL_elder_2 : decode cL_elder 2 = .ok (.iload_n 2, 1) := by decide +kernel
theorem dL_elder_3 : decode cL_elder 3 = .ok (.iload_n 3, 1) := by decide +kernel
theorem dL_elder_4 : decode cL_elder 4 = .ok (.invokevirtual 34, 3) := by decide +kernel
theorem dL_elder_7 : decode cL_elder 7 = .ok (.ireturn, 1) := by decide +kernel
theorem dL_elder_8 : decode cL_elder 8 = .ok (.astore 4, 2) := by decide +kernel
theorem dL_elder_10 : decode cL_elder 10 = .ok (.bipush (-11), 2) := by decide +kernel
theorem dL_elder_12 : decode cL_elder 12 = .ok (.ireturn, 1) := by decide +kernel
theorem dL_elder_13 : decode cL_elder 13 = .ok (.astore 4, 2) := by decide +kernel
theorem dL_elder_15 : decode cL_elder 15 = .ok (.bipush (-13), 2) := by decide +kernel
theorem dL_elder_17 : decode cL_elder 17 = .ok (.ireturn, 1) := by decide +kernel
theorem dL_common_0 : decode cL_common 0 = .ok (.aload_n 0, 1) := by decide +kernel
theorem dL_common_1 : decode cL_common 1 = .ok (.iload_n 1, 1) := by decide +kernel
theorem dL_common_2 : decode cL_common 2 = .ok (.iload_n 2, 1) := by decide +kernel
theorem dL_common_3 : decode cL_common 3 = .ok (.iload_n 3, 1) := by decide +kernel
theorem dL_common_4 : decode cL_common 4 = .ok (.invokevirtual 40, 3) := by decide +kernel
theorem dL_common_7 : decode cL_common 7 = .ok (.ireturn, 1) := by decide +kernel
theorem dL_common_8 : decode cL_common 8 = .ok (.astore 4, 2) := by decide +kernel
theorem dL_common_10 : decode cL_common 10 = .ok (.bipush (-11), 2) := by decide +kernel
theorem dL_common_12 : decode cL_common 12 = .ok (.ireturn, 1) := by decide +kernel
theorem dL_common_13 : decode cL_common 13 = .ok (.astore 4, 2) := by decide +kernel
theorem dL_common_15 : decode cL_common 15 = .ok (.bipush (-13), 2) := by decide +kernel
theorem dL_common_17 : decode cL_common 17 = .ok (.ireturn, 1) := by decide +kernel
theorem dL_degree_0 : decode cL_degree 0 = .ok (.aload_n 0, 1) := by decide +kernel
theorem dL_degree_1 : decode cL_degree 1 = .ok (.iload_n 1, 1) := by decide +kernel
theorem dL_degree_2 : decode cL_degree 2 = .ok (.iload_n 2, 1) := by decide +kernel
theorem dL_degree_3 : decode cL_degree 3 = .ok (.invokevirtual 43, 3) := by decide +kernel
theorem dL_degree_6 : decode cL_degree 6 = .ok (.ireturn, 1) := by decide +kernel
theorem dL_degree_7 : decode cL_degree 7 = .ok (.astore_n 3, 1) := by decide +kernel
theorem dL_degree_8 : decode cL_degree 8 = .ok (.bipush (-11), 2) := by decide +kernel
theorem dL_degree_10 : decode cL_degree 10 = .ok (.ireturn, 1) := by decide +kernel
theorem dL_degree_11 : decode cL_degree 11 = .ok (.astore_n 3, 1) := by decide +kernel
theorem dL_degree_12 : decode cL_degree 12 = .ok (.bipush (-13), 2) := by decide +kernel
theorem dL_degree_14 : decode cL_degree 14 = .ok (.ireturn, 1) := by decide +kernel
theorem dL_leaps_0 : decode cL_leaps 0 = .ok (.aload_n 0, 1) := by decide +kernel
theorem dL_leaps_1 : decode cL_leaps 1 = .ok (.iload_n 1, 1) := by decide +kernel
theorem dL_leaps_2 : decode cL_leaps 2 = .ok (.iload_n 2, 1) := by decide +kernel
theorem dL_leaps_3 : decode cL_leaps 3 = .ok (.invokevirtual 46, 3) := by decide +kernel
theorem dL_leaps_6 : decode cL_leaps 6 = .ok (.ireturn, 1) := by decide +kernel
theorem dL_leaps_7 : decode cL_leaps 7 = .ok (.astore_n 3, 1) := by decide +kernel
theorem dL_leaps_8 : decode cL_leaps 8 = .ok (.bipush (-11), 2) := by decide +kernel
theorem dL_leaps_10 : decode cL_leaps 10 = .ok (.ireturn, 1) := by decide +kernel
theorem dL_leaps_11 : decode cL_leaps 11 = .ok (.astore_n 3, 1) := by decide +kernel
theorem dL_leaps_12 : decode cL_leaps 12 = .ok (.bipush (-13), 2) := by decide +kernel
theorem dL_leaps_14 : decode cL_leaps 14 = .ok (.ireturn, 1) := by decide +kernel
theorem dL_farthest_0 : decode cL_farthest 0 = .ok (.aload_n 0, 1) := by decide +kernel
theorem dL_farthest_1 : decode cL_farthest 1 = .ok (.iload_n 1, 1) := by decide +kernel
theorem dL_farthest_2 : decode cL_farthest 2 = .ok (.invokevirtual 49, 3) := by decide +kernel
theorem dL_farthest_5 : decode cL_farthest 5 = .ok (.ireturn, 1) := by decide +kernel
theorem dL_farthest_6 : decode cL_farthest 6 = .ok (.astore_n 2, 1) := by decide +kernel
theorem dL_farthest_7 : decode cL_farthest 7 = .ok (.bipush (-11), 2) := by decide +kernel
theorem dL_farthest_9 : decode cL_farthest 9 = .ok (.ireturn, 1) := by decide +kernel
theorem dL_descendant_0 : decode cL_descendant 0 = .ok (.aload_n 0, 1) := by decide +kernel
theorem dL_descendant_1 : decode cL_descendant 1 = .ok (.iload_n 1, 1) := by decide +kernel
theorem dL_descendant_2 : decode cL_descendant 2 = .ok (.iload_n 2, 1) := by decide +kernel
theorem dL_descendant_3 : decode cL_descendant 3 = .ok (.invokevirtual 52, 3) := by decide +kernel
theorem dL_descendant_6 : decode cL_descendant 6 = .ok (.ireturn, 1) := by decide +kernel
theorem dL_descendant_7 : decode cL_descendant 7 = .ok (.astore_n 3, 1) := by decide +kernel
theorem dL_descendant_8 : decode cL_descendant 8 = .ok (.bipush (-11), 2) := by decide +kernel
theorem dL_descendant_10 : decode cL_descendant 10 = .ok (.ireturn, 1) := by decide +kernel
theorem dL_descendant_11 : decode cL_descendant 11 = .ok (.astore_n 3, 1) := by decide +kernel
theorem dL_descendant_12 : decode cL_descendant 12 = .ok (.bipush (-13), 2) := by decide +kernel
theorem dL_descendant_14 : decode cL_descendant 14 = .ok (.ireturn, 1) := by decide +kernel
theorem dL_marry_0 : decode cL_marry 0 = .ok (.aload_n 0, 1) := by decide +kernel
theorem dL_marry_1 : decode cL_marry 1 = .ok (.iload_n 1, 1) := by decide +kernel
theorem dL_marry_2 : decode cL_marry 2 = .ok (.iload_n 2, 1) := by decide +kernel
theorem dL_marry_3 : decode cL_marry 3 = .ok (.invokevirtual 55, 3) := by decide +kernel
theorem dL_marry_6 : decode cL_marry 6 = .ok (.ireturn, 1) := by decide +kernel
theorem dL_marry_7 : decode cL_marry 7 = .ok (.astore_n 3, 1) := by decide +kernel
theorem dL_marry_8 : decode cL_marry 8 = .ok (.iconst (-1), 1) := by decide +kernel
theorem dL_marry_9 : decode cL_marry 9 = .ok (.ireturn, 1) := by decide +kernel
theorem dL_marry_10 : decode cL_marry 10 = .ok (.astore_n 3, 1) := by decide +kernel
theorem dL_marry_11 : decode cL_marry 11 = .ok (.bipush (-2), 2) := by decide +kernel
theorem dL_marry_13 : decode cL_marry 13 = .ok (.ireturn, 1) := by decide +kernel
theorem dL_part_0 : decode cL_part 0 = .ok (.aload_n 0, 1) := by decide +kernel
theorem dL_part_1 : decode cL_part 1 = .ok (.iload_n 1, 1) := by decide +kernel
theorem dL_part_2 : decode cL_part 2 = .ok (.invokevirtual 58, 3) := by decide +kernel
theorem dL_part_5 : decode cL_part 5 = .ok (.ireturn, 1) := by decide +kernel
theorem dL_part_6 : decode cL_part 6 = .ok (.astore_n 2, 1) := by decide +kernel
theorem dL_part_7 : decode cL_part 7 = .ok (.iconst (-1), 1) := by decide +kernel
theorem dL_part_8 : decode cL_part 8 = .ok (.ireturn, 1) := by decide +kernel
theorem dL_part_9 : decode cL_part 9 = .ok (.astore_n 2, 1) := by decide +kernel
theorem dL_part_10 : decode cL_part 10 = .ok (.bipush (-2), 2) := by decide +kernel
theorem dL_part_12 : decode cL_part 12 = .ok (.ireturn, 1) := by decide +kernel
theorem dL_quarrel_0 : decode cL_quarrel 0 = .ok (.aload_n 0, 1) := by decide +kernel
theorem dL_quarrel_1 : decode cL_quarrel 1 = .ok (.iload_n 1, 1) := by decide +kernel
theorem dL_quarrel_2 : decode cL_quarrel 2 = .ok (.iload_n 2, 1) := by decide +kernel
theorem dL_quarrel_3 : decode cL_quarrel 3 = .ok (.invokevirtual 61, 3) := by decide +kernel
theorem dL_quarrel_6 : decode cL_quarrel 6 = .ok (.ireturn, 1) := by decide +kernel
theorem dL_quarrel_7 : decode cL_quarrel 7 = .ok (.astore_n 3, 1) := by decide +kernel
theorem dL_quarrel_8 : decode cL_quarrel 8 = .ok (.iconst (-1), 1) := by decide +kernel
theorem dL_quarrel_9 : decode cL_quarrel 9 = .ok (.ireturn, 1) := by decide +kernel
theorem dL_quarrel_10 : decode cL_quarrel 10 = .ok (.astore_n 3, 1) := by decide +kernel
theorem dL_quarrel_11 : decode cL_quarrel 11 = .ok (.bipush (-2), 2) := by decide +kernel
theorem dL_quarrel_13 : decode cL_quarrel 13 = .ok (.ireturn, 1) := by decide +kernel
theorem dL_quarrelAt_0 : decode cL_quarrelAt 0 = .ok (.aload_n 0, 1) := by decide +kernel
theorem dL_quarrelAt_1 : decode cL_quarrelAt 1 = .ok (.iload_n 1, 1) := by decide +kernel
theorem dL_quarrelAt_2 : decode cL_quarrelAt 2 = .ok (.iload_n 2, 1) := by decide +kernel
theorem dL_quarrelAt_3 : decode cL_quarrelAt 3 = .ok (.invokevirtual 64, 3) := by decide +kernel
theorem dL_quarrelAt_6 : decode cL_quarrelAt 6 = .ok (.ireturn, 1) := by decide +kernel
theorem dL_quarrelAt_7 : decode cL_quarrelAt 7 = .ok (.astore_n 3, 1) := by decide +kernel
theorem dL_quarrelAt_8 : decode cL_quarrelAt 8 = .ok (.bipush (-13), 2) := by decide +kernel
theorem dL_quarrelAt_10 : decode cL_quarrelAt 10 = .ok (.ireturn, 1) := by decide +kernel
theorem dL_give_0 : decode cL_give 0 = .ok (.aload_n 0, 1) := by decide +kernel
theorem dL_give_1 : decode cL_give 1 = .ok (.iload_n 1, 1) := by decide +kernel
theorem dL_give_2 : decode cL_give 2 = .ok (.iload_n 2, 1) := by decide +kernel
theorem dL_give_3 : decode cL_give 3 = .ok (.invokevirtual 73, 3) := by decide +kernel
theorem dL_give_6 : decode cL_give 6 = .ok (.ireturn, 1) := by decide +kernel
theorem dL_give_7 : decode cL_give 7 = .ok (.astore_n 3, 1) := by decide +kernel
theorem dL_give_8 : decode cL_give 8 = .ok (.iconst (-1), 1) := by decide +kernel
theorem dL_give_9 : decode cL_give 9 = .ok (.ireturn, 1) := by decide +kernel
theorem dL_give_10 : decode cL_give 10 = .ok (.astore_n 3, 1) := by decide +kernel
theorem dL_give_11 : decode cL_give 11 = .ok (.bipush (-2), 2) := by decide +kernel
theorem dL_give_13 : decode cL_give 13 = .ok (.ireturn, 1) := by decide +kernel
theorem dL_give_14 : decode cL_give 14 = .ok (.astore_n 3, 1) := by decide +kernel
theorem dL_give_15 : decode cL_give 15 = .ok (.bipush (-3), 2) := by decide +kernel
theorem dL_give_17 : decode cL_give 17 = .ok (.ireturn, 1) := by decide +kernel
theorem dL_die_0 : decode cL_die 0 = .ok (.aload_n 0, 1) := by decide +kernel
theorem dL_die_1 : decode cL_die 1 = .ok (.iload_n 1, 1) := by decide +kernel
theorem dL_die_2 : decode cL_die 2 = .ok (.invokevirtual 76, 3) := by decide +kernel
theorem dL_die_5 : decode cL_die 5 = .ok (.ireturn, 1) := by decide +kernel
theorem dL_die_6 : decode cL_die 6 = .ok (.astore_n 2, 1) := by decide +kernel
theorem dL_die_7 : decode cL_die 7 = .ok (.bipush (-2), 2) := by decide +kernel
theorem dL_die_9 : decode cL_die 9 = .ok (.ireturn, 1) := by decide +kernel
theorem dL_die_10 : decode cL_die 10 = .ok (.astore_n 2, 1) := by decide +kernel
theorem dL_die_11 : decode cL_die 11 = .ok (.bipush (-3), 2) := by decide +kernel
theorem dL_die_13 : decode cL_die 13 = .ok (.ireturn, 1) := by decide +kernel
theorem dL_heir_0 : decode cL_heir 0 = .ok (.aload_n 0, 1) := by decide +kernel
theorem dL_heir_1 : decode cL_heir 1 = .ok (.iload_n 1, 1) := by decide +kernel
theorem dL_heir_2 : decode cL_heir 2 = .ok (.invokevirtual 79, 3) := by decide +kernel
theorem dL_heir_5 : decode cL_heir 5 = .ok (.ireturn, 1) := by decide +kernel
theorem dL_heir_6 : decode cL_heir 6 = .ok (.astore_n 2, 1) := by decide +kernel
theorem dL_heir_7 : decode cL_heir 7 = .ok (.bipush (-11), 2) := by decide +kernel
theorem dL_heir_9 : decode cL_heir 9 = .ok (.ireturn, 1) := by decide +kernel
theorem dL_heir_10 : decode cL_heir 10 = .ok (.astore_n 2, 1) := by decide +kernel
theorem dL_heir_11 : decode cL_heir 11 = .ok (.bipush (-14), 2) := by decide +kernel
theorem dL_heir_13 : decode cL_heir 13 = .ok (.ireturn, 1) := by decide +kernel
theorem dL_ranked_0 : decode cL_ranked 0 = .ok (.aload_n 0, 1) := by decide +kernel
theorem dL_ranked_1 : decode cL_ranked 1 = .ok (.iload_n 1, 1) := by decide +kernel
theorem dL_ranked_2 : decode cL_ranked 2 = .ok (.invokevirtual 82, 3) := by decide +kernel
theorem dL_ranked_5 : decode cL_ranked 5 = .ok (.ireturn, 1) := by decide +kernel
theorem dL_ranked_6 : decode cL_ranked 6 = .ok (.astore_n 2, 1) := by decide +kernel
theorem dL_ranked_7 : decode cL_ranked 7 = .ok (.bipush (-13), 2) := by decide +kernel
theorem dL_ranked_9 : decode cL_ranked 9 = .ok (.ireturn, 1) := by decide +kernel
theorem dL_line_0 : decode cL_line 0 = .ok (.aload_n 0, 1) := by decide +kernel
theorem dL_line_1 : decode cL_line 1 = .ok (.iload_n 1, 1) := by decide +kernel
theorem dL_line_2 : decode cL_line 2 = .ok (.invokevirtual 85, 3) := by decide +kernel
theorem dL_line_5 : decode cL_line 5 = .ok (.ireturn, 1) := by decide +kernel
theorem dL_line_6 : decode cL_line 6 = .ok (.astore_n 2, 1) := by decide +kernel
theorem dL_line_7 : decode cL_line 7 = .ok (.bipush (-11), 2) := by decide +kernel
theorem dL_line_9 : decode cL_line 9 = .ok (.ireturn, 1) := by decide +kernel
theorem dL_character_0 : decode cL_character 0 = .ok (.aload_n 0, 1) := by decide +kernel
theorem dL_character_1 : decode cL_character 1 = .ok (.iload_n 1, 1) := by decide +kernel
theorem dL_character_2 : decode cL_character 2 = .ok (.invokevirtual 88, 3) := by decide +kernel
theorem dL_character_5 : decode cL_character 5 = .ok (.ireturn, 1) := by decide +kernel
theorem dL_character_6 : decode cL_character 6 = .ok (.astore_n 2, 1) := by decide +kernel
theorem dL_character_7 : decode cL_character 7 = .ok (.bipush (-11), 2) := by decide +kernel
theorem dL_character_9 : decode cL_character 9 = .ok (.ireturn, 1) := by decide +kernel
theorem dL_append_0 : decode cL_append 0 = .ok (.aload_n 0, 1) := by decide +kernel
theorem dL_append_1 : decode cL_append 1 = .ok (.iload_n 1, 1) := by decide +kernel
theorem dL_append_2 : decode cL_append 2 = .ok (.invokevirtual 92, 3) := by decide +kernel
theorem dL_append_5 : decode cL_append 5 = .ok (.ireturn, 1) := by decide +kernel
theorem dL_append_6 : decode cL_append 6 = .ok (.astore_n 2, 1) := by decide +kernel
theorem dL_append_7 : decode cL_append 7 = .ok (.iconst (-1), 1) := by decide +kernel
theorem dL_append_8 : decode cL_append 8 = .ok (.ireturn, 1) := by decide +kernel
theorem dL_runs_0 : decode cL_runs 0 = .ok (.aload_n 0, 1) := by decide +kernel
theorem dL_runs_1 : decode cL_runs 1 = .ok (.invokevirtual 96, 3) := by decide +kernel
theorem dL_runs_4 : decode cL_runs 4 = .ok (.ireturn, 1) := by decide +kernel
theorem dL_runs_5 : decode cL_runs 5 = .ok (.astore_n 1, 1) := by decide +kernel
theorem dL_runs_6 : decode cL_runs 6 = .ok (.iconst (-1), 1) := by decide +kernel
theorem dL_runs_7 : decode cL_runs 7 = .ok (.ireturn, 1) := by decide +kernel
theorem dL_runs_8 : decode cL_runs 8 = .ok (.astore_n 1, 1) := by decide +kernel
theorem dL_runs_9 : decode cL_runs 9 = .ok (.bipush (-2), 2) := by decide +kernel
theorem dL_runs_11 : decode cL_runs 11 = .ok (.ireturn, 1) := by decide +kernel
theorem dL_run_0 : decode cL_run 0 = .ok (.iconst 0, 1) := by decide +kernel
theorem dL_run_1 : decode cL_run 1 = .ok (.istore_n 2, 1) := by decide +kernel
theorem dL_run_2 : decode cL_run 2 = .ok (.iload_n 2, 1) := by decide +kernel
theorem dL_run_3 : decode cL_run 3 = .ok (.aload_n 1, 1) := by decide +kernel
theorem dL_run_4 : decode cL_run 4 = .ok (.invokevirtual 99, 3) := by decide +kernel
theorem dL_run_7 : decode cL_run 7 = .ok (.if_icmp .ge 27, 3) := by decide +kernel
theorem dL_run_10 : decode cL_run 10 = .ok (.aload_n 0, 1) := by decide +kernel
theorem dL_run_11 : decode cL_run 11 = .ok (.aload_n 1, 1) := by decide +kernel
theorem dL_run_12 : decode cL_run 12 = .ok (.iload_n 2, 1) := by decide +kernel
theorem dL_run_13 : decode cL_run 13 = .ok (.invokevirtual 104, 3) := by decide +kernel
theorem dL_run_16 : decode cL_run 16 = .ok (.invokestatic 107, 3) := by decide +kernel
theorem dL_run_19 : decode cL_run 19 = .ok (.iload_n 2, 1) := by decide +kernel
theorem dL_run_20 : decode cL_run 20 = .ok (.iconst 1, 1) := by decide +kernel
theorem dL_run_21 : decode cL_run 21 = .ok (.iadd, 1) := by decide +kernel
theorem dL_run_22 : decode cL_run 22 = .ok (.if_icmp .eq 6, 3) := by decide +kernel
theorem dL_run_25 : decode cL_run 25 = .ok (.bipush (-9), 2) := by decide +kernel
theorem dL_run_27 : decode cL_run 27 = .ok (.ireturn, 1) := by decide +kernel
theorem dL_run_28 : decode cL_run 28 = .ok (.iinc 2 1, 3) := by decide +kernel
theorem dL_run_31 : decode cL_run 31 = .ok (.goto (-29), 3) := by decide +kernel
theorem dL_run_34 : decode cL_run 34 = .ok (.aload_n 0, 1) := by decide +kernel
theorem dL_run_35 : decode cL_run 35 = .ok (.invokestatic 112, 3) := by decide +kernel
theorem dL_run_38 : decode cL_run 38 = .ok (.ireturn, 1) := by decide +kernel
theorem dL_undo_0 : decode cL_undo 0 = .ok (.aload_n 0, 1) := by decide +kernel
theorem dL_undo_1 : decode cL_undo 1 = .ok (.invokevirtual 120, 3) := by decide +kernel
theorem dL_undo_4 : decode cL_undo 4 = .ok (.ireturn, 1) := by decide +kernel
theorem dL_undo_5 : decode cL_undo 5 = .ok (.astore_n 1, 1) := by decide +kernel
theorem dL_undo_6 : decode cL_undo 6 = .ok (.iconst (-1), 1) := by decide +kernel
theorem dL_undo_7 : decode cL_undo 7 = .ok (.ireturn, 1) := by decide +kernel
theorem dL_drawn_0 : decode cL_drawn 0 = .ok (.new 9, 3) := by decide +kernel
theorem dL_drawn_3 : decode cL_drawn 3 = .ok (.dup, 1) := by decide +kernel
theorem dL_drawn_4 : decode cL_drawn 4 = .ok (.invokespecial 123, 3) := by decide +kernel
theorem dL_drawn_7 : decode cL_drawn 7 = .ok (.astore_n 1, 1) := by decide +kernel
theorem dL_drawn_8 : decode cL_drawn 8 = .ok (.aload_n 0, 1) := by decide +kernel
theorem dL_drawn_9 : decode cL_drawn 9 = .ok (.iconst 0, 1) := by decide +kernel
theorem dL_drawn_10 : decode cL_drawn 10 = .ok (.invokestatic 124, 3) := by decide +kernel
theorem dL_drawn_13 : decode cL_drawn 13 = .ok (.iconst 1, 1) := by decide +kernel
theorem dL_drawn_14 : decode cL_drawn 14 = .ok (.iushr, 1) := by decide +kernel
theorem dL_drawn_15 : decode cL_drawn 15 = .ok (.istore_n 2, 1) := by decide +kernel
theorem dL_drawn_16 : decode cL_drawn 16 = .ok (.iconst 5, 1) := by decide +kernel
theorem dL_drawn_17 : decode cL_drawn 17 = .ok (.iload_n 2, 1) := by decide +kernel
theorem dL_drawn_18 : decode cL_drawn 18 = .ok (.bipush 40, 2) := by decide +kernel
theorem dL_drawn_20 : decode cL_drawn 20 = .ok (.irem, 1) := by decide +kernel
theorem dL_drawn_21 : decode cL_drawn 21 = .ok (.iadd, 1) := by decide +kernel
theorem dL_drawn_22 : decode cL_drawn 22 = .ok (.istore_n 3, 1) := by decide +kernel
theorem dL_drawn_23 : decode cL_drawn 23 = .ok (.iconst 0, 1) := by decide +kernel
theorem dL_drawn_24 : decode cL_drawn 24 = .ok (.istore 4, 2) := by decide +kernel
theorem dL_drawn_26 : decode cL_drawn 26 = .ok (.iload 4, 2) := by decide +kernel
theorem dL_drawn_28 : decode cL_drawn 28 = .ok (.iload_n 3, 1) := by decide +kernel
theorem dL_drawn_29 : decode cL_drawn 29 = .ok (.if_icmp .ge 382, 3) := by decide +kernel
theorem dL_drawn_32 : decode cL_drawn 32 = .ok (.aload_n 0, 1) := by decide +kernel
theorem dL_drawn_33 : decode cL_drawn 33 = .ok (.iconst 1, 1) := by decide +kernel
theorem dL_drawn_34 : decode cL_drawn 34 = .ok (.iload 4, 2) := by decide +kernel
theorem dL_drawn_36 : decode cL_drawn 36 = .ok (.iadd, 1) := by decide +kernel
theorem dL_drawn_37 : decode cL_drawn 37 = .ok (.invokestatic 124, 3) := by decide +kernel
theorem dL_drawn_40 : decode cL_drawn 40 = .ok (.iconst 1, 1) := by decide +kernel
theorem dL_drawn_41 : decode cL_drawn 41 = .ok (.iushr, 1) := by decide +kernel
theorem dL_drawn_42 : decode cL_drawn 42 = .ok (.istore 5, 2) := by decide +kernel
theorem dL_drawn_44 : decode cL_drawn 44 = .ok (.iload 5, 2) := by decide +kernel
theorem dL_drawn_46 : decode cL_drawn 46 = .ok (.iconst 4, 1) := by decide +kernel
theorem dL_drawn_47 : decode cL_drawn 47 = .ok (.iushr, 1) := by decide +kernel
theorem dL_drawn_48 : decode cL_drawn 48 = .ok (.istore 6, 2) := by decide +kernel
theorem dL_drawn_50 : decode cL_drawn 50 = .ok (.aload_n 1, 1) := by decide +kernel
theorem dL_drawn_51 : decode cL_drawn 51 = .ok (.iconst 0, 1) := by decide +kernel
theorem dL_drawn_52 : decode cL_drawn 52 = .ok (.invokevirtual 128, 3) := by decide +kernel
theorem dL_drawn_55 : decode cL_drawn 55 = .ok (.istore 7, 2) := by decide +kernel
theorem dL_drawn_57 : decode cL_drawn 57 = .ok (.iload 7, 2) := by decide +kernel
theorem dL_drawn_59 : decode cL_drawn 59 = .ok (.ifCond .ne 7, 3) := by decide +kernel
theorem dL_drawn_62 : decode cL_drawn 62 = .ok (.iconst 0, 1) := by decide +kernel
theorem dL_drawn_63 : decode cL_drawn 63 = .ok (.goto 8, 3) := by decide +kernel
theorem dL_drawn_66 : decode cL_drawn 66 = .ok (.iload 6, 2) := by decide +kernel
theorem dL_drawn_68 : decode cL_drawn 68 = .ok (.iload 7, 2) := by decide +kernel
theorem dL_drawn_70 : decode cL_drawn 70 = .ok (.irem, 1) := by decide +kernel
theorem dL_drawn_71 : decode cL_drawn 71 = .ok (.istore 8, 2) := by decide +kernel
theorem dL_drawn_73 : decode cL_drawn 73 = .ok (.iload 7, 2) := by decide +kernel
theorem dL_drawn_75 : decode cL_drawn 75 = .ok (.ifCond .ne 7, 3) := by decide +kernel
theorem dL_drawn_78 : decode cL_drawn 78 = .ok (.iconst 0, 1) := by decide +kernel
theorem dL_drawn_79 : decode cL_drawn 79 = .ok (.goto 10, 3) := by decide +kernel
theorem dL_drawn_82 : decode cL_drawn 82 = .ok (.iload 6, 2) := by decide +kernel
theorem dL_drawn_84 : decode cL_drawn 84 = .ok (.iconst 5, 1) := by decide +kernel
theorem dL_drawn_85 : decode cL_drawn 85 = .ok (.iushr, 1) := by decide +kernel
theorem dL_drawn_86 : decode cL_drawn 86 = .ok (.iload 7, 2) := by decide +kernel
theorem dL_drawn_88 : decode cL_drawn 88 = .ok (.irem, 1) := by decide +kernel
theorem dL_drawn_89 : decode cL_drawn 89 = .ok (.istore 9, 2) := by decide +kernel
theorem dL_drawn_91 : decode cL_drawn 91 = .ok (.iload 7, 2) := by decide +kernel
theorem dL_drawn_93 : decode cL_drawn 93 = .ok (.iconst 3, 1) := by decide +kernel
theorem dL_drawn_94 : decode cL_drawn 94 = .ok (.if_icmp .ge 7, 3) := by decide +kernel
theorem dL_drawn_97 : decode cL_drawn 97 = .ok (.iconst 0, 1) := by decide +kernel
theorem dL_drawn_98 : decode cL_drawn 98 = .ok (.goto 8, 3) := by decide +kernel
theorem dL_drawn_101 : decode cL_drawn 101 = .ok (.iload 5, 2) := by decide +kernel
theorem dL_drawn_103 : decode cL_drawn 103 = .ok (.bipush 14, 2) := by decide +kernel
theorem dL_drawn_105 : decode cL_drawn 105 = .ok (.irem, 1) := by decide +kernel
theorem dL_drawn_106 : decode cL_drawn 106 = .ok (.tableswitch 267 0 12 #[66, 66, 96, 96, 96, 96, 116, 138, 165, 187, 214, 214, 236], 66) := by decide +kernel
theorem dL_drawn_172 : decode cL_drawn 172 = .ok (.aload_n 1, 1) := by decide +kernel
theorem dL_drawn_173 : decode cL_drawn 173 = .ok (.invokestatic 131, 3) := by decide +kernel
theorem dL_drawn_176 : decode cL_drawn 176 = .ok (.istore 10, 2) := by decide +kernel
theorem dL_drawn_178 : decode cL_drawn 178 = .ok (.iload 10, 2) := by decide +kernel
theorem dL_drawn_180 : decode cL_drawn 180 = .ok (.bipush (-2), 2) := by decide +kernel
theorem dL_drawn_182 : decode cL_drawn 182 = .ok (.if_icmp .ne 14, 3) := by decide +kernel
theorem dL_drawn_185 : decode cL_drawn 185 = .ok (.iload 7, 2) := by decide +kernel
theorem dL_drawn_187 : decode cL_drawn 187 = .ok (.bipush 24, 2) := by decide +kernel
theorem dL_drawn_189 : decode cL_drawn 189 = .ok (.if_icmp .ge 7, 3) := by decide +kernel
theorem dL_drawn_192 : decode cL_drawn 192 = .ok (.iconst (-1), 1) := by decide +kernel
theorem dL_drawn_193 : decode cL_drawn 193 = .ok (.goto 4, 3) := by decide +kernel
theorem dL_drawn_196 : decode cL_drawn 196 = .ok (.iconst 0, 1) := by decide +kernel
theorem dL_drawn_197 : decode cL_drawn 197 = .ok (.istore 10, 2) := by decide +kernel
theorem dL_drawn_199 : decode cL_drawn 199 = .ok (.goto 199, 3) := by decide +kernel
theorem dL_drawn_202 : decode cL_drawn 202 = .ok (.aload_n 1, 1) := by decide +kernel
theorem dL_drawn_203 : decode cL_drawn 203 = .ok (.iload 8, 2) := by decide +kernel
theorem dL_drawn_205 : decode cL_drawn 205 = .ok (.invokestatic 133, 3) := by decide +kernel
theorem dL_drawn_208 : decode cL_drawn 208 = .ok (.iconst (-1), 1) := by decide +kernel
theorem dL_drawn_209 : decode cL_drawn 209 = .ok (.if_icmp .ne 7, 3) := by decide +kernel
theorem dL_drawn_212 : decode cL_drawn 212 = .ok (.iconst (-1), 1) := by decide +kernel
theorem dL_drawn_213 : decode cL_drawn 213 = .ok (.goto 4, 3) := by decide +kernel
theorem dL_drawn_216 : decode cL_drawn 216 = .ok (.iconst 0, 1) := by decide +kernel
theorem dL_drawn_217 : decode cL_drawn 217 = .ok (.istore 10, 2) := by decide +kernel
theorem dL_drawn_219 : decode cL_drawn 219 = .ok (.goto 179, 3) := by decide +kernel
theorem dL_drawn_222 : decode cL_drawn 222 = .ok (.aload_n 1, 1) := by decide +kernel
theorem dL_drawn_223 : decode cL_drawn 223 = .ok (.iload 8, 2) := by decide +kernel
theorem dL_drawn_225 : decode cL_drawn 225 = .ok (.iload 9, 2) := by decide +kernel
theorem dL_drawn_227 : decode cL_drawn 227 = .ok (.invokestatic 136, 3) := by decide +kernel
theorem dL_drawn_230 : decode cL_drawn 230 = .ok (.iconst (-1), 1) := by decide +kernel
theorem dL_drawn_231 : decode cL_drawn 231 = .ok (.if_icmp .ne 7, 3) := by decide +kernel
theorem dL_drawn_234 : decode cL_drawn 234 = .ok (.iconst (-1), 1) := by decide +kernel
theorem dL_drawn_235 : decode cL_drawn 235 = .ok (.goto 4, 3) := by decide +kernel
theorem dL_drawn_238 : decode cL_drawn 238 = .ok (.iconst 0, 1) := by decide +kernel
theorem dL_drawn_239 : decode cL_drawn 239 = .ok (.istore 10, 2) := by decide +kernel
theorem dL_drawn_241 : decode cL_drawn 241 = .ok (.goto 157, 3) := by decide +kernel
theorem dL_drawn_244 : decode cL_drawn 244 = .ok (.iload 6, 2) := by decide +kernel
theorem dL_drawn_246 : decode cL_drawn 246 = .ok (.iconst 3, 1) := by decide +kernel
theorem dL_drawn_247 : decode cL_drawn 247 = .ok (.irem, 1) := by decide +kernel
theorem dL_drawn_248 : decode cL_drawn 248 = .ok (.ifCond .ne 17, 3) := by decide +kernel
theorem dL_drawn_251 : decode cL_drawn 251 = .ok (.aload_n 1, 1) := by decide +kernel
theorem dL_drawn_252 : decode cL_drawn 252 = .ok (.iload 8, 2) := by decide +kernel
theorem dL_drawn_254 : decode cL_drawn 254 = .ok (.invokestatic 139, 3) := by decide +kernel
theorem dL_drawn_257 : decode cL_drawn 257 = .ok (.iconst (-1), 1) := by decide +kernel
theorem dL_drawn_258 : decode cL_drawn 258 = .ok (.if_icmp .ne 7, 3) := by decide +kernel
theorem dL_drawn_261 : decode cL_drawn 261 = .ok (.iconst (-1), 1) := by decide +kernel
theorem dL_drawn_262 : decode cL_drawn 262 = .ok (.goto 4, 3) := by decide +kernel
theorem dL_drawn_265 : decode cL_drawn 265 = .ok (.iconst 0, 1) := by decide +kernel
theorem dL_drawn_266 : decode cL_drawn 266 = .ok (.istore 10, 2) := by decide +kernel
theorem dL_drawn_268 : decode cL_drawn 268 = .ok (.goto 130, 3) := by decide +kernel
theorem dL_drawn_271 : decode cL_drawn 271 = .ok (.aload_n 1, 1) := by decide +kernel
theorem dL_drawn_272 : decode cL_drawn 272 = .ok (.iload 8, 2) := by decide +kernel
theorem dL_drawn_274 : decode cL_drawn 274 = .ok (.iload 9, 2) := by decide +kernel
theorem dL_drawn_276 : decode cL_drawn 276 = .ok (.invokestatic 141, 3) := by decide +kernel
theorem dL_drawn_279 : decode cL_drawn 279 = .ok (.iconst (-1), 1) := by decide +kernel
theorem dL_drawn_280 : decode cL_drawn 280 = .ok (.if_icmp .ne 7, 3) := by decide +kernel
theorem dL_drawn_283 : decode cL_drawn 283 = .ok (.iconst (-1), 1) := by decide +kernel
theorem dL_drawn_284 : decode cL_drawn 284 = .ok (.goto 4, 3) := by decide +kernel
theorem dL_drawn_287 : decode cL_drawn 287 = .ok (.iconst 0, 1) := by decide +kernel
theorem dL_drawn_288 : decode cL_drawn 288 = .ok (.istore 10, 2) := by decide +kernel
theorem dL_drawn_290 : decode cL_drawn 290 = .ok (.goto 108, 3) := by decide +kernel
theorem dL_drawn_293 : decode cL_drawn 293 = .ok (.iload 6, 2) := by decide +kernel
theorem dL_drawn_295 : decode cL_drawn 295 = .ok (.iconst 3, 1) := by decide +kernel
theorem dL_drawn_296 : decode cL_drawn 296 = .ok (.irem, 1) := by decide +kernel
theorem dL_drawn_297 : decode cL_drawn 297 = .ok (.ifCond .ne 17, 3) := by decide +kernel
theorem dL_drawn_300 : decode cL_drawn 300 = .ok (.aload_n 1, 1) := by decide +kernel
theorem dL_drawn_301 : decode cL_drawn 301 = .ok (.iload 8, 2) := by decide +kernel
theorem dL_drawn_303 : decode cL_drawn 303 = .ok (.invokestatic 143, 3) := by decide +kernel
theorem dL_drawn_306 : decode cL_drawn 306 = .ok (.iconst (-1), 1) := by decide +kernel
theorem dL_drawn_307 : decode cL_drawn 307 = .ok (.if_icmp .ne 7, 3) := by decide +kernel
theorem dL_drawn_310 : decode cL_drawn 310 = .ok (.iconst (-1), 1) := by decide +kernel
theorem dL_drawn_311 : decode cL_drawn 311 = .ok (.goto 4, 3) := by decide +kernel
theorem dL_drawn_314 : decode cL_drawn 314 = .ok (.iconst 0, 1) := by decide +kernel
theorem dL_drawn_315 : decode cL_drawn 315 = .ok (.istore 10, 2) := by decide +kernel
theorem dL_drawn_317 : decode cL_drawn 317 = .ok (.goto 81, 3) := by decide +kernel
theorem dL_drawn_320 : decode cL_drawn 320 = .ok (.aload_n 1, 1) := by decide +kernel
theorem dL_drawn_321 : decode cL_drawn 321 = .ok (.iload 8, 2) := by decide +kernel
theorem dL_drawn_323 : decode cL_drawn 323 = .ok (.iload 9, 2) := by decide +kernel
theorem dL_drawn_325 : decode cL_drawn 325 = .ok (.invokestatic 145, 3) := by decide +kernel
theorem dL_drawn_328 : decode cL_drawn 328 = .ok (.iconst (-1), 1) := by decide +kernel
theorem dL_drawn_329 : decode cL_drawn 329 = .ok (.if_icmp .ne 7, 3) := by decide +kernel
theorem dL_drawn_332 : decode cL_drawn 332 = .ok (.iconst (-1), 1) := by decide +kernel
theorem dL_drawn_333 : decode cL_drawn 333 = .ok (.goto 4, 3) := by decide +kernel
theorem dL_drawn_336 : decode cL_drawn 336 = .ok (.iconst 0, 1) := by decide +kernel
theorem dL_drawn_337 : decode cL_drawn 337 = .ok (.istore 10, 2) := by decide +kernel
theorem dL_drawn_339 : decode cL_drawn 339 = .ok (.goto 59, 3) := by decide +kernel
theorem dL_drawn_342 : decode cL_drawn 342 = .ok (.aload_n 1, 1) := by decide +kernel
theorem dL_drawn_343 : decode cL_drawn 343 = .ok (.iload 8, 2) := by decide +kernel
theorem dL_drawn_345 : decode cL_drawn 345 = .ok (.iconst 1, 1) := by decide +kernel
theorem dL_drawn_346 : decode cL_drawn 346 = .ok (.iload 6, 2) := by decide +kernel
theorem dL_drawn_348 : decode cL_drawn 348 = .ok (.bipush 10, 2) := by decide +kernel
theorem dL_drawn_350 : decode cL_drawn 350 = .ok (.iushr, 1) := by decide +kernel
theorem dL_drawn_351 : decode cL_drawn 351 = .ok (.sipush 999, 3) := by decide +kernel
theorem dL_drawn_354 : decode cL_drawn 354 = .ok (.irem, 1) := by decide +kernel
theorem dL_drawn_355 : decode cL_drawn 355 = .ok (.iadd, 1) := by decide +kernel
theorem dL_drawn_356 : decode cL_drawn 356 = .ok (.invokestatic 147, 3) := by decide +kernel
theorem dL_drawn_359 : decode cL_drawn 359 = .ok (.iconst (-1), 1) := by decide +kernel
theorem dL_drawn_360 : decode cL_drawn 360 = .ok (.if_icmp .ne 7, 3) := by decide +kernel
theorem dL_drawn_363 : decode cL_drawn 363 = .ok (.iconst (-1), 1) := by decide +kernel
theorem dL_drawn_364 : decode cL_drawn 364 = .ok (.goto 4, 3) := by decide +kernel
theorem dL_drawn_367 : decode cL_drawn 367 = .ok (.iconst 0, 1) := by decide +kernel
theorem dL_drawn_368 : decode cL_drawn 368 = .ok (.istore 10, 2) := by decide +kernel
theorem dL_drawn_370 : decode cL_drawn 370 = .ok (.goto 28, 3) := by decide +kernel
theorem dL_drawn_373 : decode cL_drawn 373 = .ok (.iload 6, 2) := by decide +kernel
theorem dL_drawn_375 : decode cL_drawn 375 = .ok (.iconst 2, 1) := by decide +kernel
theorem dL_drawn_376 : decode cL_drawn 376 = .ok (.irem, 1) := by decide +kernel
theorem dL_drawn_377 : decode cL_drawn 377 = .ok (.ifCond .ne 18, 3) := by decide +kernel
theorem dL_drawn_380 : decode cL_drawn 380 = .ok (.aload_n 1, 1) := by decide +kernel
theorem dL_drawn_381 : decode cL_drawn 381 = .ok (.iload 8, 2) := by decide +kernel
theorem dL_drawn_383 : decode cL_drawn 383 = .ok (.invokestatic 149, 3) := by decide +kernel
theorem dL_drawn_386 : decode cL_drawn 386 = .ok (.bipush (-2), 2) := by decide +kernel
theorem dL_drawn_388 : decode cL_drawn 388 = .ok (.if_icmp .ne 7, 3) := by decide +kernel
theorem dL_drawn_391 : decode cL_drawn 391 = .ok (.iconst (-1), 1) := by decide +kernel
theorem dL_drawn_392 : decode cL_drawn 392 = .ok (.goto 4, 3) := by decide +kernel
theorem dL_drawn_395 : decode cL_drawn 395 = .ok (.iconst 0, 1) := by decide +kernel
theorem dL_drawn_396 : decode cL_drawn 396 = .ok (.istore 10, 2) := by decide +kernel
theorem dL_drawn_398 : decode cL_drawn 398 = .ok (.iload 10, 2) := by decide +kernel
theorem dL_drawn_400 : decode cL_drawn 400 = .ok (.ifCond .ge 5, 3) := by decide +kernel
theorem dL_drawn_403 : decode cL_drawn 403 = .ok (.aconst_null, 1) := by decide +kernel
theorem dL_drawn_404 : decode cL_drawn 404 = .ok (.areturn, 1) := by decide +kernel
theorem dL_drawn_405 : decode cL_drawn 405 = .ok (.iinc 4 1, 3) := by decide +kernel
theorem dL_drawn_408 : decode cL_drawn 408 = .ok (.goto (-382), 3) := by decide +kernel
theorem dL_drawn_411 : decode cL_drawn 411 = .ok (.aload_n 1, 1) := by decide +kernel
theorem dL_drawn_412 : decode cL_drawn 412 = .ok (.areturn, 1) := by decide +kernel
theorem dL_houses_0 : decode cL_houses 0 = .ok (.aload_n 0, 1) := by decide +kernel
theorem dL_houses_1 : decode cL_houses 1 = .ok (.iconst 0, 1) := by decide +kernel
theorem dL_houses_2 : decode cL_houses 2 = .ok (.invokevirtual 128, 3) := by decide +kernel
theorem dL_houses_5 : decode cL_houses 5 = .ok (.istore_n 1, 1) := by decide +kernel
theorem dL_houses_6 : decode cL_houses 6 = .ok (.iload_n 1, 1) := by decide +kernel
theorem dL_houses_7 : decode cL_houses 7 = .ok (.newarray .int, 2) := by decide +kernel
theorem dL_houses_9 : decode cL_houses 9 = .ok (.astore_n 2, 1) := by decide +kernel
theorem dL_houses_10 : decode cL_houses 10 = .ok (.iconst 0, 1) := by decide +kernel
theorem dL_houses_11 : decode cL_houses 11 = .ok (.istore_n 3, 1) := by decide +kernel
theorem dL_houses_12 : decode cL_houses 12 = .ok (.iload_n 3, 1) := by decide +kernel
theorem dL_houses_13 : decode cL_houses 13 = .ok (.iload_n 1, 1) := by decide +kernel
theorem dL_houses_14 : decode cL_houses 14 = .ok (.if_icmp .ge 13, 3) := by decide +kernel
theorem dL_houses_17 : decode cL_houses 17 = .ok (.aload_n 2, 1) := by decide +kernel
theorem dL_houses_18 : decode cL_houses 18 = .ok (.iload_n 3, 1) := by decide +kernel
theorem dL_houses_19 : decode cL_houses 19 = .ok (.iconst (-1), 1) := by decide +kernel
theorem dL_houses_20 : decode cL_houses 20 = .ok (.iastore, 1) := by decide +kernel
theorem dL_houses_21 : decode cL_houses 21 = .ok (.iinc 3 1, 3) := by decide +kernel
theorem dL_houses_24 : decode cL_houses 24 = .ok (.goto (-12), 3) := by decide +kernel
theorem dL_houses_27 : decode cL_houses 27 = .ok (.iconst 2, 1) := by decide +kernel
theorem dL_houses_28 : decode cL_houses 28 = .ok (.iload_n 1, 1) := by decide +kernel
theorem dL_houses_29 : decode cL_houses 29 = .ok (.imul, 1) := by decide +kernel
theorem dL_houses_30 : decode cL_houses 30 = .ok (.iconst 2, 1) := by decide +kernel
theorem dL_houses_31 : decode cL_houses 31 = .ok (.iadd, 1) := by decide +kernel
theorem dL_houses_32 : decode cL_houses 32 = .ok (.newarray .int, 2) := by decide +kernel
theorem dL_houses_34 : decode cL_houses 34 = .ok (.astore_n 3, 1) := by decide +kernel
theorem dL_houses_35 : decode cL_houses 35 = .ok (.iconst 0, 1) := by decide +kernel
theorem dL_houses_36 : decode cL_houses 36 = .ok (.istore 4, 2) := by decide +kernel
theorem dL_houses_38 : decode cL_houses 38 = .ok (.iload 4, 2) := by decide +kernel
theorem dL_houses_40 : decode cL_houses 40 = .ok (.iload_n 1, 1) := by decide +kernel
theorem dL_houses_41 : decode cL_houses 41 = .ok (.if_icmp .ge 124, 3) := by decide +kernel
theorem dL_houses_44 : decode cL_houses 44 = .ok (.iconst 0, 1) := by decide +kernel
theorem dL_houses_45 : decode cL_houses 45 = .ok (.istore 5, 2) := by decide +kernel
theorem dL_houses_47 : decode cL_houses 47 = .ok (.aload_n 2, 1) := by decide +kernel
theorem dL_houses_48 : decode cL_houses 48 = .ok (.iload 4, 2) := by decide +kernel
theorem dL_houses_50 : decode cL_houses 50 = .ok (.iaload, 1) := by decide +kernel
theorem dL_houses_51 : decode cL_houses 51 = .ok (.ifCond .ge 18, 3) := by decide +kernel
theorem dL_houses_54 : decode cL_houses 54 = .ok (.aload_n 2, 1) := by decide +kernel
theorem dL_houses_55 : decode cL_houses 55 = .ok (.iload 4, 2) := by decide +kernel
theorem dL_houses_57 : decode cL_houses 57 = .ok (.iload 4, 2) := by decide +kernel
theorem dL_houses_59 : decode cL_houses 59 = .ok (.iastore, 1) := by decide +kernel
theorem dL_houses_60 : decode cL_houses 60 = .ok (.aload_n 3, 1) := by decide +kernel
theorem dL_houses_61 : decode cL_houses 61 = .ok (.iload 5, 2) := by decide +kernel
theorem dL_houses_63 : decode cL_houses 63 = .ok (.iload 4, 2) := by decide +kernel
theorem dL_houses_65 : decode cL_houses 65 = .ok (.iastore, 1) := by decide +kernel
theorem dL_houses_66 : decode cL_houses 66 = .ok (.iinc 5 1, 3) := by decide +kernel
theorem dL_houses_69 : decode cL_houses 69 = .ok (.iload 5, 2) := by decide +kernel
theorem dL_houses_71 : decode cL_houses 71 = .ok (.ifCond .le 88, 3) := by decide +kernel
theorem dL_houses_74 : decode cL_houses 74 = .ok (.iinc 5 (-1), 3) := by decide +kernel
theorem dL_houses_77 : decode cL_houses 77 = .ok (.aload_n 3, 1) := by decide +kernel
theorem dL_houses_78 : decode cL_houses 78 = .ok (.iload 5, 2) := by decide +kernel
theorem dL_houses_80 : decode cL_houses 80 = .ok (.iaload, 1) := by decide +kernel
theorem dL_houses_81 : decode cL_houses 81 = .ok (.istore 6, 2) := by decide +kernel
theorem dL_houses_83 : decode cL_houses 83 = .ok (.iconst 0, 1) := by decide +kernel
theorem dL_houses_84 : decode cL_houses 84 = .ok (.istore 7, 2) := by decide +kernel
theorem dL_houses_86 : decode cL_houses 86 = .ok (.iload 7, 2) := by decide +kernel
theorem dL_houses_88 : decode cL_houses 88 = .ok (.iload_n 1, 1) := by decide +kernel
theorem dL_houses_89 : decode cL_houses 89 = .ok (.if_icmp .ge 67, 3) := by decide +kernel
theorem dL_houses_92 : decode cL_houses 92 = .ok (.aload_n 2, 1) := by decide +kernel
theorem dL_houses_93 : decode cL_houses 93 = .ok (.iload 7, 2) := by decide +kernel
theorem dL_houses_95 : decode cL_houses 95 = .ok (.iaload, 1) := by decide +kernel
theorem dL_houses_96 : decode cL_houses 96 = .ok (.ifCond .ge 54, 3) := by decide +kernel
theorem dL_houses_99 : decode cL_houses 99 = .ok (.aload_n 0, 1) := by decide +kernel
theorem dL_houses_100 : decode cL_houses 100 = .ok (.iload 7, 2) := by decide +kernel
theorem dL_houses_102 : decode cL_houses 102 = .ok (.iconst 0, 1) := by decide +kernel
theorem dL_houses_103 : decode cL_houses 103 = .ok (.invokestatic 151, 3) := by decide +kernel
theorem dL_houses_106 : decode cL_houses 106 = .ok (.iload 6, 2) := by decide +kernel
theorem dL_houses_108 : decode cL_houses 108 = .ok (.if_icmp .eq 27, 3) := by decide +kernel
theorem dL_houses_111 : decode cL_houses 111 = .ok (.aload_n 0, 1) := by decide +kernel
theorem dL_houses_112 : decode cL_houses 112 = .ok (.iload 6, 2) := by decide +kernel
theorem dL_houses_114 : decode cL_houses 114 = .ok (.iconst 0, 1) := by decide +kernel
theorem dL_houses_115 : decode cL_houses 115 = .ok (.invokestatic 151, 3) := by decide +kernel
theorem dL_houses_118 : decode cL_houses 118 = .ok (.iload 7, 2) := by decide +kernel
theorem dL_houses_120 : decode cL_houses 120 = .ok (.if_icmp .eq 15, 3) := by decide +kernel
theorem dL_houses_123 : decode cL_houses 123 = .ok (.aload_n 0, 1) := by decide +kernel
theorem dL_houses_124 : decode cL_houses 124 = .ok (.iload 6, 2) := by decide +kernel
theorem dL_houses_126 : decode cL_houses 126 = .ok (.iconst 4, 1) := by decide +kernel
theorem dL_houses_127 : decode cL_houses 127 = .ok (.invokestatic 151, 3) := by decide +kernel
theorem dL_houses_130 : decode cL_houses 130 = .ok (.iload 7, 2) := by decide +kernel
theorem dL_houses_132 : decode cL_houses 132 = .ok (.if_icmp .ne 18, 3) := by decide +kernel
theorem dL_houses_135 : decode cL_houses 135 = .ok (.aload_n 2, 1) := by decide +kernel
theorem dL_houses_136 : decode cL_houses 136 = .ok (.iload 7, 2) := by decide +kernel
theorem dL_houses_138 : decode cL_houses 138 = .ok (.iload 4, 2) := by decide +kernel
theorem dL_houses_140 : decode cL_houses 140 = .ok (.iastore, 1) := by decide +kernel
theorem dL_houses_141 : decode cL_houses 141 = .ok (.aload_n 3, 1) := by decide +kernel
theorem dL_houses_142 : decode cL_houses 142 = .ok (.iload 5, 2) := by decide +kernel
theorem dL_houses_144 : decode cL_houses 144 = .ok (.iload 7, 2) := by decide +kernel
theorem dL_houses_146 : decode cL_houses 146 = .ok (.iastore, 1) := by decide +kernel
theorem dL_houses_147 : decode cL_houses 147 = .ok (.iinc 5 1, 3) := by decide +kernel
theorem dL_houses_150 : decode cL_houses 150 = .ok (.iinc 7 1, 3) := by decide +kernel
theorem dL_houses_153 : decode cL_houses 153 = .ok (.goto (-67), 3) := by decide +kernel
theorem dL_houses_156 : decode cL_houses 156 = .ok (.goto (-87), 3) := by decide +kernel
theorem dL_houses_159 : decode cL_houses 159 = .ok (.iinc 4 1, 3) := by decide +kernel
theorem dL_houses_162 : decode cL_houses 162 = .ok (.goto (-124), 3) := by decide +kernel
theorem dL_houses_165 : decode cL_houses 165 = .ok (.aload_n 2, 1) := by decide +kernel
theorem dL_houses_166 : decode cL_houses 166 = .ok (.areturn, 1) := by decide +kernel
theorem dL_law_0 : decode cL_law 0 = .ok (.aload_n 0, 1) := by decide +kernel
theorem dL_law_1 : decode cL_law 1 = .ok (.invokestatic 154, 3) := by decide +kernel
theorem dL_law_4 : decode cL_law 4 = .ok (.astore_n 1, 1) := by decide +kernel
theorem dL_law_5 : decode cL_law 5 = .ok (.aload_n 1, 1) := by decide +kernel
theorem dL_law_6 : decode cL_law 6 = .ok (.ifnull 51, 3) := by decide +kernel
theorem dL_law_9 : decode cL_law 9 = .ok (.aload_n 1, 1) := by decide +kernel
theorem dL_law_10 : decode cL_law 10 = .ok (.invokestatic 158, 3) := by decide +kernel
theorem dL_law_13 : decode cL_law 13 = .ok (.ifCond .eq 44, 3) := by decide +kernel
theorem dL_law_16 : decode cL_law 16 = .ok (.aload_n 0, 1) := by decide +kernel
theorem dL_law_17 : decode cL_law 17 = .ok (.aload_n 1, 1) := by decide +kernel
theorem dL_law_18 : decode cL_law 18 = .ok (.invokestatic 162, 3) := by decide +kernel
theorem dL_law_21 : decode cL_law 21 = .ok (.ifCond .eq 36, 3) := by decide +kernel
theorem dL_law_24 : decode cL_law 24 = .ok (.aload_n 1, 1) := by decide +kernel
theorem dL_law_25 : decode cL_law 25 = .ok (.invokestatic 166, 3) := by decide +kernel
theorem dL_law_28 : decode cL_law 28 = .ok (.ifCond .eq 29, 3) := by decide +kernel
theorem dL_law_31 : decode cL_law 31 = .ok (.aload_n 1, 1) := by decide +kernel
theorem dL_law_32 : decode cL_law 32 = .ok (.invokestatic 169, 3) := by decide +kernel
theorem dL_law_35 : decode cL_law 35 = .ok (.ifCond .eq 22, 3) := by decide +kernel
theorem dL_law_38 : decode cL_law 38 = .ok (.aload_n 1, 1) := by decide +kernel
theorem dL_law_39 : decode cL_law 39 = .ok (.invokestatic 172, 3) := by decide +kernel
theorem dL_law_42 : decode cL_law 42 = .ok (.ifCond .eq 15, 3) := by decide +kernel
theorem dL_law_45 : decode cL_law 45 = .ok (.aload_n 0, 1) := by decide +kernel
theorem dL_law_46 : decode cL_law 46 = .ok (.aload_n 1, 1) := by decide +kernel
theorem dL_law_47 : decode cL_law 47 = .ok (.invokestatic 175, 3) := by decide +kernel
theorem dL_law_50 : decode cL_law 50 = .ok (.ifCond .eq 7, 3) := by decide +kernel
theorem dL_law_53 : decode cL_law 53 = .ok (.iconst 1, 1) := by decide +kernel
theorem dL_law_54 : decode cL_law 54 = .ok (.goto 4, 3) := by decide +kernel
theorem dL_law_57 : decode cL_law 57 = .ok (.iconst 0, 1) := by decide +kernel
theorem dL_law_58 : decode cL_law 58 = .ok (.ireturn, 1) := by decide +kernel
theorem dL_persons_0 : decode cL_persons 0 = .ok (.aload_n 0, 1) := by decide +kernel
theorem dL_persons_1 : decode cL_persons 1 = .ok (.iconst 0, 1) := by decide +kernel
theorem dL_persons_2 : decode cL_persons 2 = .ok (.invokevirtual 128, 3) := by decide +kernel
theorem dL_persons_5 : decode cL_persons 5 = .ok (.istore_n 1, 1) := by decide +kernel
theorem dL_persons_6 : decode cL_persons 6 = .ok (.aload_n 0, 1) := by decide +kernel
theorem dL_persons_7 : decode cL_persons 7 = .ok (.invokestatic 178, 3) := by decide +kernel
theorem dL_persons_10 : decode cL_persons 10 = .ok (.astore_n 2, 1) := by decide +kernel
theorem dL_persons_11 : decode cL_persons 11 = .ok (.iload_n 1, 1) := by decide +kernel
theorem dL_persons_12 : decode cL_persons 12 = .ok (.newarray .int, 2) := by decide +kernel
theorem dL_persons_14 : decode cL_persons 14 = .ok (.astore_n 3, 1) := by decide +kernel
theorem dL_persons_15 : decode cL_persons 15 = .ok (.iconst 0, 1) := by decide +kernel
theorem dL_persons_16 : decode cL_persons 16 = .ok (.istore 4, 2) := by decide +kernel
theorem dL_persons_18 : decode cL_persons 18 = .ok (.iload 4, 2) := by decide +kernel
theorem dL_persons_20 : decode cL_persons 20 = .ok (.iload_n 1, 1) := by decide +kernel
theorem dL_persons_21 : decode cL_persons 21 = .ok (.if_icmp .ge 43, 3) := by decide +kernel
theorem dL_persons_24 : decode cL_persons 24 = .ok (.aload_n 0, 1) := by decide +kernel
theorem dL_persons_25 : decode cL_persons 25 = .ok (.iload 4, 2) := by decide +kernel
theorem dL_persons_27 : decode cL_persons 27 = .ok (.iconst 0, 1) := by decide +kernel
theorem dL_persons_28 : decode cL_persons 28 = .ok (.invokestatic 151, 3) := by decide +kernel
theorem dL_persons_31 : decode cL_persons 31 = .ok (.istore 5, 2) := by decide +kernel
theorem dL_persons_33 : decode cL_persons 33 = .ok (.iload 5, 2) := by decide +kernel
theorem dL_persons_35 : decode cL_persons 35 = .ok (.ifCond .lt 23, 3) := by decide +kernel
theorem dL_persons_38 : decode cL_persons 38 = .ok (.aload_n 3, 1) := by decide +kernel
theorem dL_persons_39 : decode cL_persons 39 = .ok (.iload 5, 2) := by decide +kernel
theorem dL_persons_41 : decode cL_persons 41 = .ok (.dup2, 1) := by decide +kernel
theorem dL_persons_42 : decode cL_persons 42 = .ok (.iaload, 1) := by decide +kernel
theorem dL_persons_43 : decode cL_persons 43 = .ok (.iconst 1, 1) := by decide +kernel
theorem dL_persons_44 : decode cL_persons 44 = .ok (.iadd, 1) := by decide +kernel
theorem dL_persons_45 : decode cL_persons 45 = .ok (.iastore, 1) := by decide +kernel
theorem dL_persons_46 : decode cL_persons 46 = .ok (.aload_n 0, 1) := by decide +kernel
theorem dL_persons_47 : decode cL_persons 47 = .ok (.iload 5, 2) := by decide +kernel
theorem dL_persons_49 : decode cL_persons 49 = .ok (.iconst 0, 1) := by decide +kernel
theorem dL_persons_50 : decode cL_persons 50 = .ok (.invokestatic 151, 3) := by decide +kernel
theorem dL_persons_53 : decode cL_persons 53 = .ok (.istore 5, 2) := by decide +kernel
theorem dL_persons_55 : decode cL_persons 55 = .ok (.goto (-22), 3) := by decide +kernel
theorem dL_persons_58 : decode cL_persons 58 = .ok (.iinc 4 1, 3) := by decide +kernel
theorem dL_persons_61 : decode cL_persons 61 = .ok (.goto (-43), 3) := by decide +kernel
theorem dL_persons_64 : decode cL_persons 64 = .ok (.iconst 0, 1) := by decide +kernel
theorem dL_persons_65 : decode cL_persons 65 = .ok (.istore 4, 2) := by decide +kernel
theorem dL_persons_67 : decode cL_persons 67 = .ok (.iload 4, 2) := by decide +kernel
theorem dL_persons_69 : decode cL_persons 69 = .ok (.iload_n 1, 1) := by decide +kernel
theorem dL_persons_70 : decode cL_persons 70 = .ok (.if_icmp .ge 468, 3) := by decide +kernel
theorem dL_persons_73 : decode cL_persons 73 = .ok (.iconst 0, 1) := by decide +kernel
theorem dL_persons_74 : decode cL_persons 74 = .ok (.istore 5, 2) := by decide +kernel
theorem dL_persons_76 : decode cL_persons 76 = .ok (.iload 4, 2) := by decide +kernel
theorem dL_persons_78 : decode cL_persons 78 = .ok (.istore 6, 2) := by decide +kernel
theorem dL_persons_80 : decode cL_persons 80 = .ok (.aload_n 0, 1) := by decide +kernel
theorem dL_persons_81 : decode cL_persons 81 = .ok (.iload 6, 2) := by decide +kernel
theorem dL_persons_83 : decode cL_persons 83 = .ok (.iconst 0, 1) := by decide +kernel
theorem dL_persons_84 : decode cL_persons 84 = .ok (.invokestatic 151, 3) := by decide +kernel
theorem dL_persons_87 : decode cL_persons 87 = .ok (.ifCond .lt 45, 3) := by decide +kernel
theorem dL_persons_90 : decode cL_persons 90 = .ok (.iinc 5 1, 3) := by decide +kernel
theorem dL_persons_93 : decode cL_persons 93 = .ok (.aload_n 0, 1) := by decide +kernel
theorem dL_persons_94 : decode cL_persons 94 = .ok (.iload 6, 2) := by decide +kernel
theorem dL_persons_96 : decode cL_persons 96 = .ok (.iconst 0, 1) := by decide +kernel
theorem dL_persons_97 : decode cL_persons 97 = .ok (.invokestatic 151, 3) := by decide +kernel
theorem dL_persons_100 : decode cL_persons 100 = .ok (.istore 6, 2) := by decide +kernel
theorem dL_persons_102 : decode cL_persons 102 = .ok (.aload_n 0, 1) := by decide +kernel
theorem dL_persons_103 : decode cL_persons 103 = .ok (.iload 4, 2) := by decide +kernel
theorem dL_persons_105 : decode cL_persons 105 = .ok (.iload 5, 2) := by decide +kernel
theorem dL_persons_107 : decode cL_persons 107 = .ok (.iconst 0, 1) := by decide +kernel
theorem dL_persons_108 : decode cL_persons 108 = .ok (.invokestatic 182, 3) := by decide +kernel
theorem dL_persons_111 : decode cL_persons 111 = .ok (.iload 6, 2) := by decide +kernel
theorem dL_persons_113 : decode cL_persons 113 = .ok (.if_icmp .ne 17, 3) := by decide +kernel
theorem dL_persons_116 : decode cL_persons 116 = .ok (.aload_n 0, 1) := by decide +kernel
theorem dL_persons_117 : decode cL_persons 117 = .ok (.iload 4, 2) := by decide +kernel
theorem dL_persons_119 : decode cL_persons 119 = .ok (.iload 5, 2) := by decide +kernel
theorem dL_persons_121 : decode cL_persons 121 = .ok (.iconst 1, 1) := by decide +kernel
theorem dL_persons_122 : decode cL_persons 122 = .ok (.invokestatic 182, 3) := by decide +kernel
theorem dL_persons_125 : decode cL_persons 125 = .ok (.iload 6, 2) := by decide +kernel
theorem dL_persons_127 : decode cL_persons 127 = .ok (.if_icmp .eq (-47), 3) := by decide +kernel
theorem dL_persons_130 : decode cL_persons 130 = .ok (.iconst 0, 1) := by decide +kernel
theorem dL_persons_131 : decode cL_persons 131 = .ok (.ireturn, 1) := by decide +kernel
theorem dL_persons_132 : decode cL_persons 132 = .ok (.iconst 0, 1) := by decide +kernel
theorem dL_persons_133 : decode cL_persons 133 = .ok (.istore 7, 2) := by decide +kernel
theorem dL_persons_135 : decode cL_persons 135 = .ok (.iconst 0, 1) := by decide +kernel
theorem dL_persons_136 : decode cL_persons 136 = .ok (.istore 8, 2) := by decide +kernel
theorem dL_persons_138 : decode cL_persons 138 = .ok (.iconst 0, 1) := by decide +kernel
theorem dL_persons_139 : decode cL_persons 139 = .ok (.istore 9, 2) := by decide +kernel
theorem dL_persons_141 : decode cL_persons 141 = .ok (.iload 9, 2) := by decide +kernel
theorem dL_persons_143 : decode cL_persons 143 = .ok (.iload_n 1, 1) := by decide +kernel
theorem dL_persons_144 : decode cL_persons 144 = .ok (.if_icmp .ge 31, 3) := by decide +kernel
theorem dL_persons_147 : decode cL_persons 147 = .ok (.iload 7, 2) := by decide +kernel
theorem dL_persons_149 : decode cL_persons 149 = .ok (.aload_n 0, 1) := by decide +kernel
theorem dL_persons_150 : decode cL_persons 150 = .ok (.iload 9, 2) := by decide +kernel
theorem dL_persons_152 : decode cL_persons 152 = .ok (.iconst 0, 1) := by decide +kernel
theorem dL_persons_153 : decode cL_persons 153 = .ok (.invokestatic 151, 3) := by decide +kernel
theorem dL_persons_156 : decode cL_persons 156 = .ok (.iload 4, 2) := by decide +kernel
theorem dL_persons_158 : decode cL_persons 158 = .ok (.if_icmp .ne 7, 3) := by decide +kernel
theorem dL_persons_161 : decode cL_persons 161 = .ok (.iconst 1, 1) := by decide +kernel
theorem dL_persons_162 : decode cL_persons 162 = .ok (.goto 4, 3) := by decide +kernel
theorem dL_persons_165 : decode cL_persons 165 = .ok (.iconst 0, 1) := by decide +kernel
theorem dL_persons_166 : decode cL_persons 166 = .ok (.iadd, 1) := by decide +kernel
theorem dL_persons_167 : decode cL_persons 167 = .ok (.istore 7, 2) := by decide +kernel
theorem dL_persons_169 : decode cL_persons 169 = .ok (.iinc 9 1, 3) := by decide +kernel
theorem dL_persons_172 : decode cL_persons 172 = .ok (.goto (-31), 3) := by decide +kernel
theorem dL_persons_175 : decode cL_persons 175 = .ok (.iconst 0, 1) := by decide +kernel
theorem dL_persons_176 : decode cL_persons 176 = .ok (.istore 9, 2) := by decide +kernel
theorem dL_persons_178 : decode cL_persons 178 = .ok (.iload 9, 2) := by decide +kernel
theorem dL_persons_180 : decode cL_persons 180 = .ok (.aload_n 0, 1) := by decide +kernel
theorem dL_persons_181 : decode cL_persons 181 = .ok (.iconst 4, 1) := by decide +kernel
theorem dL_persons_182 : decode cL_persons 182 = .ok (.invokevirtual 128, 3) := by decide +kernel
theorem dL_persons_185 : decode cL_persons 185 = .ok (.if_icmp .ge 43, 3) := by decide +kernel
theorem dL_persons_188 : decode cL_persons 188 = .ok (.iload 8, 2) := by decide +kernel
theorem dL_persons_190 : decode cL_persons 190 = .ok (.aload_n 0, 1) := by decide +kernel
theorem dL_persons_191 : decode cL_persons 191 = .ok (.iload 9, 2) := by decide +kernel
theorem dL_persons_193 : decode cL_persons 193 = .ok (.iconst 0, 1) := by decide +kernel
theorem dL_persons_194 : decode cL_persons 194 = .ok (.invokestatic 185, 3) := by decide +kernel
theorem dL_persons_197 : decode cL_persons 197 = .ok (.iload 4, 2) := by decide +kernel
theorem dL_persons_199 : decode cL_persons 199 = .ok (.if_icmp .eq 15, 3) := by decide +kernel
theorem dL_persons_202 : decode cL_persons 202 = .ok (.aload_n 0, 1) := by decide +kernel
theorem dL_persons_203 : decode cL_persons 203 = .ok (.iload 9, 2) := by decide +kernel
theorem dL_persons_205 : decode cL_persons 205 = .ok (.iconst 1, 1) := by decide +kernel
theorem dL_persons_206 : decode cL_persons 206 = .ok (.invokestatic 185, 3) := by decide +kernel
theorem dL_persons_209 : decode cL_persons 209 = .ok (.iload 4, 2) := by decide +kernel
theorem dL_persons_211 : decode cL_persons 211 = .ok (.if_icmp .ne 7, 3) := by decide +kernel
theorem dL_persons_214 : decode cL_persons 214 = .ok (.iconst 1, 1) := by decide +kernel
theorem dL_persons_215 : decode cL_persons 215 = .ok (.goto 4, 3) := by decide +kernel
theorem dL_persons_218 : decode cL_persons 218 = .ok (.iconst 0, 1) := by decide +kernel
theorem dL_persons_219 : decode cL_persons 219 = .ok (.iadd, 1) := by decide +kernel
theorem dL_persons_220 : decode cL_persons 220 = .ok (.istore 8, 2) := by decide +kernel
theorem dL_persons_222 : decode cL_persons 222 = .ok (.iinc 9 1, 3) := by decide +kernel
theorem dL_persons_225 : decode cL_persons 225 = .ok (.goto (-47), 3) := by decide +kernel
theorem dL_persons_228 : decode cL_persons 228 = .ok (.aload_n 0, 1) := by decide +kernel
theorem dL_persons_229 : decode cL_persons 229 = .ok (.iload 4, 2) := by decide +kernel
theorem dL_persons_231 : decode cL_persons 231 = .ok (.iconst 4, 1) := by decide +kernel
theorem dL_persons_232 : decode cL_persons 232 = .ok (.invokestatic 151, 3) := by decide +kernel
theorem dL_persons_235 : decode cL_persons 235 = .ok (.istore 9, 2) := by decide +kernel
theorem dL_persons_237 : decode cL_persons 237 = .ok (.aload_n 0, 1) := by decide +kernel
theorem dL_persons_238 : decode cL_persons 238 = .ok (.iload 4, 2) := by decide +kernel
theorem dL_persons_240 : decode cL_persons 240 = .ok (.iconst 1, 1) := by decide +kernel
theorem dL_persons_241 : decode cL_persons 241 = .ok (.invokestatic 151, 3) := by decide +kernel
theorem dL_persons_244 : decode cL_persons 244 = .ok (.iload 5, 2) := by decide +kernel
theorem dL_persons_246 : decode cL_persons 246 = .ok (.if_icmp .ne 103, 3) := by decide +kernel
theorem dL_persons_249 : decode cL_persons 249 = .ok (.aload_n 0, 1) := by decide +kernel
theorem dL_persons_250 : decode cL_persons 250 = .ok (.iload 4, 2) := by decide +kernel
theorem dL_persons_252 : decode cL_persons 252 = .ok (.bipush 7, 2) := by decide +kernel
theorem dL_persons_254 : decode cL_persons 254 = .ok (.invokestatic 151, 3) := by decide +kernel
theorem dL_persons_257 : decode cL_persons 257 = .ok (.iload 6, 2) := by decide +kernel
theorem dL_persons_259 : decode cL_persons 259 = .ok (.if_icmp .ne 90, 3) := by decide +kernel
theorem dL_persons_262 : decode cL_persons 262 = .ok (.aload_n 0, 1) := by decide +kernel
theorem dL_persons_263 : decode cL_persons 263 = .ok (.iload 4, 2) := by decide +kernel
theorem dL_persons_265 : decode cL_persons 265 = .ok (.iconst 2, 1) := by decide +kernel
theorem dL_persons_266 : decode cL_persons 266 = .ok (.invokestatic 151, 3) := by decide +kernel
theorem dL_persons_269 : decode cL_persons 269 = .ok (.iload 7, 2) := by decide +kernel
theorem dL_persons_271 : decode cL_persons 271 = .ok (.if_icmp .ne 78, 3) := by decide +kernel
theorem dL_persons_274 : decode cL_persons 274 = .ok (.aload_n 0, 1) := by decide +kernel
theorem dL_persons_275 : decode cL_persons 275 = .ok (.iload 4, 2) := by decide +kernel
theorem dL_persons_277 : decode cL_persons 277 = .ok (.iconst 3, 1) := by decide +kernel
theorem dL_persons_278 : decode cL_persons 278 = .ok (.invokestatic 151, 3) := by decide +kernel
theorem dL_persons_281 : decode cL_persons 281 = .ok (.aload_n 3, 1) := by decide +kernel
theorem dL_persons_282 : decode cL_persons 282 = .ok (.iload 4, 2) := by decide +kernel
theorem dL_persons_284 : decode cL_persons 284 = .ok (.iaload, 1) := by decide +kernel
theorem dL_persons_285 : decode cL_persons 285 = .ok (.if_icmp .ne 64, 3) := by decide +kernel
theorem dL_persons_288 : decode cL_persons 288 = .ok (.aload_n 0, 1) := by decide +kernel
theorem dL_persons_289 : decode cL_persons 289 = .ok (.iload 4, 2) := by decide +kernel
theorem dL_persons_291 : decode cL_persons 291 = .ok (.bipush 8, 2) := by decide +kernel
theorem dL_persons_293 : decode cL_persons 293 = .ok (.invokestatic 151, 3) := by decide +kernel
theorem dL_persons_296 : decode cL_persons 296 = .ok (.aload_n 2, 1) := by decide +kernel
theorem dL_persons_297 : decode cL_persons 297 = .ok (.iload 4, 2) := by decide +kernel
theorem dL_persons_299 : decode cL_persons 299 = .ok (.iaload, 1) := by decide +kernel
theorem dL_persons_300 : decode cL_persons 300 = .ok (.if_icmp .ne 49, 3) := by decide +kernel
theorem dL_persons_303 : decode cL_persons 303 = .ok (.aload_n 0, 1) := by decide +kernel
theorem dL_persons_304 : decode cL_persons 304 = .ok (.iload 4, 2) := by decide +kernel
theorem dL_persons_306 : decode cL_persons 306 = .ok (.bipush 9, 2) := by decide +kernel
theorem dL_persons_308 : decode cL_persons 308 = .ok (.invokestatic 151, 3) := by decide +kernel
theorem dL_persons_311 : decode cL_persons 311 = .ok (.iload 8, 2) := by decide +kernel
theorem dL_persons_313 : decode cL_persons 313 = .ok (.if_icmp .ne 36, 3) := by decide +kernel
theorem dL_persons_316 : decode cL_persons 316 = .ok (.iload 9, 2) := by decide +kernel
theorem dL_persons_318 : decode cL_persons 318 = .ok (.ifCond .lt 27, 3) := by decide +kernel
theorem dL_persons_321 : decode cL_persons 321 = .ok (.aload_n 0, 1) := by decide +kernel
theorem dL_persons_322 : decode cL_persons 322 = .ok (.iload 9, 2) := by decide +kernel
theorem dL_persons_324 : decode cL_persons 324 = .ok (.iconst 4, 1) := by decide +kernel
theorem dL_persons_325 : decode cL_persons 325 = .ok (.invokestatic 151, 3) := by decide +kernel
theorem dL_persons_328 : decode cL_persons 328 = .ok (.iload 4, 2) := by decide +kernel
theorem dL_persons_330 : decode cL_persons 330 = .ok (.if_icmp .ne 19, 3) := by decide +kernel
theorem dL_persons_333 : decode cL_persons 333 = .ok (.aload_n 0, 1) := by decide +kernel
theorem dL_persons_334 : decode cL_persons 334 = .ok (.iload 4, 2) := by decide +kernel
theorem dL_persons_336 : decode cL_persons 336 = .ok (.bipush 6, 2) := by decide +kernel
theorem dL_persons_338 : decode cL_persons 338 = .ok (.invokestatic 151, 3) := by decide +kernel
theorem dL_persons_341 : decode cL_persons 341 = .ok (.iconst 1, 1) := by decide +kernel
theorem dL_persons_342 : decode cL_persons 342 = .ok (.if_icmp .ne 7, 3) := by decide +kernel
theorem dL_persons_345 : decode cL_persons 345 = .ok (.iconst 1, 1) := by decide +kernel
theorem dL_persons_346 : decode cL_persons 346 = .ok (.goto 4, 3) := by decide +kernel
theorem dL_persons_349 : decode cL_persons 349 = .ok (.iconst 0, 1) := by decide +kernel
theorem dL_persons_350 : decode cL_persons 350 = .ok (.istore 10, 2) := by decide +kernel
theorem dL_persons_352 : decode cL_persons 352 = .ok (.iload 10, 2) := by decide +kernel
theorem dL_persons_354 : decode cL_persons 354 = .ok (.ifCond .eq 115, 3) := by decide +kernel
theorem dL_persons_357 : decode cL_persons 357 = .ok (.aload_n 0, 1) := by decide +kernel
theorem dL_persons_358 : decode cL_persons 358 = .ok (.iload 4, 2) := by decide +kernel
theorem dL_persons_360 : decode cL_persons 360 = .ok (.iconst 0, 1) := by decide +kernel
theorem dL_persons_361 : decode cL_persons 361 = .ok (.iconst 0, 1) := by decide +kernel
theorem dL_persons_362 : decode cL_persons 362 = .ok (.invokestatic 182, 3) := by decide +kernel
theorem dL_persons_365 : decode cL_persons 365 = .ok (.iload 4, 2) := by decide +kernel
theorem dL_persons_367 : decode cL_persons 367 = .ok (.if_icmp .ne 102, 3) := by decide +kernel
theorem dL_persons_370 : decode cL_persons 370 = .ok (.aload_n 0, 1) := by decide +kernel
theorem dL_persons_371 : decode cL_persons 371 = .ok (.iload 4, 2) := by decide +kernel
theorem dL_persons_373 : decode cL_persons 373 = .ok (.iload 5, 2) := by decide +kernel
theorem dL_persons_375 : decode cL_persons 375 = .ok (.iconst 1, 1) := by decide +kernel
theorem dL_persons_376 : decode cL_persons 376 = .ok (.iadd, 1) := by decide +kernel
theorem dL_persons_377 : decode cL_persons 377 = .ok (.iconst 0, 1) := by decide +kernel
theorem dL_persons_378 : decode cL_persons 378 = .ok (.invokestatic 182, 3) := by decide +kernel
theorem dL_persons_381 : decode cL_persons 381 = .ok (.bipush (-13), 2) := by decide +kernel
theorem dL_persons_383 : decode cL_persons 383 = .ok (.if_icmp .ne 86, 3) := by decide +kernel
theorem dL_persons_386 : decode cL_persons 386 = .ok (.aload_n 0, 1) := by decide +kernel
theorem dL_persons_387 : decode cL_persons 387 = .ok (.iload 4, 2) := by decide +kernel
theorem dL_persons_389 : decode cL_persons 389 = .ok (.iload 5, 2) := by decide +kernel
theorem dL_persons_391 : decode cL_persons 391 = .ok (.iconst 1, 1) := by decide +kernel
theorem dL_persons_392 : decode cL_persons 392 = .ok (.iadd, 1) := by decide +kernel
theorem dL_persons_393 : decode cL_persons 393 = .ok (.iconst 1, 1) := by decide +kernel
theorem dL_persons_394 : decode cL_persons 394 = .ok (.invokestatic 182, 3) := by decide +kernel
theorem dL_persons_397 : decode cL_persons 397 = .ok (.bipush (-13), 2) := by decide +kernel
theorem dL_persons_399 : decode cL_persons 399 = .ok (.if_icmp .ne 70, 3) := by decide +kernel
theorem dL_persons_402 : decode cL_persons 402 = .ok (.aload_n 0, 1) := by decide +kernel
theorem dL_persons_403 : decode cL_persons 403 = .ok (.iload 4, 2) := by decide +kernel
theorem dL_persons_405 : decode cL_persons 405 = .ok (.iconst (-1), 1) := by decide +kernel
theorem dL_persons_406 : decode cL_persons 406 = .ok (.iconst 0, 1) := by decide +kernel
theorem dL_persons_407 : decode cL_persons 407 = .ok (.invokestatic 182, 3) := by decide +kernel
theorem dL_persons_410 : decode cL_persons 410 = .ok (.bipush (-13), 2) := by decide +kernel
theorem dL_persons_412 : decode cL_persons 412 = .ok (.if_icmp .ne 57, 3) := by decide +kernel
theorem dL_persons_415 : decode cL_persons 415 = .ok (.aload_n 0, 1) := by decide +kernel
theorem dL_persons_416 : decode cL_persons 416 = .ok (.iload 4, 2) := by decide +kernel
theorem dL_persons_418 : decode cL_persons 418 = .ok (.iload 5, 2) := by decide +kernel
theorem dL_persons_420 : decode cL_persons 420 = .ok (.iconst 1, 1) := by decide +kernel
theorem dL_persons_421 : decode cL_persons 421 = .ok (.iadd, 1) := by decide +kernel
theorem dL_persons_422 : decode cL_persons 422 = .ok (.invokestatic 188, 3) := by decide +kernel
theorem dL_persons_425 : decode cL_persons 425 = .ok (.bipush (-13), 2) := by decide +kernel
theorem dL_persons_427 : decode cL_persons 427 = .ok (.if_icmp .ne 42, 3) := by decide +kernel
theorem dL_persons_430 : decode cL_persons 430 = .ok (.aload_n 0, 1) := by decide +kernel
theorem dL_persons_431 : decode cL_persons 431 = .ok (.iload 4, 2) := by decide +kernel
theorem dL_persons_433 : decode cL_persons 433 = .ok (.bipush 10, 2) := by decide +kernel
theorem dL_persons_435 : decode cL_persons 435 = .ok (.invokestatic 151, 3) := by decide +kernel
theorem dL_persons_438 : decode cL_persons 438 = .ok (.bipush (-12), 2) := by decide +kernel
theorem dL_persons_440 : decode cL_persons 440 = .ok (.if_icmp .ne 29, 3) := by decide +kernel
theorem dL_persons_443 : decode cL_persons 443 = .ok (.aload_n 0, 1) := by decide +kernel
theorem dL_persons_444 : decode cL_persons 444 = .ok (.iload 4, 2) := by decide +kernel
theorem dL_persons_446 : decode cL_persons 446 = .ok (.bipush 6, 2) := by decide +kernel
theorem dL_persons_448 : decode cL_persons 448 = .ok (.invokestatic 151, 3) := by decide +kernel
theorem dL_persons_451 : decode cL_persons 451 = .ok (.iconst 1, 1) := by decide +kernel
theorem dL_persons_452 : decode cL_persons 452 = .ok (.if_icmp .eq 13, 3) := by decide +kernel
theorem dL_persons_455 : decode cL_persons 455 = .ok (.aload_n 0, 1) := by decide +kernel
theorem dL_persons_456 : decode cL_persons 456 = .ok (.iload 4, 2) := by decide +kernel
theorem dL_persons_458 : decode cL_persons 458 = .ok (.iconst 5, 1) := by decide +kernel
theorem dL_persons_459 : decode cL_persons 459 = .ok (.invokestatic 151, 3) := by decide +kernel
theorem dL_persons_462 : decode cL_persons 462 = .ok (.ifCond .ne 7, 3) := by decide +kernel
theorem dL_persons_465 : decode cL_persons 465 = .ok (.iconst 1, 1) := by decide +kernel
theorem dL_persons_466 : decode cL_persons 466 = .ok (.goto 4, 3) := by decide +kernel
theorem dL_persons_469 : decode cL_persons 469 = .ok (.iconst 0, 1) := by decide +kernel
theorem dL_persons_470 : decode cL_persons 470 = .ok (.istore 10, 2) := by decide +kernel
theorem dL_persons_472 : decode cL_persons 472 = .ok (.iconst 0, 1) := by decide +kernel
theorem dL_persons_473 : decode cL_persons 473 = .ok (.istore 11, 2) := by decide +kernel
theorem dL_persons_475 : decode cL_persons 475 = .ok (.iload 5, 2) := by decide +kernel
theorem dL_persons_477 : decode cL_persons 477 = .ok (.istore 12, 2) := by decide +kernel
theorem dL_persons_479 : decode cL_persons 479 = .ok (.iload 12, 2) := by decide +kernel
theorem dL_persons_481 : decode cL_persons 481 = .ok (.ifCond .le 18, 3) := by decide +kernel
theorem dL_persons_484 : decode cL_persons 484 = .ok (.iinc 11 1, 3) := by decide +kernel
theorem dL_persons_487 : decode cL_persons 487 = .ok (.iload 12, 2) := by decide +kernel
theorem dL_persons_489 : decode cL_persons 489 = .ok (.iload 12, 2) := by decide +kernel
theorem dL_persons_491 : decode cL_persons 491 = .ok (.iconst 1, 1) := by decide +kernel
theorem dL_persons_492 : decode cL_persons 492 = .ok (.isub, 1) := by decide +kernel
theorem dL_persons_493 : decode cL_persons 493 = .ok (.iand, 1) := by decide +kernel
theorem dL_persons_494 : decode cL_persons 494 = .ok (.istore 12, 2) := by decide +kernel
theorem dL_persons_496 : decode cL_persons 496 = .ok (.goto (-17), 3) := by decide +kernel
theorem dL_persons_499 : decode cL_persons 499 = .ok (.iload 10, 2) := by decide +kernel
theorem dL_persons_501 : decode cL_persons 501 = .ok (.ifCond .eq 29, 3) := by decide +kernel
theorem dL_persons_504 : decode cL_persons 504 = .ok (.aload_n 0, 1) := by decide +kernel
theorem dL_persons_505 : decode cL_persons 505 = .ok (.iload 4, 2) := by decide +kernel
theorem dL_persons_507 : decode cL_persons 507 = .ok (.iload 5, 2) := by decide +kernel
theorem dL_persons_509 : decode cL_persons 509 = .ok (.invokestatic 188, 3) := by decide +kernel
theorem dL_persons_512 : decode cL_persons 512 = .ok (.iload 11, 2) := by decide +kernel
theorem dL_persons_514 : decode cL_persons 514 = .ok (.if_icmp .ne 16, 3) := by decide +kernel
theorem dL_persons_517 : decode cL_persons 517 = .ok (.aload_n 0, 1) := by decide +kernel
theorem dL_persons_518 : decode cL_persons 518 = .ok (.iload 4, 2) := by decide +kernel
theorem dL_persons_520 : decode cL_persons 520 = .ok (.aload_n 3, 1) := by decide +kernel
theorem dL_persons_521 : decode cL_persons 521 = .ok (.iload 4, 2) := by decide +kernel
theorem dL_persons_523 : decode cL_persons 523 = .ok (.iaload, 1) := by decide +kernel
theorem dL_persons_524 : decode cL_persons 524 = .ok (.invokestatic 190, 3) := by decide +kernel
theorem dL_persons_527 : decode cL_persons 527 = .ok (.ifCond .ne 5, 3) := by decide +kernel
theorem dL_persons_530 : decode cL_persons 530 = .ok (.iconst 0, 1) := by decide +kernel
theorem dL_persons_531 : decode cL_persons 531 = .ok (.ireturn, 1) := by decide +kernel
theorem dL_persons_532 : decode cL_persons 532 = .ok (.iinc 4 1, 3) := by decide +kernel
theorem dL_persons_535 : decode cL_persons 535 = .ok (.goto (-468), 3) := by decide +kernel
theorem dL_persons_538 : decode cL_persons 538 = .ok (.aload_n 0, 1) := by decide +kernel
theorem dL_persons_539 : decode cL_persons 539 = .ok (.iload_n 1, 1) := by decide +kernel
theorem dL_persons_540 : decode cL_persons 540 = .ok (.iconst 0, 1) := by decide +kernel
theorem dL_persons_541 : decode cL_persons 541 = .ok (.invokestatic 151, 3) := by decide +kernel
theorem dL_persons_544 : decode cL_persons 544 = .ok (.bipush (-11), 2) := by decide +kernel
theorem dL_persons_546 : decode cL_persons 546 = .ok (.if_icmp .ne 29, 3) := by decide +kernel
theorem dL_persons_549 : decode cL_persons 549 = .ok (.aload_n 0, 1) := by decide +kernel
theorem dL_persons_550 : decode cL_persons 550 = .ok (.iload_n 1, 1) := by decide +kernel
theorem dL_persons_551 : decode cL_persons 551 = .ok (.iconst 0, 1) := by decide +kernel
theorem dL_persons_552 : decode cL_persons 552 = .ok (.iconst 0, 1) := by decide +kernel
theorem dL_persons_553 : decode cL_persons 553 = .ok (.invokestatic 182, 3) := by decide +kernel
theorem dL_persons_556 : decode cL_persons 556 = .ok (.bipush (-11), 2) := by decide +kernel
theorem dL_persons_558 : decode cL_persons 558 = .ok (.if_icmp .ne 17, 3) := by decide +kernel
theorem dL_persons_561 : decode cL_persons 561 = .ok (.aload_n 0, 1) := by decide +kernel
theorem dL_persons_562 : decode cL_persons 562 = .ok (.iload_n 1, 1) := by decide +kernel
theorem dL_persons_563 : decode cL_persons 563 = .ok (.invokestatic 194, 3) := by decide +kernel
theorem dL_persons_566 : decode cL_persons 566 = .ok (.bipush (-11), 2) := by decide +kernel
theorem dL_persons_568 : decode cL_persons 568 = .ok (.if_icmp .ne 7, 3) := by decide +kernel
theorem dL_persons_571 : decode cL_persons 571 = .ok (.iconst 1, 1) := by decide +kernel
theorem dL_persons_572 : decode cL_persons 572 = .ok (.goto 4, 3) := by decide +kernel
theorem dL_persons_575 : decode cL_persons 575 = .ok (.iconst 0, 1) := by decide +kernel
theorem dL_persons_576 : decode cL_persons 576 = .ok (.ireturn, 1) := by decide +kernel
theorem dL_descend_0 : decode cL_descend 0 = .ok (.iload_n 1, 1) := by decide +kernel
theorem dL_descend_1 : decode cL_descend 1 = .ok (.istore_n 3, 1) := by decide +kernel
theorem dL_descend_2 : decode cL_descend 2 = .ok (.iconst (-1), 1) := by decide +kernel
theorem dL_descend_3 : decode cL_descend 3 = .ok (.istore 4, 2) := by decide +kernel
theorem dL_descend_5 : decode cL_descend 5 = .ok (.iconst 0, 1) := by decide +kernel
theorem dL_descend_6 : decode cL_descend 6 = .ok (.istore 5, 2) := by decide +kernel
theorem dL_descend_8 : decode cL_descend 8 = .ok (.iload 5, 2) := by decide +kernel
theorem dL_descend_10 : decode cL_descend 10 = .ok (.iload_n 2, 1) := by decide +kernel
theorem dL_descend_11 : decode cL_descend 11 = .ok (.if_icmp .ge 167, 3) := by decide +kernel
theorem dL_descend_14 : decode cL_descend 14 = .ok (.aload_n 0, 1) := by decide +kernel
theorem dL_descend_15 : decode cL_descend 15 = .ok (.iload_n 1, 1) := by decide +kernel
theorem dL_descend_16 : decode cL_descend 16 = .ok (.iload 5, 2) := by decide +kernel
theorem dL_descend_18 : decode cL_descend 18 = .ok (.invokestatic 196, 3) := by decide +kernel
theorem dL_descend_21 : decode cL_descend 21 = .ok (.istore 6, 2) := by decide +kernel
theorem dL_descend_23 : decode cL_descend 23 = .ok (.iload 6, 2) := by decide +kernel
theorem dL_descend_25 : decode cL_descend 25 = .ok (.ifCond .ge 7, 3) := by decide +kernel
theorem dL_descend_28 : decode cL_descend 28 = .ok (.iconst (-1), 1) := by decide +kernel
theorem dL_descend_29 : decode cL_descend 29 = .ok (.goto 10, 3) := by decide +kernel
theorem dL_descend_32 : decode cL_descend 32 = .ok (.aload_n 0, 1) := by decide +kernel
theorem dL_descend_33 : decode cL_descend 33 = .ok (.iload 6, 2) := by decide +kernel
theorem dL_descend_35 : decode cL_descend 35 = .ok (.iconst 0, 1) := by decide +kernel
theorem dL_descend_36 : decode cL_descend 36 = .ok (.invokestatic 151, 3) := by decide +kernel
theorem dL_descend_39 : decode cL_descend 39 = .ok (.istore 7, 2) := by decide +kernel
theorem dL_descend_41 : decode cL_descend 41 = .ok (.iload 7, 2) := by decide +kernel
theorem dL_descend_43 : decode cL_descend 43 = .ok (.ifCond .ge 5, 3) := by decide +kernel
theorem dL_descend_46 : decode cL_descend 46 = .ok (.iconst 0, 1) := by decide +kernel
theorem dL_descend_47 : decode cL_descend 47 = .ok (.ireturn, 1) := by decide +kernel
theorem dL_descend_48 : decode cL_descend 48 = .ok (.iload_n 3, 1) := by decide +kernel
theorem dL_descend_49 : decode cL_descend 49 = .ok (.istore 8, 2) := by decide +kernel
theorem dL_descend_51 : decode cL_descend 51 = .ok (.iload 8, 2) := by decide +kernel
theorem dL_descend_53 : decode cL_descend 53 = .ok (.ifCond .lt 34, 3) := by decide +kernel
theorem dL_descend_56 : decode cL_descend 56 = .ok (.iload 8, 2) := by decide +kernel
theorem dL_descend_58 : decode cL_descend 58 = .ok (.iload 7, 2) := by decide +kernel
theorem dL_descend_60 : decode cL_descend 60 = .ok (.if_icmp .eq 27, 3) := by decide +kernel
theorem dL_descend_63 : decode cL_descend 63 = .ok (.aload_n 0, 1) := by decide +kernel
theorem dL_descend_64 : decode cL_descend 64 = .ok (.iload 8, 2) := by decide +kernel
theorem dL_descend_66 : decode cL_descend 66 = .ok (.iconst 0, 1) := by decide +kernel
theorem dL_descend_67 : decode cL_descend 67 = .ok (.invokestatic 151, 3) := by decide +kernel
theorem dL_descend_70 : decode cL_descend 70 = .ok (.iload 7, 2) := by decide +kernel
theorem dL_descend_72 : decode cL_descend 72 = .ok (.if_icmp .eq 15, 3) := by decide +kernel
theorem dL_descend_75 : decode cL_descend 75 = .ok (.aload_n 0, 1) := by decide +kernel
theorem dL_descend_76 : decode cL_descend 76 = .ok (.iload 8, 2) := by decide +kernel
theorem dL_descend_78 : decode cL_descend 78 = .ok (.iconst 0, 1) := by decide +kernel
theorem dL_descend_79 : decode cL_descend 79 = .ok (.invokestatic 151, 3) := by decide +kernel
theorem dL_descend_82 : decode cL_descend 82 = .ok (.istore 8, 2) := by decide +kernel
theorem dL_descend_84 : decode cL_descend 84 = .ok (.goto (-33), 3) := by decide +kernel
theorem dL_descend_87 : decode cL_descend 87 = .ok (.iload 8, 2) := by decide +kernel
theorem dL_descend_89 : decode cL_descend 89 = .ok (.iload 7, 2) := by decide +kernel
theorem dL_descend_91 : decode cL_descend 91 = .ok (.if_icmp .ne 7, 3) := by decide +kernel
theorem dL_descend_94 : decode cL_descend 94 = .ok (.iconst (-1), 1) := by decide +kernel
theorem dL_descend_95 : decode cL_descend 95 = .ok (.goto 5, 3) := by decide +kernel
theorem dL_descend_98 : decode cL_descend 98 = .ok (.iload 8, 2) := by decide +kernel
theorem dL_descend_100 : decode cL_descend 100 = .ok (.istore 9, 2) := by decide +kernel
theorem dL_descend_102 : decode cL_descend 102 = .ok (.iload 9, 2) := by decide +kernel
theorem dL_descend_104 : decode cL_descend 104 = .ok (.iconst 1, 1) := by decide +kernel
theorem dL_descend_105 : decode cL_descend 105 = .ok (.iadd, 1) := by decide +kernel
theorem dL_descend_106 : decode cL_descend 106 = .ok (.istore 10, 2) := by decide +kernel
theorem dL_descend_108 : decode cL_descend 108 = .ok (.iload 10, 2) := by decide +kernel
theorem dL_descend_110 : decode cL_descend 110 = .ok (.iload 6, 2) := by decide +kernel
theorem dL_descend_112 : decode cL_descend 112 = .ok (.if_icmp .ge 23, 3) := by decide +kernel
theorem dL_descend_115 : decode cL_descend 115 = .ok (.aload_n 0, 1) := by decide +kernel
theorem dL_descend_116 : decode cL_descend 116 = .ok (.iload 10, 2) := by decide +kernel
theorem dL_descend_118 : decode cL_descend 118 = .ok (.iconst 0, 1) := by decide +kernel
theorem dL_descend_119 : decode cL_descend 119 = .ok (.invokestatic 151, 3) := by decide +kernel
theorem dL_descend_122 : decode cL_descend 122 = .ok (.iload 7, 2) := by decide +kernel
theorem dL_descend_124 : decode cL_descend 124 = .ok (.if_icmp .ne 5, 3) := by decide +kernel
theorem dL_descend_127 : decode cL_descend 127 = .ok (.iconst 0, 1) := by decide +kernel
theorem dL_descend_128 : decode cL_descend 128 = .ok (.ireturn, 1) := by decide +kernel
theorem dL_descend_129 : decode cL_descend 129 = .ok (.iinc 10 1, 3) := by decide +kernel
theorem dL_descend_132 : decode cL_descend 132 = .ok (.goto (-24), 3) := by decide +kernel
theorem dL_descend_135 : decode cL_descend 135 = .ok (.iload 8, 2) := by decide +kernel
theorem dL_descend_137 : decode cL_descend 137 = .ok (.ifCond .lt 26, 3) := by decide +kernel
theorem dL_descend_140 : decode cL_descend 140 = .ok (.iload 6, 2) := by decide +kernel
theorem dL_descend_142 : decode cL_descend 142 = .ok (.iload 9, 2) := by decide +kernel
theorem dL_descend_144 : decode cL_descend 144 = .ok (.if_icmp .le 19, 3) := by decide +kernel
theorem dL_descend_147 : decode cL_descend 147 = .ok (.iload 8, 2) := by decide +kernel
theorem dL_descend_149 : decode cL_descend 149 = .ok (.iload 7, 2) := by decide +kernel
theorem dL_descend_151 : decode cL_descend 151 = .ok (.if_icmp .eq 14, 3) := by decide +kernel
theorem dL_descend_154 : decode cL_descend 154 = .ok (.aload_n 0, 1) := by decide +kernel
theorem dL_descend_155 : decode cL_descend 155 = .ok (.iload_n 3, 1) := by decide +kernel
theorem dL_descend_156 : decode cL_descend 156 = .ok (.iconst 2, 1) := by decide +kernel
theorem dL_descend_157 : decode cL_descend 157 = .ok (.invokestatic 151, 3) := by decide +kernel
theorem dL_descend_160 : decode cL_descend 160 = .ok (.ifCond .le 5, 3) := by decide +kernel
theorem dL_descend_163 : decode cL_descend 163 = .ok (.iconst 0, 1) := by decide +kernel
theorem dL_descend_164 : decode cL_descend 164 = .ok (.ireturn, 1) := by decide +kernel
theorem dL_descend_165 : decode cL_descend 165 = .ok (.iload 6, 2) := by decide +kernel
theorem dL_descend_167 : decode cL_descend 167 = .ok (.istore_n 3, 1) := by decide +kernel
theorem dL_descend_168 : decode cL_descend 168 = .ok (.iload 6, 2) := by decide +kernel
theorem dL_descend_170 : decode cL_descend 170 = .ok (.istore 4, 2) := by decide +kernel
theorem dL_descend_172 : decode cL_descend 172 = .ok (.iinc 5 1, 3) := by decide +kernel
theorem dL_descend_175 : decode cL_descend 175 = .ok (.goto (-167), 3) := by decide +kernel
theorem dL_descend_178 : decode cL_descend 178 = .ok (.aload_n 0, 1) := by decide +kernel
theorem dL_descend_179 : decode cL_descend 179 = .ok (.iload_n 1, 1) := by decide +kernel
theorem dL_descend_180 : decode cL_descend 180 = .ok (.iload_n 2, 1) := by decide +kernel
theorem dL_descend_181 : decode cL_descend 181 = .ok (.invokestatic 196, 3) := by decide +kernel
theorem dL_descend_184 : decode cL_descend 184 = .ok (.bipush (-13), 2) := by decide +kernel
theorem dL_descend_186 : decode cL_descend 186 = .ok (.if_icmp .ne 32, 3) := by decide +kernel
theorem dL_descend_189 : decode cL_descend 189 = .ok (.aload_n 0, 1) := by decide +kernel
theorem dL_descend_190 : decode cL_descend 190 = .ok (.iload_n 1, 1) := by decide +kernel
theorem dL_descend_191 : decode cL_descend 191 = .ok (.iconst (-1), 1) := by decide +kernel
theorem dL_descend_192 : decode cL_descend 192 = .ok (.invokestatic 196, 3) := by decide +kernel
theorem dL_descend_195 : decode cL_descend 195 = .ok (.bipush (-13), 2) := by decide +kernel
theorem dL_descend_197 : decode cL_descend 197 = .ok (.if_icmp .ne 21, 3) := by decide +kernel
theorem dL_descend_200 : decode cL_descend 200 = .ok (.iload_n 2, 1) := by decide +kernel
theorem dL_descend_201 : decode cL_descend 201 = .ok (.ifCond .eq 13, 3) := by decide +kernel
theorem dL_descend_204 : decode cL_descend 204 = .ok (.aload_n 0, 1) := by decide +kernel
theorem dL_descend_205 : decode cL_descend 205 = .ok (.iload 4, 2) := by decide +kernel
theorem dL_descend_207 : decode cL_descend 207 = .ok (.iconst 2, 1) := by decide +kernel
theorem dL_descend_208 : decode cL_descend 208 = .ok (.invokestatic 151, 3) := by decide +kernel
theorem dL_descend_211 : decode cL_descend 211 = .ok (.ifCond .ne 7, 3) := by decide +kernel
theorem dL_descend_214 : decode cL_descend 214 = .ok (.iconst 1, 1) := by decide +kernel
theorem dL_descend_215 : decode cL_descend 215 = .ok (.goto 4, 3) := by decide +kernel
theorem dL_descend_218 : decode cL_descend 218 = .ok (.iconst 0, 1) := by decide +kernel
theorem dL_descend_219 : decode cL_descend 219 = .ok (.ireturn, 1) := by decide +kernel
theorem dL_pairs_0 : decode cL_pairs 0 = .ok (.aload_n 1, 1) := by decide +kernel
theorem dL_pairs_1 : decode cL_pairs 1 = .ok (.iconst 0, 1) := by decide +kernel
theorem dL_pairs_2 : decode cL_pairs 2 = .ok (.invokevirtual 128, 3) := by decide +kernel
theorem dL_pairs_5 : decode cL_pairs 5 = .ok (.istore_n 2, 1) := by decide +kernel
theorem dL_pairs_6 : decode cL_pairs 6 = .ok (.iconst 0, 1) := by decide +kernel
theorem dL_pairs_7 : decode cL_pairs 7 = .ok (.istore_n 3, 1) := by decide +kernel
theorem dL_pairs_8 : decode cL_pairs 8 = .ok (.iload_n 3, 1) := by decide +kernel
theorem dL_pairs_9 : decode cL_pairs 9 = .ok (.bipush 20, 2) := by decide +kernel
theorem dL_pairs_11 : decode cL_pairs 11 = .ok (.if_icmp .ge 383, 3) := by decide +kernel
theorem dL_pairs_14 : decode cL_pairs 14 = .ok (.aload_n 0, 1) := by decide +kernel
