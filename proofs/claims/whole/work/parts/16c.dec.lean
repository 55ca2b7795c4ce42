set_option maxRecDepth 20000 in
theorem jdd_11_writeTop_120 : jdecOK jm_11_writeTop_120 := fun _ _ _ h => jdec_of (b := prog_12_method_4_code) (d := je_11_writeTop_120) (by decide +kernel) h
set_option maxRecDepth 20000 in
theorem jdd_11_pushArguments_121 : jdecOK jm_11_pushArguments_121 := fun _ _ _ h => jdec_of (b := prog_12_method_5_code) (d := je_11_pushArguments_121) (by decide +kernel) h
set_option maxRecDepth 20000 in
theorem jdd_11_pushSign_122 : jdecOK jm_11_pushSign_122 := fun _ _ _ h => jdec_of (b := prog_12_method_7_code) (d := je_11_pushSign_122) (by decide +kernel) h
set_option maxRecDepth 20000 in
theorem jdd_11_characterAt_123 : jdecOK jm_11_characterAt_123 := fun _ _ _ h => jdec_of (b := prog_12_method_2_code) (d := je_11_characterAt_123) (by decide +kernel) h
set_option maxRecDepth 20000 in
theorem jdd_0_sleeping_124 : jdecOK jm_0_sleeping_124 := fun _ _ _ h => jdec_of (b := prog_1_method_8_code) (d := je_0_sleeping_124) (by decide +kernel) h
set_option maxRecDepth 20000 in
theorem jdd_7_sleepersOn_125 : jdecOK jm_7_sleepersOn_125 := fun _ _ _ h => jdec_of (b := prog_8_method_18_code) (d := je_7_sleepersOn_125) (by decide +kernel) h
set_option maxRecDepth 20000 in
theorem jdd_12_init_126 : jdecOK jm_12_init_126 := fun _ _ _ h => jdec_of (b := prog_14_method_1_code) (d := je_12_init_126) (by decide +kernel) h
set_option maxRecDepth 20000 in
theorem jdd_12_thrown_127 : jdecOK jm_12_thrown_127 := fun _ _ _ h => jdec_of (b := prog_14_method_2_code) (d := je_12_thrown_127) (by decide +kernel) h
set_option maxRecDepth 20000 in
theorem jdd_12_type_128 : jdecOK jm_12_type_128 := fun _ _ _ h => jdec_of (b := prog_14_method_6_code) (d := je_12_type_128) (by decide +kernel) h
set_option maxRecDepth 20000 in
theorem jdd_12_in_129 : jdecOK jm_12_in_129 := fun _ _ _ h => jdec_of (b := prog_14_method_3_code) (d := je_12_in_129) (by decide +kernel) h
set_option maxRecDepth 20000 in
theorem jdd_12_bad_130 : jdecOK jm_12_bad_130 := fun _ _ _ h => jdec_of (b := prog_14_method_4_code) (d := je_12_bad_130) (by decide +kernel) h
set_option maxRecDepth 20000 in
theorem jdd_12_fail_131 : jdecOK jm_12_fail_131 := fun _ _ _ h => jdec_of (b := prog_14_method_5_code) (d := je_12_fail_131) (by decide +kernel) h
set_option maxRecDepth 20000 in
theorem jdd_12_add_132 : jdecOK jm_12_add_132 := fun _ _ _ h => jdec_of (b := prog_14_method_12_code) (d := je_12_add_132) (by decide +kernel) h
set_option maxRecDepth 20000 in
theorem jdd_12_readClause_133 : jdecOK jm_12_readClause_133 := fun _ _ _ h => jdec_of (b := prog_14_method_11_code) (d := je_12_readClause_133) (by decide +kernel) h
set_option maxRecDepth 20000 in
theorem jdd_12_readTerm_134 : jdecOK jm_12_readTerm_134 := fun _ _ _ h => jdec_of (b := prog_14_method_9_code) (d := je_12_readTerm_134) (by decide +kernel) h
set_option maxRecDepth 20000 in
theorem jdd_12_look_135 : jdecOK jm_12_look_135 := fun _ _ _ h => jdec_of (b := prog_14_method_7_code) (d := je_12_look_135) (by decide +kernel) h
set_option maxRecDepth 20000 in
theorem jdd_12_passes_136 : jdecOK jm_12_passes_136 := fun _ _ _ h => jdec_of (b := prog_14_method_8_code) (d := je_12_passes_136) (by decide +kernel) h
set_option maxRecDepth 20000 in
theorem jdd_12_readGoals_137 : jdecOK jm_12_readGoals_137 := fun _ _ _ h => jdec_of (b := prog_14_method_10_code) (d := je_12_readGoals_137) (by decide +kernel) h
set_option maxRecDepth 20000 in
theorem jdd_12_drop_138 : jdecOK jm_12_drop_138 := fun _ _ _ h => jdec_of (b := prog_14_method_13_code) (d := je_12_drop_138) (by decide +kernel) h
set_option maxRecDepth 20000 in
theorem jdd_12_ask_139 : jdecOK jm_12_ask_139 := fun _ _ _ h => jdec_of (b := prog_14_method_42_code) (d := je_12_ask_139) (by decide +kernel) h
set_option maxRecDepth 20000 in
theorem jdd_12_number_140 : jdecOK jm_12_number_140 := fun _ _ _ h => jdec_of (b := prog_14_method_15_code) (d := je_12_number_140) (by decide +kernel) h
set_option maxRecDepth 20000 in
theorem jdd_12_born_141 : jdecOK jm_12_born_141 := fun _ _ _ h => jdec_of (b := prog_14_method_16_code) (d := je_12_born_141) (by decide +kernel) h
set_option maxRecDepth 20000 in
theorem jdd_12_buildGoals_142 : jdecOK jm_12_buildGoals_142 := fun _ _ _ h => jdec_of (b := prog_14_method_21_code) (d := je_12_buildGoals_142) (by decide +kernel) h
set_option maxRecDepth 20000 in
theorem jdd_12_at_143 : jdecOK jm_12_at_143 := fun _ _ _ h => jdec_of (b := prog_14_method_14_code) (d := je_12_at_143) (by decide +kernel) h
set_option maxRecDepth 20000 in
theorem jdd_12_goal_144 : jdecOK jm_12_goal_144 := fun _ _ _ h => jdec_of (b := prog_14_method_20_code) (d := je_12_goal_144) (by decide +kernel) h
set_option maxRecDepth 20000 in
theorem jdd_12_build_145 : jdecOK jm_12_build_145 := fun _ _ _ h => jdec_of (b := prog_14_method_18_code) (d := je_12_build_145) (by decide +kernel) h
set_option maxRecDepth 20000 in
theorem jdd_12_cell_146 : jdecOK jm_12_cell_146 := fun _ _ _ h => jdec_of (b := prog_14_method_17_code) (d := je_12_cell_146) (by decide +kernel) h
set_option maxRecDepth 20000 in
theorem jdd_12_hang_147 : jdecOK jm_12_hang_147 := fun _ _ _ h => jdec_of (b := prog_14_method_19_code) (d := je_12_hang_147) (by decide +kernel) h
set_option maxRecDepth 20000 in
theorem jdd_12_seek_148 : jdecOK jm_12_seek_148 := fun _ _ _ h => jdec_of (b := prog_14_method_41_code) (d := je_12_seek_148) (by decide +kernel) h
set_option maxRecDepth 20000 in
theorem jdd_12_back_149 : jdecOK jm_12_back_149 := fun _ _ _ h => jdec_of (b := prog_14_method_36_code) (d := je_12_back_149) (by decide +kernel) h
set_option maxRecDepth 20000 in
theorem jdd_12_nextFit_150 : jdecOK jm_12_nextFit_150 := fun _ _ _ h => jdec_of (b := prog_14_method_33_code) (d := je_12_nextFit_150) (by decide +kernel) h
set_option maxRecDepth 20000 in
theorem jdd_12_fits_151 : jdecOK jm_12_fits_151 := fun _ _ _ h => jdec_of (b := prog_14_method_32_code) (d := je_12_fits_151) (by decide +kernel) h
set_option maxRecDepth 20000 in
theorem jdd_12_undo_152 : jdecOK jm_12_undo_152 := fun _ _ _ h => jdec_of (b := prog_14_method_23_code) (d := je_12_undo_152) (by decide +kernel) h
set_option maxRecDepth 20000 in
theorem jdd_12_take_153 : jdecOK jm_12_take_153 := fun _ _ _ h => jdec_of (b := prog_14_method_34_code) (d := je_12_take_153) (by decide +kernel) h
set_option maxRecDepth 20000 in
theorem jdd_12_pair_154 : jdecOK jm_12_pair_154 := fun _ _ _ h => jdec_of (b := prog_14_method_28_code) (d := je_12_pair_154) (by decide +kernel) h
set_option maxRecDepth 20000 in
theorem jdd_12_unify_155 : jdecOK jm_12_unify_155 := fun _ _ _ h => jdec_of (b := prog_14_method_31_code) (d := je_12_unify_155) (by decide +kernel) h
set_option maxRecDepth 20000 in
theorem jdd_12_same_156 : jdecOK jm_12_same_156 := fun _ _ _ h => jdec_of (b := prog_14_method_29_code) (d := je_12_same_156) (by decide +kernel) h
set_option maxRecDepth 20000 in
theorem jdd_12_step_157 : jdecOK jm_12_step_157 := fun _ _ _ h => jdec_of (b := prog_14_method_25_code) (d := je_12_step_157) (by decide +kernel) h
set_option maxRecDepth 20000 in
theorem jdd_12_value_158 : jdecOK jm_12_value_158 := fun _ _ _ h => jdec_of (b := prog_14_method_24_code) (d := je_12_value_158) (by decide +kernel) h
set_option maxRecDepth 20000 in
theorem jdd_12_tie_159 : jdecOK jm_12_tie_159 := fun _ _ _ h => jdec_of (b := prog_14_method_26_code) (d := je_12_tie_159) (by decide +kernel) h
set_option maxRecDepth 20000 in
theorem jdd_12_change_160 : jdecOK jm_12_change_160 := fun _ _ _ h => jdec_of (b := prog_14_method_22_code) (d := je_12_change_160) (by decide +kernel) h
set_option maxRecDepth 20000 in
theorem jdd_12_follow_161 : jdecOK jm_12_follow_161 := fun _ _ _ h => jdec_of (b := prog_14_method_27_code) (d := je_12_follow_161) (by decide +kernel) h
set_option maxRecDepth 20000 in
theorem jdd_12_test_162 : jdecOK jm_12_test_162 := fun _ _ _ h => jdec_of (b := prog_14_method_30_code) (d := je_12_test_162) (by decide +kernel) h
set_option maxRecDepth 20000 in
theorem jdd_12_perform_163 : jdecOK jm_12_perform_163 := fun _ _ _ h => jdec_of (b := prog_14_method_40_code) (d := je_12_perform_163) (by decide +kernel) h
set_option maxRecDepth 20000 in
theorem jdd_12_call_164 : jdecOK jm_12_call_164 := fun _ _ _ h => jdec_of (b := prog_14_method_35_code) (d := je_12_call_164) (by decide +kernel) h
set_option maxRecDepth 20000 in
theorem jdd_12_apart_165 : jdecOK jm_12_apart_165 := fun _ _ _ h => jdec_of (b := prog_14_method_37_code) (d := je_12_apart_165) (by decide +kernel) h
set_option maxRecDepth 20000 in
theorem jdd_12_less_166 : jdecOK jm_12_less_166 := fun _ _ _ h => jdec_of (b := prog_14_method_38_code) (d := je_12_less_166) (by decide +kernel) h
set_option maxRecDepth 20000 in
theorem jdd_12_sleep_167 : jdecOK jm_12_sleep_167 := fun _ _ _ h => jdec_of (b := prog_14_method_39_code) (d := je_12_sleep_167) (by decide +kernel) h
set_option maxRecDepth 20000 in
theorem jdd_12_next_168 : jdecOK jm_12_next_168 := fun _ _ _ h => jdec_of (b := prog_14_method_43_code) (d := je_12_next_168) (by decide +kernel) h
set_option maxRecDepth 20000 in
theorem jdd_12_letter_169 : jdecOK jm_12_letter_169 := fun _ _ _ h => jdec_of (b := prog_14_method_46_code) (d := je_12_letter_169) (by decide +kernel) h
set_option maxRecDepth 20000 in
theorem jdd_12_write_170 : jdecOK jm_12_write_170 := fun _ _ _ h => jdec_of (b := prog_14_method_45_code) (d := je_12_write_170) (by decide +kernel) h
set_option maxRecDepth 20000 in
theorem jdd_12_put_171 : jdecOK jm_12_put_171 := fun _ _ _ h => jdec_of (b := prog_14_method_44_code) (d := je_12_put_171) (by decide +kernel) h
set_option maxRecDepth 20000 in
theorem jdd_12_sleeping_172 : jdecOK jm_12_sleeping_172 := fun _ _ _ h => jdec_of (b := prog_14_method_47_code) (d := je_12_sleeping_172) (by decide +kernel) h
set_option maxRecDepth 20000 in
theorem jdd_12_count_173 : jdecOK jm_12_count_173 := fun _ _ _ h => jdec_of (b := prog_14_method_48_code) (d := je_12_count_173) (by decide +kernel) h
set_option maxRecDepth 20000 in
theorem jdd_13_type_174 : jdecOK jm_13_type_174 := fun _ _ _ h => jdec_of (b := method_3_code) (d := je_13_type_174) (by decide +kernel) h
set_option maxRecDepth 20000 in
theorem jdd_13_add_175 : jdecOK jm_13_add_175 := fun _ _ _ h => jdec_of (b := method_4_code) (d := je_13_add_175) (by decide +kernel) h
set_option maxRecDepth 20000 in
theorem jdd_13_drop_176 : jdecOK jm_13_drop_176 := fun _ _ _ h => jdec_of (b := method_5_code) (d := je_13_drop_176) (by decide +kernel) h
set_option maxRecDepth 20000 in
theorem jdd_13_ask_177 : jdecOK jm_13_ask_177 := fun _ _ _ h => jdec_of (b := method_6_code) (d := je_13_ask_177) (by decide +kernel) h
set_option maxRecDepth 20000 in
theorem jdd_13_next_178 : jdecOK jm_13_next_178 := fun _ _ _ h => jdec_of (b := method_7_code) (d := je_13_next_178) (by decide +kernel) h
set_option maxRecDepth 20000 in
theorem jdd_13_letter_179 : jdecOK jm_13_letter_179 := fun _ _ _ h => jdec_of (b := method_8_code) (d := je_13_letter_179) (by decide +kernel) h
set_option maxRecDepth 20000 in
theorem jdd_13_sleeping_180 : jdecOK jm_13_sleeping_180 := fun _ _ _ h => jdec_of (b := method_9_code) (d := je_13_sleeping_180) (by decide +kernel) h
set_option maxRecDepth 20000 in
theorem jdd_14_max_181 : jdecOK jm_14_max_181 := fun _ _ _ h => jdec_of (b := prog_21_method_65_code) (d := je_14_max_181) (by decide +kernel) h
set_option maxRecDepth 20000 in
theorem jdd_14_min_182 : jdecOK jm_14_min_182 := fun _ _ _ h => jdec_of (b := prog_21_method_69_code) (d := je_14_min_182) (by decide +kernel) h
set_option maxRecDepth 20000 in
theorem jdd_15_bitCount_183 : jdecOK jm_15_bitCount_183 := fun _ _ _ h => jdec_of (b := prog_20_method_49_code) (d := je_15_bitCount_183) (by decide +kernel) h
set_option maxRecDepth 20000 in
theorem jdd_16_copyOf_184 : jdecOK jm_16_copyOf_184 := fun _ _ _ h => jdec_of (b := prog_27_method_123_code) (d := je_16_copyOf_184) (by decide +kernel) h
set_option maxRecDepth 20000 in
theorem jdd_law : jdecOK jm_law := fun _ _ _ h => jdec_of (b := code) (d := je_law) (by decide +kernel) h
theorem jdc_0 : ∀ e ∈ (jd_m.getD 0 (0, [])).2, jdecOK e.2.1 := List.forall_mem_cons.mpr ⟨jdd_0_init_0, List.forall_mem_cons.mpr ⟨jdd_9_init_1, List.forall_mem_cons.mpr ⟨jdd_1_init_2, List.forall_mem_cons.mpr ⟨jdd_8_init_3, List.forall_mem_cons.mpr ⟨jdd_5_init_4, List.forall_mem_cons.mpr ⟨jdd_2_init_5, List.forall_mem_cons.mpr ⟨jdd_7_init_6, List.forall_mem_cons.mpr ⟨jdd_3_init_7, List.forall_mem_cons.mpr ⟨jdd_10_init_8, List.forall_mem_cons.mpr ⟨jdd_6_init_9, List.forall_mem_cons.mpr ⟨jdd_11_init_10, List.forall_mem_cons.mpr ⟨jdd_0_count_11, List.forall_mem_cons.mpr ⟨jdd_9_length_12, List.forall_mem_cons.mpr ⟨jdd_2_size_13, fun _ h => absurd h List.not_mem_nil⟩⟩⟩⟩⟩⟩⟩⟩⟩⟩⟩⟩⟩⟩
theorem jdc_1 : ∀ e ∈ (jd_m.getD 1 (0, [])).2, jdecOK e.2.1 := List.forall_mem_cons.mpr ⟨jdd_6_choicesLeft_14, List.forall_mem_cons.mpr ⟨jdd_8_rows_15, List.forall_mem_cons.mpr ⟨jdd_7_apartsWaiting_16, List.forall_mem_cons.mpr ⟨jdd_7_isWaiting_17, List.forall_mem_cons.mpr ⟨jdd_8_at_18, List.forall_mem_cons.mpr ⟨jdd_7_variablesMade_19, List.forall_mem_cons.mpr ⟨jdd_0_type_20, List.forall_mem_cons.mpr ⟨jdd_0_byteOf_21, List.forall_mem_cons.mpr ⟨jdd_9_append_22, List.forall_mem_cons.mpr ⟨jdd_0_add_23, List.forall_mem_cons.mpr ⟨jdd_9_clear_24, List.forall_mem_cons.mpr ⟨jdd_2_freePage_25, List.forall_mem_cons.mpr ⟨jdd_2_page_26, List.forall_mem_cons.mpr ⟨jdd_5_readClause_27, fun _ h => absurd h List.not_mem_nil⟩⟩⟩⟩⟩⟩⟩⟩⟩⟩⟩⟩⟩⟩
theorem jdc_2 : ∀ e ∈ (jd_m.getD 2 (0, [])).2, jdecOK e.2.1 := List.forall_mem_cons.mpr ⟨jdd_5_begin_28, List.forall_mem_cons.mpr ⟨jdd_1_clearPage_29, List.forall_mem_cons.mpr ⟨jdd_8_put_30, List.forall_mem_cons.mpr ⟨jdd_1_firstNode_31, List.forall_mem_cons.mpr ⟨jdd_9_at_32, List.forall_mem_cons.mpr ⟨jdd_1_isSmall_33, List.forall_mem_cons.mpr ⟨jdd_5_readTerm_34, List.forall_mem_cons.mpr ⟨jdd_1_isCapital_35, List.forall_mem_cons.mpr ⟨jdd_1_isDigit_36, List.forall_mem_cons.mpr ⟨jdd_5_node_37, List.forall_mem_cons.mpr ⟨jdd_1_noteTerm_38, List.forall_mem_cons.mpr ⟨jdd_5_readSign_39, List.forall_mem_cons.mpr ⟨jdd_1_noteArgument_40, List.forall_mem_cons.mpr ⟨jdd_5_atEnd_41, fun _ h => absurd h List.not_mem_nil⟩⟩⟩⟩⟩⟩⟩⟩⟩⟩⟩⟩⟩⟩
theorem jdc_3 : ∀ e ∈ (jd_m.getD 3 (0, [])).2, jdecOK e.2.1 := List.forall_mem_cons.mpr ⟨jdd_5_readGoals_42, List.forall_mem_cons.mpr ⟨jdd_1_noteFirstGoal_43, List.forall_mem_cons.mpr ⟨jdd_5_readGoal_44, List.forall_mem_cons.mpr ⟨jdd_1_noteGoal_45, List.forall_mem_cons.mpr ⟨jdd_1_noteFollower_46, List.forall_mem_cons.mpr ⟨jdd_1_rankVariables_47, List.forall_mem_cons.mpr ⟨jdd_1_sign_48, List.forall_mem_cons.mpr ⟨jdd_5_place_49, List.forall_mem_cons.mpr ⟨jdd_2_keepFreePage_50, List.forall_mem_cons.mpr ⟨jdd_0_drop_51, List.forall_mem_cons.mpr ⟨jdd_2_remove_52, List.forall_mem_cons.mpr ⟨jdd_0_ask_53, List.forall_mem_cons.mpr ⟨jdd_5_readQuestion_54, List.forall_mem_cons.mpr ⟨jdd_6_begin_55, fun _ h => absurd h List.not_mem_nil⟩⟩⟩⟩⟩⟩⟩⟩⟩⟩⟩⟩⟩⟩
theorem jdc_4 : ∀ e ∈ (jd_m.getD 4 (0, [])).2, jdecOK e.2.1 := List.forall_mem_cons.mpr ⟨jdd_7_clear_56, List.forall_mem_cons.mpr ⟨jdd_8_shrink_57, List.forall_mem_cons.mpr ⟨jdd_3_clear_58, List.forall_mem_cons.mpr ⟨jdd_7_makeVariables_59, List.forall_mem_cons.mpr ⟨jdd_1_variablesOf_60, List.forall_mem_cons.mpr ⟨jdd_8_append_61, List.forall_mem_cons.mpr ⟨jdd_1_firstGoal_62, List.forall_mem_cons.mpr ⟨jdd_6_seek_63, List.forall_mem_cons.mpr ⟨jdd_6_doGoal_64, List.forall_mem_cons.mpr ⟨jdd_3_takeStep_65, List.forall_mem_cons.mpr ⟨jdd_1_follower_66, List.forall_mem_cons.mpr ⟨jdd_1_kind_67, List.forall_mem_cons.mpr ⟨jdd_1_right_68, List.forall_mem_cons.mpr ⟨jdd_3_pushPair_69, fun _ h => absurd h List.not_mem_nil⟩⟩⟩⟩⟩⟩⟩⟩⟩⟩⟩⟩⟩⟩
theorem jdc_5 : ∀ e ∈ (jd_m.getD 5 (0, [])).2, jdecOK e.2.1 := List.forall_mem_cons.mpr ⟨jdd_7_letWait_70, List.forall_mem_cons.mpr ⟨jdd_6_doLess_71, List.forall_mem_cons.mpr ⟨jdd_7_find_72, List.forall_mem_cons.mpr ⟨jdd_1_rank_73, List.forall_mem_cons.mpr ⟨jdd_6_doSleep_74, List.forall_mem_cons.mpr ⟨jdd_6_putInFront_75, List.forall_mem_cons.mpr ⟨jdd_7_putToSleep_76, List.forall_mem_cons.mpr ⟨jdd_7_join_77, List.forall_mem_cons.mpr ⟨jdd_7_lastSleeper_78, List.forall_mem_cons.mpr ⟨jdd_6_doCall_79, List.forall_mem_cons.mpr ⟨jdd_2_find_80, List.forall_mem_cons.mpr ⟨jdd_1_alike_81, List.forall_mem_cons.mpr ⟨jdd_1_arity_82, List.forall_mem_cons.mpr ⟨jdd_6_leaveChoice_83, fun _ h => absurd h List.not_mem_nil⟩⟩⟩⟩⟩⟩⟩⟩⟩⟩⟩⟩⟩⟩
theorem jdc_6 : ∀ e ∈ (jd_m.getD 6 (0, [])).2, jdecOK e.2.1 := List.forall_mem_cons.mpr ⟨jdd_7_changes_84, List.forall_mem_cons.mpr ⟨jdd_7_variables_85, List.forall_mem_cons.mpr ⟨jdd_7_sleepers_86, List.forall_mem_cons.mpr ⟨jdd_7_aparts_87, List.forall_mem_cons.mpr ⟨jdd_6_take_88, List.forall_mem_cons.mpr ⟨jdd_3_pushArguments_89, List.forall_mem_cons.mpr ⟨jdd_1_argument_90, List.forall_mem_cons.mpr ⟨jdd_3_makeSame_91, List.forall_mem_cons.mpr ⟨jdd_3_goThroughPairs_92, List.forall_mem_cons.mpr ⟨jdd_7_bind_93, List.forall_mem_cons.mpr ⟨jdd_7_firstSleeper_94, List.forall_mem_cons.mpr ⟨jdd_3_wake_95, List.forall_mem_cons.mpr ⟨jdd_7_sleeperBehind_96, List.forall_mem_cons.mpr ⟨jdd_3_testAparts_97, fun _ h => absurd h List.not_mem_nil⟩⟩⟩⟩⟩⟩⟩⟩⟩⟩⟩⟩⟩⟩
theorem jdc_7 : ∀ e ∈ (jd_m.getD 7 (0, [])).2, jdecOK e.2.1 := List.forall_mem_cons.mpr ⟨jdd_3_testApart_98, List.forall_mem_cons.mpr ⟨jdd_7_apartGoal_99, List.forall_mem_cons.mpr ⟨jdd_7_apartEnv_100, List.forall_mem_cons.mpr ⟨jdd_7_goBack_101, List.forall_mem_cons.mpr ⟨jdd_7_undo_102, List.forall_mem_cons.mpr ⟨jdd_7_settle_103, List.forall_mem_cons.mpr ⟨jdd_6_putWokenInFront_104, List.forall_mem_cons.mpr ⟨jdd_3_wokenGoals_105, List.forall_mem_cons.mpr ⟨jdd_3_wokenGoal_106, List.forall_mem_cons.mpr ⟨jdd_7_sleeperGoal_107, List.forall_mem_cons.mpr ⟨jdd_7_sleeperEnv_108, List.forall_mem_cons.mpr ⟨jdd_6_retry_109, List.forall_mem_cons.mpr ⟨jdd_7_forget_110, List.forall_mem_cons.mpr ⟨jdd_0_conclude_111, fun _ h => absurd h List.not_mem_nil⟩⟩⟩⟩⟩⟩⟩⟩⟩⟩⟩⟩⟩⟩
theorem jdc_8 : ∀ e ∈ (jd_m.getD 8 (0, [])).2, jdecOK e.2.1 := List.forall_mem_cons.mpr ⟨jdd_3_stepsTaken_112, List.forall_mem_cons.mpr ⟨jdd_0_next_113, List.forall_mem_cons.mpr ⟨jdd_0_letter_114, List.forall_mem_cons.mpr ⟨jdd_0_isVariableName_115, List.forall_mem_cons.mpr ⟨jdd_0_questionNode_116, List.forall_mem_cons.mpr ⟨jdd_1_nodeWithSign_117, List.forall_mem_cons.mpr ⟨jdd_11_write_118, List.forall_mem_cons.mpr ⟨jdd_11_pushTerm_119, List.forall_mem_cons.mpr ⟨jdd_11_writeTop_120, List.forall_mem_cons.mpr ⟨jdd_11_pushArguments_121, List.forall_mem_cons.mpr ⟨jdd_11_pushSign_122, List.forall_mem_cons.mpr ⟨jdd_11_characterAt_123, List.forall_mem_cons.mpr ⟨jdd_0_sleeping_124, List.forall_mem_cons.mpr ⟨jdd_7_sleepersOn_125, fun _ h => absurd h List.not_mem_nil⟩⟩⟩⟩⟩⟩⟩⟩⟩⟩⟩⟩⟩⟩
theorem jdc_9 : ∀ e ∈ (jd_m.getD 9 (0, [])).2, jdecOK e.2.1 := List.forall_mem_cons.mpr ⟨jdd_12_init_126, List.forall_mem_cons.mpr ⟨jdd_12_thrown_127, List.forall_mem_cons.mpr ⟨jdd_12_type_128, List.forall_mem_cons.mpr ⟨jdd_12_in_129, List.forall_mem_cons.mpr ⟨jdd_12_bad_130, List.forall_mem_cons.mpr ⟨jdd_12_fail_131, List.forall_mem_cons.mpr ⟨jdd_12_add_132, List.forall_mem_cons.mpr ⟨jdd_12_readClause_133, List.forall_mem_cons.mpr ⟨jdd_12_readTerm_134, List.forall_mem_cons.mpr ⟨jdd_12_look_135, List.forall_mem_cons.mpr ⟨jdd_12_passes_136, List.forall_mem_cons.mpr ⟨jdd_12_readGoals_137, List.forall_mem_cons.mpr ⟨jdd_12_drop_138, List.forall_mem_cons.mpr ⟨jdd_12_ask_139, fun _ h => absurd h List.not_mem_nil⟩⟩⟩⟩⟩⟩⟩⟩⟩⟩⟩⟩⟩⟩
theorem jdc_10 : ∀ e ∈ (jd_m.getD 10 (0, [])).2, jdecOK e.2.1 := List.forall_mem_cons.mpr ⟨jdd_12_number_140, List.forall_mem_cons.mpr ⟨jdd_12_born_141, List.forall_mem_cons.mpr ⟨jdd_12_buildGoals_142, List.forall_mem_cons.mpr ⟨jdd_12_at_143, List.forall_mem_cons.mpr ⟨jdd_12_goal_144, List.forall_mem_cons.mpr ⟨jdd_12_build_145, List.forall_mem_cons.mpr ⟨jdd_12_cell_146, List.forall_mem_cons.mpr ⟨jdd_12_hang_147, List.forall_mem_cons.mpr ⟨jdd_12_seek_148, List.forall_mem_cons.mpr ⟨jdd_12_back_149, List.forall_mem_cons.mpr ⟨jdd_12_nextFit_150, List.forall_mem_cons.mpr ⟨jdd_12_fits_151, List.forall_mem_cons.mpr ⟨jdd_12_undo_152, List.forall_mem_cons.mpr ⟨jdd_12_take_153, fun _ h => absurd h List.not_mem_nil⟩⟩⟩⟩⟩⟩⟩⟩⟩⟩⟩⟩⟩⟩
theorem jdc_11 : ∀ e ∈ (jd_m.getD 11 (0, [])).2, jdecOK e.2.1 := List.forall_mem_cons.mpr ⟨jdd_12_pair_154, List.forall_mem_cons.mpr ⟨jdd_12_unify_155, List.forall_mem_cons.mpr ⟨jdd_12_same_156, List.forall_mem_cons.mpr ⟨jdd_12_step_157, List.forall_mem_cons.mpr ⟨jdd_12_value_158, List.forall_mem_cons.mpr ⟨jdd_12_tie_159, List.forall_mem_cons.mpr ⟨jdd_12_change_160, List.forall_mem_cons.mpr ⟨jdd_12_follow_161, List.forall_mem_cons.mpr ⟨jdd_12_test_162, List.forall_mem_cons.mpr ⟨jdd_12_perform_163, List.forall_mem_cons.mpr ⟨jdd_12_call_164, List.forall_mem_cons.mpr ⟨jdd_12_apart_165, List.forall_mem_cons.mpr ⟨jdd_12_less_166, List.forall_mem_cons.mpr ⟨jdd_12_sleep_167, fun _ h => absurd h List.not_mem_nil⟩⟩⟩⟩⟩⟩⟩⟩⟩⟩⟩⟩⟩⟩
theorem jdc_12 : ∀ e ∈ (jd_m.getD 12 (0, [])).2, jdecOK e.2.1 := List.forall_mem_cons.mpr ⟨jdd_12_next_168, List.forall_mem_cons.mpr ⟨jdd_12_letter_169, List.forall_mem_cons.mpr ⟨jdd_12_write_170, List.forall_mem_cons.mpr ⟨jdd_12_put_171, List.forall_mem_cons.mpr ⟨jdd_12_sleeping_172, List.forall_mem_cons.mpr ⟨jdd_12_count_173, List.forall_mem_cons.mpr ⟨jdd_13_type_174, List.forall_mem_cons.mpr ⟨jdd_13_add_175, List.forall_mem_cons.mpr ⟨jdd_13_drop_176, List.forall_mem_cons.mpr ⟨jdd_13_ask_177, List.forall_mem_cons.mpr ⟨jdd_13_next_178, List.forall_mem_cons.mpr ⟨jdd_13_letter_179, List.forall_mem_cons.mpr ⟨jdd_13_sleeping_180, List.forall_mem_cons.mpr ⟨jdd_14_max_181, fun _ h => absurd h List.not_mem_nil⟩⟩⟩⟩⟩⟩⟩⟩⟩⟩⟩⟩⟩⟩
theorem jdc_13 : ∀ e ∈ (jd_m.getD 13 (0, [])).2, jdecOK e.2.1 := List.forall_mem_cons.mpr ⟨jdd_14_min_182, List.forall_mem_cons.mpr ⟨jdd_15_bitCount_183, List.forall_mem_cons.mpr ⟨jdd_16_copyOf_184, fun _ h => absurd h List.not_mem_nil⟩⟩⟩
theorem jdec_all : ∀ q ∈ jd_m, ∀ e ∈ q.2, jdecOK e.2.1 := List.forall_mem_cons.mpr ⟨jdc_0, List.forall_mem_cons.mpr ⟨jdc_1, List.forall_mem_cons.mpr ⟨jdc_2, List.forall_mem_cons.mpr ⟨jdc_3, List.forall_mem_cons.mpr ⟨jdc_4, List.forall_mem_cons.mpr ⟨jdc_5, List.forall_mem_cons.mpr ⟨jdc_6, List.forall_mem_cons.mpr ⟨jdc_7, List.forall_mem_cons.mpr ⟨jdc_8, List.forall_mem_cons.mpr ⟨jdc_9, List.forall_mem_cons.mpr ⟨jdc_10, List.forall_mem_cons.mpr ⟨jdc_11, List.forall_mem_cons.mpr ⟨jdc_12, List.forall_mem_cons.mpr ⟨jdc_13, fun _ h => absurd h List.not_mem_nil⟩⟩⟩⟩⟩⟩⟩⟩⟩⟩⟩⟩⟩⟩
theorem jdec_mt {z : Nat} {M : jM} (h : jt_m z = some M) : jdecOK M := by
  unfold jt_m at h
  obtain ⟨q, hq, rfl⟩ := Option.map_eq_some_iff.mp h
  obtain ⟨c, hc, hm⟩ := List.mem_flatMap.mp (jlk2_mem hq)
  exact jdec_all c hc _ hm
