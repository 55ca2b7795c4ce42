def jcM (M : jM) (ps : List Nat) : Bool := plainFor M.1 && decide (M.1.cls ≠ "java/lang/invoke/MethodHandle") && decide (M.1.cls ≠ "java/lang/invoke/VarHandle") && (!M.2.2.2.2.2.1 || decide (M.1.name = "<init>")) &&
  jIn (ps.getD 1 0) (.initialized M.1.cls) && decide (M.2.2.1 ≤ 45) && decide (jown M.2.2.2.2.1 = M.1.cls)
set_option maxRecDepth 20000 in
theorem jcM_ok : (jd_m.flatMap (fun q => q.2)).all (fun e => jcM e.2.1 e.2.2) = true := by decide +kernel

theorem jcO_ok : jIn 1032 (.instanceMethod Lib.objectInit) = true ∧ jIn 1033 (.code Lib.objectInit ⟨#[0xb1]⟩ 1 none) = true ∧ jIn 3011 (.native arraycopyName) = true ∧ jIn 3010 (.static arraycopyName) = true ∧ jIn 1020 (.initialized "java/lang/System") = true ∧ jIn 1073 (.arrayClass .int) = true ∧ jIn 1047 (.arrayClass .char) = true ∧ jIn 6199 (.arrayClass .long) = true := by decide +kernel
def jcwOK (M : jM) : Prop := (if M.2.2.2.2.2.2.2.map (fun q => q.1) = [] then Jvm.Cond.code M.1 M.2.1 M.2.2.1 M.2.2.2.1 else Jvm.Cond.codeWith M.1 M.2.1 M.2.2.1 M.2.2.2.1 (M.2.2.2.2.2.2.2.map (fun q => q.1))) ∈ TB0
theorem jcw_0_init_0 : jcwOK jm_0_init_0 := List.mem_filter.mpr ⟨jw_mem (p := 1030) rfl, rfl⟩
theorem jcw_9_init_1 : jcwOK jm_9_init_1 := List.mem_filter.mpr ⟨jw_mem (p := 1038) rfl, rfl⟩
theorem jcw_1_init_2 : jcwOK jm_1_init_2 := List.mem_filter.mpr ⟨jw_mem (p := 1052) rfl, rfl⟩
theorem jcw_8_init_3 : jcwOK jm_8_init_3 := List.mem_filter.mpr ⟨jw_mem (p := 1058) rfl, rfl⟩
theorem jcw_5_init_4 : jcwOK jm_5_init_4 := List.mem_filter.mpr ⟨jw_mem (p := 1085) rfl, rfl⟩
theorem jcw_2_init_5 : jcwOK jm_2_init_5 := List.mem_filter.mpr ⟨jw_mem (p := 1104) rfl, rfl⟩
theorem jcw_7_init_6 : jcwOK jm_7_init_6 := List.mem_filter.mpr ⟨jw_mem (p := 1120) rfl, rfl⟩
theorem jcw_3_init_7 : jcwOK jm_3_init_7 := List.mem_filter.mpr ⟨jw_mem (p := 1147) rfl, rfl⟩
theorem jcw_10_init_8 : jcwOK jm_10_init_8 := List.mem_filter.mpr ⟨jw_mem (p := 1155) rfl, rfl⟩
theorem jcw_6_init_9 : jcwOK jm_6_init_9 := List.mem_filter.mpr ⟨jw_mem (p := 1202) rfl, rfl⟩
theorem jcw_11_init_10 : jcwOK jm_11_init_10 := List.mem_filter.mpr ⟨jw_mem (p := 2000) rfl, rfl⟩
theorem jcw_0_count_11 : jcwOK jm_0_count_11 := List.mem_filter.mpr ⟨jw_mem (p := 2064) rfl, rfl⟩
theorem jcw_9_length_12 : jcwOK jm_9_length_12 := List.mem_filter.mpr ⟨jw_mem (p := 2068) rfl, rfl⟩
theorem jcw_2_size_13 : jcwOK jm_2_size_13 := List.mem_filter.mpr ⟨jw_mem (p := 2072) rfl, rfl⟩
theorem jcw_6_choicesLeft_14 : jcwOK jm_6_choicesLeft_14 := List.mem_filter.mpr ⟨jw_mem (p := 2076) rfl, rfl⟩
theorem jcw_8_rows_15 : jcwOK jm_8_rows_15 := List.mem_filter.mpr ⟨jw_mem (p := 2080) rfl, rfl⟩
theorem jcw_7_apartsWaiting_16 : jcwOK jm_7_apartsWaiting_16 := List.mem_filter.mpr ⟨jw_mem (p := 2084) rfl, rfl⟩
theorem jcw_7_isWaiting_17 : jcwOK jm_7_isWaiting_17 := List.mem_filter.mpr ⟨jw_mem (p := 2089) rfl, rfl⟩
theorem jcw_8_at_18 : jcwOK jm_8_at_18 := List.mem_filter.mpr ⟨jw_mem (p := 2093) rfl, rfl⟩
theorem jcw_7_variablesMade_19 : jcwOK jm_7_variablesMade_19 := List.mem_filter.mpr ⟨jw_mem (p := 2097) rfl, rfl⟩
theorem jcw_0_type_20 : jcwOK jm_0_type_20 := List.mem_filter.mpr ⟨jw_mem (p := 2106) rfl, rfl⟩
theorem jcw_0_byteOf_21 : jcwOK jm_0_byteOf_21 := List.mem_filter.mpr ⟨jw_mem (p := 2109) rfl, rfl⟩
theorem jcw_9_append_22 : jcwOK jm_9_append_22 := List.mem_filter.mpr ⟨jw_mem (p := 2198) rfl, rfl⟩
theorem jcw_0_add_23 : jcwOK jm_0_add_23 := List.mem_filter.mpr ⟨jw_mem (p := 2205) rfl, rfl⟩
theorem jcw_9_clear_24 : jcwOK jm_9_clear_24 := List.mem_filter.mpr ⟨jw_mem (p := 2209) rfl, rfl⟩
theorem jcw_2_freePage_25 : jcwOK jm_2_freePage_25 := List.mem_filter.mpr ⟨jw_mem (p := 2214) rfl, rfl⟩
theorem jcw_2_page_26 : jcwOK jm_2_page_26 := List.mem_filter.mpr ⟨jw_mem (p := 2218) rfl, rfl⟩
theorem jcw_5_readClause_27 : jcwOK jm_5_readClause_27 := List.mem_filter.mpr ⟨jw_mem (p := 2222) rfl, rfl⟩
theorem jcw_5_begin_28 : jcwOK jm_5_begin_28 := List.mem_filter.mpr ⟨jw_mem (p := 2226) rfl, rfl⟩
theorem jcw_1_clearPage_29 : jcwOK jm_1_clearPage_29 := List.mem_filter.mpr ⟨jw_mem (p := 2230) rfl, rfl⟩
theorem jcw_8_put_30 : jcwOK jm_8_put_30 := List.mem_filter.mpr ⟨jw_mem (p := 2234) rfl, rfl⟩
theorem jcw_1_firstNode_31 : jcwOK jm_1_firstNode_31 := List.mem_filter.mpr ⟨jw_mem (p := 3014) rfl, rfl⟩
theorem jcw_9_at_32 : jcwOK jm_9_at_32 := List.mem_filter.mpr ⟨jw_mem (p := 3018) rfl, rfl⟩
theorem jcw_1_isSmall_33 : jcwOK jm_1_isSmall_33 := List.mem_filter.mpr ⟨jw_mem (p := 3021) rfl, rfl⟩
theorem jcw_5_readTerm_34 : jcwOK jm_5_readTerm_34 := List.mem_filter.mpr ⟨jw_mem (p := 3025) rfl, rfl⟩
theorem jcw_1_isCapital_35 : jcwOK jm_1_isCapital_35 := List.mem_filter.mpr ⟨jw_mem (p := 3028) rfl, rfl⟩
theorem jcw_1_isDigit_36 : jcwOK jm_1_isDigit_36 := List.mem_filter.mpr ⟨jw_mem (p := 3031) rfl, rfl⟩
theorem jcw_5_node_37 : jcwOK jm_5_node_37 := List.mem_filter.mpr ⟨jw_mem (p := 3035) rfl, rfl⟩
theorem jcw_1_noteTerm_38 : jcwOK jm_1_noteTerm_38 := List.mem_filter.mpr ⟨jw_mem (p := 3040) rfl, rfl⟩
theorem jcw_5_readSign_39 : jcwOK jm_5_readSign_39 := List.mem_filter.mpr ⟨jw_mem (p := 3046) rfl, rfl⟩
theorem jcw_1_noteArgument_40 : jcwOK jm_1_noteArgument_40 := List.mem_filter.mpr ⟨jw_mem (p := 3050) rfl, rfl⟩
theorem jcw_5_atEnd_41 : jcwOK jm_5_atEnd_41 := List.mem_filter.mpr ⟨jw_mem (p := 3054) rfl, rfl⟩
theorem jcw_5_readGoals_42 : jcwOK jm_5_readGoals_42 := List.mem_filter.mpr ⟨jw_mem (p := 3059) rfl, rfl⟩
theorem jcw_1_noteFirstGoal_43 : jcwOK jm_1_noteFirstGoal_43 := List.mem_filter.mpr ⟨jw_mem (p := 3063) rfl, rfl⟩
theorem jcw_5_readGoal_44 : jcwOK jm_5_readGoal_44 := List.mem_filter.mpr ⟨jw_mem (p := 3067) rfl, rfl⟩
theorem jcw_1_noteGoal_45 : jcwOK jm_1_noteGoal_45 := List.mem_filter.mpr ⟨jw_mem (p := 3071) rfl, rfl⟩
theorem jcw_1_noteFollower_46 : jcwOK jm_1_noteFollower_46 := List.mem_filter.mpr ⟨jw_mem (p := 3075) rfl, rfl⟩
theorem jcw_1_rankVariables_47 : jcwOK jm_1_rankVariables_47 := List.mem_filter.mpr ⟨jw_mem (p := 3079) rfl, rfl⟩
theorem jcw_1_sign_48 : jcwOK jm_1_sign_48 := List.mem_filter.mpr ⟨jw_mem (p := 3083) rfl, rfl⟩
theorem jcw_5_place_49 : jcwOK jm_5_place_49 := List.mem_filter.mpr ⟨jw_mem (p := 3093) rfl, rfl⟩
theorem jcw_2_keepFreePage_50 : jcwOK jm_2_keepFreePage_50 := List.mem_filter.mpr ⟨jw_mem (p := 3098) rfl, rfl⟩
theorem jcw_0_drop_51 : jcwOK jm_0_drop_51 := List.mem_filter.mpr ⟨jw_mem (p := 3105) rfl, rfl⟩
theorem jcw_2_remove_52 : jcwOK jm_2_remove_52 := List.mem_filter.mpr ⟨jw_mem (p := 3110) rfl, rfl⟩
theorem jcw_0_ask_53 : jcwOK jm_0_ask_53 := List.mem_filter.mpr ⟨jw_mem (p := 3119) rfl, rfl⟩
theorem jcw_5_readQuestion_54 : jcwOK jm_5_readQuestion_54 := List.mem_filter.mpr ⟨jw_mem (p := 3123) rfl, rfl⟩
theorem jcw_6_begin_55 : jcwOK jm_6_begin_55 := List.mem_filter.mpr ⟨jw_mem (p := 3128) rfl, rfl⟩
theorem jcw_7_clear_56 : jcwOK jm_7_clear_56 := List.mem_filter.mpr ⟨jw_mem (p := 3132) rfl, rfl⟩
theorem jcw_8_shrink_57 : jcwOK jm_8_shrink_57 := List.mem_filter.mpr ⟨jw_mem (p := 3136) rfl, rfl⟩
theorem jcw_3_clear_58 : jcwOK jm_3_clear_58 := List.mem_filter.mpr ⟨jw_mem (p := 3140) rfl, rfl⟩
theorem jcw_7_makeVariables_59 : jcwOK jm_7_makeVariables_59 := List.mem_filter.mpr ⟨jw_mem (p := 3146) rfl, rfl⟩
theorem jcw_1_variablesOf_60 : jcwOK jm_1_variablesOf_60 := List.mem_filter.mpr ⟨jw_mem (p := 3150) rfl, rfl⟩
theorem jcw_8_append_61 : jcwOK jm_8_append_61 := List.mem_filter.mpr ⟨jw_mem (p := 3154) rfl, rfl⟩
theorem jcw_1_firstGoal_62 : jcwOK jm_1_firstGoal_62 := List.mem_filter.mpr ⟨jw_mem (p := 3158) rfl, rfl⟩
theorem jcw_6_seek_63 : jcwOK jm_6_seek_63 := List.mem_filter.mpr ⟨jw_mem (p := 3165) rfl, rfl⟩
theorem jcw_6_doGoal_64 : jcwOK jm_6_doGoal_64 := List.mem_filter.mpr ⟨jw_mem (p := 3173) rfl, rfl⟩
theorem jcw_3_takeStep_65 : jcwOK jm_3_takeStep_65 := List.mem_filter.mpr ⟨jw_mem (p := 3177) rfl, rfl⟩
theorem jcw_1_follower_66 : jcwOK jm_1_follower_66 := List.mem_filter.mpr ⟨jw_mem (p := 3184) rfl, rfl⟩
theorem jcw_1_kind_67 : jcwOK jm_1_kind_67 := List.mem_filter.mpr ⟨jw_mem (p := 3188) rfl, rfl⟩
theorem jcw_1_right_68 : jcwOK jm_1_right_68 := List.mem_filter.mpr ⟨jw_mem (p := 3192) rfl, rfl⟩
theorem jcw_3_pushPair_69 : jcwOK jm_3_pushPair_69 := List.mem_filter.mpr ⟨jw_mem (p := 3196) rfl, rfl⟩
theorem jcw_7_letWait_70 : jcwOK jm_7_letWait_70 := List.mem_filter.mpr ⟨jw_mem (p := 3203) rfl, rfl⟩
theorem jcw_6_doLess_71 : jcwOK jm_6_doLess_71 := List.mem_filter.mpr ⟨jw_mem (p := 3209) rfl, rfl⟩
theorem jcw_7_find_72 : jcwOK jm_7_find_72 := List.mem_filter.mpr ⟨jw_mem (p := 3213) rfl, rfl⟩
theorem jcw_1_rank_73 : jcwOK jm_1_rank_73 := List.mem_filter.mpr ⟨jw_mem (p := 3217) rfl, rfl⟩
theorem jcw_6_doSleep_74 : jcwOK jm_6_doSleep_74 := List.mem_filter.mpr ⟨jw_mem (p := 3227) rfl, rfl⟩
theorem jcw_6_putInFront_75 : jcwOK jm_6_putInFront_75 := List.mem_filter.mpr ⟨jw_mem (p := 3231) rfl, rfl⟩
theorem jcw_7_putToSleep_76 : jcwOK jm_7_putToSleep_76 := List.mem_filter.mpr ⟨jw_mem (p := 3235) rfl, rfl⟩
theorem jcw_7_join_77 : jcwOK jm_7_join_77 := List.mem_filter.mpr ⟨jw_mem (p := 3239) rfl, rfl⟩
theorem jcw_7_lastSleeper_78 : jcwOK jm_7_lastSleeper_78 := List.mem_filter.mpr ⟨jw_mem (p := 4003) rfl, rfl⟩
theorem jcw_6_doCall_79 : jcwOK jm_6_doCall_79 := List.mem_filter.mpr ⟨jw_mem (p := 4008) rfl, rfl⟩
theorem jcw_2_find_80 : jcwOK jm_2_find_80 := List.mem_filter.mpr ⟨jw_mem (p := 4012) rfl, rfl⟩
theorem jcw_1_alike_81 : jcwOK jm_1_alike_81 := List.mem_filter.mpr ⟨jw_mem (p := 4018) rfl, rfl⟩
theorem jcw_1_arity_82 : jcwOK jm_1_arity_82 := List.mem_filter.mpr ⟨jw_mem (p := 4022) rfl, rfl⟩
theorem jcw_6_leaveChoice_83 : jcwOK jm_6_leaveChoice_83 := List.mem_filter.mpr ⟨jw_mem (p := 4027) rfl, rfl⟩
theorem jcw_7_changes_84 : jcwOK jm_7_changes_84 := List.mem_filter.mpr ⟨jw_mem (p := 4031) rfl, rfl⟩
theorem jcw_7_variables_85 : jcwOK jm_7_variables_85 := List.mem_filter.mpr ⟨jw_mem (p := 4036) rfl, rfl⟩
theorem jcw_7_sleepers_86 : jcwOK jm_7_sleepers_86 := List.mem_filter.mpr ⟨jw_mem (p := 4040) rfl, rfl⟩
theorem jcw_7_aparts_87 : jcwOK jm_7_aparts_87 := List.mem_filter.mpr ⟨jw_mem (p := 4044) rfl, rfl⟩
theorem jcw_6_take_88 : jcwOK jm_6_take_88 := List.mem_filter.mpr ⟨jw_mem (p := 4048) rfl, rfl⟩
theorem jcw_3_pushArguments_89 : jcwOK jm_3_pushArguments_89 := List.mem_filter.mpr ⟨jw_mem (p := 4054) rfl, rfl⟩
theorem jcw_1_argument_90 : jcwOK jm_1_argument_90 := List.mem_filter.mpr ⟨jw_mem (p := 4059) rfl, rfl⟩
theorem jcw_3_makeSame_91 : jcwOK jm_3_makeSame_91 := List.mem_filter.mpr ⟨jw_mem (p := 4063) rfl, rfl⟩
theorem jcw_3_goThroughPairs_92 : jcwOK jm_3_goThroughPairs_92 := List.mem_filter.mpr ⟨jw_mem (p := 4068) rfl, rfl⟩
theorem jcw_7_bind_93 : jcwOK jm_7_bind_93 := List.mem_filter.mpr ⟨jw_mem (p := 4077) rfl, rfl⟩
theorem jcw_7_firstSleeper_94 : jcwOK jm_7_firstSleeper_94 := List.mem_filter.mpr ⟨jw_mem (p := 4081) rfl, rfl⟩
theorem jcw_3_wake_95 : jcwOK jm_3_wake_95 := List.mem_filter.mpr ⟨jw_mem (p := 4087) rfl, rfl⟩
theorem jcw_7_sleeperBehind_96 : jcwOK jm_7_sleeperBehind_96 := List.mem_filter.mpr ⟨jw_mem (p := 4092) rfl, rfl⟩
theorem jcw_3_testAparts_97 : jcwOK jm_3_testAparts_97 := List.mem_filter.mpr ⟨jw_mem (p := 4103) rfl, rfl⟩
theorem jcw_3_testApart_98 : jcwOK jm_3_testApart_98 := List.mem_filter.mpr ⟨jw_mem (p := 4109) rfl, rfl⟩
theorem jcw_7_apartGoal_99 : jcwOK jm_7_apartGoal_99 := List.mem_filter.mpr ⟨jw_mem (p := 4113) rfl, rfl⟩
theorem jcw_7_apartEnv_100 : jcwOK jm_7_apartEnv_100 := List.mem_filter.mpr ⟨jw_mem (p := 4117) rfl, rfl⟩
theorem jcw_7_goBack_101 : jcwOK jm_7_goBack_101 := List.mem_filter.mpr ⟨jw_mem (p := 4123) rfl, rfl⟩
theorem jcw_7_undo_102 : jcwOK jm_7_undo_102 := List.mem_filter.mpr ⟨jw_mem (p := 4127) rfl, rfl⟩
theorem jcw_7_settle_103 : jcwOK jm_7_settle_103 := List.mem_filter.mpr ⟨jw_mem (p := 4131) rfl, rfl⟩
theorem jcw_6_putWokenInFront_104 : jcwOK jm_6_putWokenInFront_104 := List.mem_filter.mpr ⟨jw_mem (p := 4139) rfl, rfl⟩
theorem jcw_3_wokenGoals_105 : jcwOK jm_3_wokenGoals_105 := List.mem_filter.mpr ⟨jw_mem (p := 4143) rfl, rfl⟩
theorem jcw_3_wokenGoal_106 : jcwOK jm_3_wokenGoal_106 := List.mem_filter.mpr ⟨jw_mem (p := 4147) rfl, rfl⟩
theorem jcw_7_sleeperGoal_107 : jcwOK jm_7_sleeperGoal_107 := List.mem_filter.mpr ⟨jw_mem (p := 4151) rfl, rfl⟩
theorem jcw_7_sleeperEnv_108 : jcwOK jm_7_sleeperEnv_108 := List.mem_filter.mpr ⟨jw_mem (p := 4155) rfl, rfl⟩
theorem jcw_6_retry_109 : jcwOK jm_6_retry_109 := List.mem_filter.mpr ⟨jw_mem (p := 4159) rfl, rfl⟩
theorem jcw_7_forget_110 : jcwOK jm_7_forget_110 := List.mem_filter.mpr ⟨jw_mem (p := 4166) rfl, rfl⟩
theorem jcw_0_conclude_111 : jcwOK jm_0_conclude_111 := List.mem_filter.mpr ⟨jw_mem (p := 4170) rfl, rfl⟩
theorem jcw_3_stepsTaken_112 : jcwOK jm_3_stepsTaken_112 := List.mem_filter.mpr ⟨jw_mem (p := 4175) rfl, rfl⟩
theorem jcw_0_next_113 : jcwOK jm_0_next_113 := List.mem_filter.mpr ⟨jw_mem (p := 4217) rfl, rfl⟩
theorem jcw_0_letter_114 : jcwOK jm_0_letter_114 := List.mem_filter.mpr ⟨jw_mem (p := 4226) rfl, rfl⟩
theorem jcw_0_isVariableName_115 : jcwOK jm_0_isVariableName_115 := List.mem_filter.mpr ⟨jw_mem (p := 4229) rfl, rfl⟩
theorem jcw_0_questionNode_116 : jcwOK jm_0_questionNode_116 := List.mem_filter.mpr ⟨jw_mem (p := 4234) rfl, rfl⟩
theorem jcw_1_nodeWithSign_117 : jcwOK jm_1_nodeWithSign_117 := List.mem_filter.mpr ⟨jw_mem (p := 4238) rfl, rfl⟩
theorem jcw_11_write_118 : jcwOK jm_11_write_118 := List.mem_filter.mpr ⟨jw_mem (p := 5003) rfl, rfl⟩
theorem jcw_11_pushTerm_119 : jcwOK jm_11_pushTerm_119 := List.mem_filter.mpr ⟨jw_mem (p := 5008) rfl, rfl⟩
theorem jcw_11_writeTop_120 : jcwOK jm_11_writeTop_120 := List.mem_filter.mpr ⟨jw_mem (p := 5014) rfl, rfl⟩
theorem jcw_11_pushArguments_121 : jcwOK jm_11_pushArguments_121 := List.mem_filter.mpr ⟨jw_mem (p := 5020) rfl, rfl⟩
theorem jcw_11_pushSign_122 : jcwOK jm_11_pushSign_122 := List.mem_filter.mpr ⟨jw_mem (p := 5025) rfl, rfl⟩
theorem jcw_11_characterAt_123 : jcwOK jm_11_characterAt_123 := List.mem_filter.mpr ⟨jw_mem (p := 5032) rfl, rfl⟩
theorem jcw_0_sleeping_124 : jcwOK jm_0_sleeping_124 := List.mem_filter.mpr ⟨jw_mem (p := 5039) rfl, rfl⟩
theorem jcw_7_sleepersOn_125 : jcwOK jm_7_sleepersOn_125 := List.mem_filter.mpr ⟨jw_mem (p := 5044) rfl, rfl⟩
theorem jcw_12_init_126 : jcwOK jm_12_init_126 := List.mem_filter.mpr ⟨jw_mem (p := 5051) rfl, rfl⟩
theorem jcw_12_thrown_127 : jcwOK jm_12_thrown_127 := List.mem_filter.mpr ⟨jw_mem (p := 6010) rfl, rfl⟩
theorem jcw_12_type_128 : jcwOK jm_12_type_128 := List.mem_filter.mpr ⟨jw_mem (p := 6014) rfl, rfl⟩
theorem jcw_12_in_129 : jcwOK jm_12_in_129 := List.mem_filter.mpr ⟨jw_mem (p := 6017) rfl, rfl⟩
theorem jcw_12_bad_130 : jcwOK jm_12_bad_130 := List.mem_filter.mpr ⟨jw_mem (p := 6021) rfl, rfl⟩
theorem jcw_12_fail_131 : jcwOK jm_12_fail_131 := List.mem_filter.mpr ⟨jw_mem (p := 6025) rfl, rfl⟩
theorem jcw_12_add_132 : jcwOK jm_12_add_132 := List.mem_filter.mpr ⟨jw_mem (p := 6029) rfl, rfl⟩
theorem jcw_12_readClause_133 : jcwOK jm_12_readClause_133 := List.mem_filter.mpr ⟨jw_mem (p := 6033) rfl, rfl⟩
theorem jcw_12_readTerm_134 : jcwOK jm_12_readTerm_134 := List.mem_filter.mpr ⟨jw_mem (p := 6037) rfl, rfl⟩
theorem jcw_12_look_135 : jcwOK jm_12_look_135 := List.mem_filter.mpr ⟨jw_mem (p := 6041) rfl, rfl⟩
theorem jcw_12_passes_136 : jcwOK jm_12_passes_136 := List.mem_filter.mpr ⟨jw_mem (p := 6045) rfl, rfl⟩
theorem jcw_12_readGoals_137 : jcwOK jm_12_readGoals_137 := List.mem_filter.mpr ⟨jw_mem (p := 6049) rfl, rfl⟩
theorem jcw_12_drop_138 : jcwOK jm_12_drop_138 := List.mem_filter.mpr ⟨jw_mem (p := 6053) rfl, rfl⟩
theorem jcw_12_ask_139 : jcwOK jm_12_ask_139 := List.mem_filter.mpr ⟨jw_mem (p := 6057) rfl, rfl⟩
theorem jcw_12_number_140 : jcwOK jm_12_number_140 := List.mem_filter.mpr ⟨jw_mem (p := 6061) rfl, rfl⟩
theorem jcw_12_born_141 : jcwOK jm_12_born_141 := List.mem_filter.mpr ⟨jw_mem (p := 6065) rfl, rfl⟩
theorem jcw_12_buildGoals_142 : jcwOK jm_12_buildGoals_142 := List.mem_filter.mpr ⟨jw_mem (p := 6070) rfl, rfl⟩
theorem jcw_12_at_143 : jcwOK jm_12_at_143 := List.mem_filter.mpr ⟨jw_mem (p := 6074) rfl, rfl⟩
theorem jcw_12_goal_144 : jcwOK jm_12_goal_144 := List.mem_filter.mpr ⟨jw_mem (p := 6078) rfl, rfl⟩
theorem jcw_12_build_145 : jcwOK jm_12_build_145 := List.mem_filter.mpr ⟨jw_mem (p := 6082) rfl, rfl⟩
theorem jcw_12_cell_146 : jcwOK jm_12_cell_146 := List.mem_filter.mpr ⟨jw_mem (p := 6086) rfl, rfl⟩
theorem jcw_12_hang_147 : jcwOK jm_12_hang_147 := List.mem_filter.mpr ⟨jw_mem (p := 6090) rfl, rfl⟩
theorem jcw_12_seek_148 : jcwOK jm_12_seek_148 := List.mem_filter.mpr ⟨jw_mem (p := 6094) rfl, rfl⟩
theorem jcw_12_back_149 : jcwOK jm_12_back_149 := List.mem_filter.mpr ⟨jw_mem (p := 6098) rfl, rfl⟩
theorem jcw_12_nextFit_150 : jcwOK jm_12_nextFit_150 := List.mem_filter.mpr ⟨jw_mem (p := 6102) rfl, rfl⟩
theorem jcw_12_fits_151 : jcwOK jm_12_fits_151 := List.mem_filter.mpr ⟨jw_mem (p := 6106) rfl, rfl⟩
theorem jcw_12_undo_152 : jcwOK jm_12_undo_152 := List.mem_filter.mpr ⟨jw_mem (p := 6110) rfl, rfl⟩
theorem jcw_12_take_153 : jcwOK jm_12_take_153 := List.mem_filter.mpr ⟨jw_mem (p := 6114) rfl, rfl⟩
theorem jcw_12_pair_154 : jcwOK jm_12_pair_154 := List.mem_filter.mpr ⟨jw_mem (p := 6118) rfl, rfl⟩
theorem jcw_12_unify_155 : jcwOK jm_12_unify_155 := List.mem_filter.mpr ⟨jw_mem (p := 6122) rfl, rfl⟩
theorem jcw_12_same_156 : jcwOK jm_12_same_156 := List.mem_filter.mpr ⟨jw_mem (p := 6126) rfl, rfl⟩
theorem jcw_12_step_157 : jcwOK jm_12_step_157 := List.mem_filter.mpr ⟨jw_mem (p := 6130) rfl, rfl⟩
theorem jcw_12_value_158 : jcwOK jm_12_value_158 := List.mem_filter.mpr ⟨jw_mem (p := 6134) rfl, rfl⟩
theorem jcw_12_tie_159 : jcwOK jm_12_tie_159 := List.mem_filter.mpr ⟨jw_mem (p := 6138) rfl, rfl⟩
theorem jcw_12_change_160 : jcwOK jm_12_change_160 := List.mem_filter.mpr ⟨jw_mem (p := 6142) rfl, rfl⟩
theorem jcw_12_follow_161 : jcwOK jm_12_follow_161 := List.mem_filter.mpr ⟨jw_mem (p := 6146) rfl, rfl⟩
theorem jcw_12_test_162 : jcwOK jm_12_test_162 := List.mem_filter.mpr ⟨jw_mem (p := 6150) rfl, rfl⟩
theorem jcw_12_perform_163 : jcwOK jm_12_perform_163 := List.mem_filter.mpr ⟨jw_mem (p := 6154) rfl, rfl⟩
theorem jcw_12_call_164 : jcwOK jm_12_call_164 := List.mem_filter.mpr ⟨jw_mem (p := 6158) rfl, rfl⟩
theorem jcw_12_apart_165 : jcwOK jm_12_apart_165 := List.mem_filter.mpr ⟨jw_mem (p := 6162) rfl, rfl⟩
theorem jcw_12_less_166 : jcwOK jm_12_less_166 := List.mem_filter.mpr ⟨jw_mem (p := 6166) rfl, rfl⟩
theorem jcw_12_sleep_167 : jcwOK jm_12_sleep_167 := List.mem_filter.mpr ⟨jw_mem (p := 6170) rfl, rfl⟩
theorem jcw_12_next_168 : jcwOK jm_12_next_168 := List.mem_filter.mpr ⟨jw_mem (p := 6174) rfl, rfl⟩
theorem jcw_12_letter_169 : jcwOK jm_12_letter_169 := List.mem_filter.mpr ⟨jw_mem (p := 6178) rfl, rfl⟩
theorem jcw_12_write_170 : jcwOK jm_12_write_170 := List.mem_filter.mpr ⟨jw_mem (p := 6182) rfl, rfl⟩
theorem jcw_12_put_171 : jcwOK jm_12_put_171 := List.mem_filter.mpr ⟨jw_mem (p := 6187) rfl, rfl⟩
theorem jcw_12_sleeping_172 : jcwOK jm_12_sleeping_172 := List.mem_filter.mpr ⟨jw_mem (p := 6193) rfl, rfl⟩
theorem jcw_12_count_173 : jcwOK jm_12_count_173 := List.mem_filter.mpr ⟨jw_mem (p := 6197) rfl, rfl⟩
theorem jcw_13_type_174 : jcwOK jm_13_type_174 := List.mem_filter.mpr ⟨jw_mem (p := 2100) rfl, rfl⟩
theorem jcw_13_add_175 : jcwOK jm_13_add_175 := List.mem_filter.mpr ⟨jw_mem (p := 2201) rfl, rfl⟩
theorem jcw_13_drop_176 : jcwOK jm_13_drop_176 := List.mem_filter.mpr ⟨jw_mem (p := 3101) rfl, rfl⟩
theorem jcw_13_ask_177 : jcwOK jm_13_ask_177 := List.mem_filter.mpr ⟨jw_mem (p := 3113) rfl, rfl⟩
theorem jcw_13_next_178 : jcwOK jm_13_next_178 := List.mem_filter.mpr ⟨jw_mem (p := 4213) rfl, rfl⟩
theorem jcw_13_letter_179 : jcwOK jm_13_letter_179 := List.mem_filter.mpr ⟨jw_mem (p := 4222) rfl, rfl⟩
theorem jcw_13_sleeping_180 : jcwOK jm_13_sleeping_180 := List.mem_filter.mpr ⟨jw_mem (p := 5035) rfl, rfl⟩
theorem jcw_14_max_181 : jcwOK jm_14_max_181 := List.mem_filter.mpr ⟨jw_mem (p := 1062) rfl, rfl⟩
theorem jcw_14_min_182 : jcwOK jm_14_min_182 := List.mem_filter.mpr ⟨jw_mem (p := 3008) rfl, rfl⟩
theorem jcw_15_bitCount_183 : jcwOK jm_15_bitCount_183 := List.mem_filter.mpr ⟨jw_mem (p := 3086) rfl, rfl⟩
theorem jcw_16_copyOf_184 : jcwOK jm_16_copyOf_184 := List.mem_filter.mpr ⟨jw_mem (p := 2238) rfl, rfl⟩
theorem jcwc_0 : ∀ e ∈ (jd_m.getD 0 (0, [])).2, jcwOK e.2.1 := List.forall_mem_cons.mpr ⟨jcw_0_init_0, List.forall_mem_cons.mpr ⟨jcw_9_init_1, List.forall_mem_cons.mpr ⟨jcw_1_init_2, List.forall_mem_cons.mpr ⟨jcw_8_init_3, List.forall_mem_cons.mpr ⟨jcw_5_init_4, List.forall_mem_cons.mpr ⟨jcw_2_init_5, List.forall_mem_cons.mpr ⟨jcw_7_init_6, List.forall_mem_cons.mpr ⟨jcw_3_init_7, List.forall_mem_cons.mpr ⟨jcw_10_init_8, List.forall_mem_cons.mpr ⟨jcw_6_init_9, List.forall_mem_cons.mpr ⟨jcw_11_init_10, List.forall_mem_cons.mpr ⟨jcw_0_count_11, List.forall_mem_cons.mpr ⟨jcw_9_length_12, List.forall_mem_cons.mpr ⟨jcw_2_size_13, fun _ h => absurd h List.not_mem_nil⟩⟩⟩⟩⟩⟩⟩⟩⟩⟩⟩⟩⟩⟩
theorem jcwc_1 : ∀ e ∈ (jd_m.getD 1 (0, [])).2, jcwOK e.2.1 := List.forall_mem_cons.mpr ⟨jcw_6_choicesLeft_14, List.forall_mem_cons.mpr ⟨jcw_8_rows_15, List.forall_mem_cons.mpr ⟨jcw_7_apartsWaiting_16, List.forall_mem_cons.mpr ⟨jcw_7_isWaiting_17, List.forall_mem_cons.mpr ⟨jcw_8_at_18, List.forall_mem_cons.mpr ⟨jcw_7_variablesMade_19, List.forall_mem_cons.mpr ⟨jcw_0_type_20, List.forall_mem_cons.mpr ⟨jcw_0_byteOf_21, List.forall_mem_cons.mpr ⟨jcw_9_append_22, List.forall_mem_cons.mpr ⟨jcw_0_add_23, List.forall_mem_cons.mpr ⟨jcw_9_clear_24, List.forall_mem_cons.mpr ⟨jcw_2_freePage_25, List.forall_mem_cons.mpr ⟨jcw_2_page_26, List.forall_mem_cons.mpr ⟨jcw_5_readClause_27, fun _ h => absurd h List.not_mem_nil⟩⟩⟩⟩⟩⟩⟩⟩⟩⟩⟩⟩⟩⟩
theorem jcwc_2 : ∀ e ∈ (jd_m.getD 2 (0, [])).2, jcwOK e.2.1 := List.forall_mem_cons.mpr ⟨jcw_5_begin_28, List.forall_mem_cons.mpr ⟨jcw_1_clearPage_29, List.forall_mem_cons.mpr ⟨jcw_8_put_30, List.forall_mem_cons.mpr ⟨jcw_1_firstNode_31, List.forall_mem_cons.mpr ⟨jcw_9_at_32, List.forall_mem_cons.mpr ⟨jcw_1_isSmall_33, List.forall_mem_cons.mpr ⟨jcw_5_readTerm_34, List.forall_mem_cons.mpr ⟨jcw_1_isCapital_35, List.forall_mem_cons.mpr ⟨jcw_1_isDigit_36, List.forall_mem_cons.mpr ⟨jcw_5_node_37, List.forall_mem_cons.mpr ⟨jcw_1_noteTerm_38, List.forall_mem_cons.mpr ⟨jcw_5_readSign_39, List.forall_mem_cons.mpr ⟨jcw_1_noteArgument_40, List.forall_mem_cons.mpr ⟨jcw_5_atEnd_41, fun _ h => absurd h List.not_mem_nil⟩⟩⟩⟩⟩⟩⟩⟩⟩⟩⟩⟩⟩⟩
theorem jcwc_3 : ∀ e ∈ (jd_m.getD 3 (0, [])).2, jcwOK e.2.1 := List.forall_mem_cons.mpr ⟨jcw_5_readGoals_42, List.forall_mem_cons.mpr ⟨jcw_1_noteFirstGoal_43, List.forall_mem_cons.mpr ⟨jcw_5_readGoal_44, List.forall_mem_cons.mpr ⟨jcw_1_noteGoal_45, List.forall_mem_cons.mpr ⟨jcw_1_noteFollower_46, List.forall_mem_cons.mpr ⟨jcw_1_rankVariables_47, List.forall_mem_cons.mpr ⟨jcw_1_sign_48, List.forall_mem_cons.mpr ⟨jcw_5_place_49, List.forall_mem_cons.mpr ⟨jcw_2_keepFreePage_50, List.forall_mem_cons.mpr ⟨jcw_0_drop_51, List.forall_mem_cons.mpr ⟨jcw_2_remove_52, List.forall_mem_cons.mpr ⟨jcw_0_ask_53, List.forall_mem_cons.mpr ⟨jcw_5_readQuestion_54, List.forall_mem_cons.mpr ⟨jcw_6_begin_55, fun _ h => absurd h List.not_mem_nil⟩⟩⟩⟩⟩⟩⟩⟩⟩⟩⟩⟩⟩⟩
theorem jcwc_4 : ∀ e ∈ (jd_m.getD 4 (0, [])).2, jcwOK e.2.1 := List.forall_mem_cons.mpr ⟨jcw_7_clear_56, List.forall_mem_cons.mpr ⟨jcw_8_shrink_57, List.forall_mem_cons.mpr ⟨jcw_3_clear_58, List.forall_mem_cons.mpr ⟨jcw_7_makeVariables_59, List.forall_mem_cons.mpr ⟨jcw_1_variablesOf_60, List.forall_mem_cons.mpr ⟨jcw_8_append_61, List.forall_mem_cons.mpr ⟨jcw_1_firstGoal_62, List.forall_mem_cons.mpr ⟨jcw_6_seek_63, List.forall_mem_cons.mpr ⟨jcw_6_doGoal_64, List.forall_mem_cons.mpr ⟨jcw_3_takeStep_65, List.forall_mem_cons.mpr ⟨jcw_1_follower_66, List.forall_mem_cons.mpr ⟨jcw_1_kind_67, List.forall_mem_cons.mpr ⟨jcw_1_right_68, List.forall_mem_cons.mpr ⟨jcw_3_pushPair_69, fun _ h => absurd h List.not_mem_nil⟩⟩⟩⟩⟩⟩⟩⟩⟩⟩⟩⟩⟩⟩
theorem jcwc_5 : ∀ e ∈ (jd_m.getD 5 (0, [])).2, jcwOK e.2.1 := List.forall_mem_cons.mpr ⟨jcw_7_letWait_70, List.forall_mem_cons.mpr ⟨jcw_6_doLess_71, List.forall_mem_cons.mpr ⟨jcw_7_find_72, List.forall_mem_cons.mpr ⟨jcw_1_rank_73, List.forall_mem_cons.mpr ⟨jcw_6_doSleep_74, List.forall_mem_cons.mpr ⟨jcw_6_putInFront_75, List.forall_mem_cons.mpr ⟨jcw_7_putToSleep_76, List.forall_mem_cons.mpr ⟨jcw_7_join_77, List.forall_mem_cons.mpr ⟨jcw_7_lastSleeper_78, List.forall_mem_cons.mpr ⟨jcw_6_doCall_79, List.forall_mem_cons.mpr ⟨jcw_2_find_80, List.forall_mem_cons.mpr ⟨jcw_1_alike_81, List.forall_mem_cons.mpr ⟨jcw_1_arity_82, List.forall_mem_cons.mpr ⟨jcw_6_leaveChoice_83, fun _ h => absurd h List.not_mem_nil⟩⟩⟩⟩⟩⟩⟩⟩⟩⟩⟩⟩⟩⟩
theorem jcwc_6 : ∀ e ∈ (jd_m.getD 6 (0, [])).2, jcwOK e.2.1 := List.forall_mem_cons.mpr ⟨jcw_7_changes_84, List.forall_mem_cons.mpr ⟨jcw_7_variables_85, List.forall_mem_cons.mpr ⟨jcw_7_sleepers_86, List.forall_mem_cons.mpr ⟨jcw_7_aparts_87, List.forall_mem_cons.mpr ⟨jcw_6_take_88, List.forall_mem_cons.mpr ⟨jcw_3_pushArguments_89, List.forall_mem_cons.mpr ⟨jcw_1_argument_90, List.forall_mem_cons.mpr ⟨jcw_3_makeSame_91, List.forall_mem_cons.mpr ⟨jcw_3_goThroughPairs_92, List.forall_mem_cons.mpr ⟨jcw_7_bind_93, List.forall_mem_cons.mpr ⟨jcw_7_firstSleeper_94, List.forall_mem_cons.mpr ⟨jcw_3_wake_95, List.forall_mem_cons.mpr ⟨jcw_7_sleeperBehind_96, List.forall_mem_cons.mpr ⟨jcw_3_testAparts_97, fun _ h => absurd h List.not_mem_nil⟩⟩⟩⟩⟩⟩⟩⟩⟩⟩⟩⟩⟩⟩
theorem jcwc_7 : ∀ e ∈ (jd_m.getD 7 (0, [])).2, jcwOK e.2.1 := List.forall_mem_cons.mpr ⟨jcw_3_testApart_98, List.forall_mem_cons.mpr ⟨jcw_7_apartGoal_99, List.forall_mem_cons.mpr ⟨jcw_7_apartEnv_100, List.forall_mem_cons.mpr ⟨jcw_7_goBack_101, List.forall_mem_cons.mpr ⟨jcw_7_undo_102, List.forall_mem_cons.mpr ⟨jcw_7_settle_103, List.forall_mem_cons.mpr ⟨jcw_6_putWokenInFront_104, List.forall_mem_cons.mpr ⟨jcw_3_wokenGoals_105, List.forall_mem_cons.mpr ⟨jcw_3_wokenGoal_106, List.forall_mem_cons.mpr ⟨jcw_7_sleeperGoal_107, List.forall_mem_cons.mpr ⟨jcw_7_sleeperEnv_108, List.forall_mem_cons.mpr ⟨jcw_6_retry_109, List.forall_mem_cons.mpr ⟨jcw_7_forget_110, List.forall_mem_cons.mpr ⟨jcw_0_conclude_111, fun _ h => absurd h List.not_mem_nil⟩⟩⟩⟩⟩⟩⟩⟩⟩⟩⟩⟩⟩⟩
theorem jcwc_8 : ∀ e ∈ (jd_m.getD 8 (0, [])).2, jcwOK e.2.1 := List.forall_mem_cons.mpr ⟨jcw_3_stepsTaken_112, List.forall_mem_cons.mpr ⟨jcw_0_next_113, List.forall_mem_cons.mpr ⟨jcw_0_letter_114, List.forall_mem_cons.mpr ⟨jcw_0_isVariableName_115, List.forall_mem_cons.mpr ⟨jcw_0_questionNode_116, List.forall_mem_cons.mpr ⟨jcw_1_nodeWithSign_117, List.forall_mem_cons.mpr ⟨jcw_11_write_118, List.forall_mem_cons.mpr ⟨jcw_11_pushTerm_119, List.forall_mem_cons.mpr ⟨jcw_11_writeTop_120, List.forall_mem_cons.mpr ⟨jcw_11_pushArguments_121, List.forall_mem_cons.mpr ⟨jcw_11_pushSign_122, List.forall_mem_cons.mpr ⟨jcw_11_characterAt_123, List.forall_mem_cons.mpr ⟨jcw_0_sleeping_124, List.forall_mem_cons.mpr ⟨jcw_7_sleepersOn_125, fun _ h => absurd h List.not_mem_nil⟩⟩⟩⟩⟩⟩⟩⟩⟩⟩⟩⟩⟩⟩
theorem jcwc_9 : ∀ e ∈ (jd_m.getD 9 (0, [])).2, jcwOK e.2.1 := List.forall_mem_cons.mpr ⟨jcw_12_init_126, List.forall_mem_cons.mpr ⟨jcw_12_thrown_127, List.forall_mem_cons.mpr ⟨jcw_12_type_128, List.forall_mem_cons.mpr ⟨jcw_12_in_129, List.forall_mem_cons.mpr ⟨jcw_12_bad_130, List.forall_mem_cons.mpr ⟨jcw_12_fail_131, List.forall_mem_cons.mpr ⟨jcw_12_add_132, List.forall_mem_cons.mpr ⟨jcw_12_readClause_133, List.forall_mem_cons.mpr ⟨jcw_12_readTerm_134, List.forall_mem_cons.mpr ⟨jcw_12_look_135, List.forall_mem_cons.mpr ⟨jcw_12_passes_136, List.forall_mem_cons.mpr ⟨jcw_12_readGoals_137, List.forall_mem_cons.mpr ⟨jcw_12_drop_138, List.forall_mem_cons.mpr ⟨jcw_12_ask_139, fun _ h => absurd h List.not_mem_nil⟩⟩⟩⟩⟩⟩⟩⟩⟩⟩⟩⟩⟩⟩
theorem jcwc_10 : ∀ e ∈ (jd_m.getD 10 (0, [])).2, jcwOK e.2.1 := List.forall_mem_cons.mpr ⟨jcw_12_number_140, List.forall_mem_cons.mpr ⟨jcw_12_born_141, List.forall_mem_cons.mpr ⟨jcw_12_buildGoals_142, List.forall_mem_cons.mpr ⟨jcw_12_at_143, List.forall_mem_cons.mpr ⟨jcw_12_goal_144, List.forall_mem_cons.mpr ⟨jcw_12_build_145, List.forall_mem_cons.mpr ⟨jcw_12_cell_146, List.forall_mem_cons.mpr ⟨jcw_12_hang_147, List.forall_mem_cons.mpr ⟨jcw_12_seek_148, List.forall_mem_cons.mpr ⟨jcw_12_back_149, List.forall_mem_cons.mpr ⟨jcw_12_nextFit_150, List.forall_mem_cons.mpr ⟨jcw_12_fits_151, List.forall_mem_cons.mpr ⟨jcw_12_undo_152, List.forall_mem_cons.mpr ⟨jcw_12_take_153, fun _ h => absurd h List.not_mem_nil⟩⟩⟩⟩⟩⟩⟩⟩⟩⟩⟩⟩⟩⟩
theorem jcwc_11 : ∀ e ∈ (jd_m.getD 11 (0, [])).2, jcwOK e.2.1 := List.forall_mem_cons.mpr ⟨jcw_12_pair_154, List.forall_mem_cons.mpr ⟨jcw_12_unify_155, List.forall_mem_cons.mpr ⟨jcw_12_same_156, List.forall_mem_cons.mpr ⟨jcw_12_step_157, List.forall_mem_cons.mpr ⟨jcw_12_value_158, List.forall_mem_cons.mpr ⟨jcw_12_tie_159, List.forall_mem_cons.mpr ⟨jcw_12_change_160, List.forall_mem_cons.mpr ⟨jcw_12_follow_161, List.forall_mem_cons.mpr ⟨jcw_12_test_162, List.forall_mem_cons.mpr ⟨jcw_12_perform_163, List.forall_mem_cons.mpr ⟨jcw_12_call_164, List.forall_mem_cons.mpr ⟨jcw_12_apart_165, List.forall_mem_cons.mpr ⟨jcw_12_less_166, List.forall_mem_cons.mpr ⟨jcw_12_sleep_167, fun _ h => absurd h List.not_mem_nil⟩⟩⟩⟩⟩⟩⟩⟩⟩⟩⟩⟩⟩⟩
theorem jcwc_12 : ∀ e ∈ (jd_m.getD 12 (0, [])).2, jcwOK e.2.1 := List.forall_mem_cons.mpr ⟨jcw_12_next_168, List.forall_mem_cons.mpr ⟨jcw_12_letter_169, List.forall_mem_cons.mpr ⟨jcw_12_write_170, List.forall_mem_cons.mpr ⟨jcw_12_put_171, List.forall_mem_cons.mpr ⟨jcw_12_sleeping_172, List.forall_mem_cons.mpr ⟨jcw_12_count_173, List.forall_mem_cons.mpr ⟨jcw_13_type_174, List.forall_mem_cons.mpr ⟨jcw_13_add_175, List.forall_mem_cons.mpr ⟨jcw_13_drop_176, List.forall_mem_cons.mpr ⟨jcw_13_ask_177, List.forall_mem_cons.mpr ⟨jcw_13_next_178, List.forall_mem_cons.mpr ⟨jcw_13_letter_179, List.forall_mem_cons.mpr ⟨jcw_13_sleeping_180, List.forall_mem_cons.mpr ⟨jcw_14_max_181, fun _ h => absurd h List.not_mem_nil⟩⟩⟩⟩⟩⟩⟩⟩⟩⟩⟩⟩⟩⟩
theorem jcwc_13 : ∀ e ∈ (jd_m.getD 13 (0, [])).2, jcwOK e.2.1 := List.forall_mem_cons.mpr ⟨jcw_14_min_182, List.forall_mem_cons.mpr ⟨jcw_15_bitCount_183, List.forall_mem_cons.mpr ⟨jcw_16_copyOf_184, fun _ h => absurd h List.not_mem_nil⟩⟩⟩
theorem jcw_all : ∀ q ∈ jd_m, ∀ e ∈ q.2, jcwOK e.2.1 := List.forall_mem_cons.mpr ⟨jcwc_0, List.forall_mem_cons.mpr ⟨jcwc_1, List.forall_mem_cons.mpr ⟨jcwc_2, List.forall_mem_cons.mpr ⟨jcwc_3, List.forall_mem_cons.mpr ⟨jcwc_4, List.forall_mem_cons.mpr ⟨jcwc_5, List.forall_mem_cons.mpr ⟨jcwc_6, List.forall_mem_cons.mpr ⟨jcwc_7, List.forall_mem_cons.mpr ⟨jcwc_8, List.forall_mem_cons.mpr ⟨jcwc_9, List.forall_mem_cons.mpr ⟨jcwc_10, List.forall_mem_cons.mpr ⟨jcwc_11, List.forall_mem_cons.mpr ⟨jcwc_12, List.forall_mem_cons.mpr ⟨jcwc_13, fun _ h => absurd h List.not_mem_nil⟩⟩⟩⟩⟩⟩⟩⟩⟩⟩⟩⟩⟩⟩