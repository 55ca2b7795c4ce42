set_option maxRecDepth 20000 in
theorem jdd_1_variablesOf_60 : jdecOK jm_1_variablesOf_60 := fun _ _ _ h => jdec_of (b := prog_2_method_20_code) (d := je_1_variablesOf_60) (by decide +kernel) h
set_option maxRecDepth 20000 in
theorem jdd_8_append_61 : jdecOK jm_8_append_61 := fun _ _ _ h => jdec_of (b := prog_9_method_5_code) (d := je_8_append_61) (by decide +kernel) h
set_option maxRecDepth 20000 in
theorem jdd_1_firstGoal_62 : jdecOK jm_1_firstGoal_62 := fun _ _ _ h => jdec_of (b := prog_2_method_19_code) (d := je_1_firstGoal_62) (by decide +kernel) h
set_option maxRecDepth 20000 in
theorem jdd_6_seek_63 : jdecOK jm_6_seek_63 := fun _ _ _ h => jdec_of (b := prog_7_method_4_code) (d := je_6_seek_63) (by decide +kernel) h
set_option maxRecDepth 20000 in
theorem jdd_6_doGoal_64 : jdecOK jm_6_doGoal_64 := fun _ _ _ h => jdec_of (b := prog_7_method_5_code) (d := je_6_doGoal_64) (by decide +kernel) h
set_option maxRecDepth 20000 in
theorem jdd_3_takeStep_65 : jdecOK jm_3_takeStep_65 := fun _ _ _ h => jdec_of (b := prog_4_method_4_code) (d := je_3_takeStep_65) (by decide +kernel) h
set_option maxRecDepth 20000 in
theorem jdd_1_follower_66 : jdecOK jm_1_follower_66 := fun _ _ _ h => jdec_of (b := prog_2_method_18_code) (d := je_1_follower_66) (by decide +kernel) h
set_option maxRecDepth 20000 in
theorem jdd_1_kind_67 : jdecOK jm_1_kind_67 := fun _ _ _ h => jdec_of (b := prog_2_method_16_code) (d := je_1_kind_67) (by decide +kernel) h
set_option maxRecDepth 20000 in
theorem jdd_1_right_68 : jdecOK jm_1_right_68 := fun _ _ _ h => jdec_of (b := prog_2_method_17_code) (d := je_1_right_68) (by decide +kernel) h
set_option maxRecDepth 20000 in
theorem jdd_3_pushPair_69 : jdecOK jm_3_pushPair_69 := fun _ _ _ h => jdec_of (b := prog_4_method_7_code) (d := je_3_pushPair_69) (by decide +kernel) h
set_option maxRecDepth 20000 in
theorem jdd_7_letWait_70 : jdecOK jm_7_letWait_70 := fun _ _ _ h => jdec_of (b := prog_8_method_19_code) (d := je_7_letWait_70) (by decide +kernel) h
set_option maxRecDepth 20000 in
theorem jdd_6_doLess_71 : jdecOK jm_6_doLess_71 := fun _ _ _ h => jdec_of (b := prog_7_method_6_code) (d := je_6_doLess_71) (by decide +kernel) h
set_option maxRecDepth 20000 in
theorem jdd_7_find_72 : jdecOK jm_7_find_72 := fun _ _ _ h => jdec_of (b := prog_8_method_9_code) (d := je_7_find_72) (by decide +kernel) h
set_option maxRecDepth 20000 in
theorem jdd_1_rank_73 : jdecOK jm_1_rank_73 := fun _ _ _ h => jdec_of (b := prog_2_method_21_code) (d := je_1_rank_73) (by decide +kernel) h
set_option maxRecDepth 20000 in
theorem jdd_6_doSleep_74 : jdecOK jm_6_doSleep_74 := fun _ _ _ h => jdec_of (b := prog_7_method_7_code) (d := je_6_doSleep_74) (by decide +kernel) h
set_option maxRecDepth 20000 in
theorem jdd_6_putInFront_75 : jdecOK jm_6_putInFront_75 := fun _ _ _ h => jdec_of (b := prog_7_method_13_code) (d := je_6_putInFront_75) (by decide +kernel) h
set_option maxRecDepth 20000 in
theorem jdd_7_putToSleep_76 : jdecOK jm_7_putToSleep_76 := fun _ _ _ h => jdec_of (b := prog_8_method_11_code) (d := je_7_putToSleep_76) (by decide +kernel) h
set_option maxRecDepth 20000 in
theorem jdd_7_join_77 : jdecOK jm_7_join_77 := fun _ _ _ h => jdec_of (b := prog_8_method_12_code) (d := je_7_join_77) (by decide +kernel) h
set_option maxRecDepth 20000 in
theorem jdd_7_lastSleeper_78 : jdecOK jm_7_lastSleeper_78 := fun _ _ _ h => jdec_of (b := prog_8_method_14_code) (d := je_7_lastSleeper_78) (by decide +kernel) h
set_option maxRecDepth 20000 in
theorem jdd_6_doCall_79 : jdecOK jm_6_doCall_79 := fun _ _ _ h => jdec_of (b := prog_7_method_8_code) (d := je_6_doCall_79) (by decide +kernel) h
set_option maxRecDepth 20000 in
theorem jdd_2_find_80 : jdecOK jm_2_find_80 := fun _ _ _ h => jdec_of (b := prog_3_method_7_code) (d := je_2_find_80) (by decide +kernel) h
set_option maxRecDepth 20000 in
theorem jdd_1_alike_81 : jdecOK jm_1_alike_81 := fun _ _ _ h => jdec_of (b := prog_2_method_22_code) (d := je_1_alike_81) (by decide +kernel) h
set_option maxRecDepth 20000 in
theorem jdd_1_arity_82 : jdecOK jm_1_arity_82 := fun _ _ _ h => jdec_of (b := prog_2_method_14_code) (d := je_1_arity_82) (by decide +kernel) h
set_option maxRecDepth 20000 in
theorem jdd_6_leaveChoice_83 : jdecOK jm_6_leaveChoice_83 := fun _ _ _ h => jdec_of (b := prog_7_method_9_code) (d := je_6_leaveChoice_83) (by decide +kernel) h
set_option maxRecDepth 20000 in
theorem jdd_7_changes_84 : jdecOK jm_7_changes_84 := fun _ _ _ h => jdec_of (b := prog_8_method_7_code) (d := je_7_changes_84) (by decide +kernel) h
set_option maxRecDepth 20000 in
theorem jdd_7_variables_85 : jdecOK jm_7_variables_85 := fun _ _ _ h => jdec_of (b := prog_8_method_4_code) (d := je_7_variables_85) (by decide +kernel) h
set_option maxRecDepth 20000 in
theorem jdd_7_sleepers_86 : jdecOK jm_7_sleepers_86 := fun _ _ _ h => jdec_of (b := prog_8_method_5_code) (d := je_7_sleepers_86) (by decide +kernel) h
set_option maxRecDepth 20000 in
theorem jdd_7_aparts_87 : jdecOK jm_7_aparts_87 := fun _ _ _ h => jdec_of (b := prog_8_method_6_code) (d := je_7_aparts_87) (by decide +kernel) h
set_option maxRecDepth 20000 in
theorem jdd_6_take_88 : jdecOK jm_6_take_88 := fun _ _ _ h => jdec_of (b := prog_7_method_11_code) (d := je_6_take_88) (by decide +kernel) h
set_option maxRecDepth 20000 in
theorem jdd_3_pushArguments_89 : jdecOK jm_3_pushArguments_89 := fun _ _ _ h => jdec_of (b := prog_4_method_8_code) (d := je_3_pushArguments_89) (by decide +kernel) h
set_option maxRecDepth 20000 in
theorem jdd_1_argument_90 : jdecOK jm_1_argument_90 := fun _ _ _ h => jdec_of (b := prog_2_method_15_code) (d := je_1_argument_90) (by decide +kernel) h
set_option maxRecDepth 20000 in
theorem jdd_3_makeSame_91 : jdecOK jm_3_makeSame_91 := fun _ _ _ h => jdec_of (b := prog_4_method_9_code) (d := je_3_makeSame_91) (by decide +kernel) h
set_option maxRecDepth 20000 in
theorem jdd_3_goThroughPairs_92 : jdecOK jm_3_goThroughPairs_92 := fun _ _ _ h => jdec_of (b := prog_4_method_12_code) (d := je_3_goThroughPairs_92) (by decide +kernel) h
set_option maxRecDepth 20000 in
theorem jdd_7_bind_93 : jdecOK jm_7_bind_93 := fun _ _ _ h => jdec_of (b := prog_8_method_10_code) (d := je_7_bind_93) (by decide +kernel) h
set_option maxRecDepth 20000 in
theorem jdd_7_firstSleeper_94 : jdecOK jm_7_firstSleeper_94 := fun _ _ _ h => jdec_of (b := prog_8_method_13_code) (d := je_7_firstSleeper_94) (by decide +kernel) h
set_option maxRecDepth 20000 in
theorem jdd_3_wake_95 : jdecOK jm_3_wake_95 := fun _ _ _ h => jdec_of (b := prog_4_method_13_code) (d := je_3_wake_95) (by decide +kernel) h
set_option maxRecDepth 20000 in
theorem jdd_7_sleeperBehind_96 : jdecOK jm_7_sleeperBehind_96 := fun _ _ _ h => jdec_of (b := prog_8_method_15_code) (d := je_7_sleeperBehind_96) (by decide +kernel) h
set_option maxRecDepth 20000 in
theorem jdd_3_testAparts_97 : jdecOK jm_3_testAparts_97 := fun _ _ _ h => jdec_of (b := prog_4_method_10_code) (d := je_3_testAparts_97) (by decide +kernel) h
set_option maxRecDepth 20000 in
theorem jdd_3_testApart_98 : jdecOK jm_3_testApart_98 := fun _ _ _ h => jdec_of (b := prog_4_method_11_code) (d := je_3_testApart_98) (by decide +kernel) h
set_option maxRecDepth 20000 in
theorem jdd_7_apartGoal_99 : jdecOK jm_7_apartGoal_99 := fun _ _ _ h => jdec_of (b := prog_8_method_21_code) (d := je_7_apartGoal_99) (by decide +kernel) h
set_option maxRecDepth 20000 in
theorem jdd_7_apartEnv_100 : jdecOK jm_7_apartEnv_100 := fun _ _ _ h => jdec_of (b := prog_8_method_22_code) (d := je_7_apartEnv_100) (by decide +kernel) h
set_option maxRecDepth 20000 in
theorem jdd_7_goBack_101 : jdecOK jm_7_goBack_101 := fun _ _ _ h => jdec_of (b := prog_8_method_25_code) (d := je_7_goBack_101) (by decide +kernel) h
set_option maxRecDepth 20000 in
theorem jdd_7_undo_102 : jdecOK jm_7_undo_102 := fun _ _ _ h => jdec_of (b := prog_8_method_27_code) (d := je_7_undo_102) (by decide +kernel) h
set_option maxRecDepth 20000 in
theorem jdd_7_settle_103 : jdecOK jm_7_settle_103 := fun _ _ _ h => jdec_of (b := prog_8_method_23_code) (d := je_7_settle_103) (by decide +kernel) h
set_option maxRecDepth 20000 in
theorem jdd_6_putWokenInFront_104 : jdecOK jm_6_putWokenInFront_104 := fun _ _ _ h => jdec_of (b := prog_7_method_12_code) (d := je_6_putWokenInFront_104) (by decide +kernel) h
set_option maxRecDepth 20000 in
theorem jdd_3_wokenGoals_105 : jdecOK jm_3_wokenGoals_105 := fun _ _ _ h => jdec_of (b := prog_4_method_5_code) (d := je_3_wokenGoals_105) (by decide +kernel) h
set_option maxRecDepth 20000 in
theorem jdd_3_wokenGoal_106 : jdecOK jm_3_wokenGoal_106 := fun _ _ _ h => jdec_of (b := prog_4_method_6_code) (d := je_3_wokenGoal_106) (by decide +kernel) h
set_option maxRecDepth 20000 in
theorem jdd_7_sleeperGoal_107 : jdecOK jm_7_sleeperGoal_107 := fun _ _ _ h => jdec_of (b := prog_8_method_16_code) (d := je_7_sleeperGoal_107) (by decide +kernel) h
set_option maxRecDepth 20000 in
theorem jdd_7_sleeperEnv_108 : jdecOK jm_7_sleeperEnv_108 := fun _ _ _ h => jdec_of (b := prog_8_method_17_code) (d := je_7_sleeperEnv_108) (by decide +kernel) h
set_option maxRecDepth 20000 in
theorem jdd_6_retry_109 : jdecOK jm_6_retry_109 := fun _ _ _ h => jdec_of (b := prog_7_method_10_code) (d := je_6_retry_109) (by decide +kernel) h
set_option maxRecDepth 20000 in
theorem jdd_7_forget_110 : jdecOK jm_7_forget_110 := fun _ _ _ h => jdec_of (b := prog_8_method_26_code) (d := je_7_forget_110) (by decide +kernel) h
set_option maxRecDepth 20000 in
theorem jdd_0_conclude_111 : jdecOK jm_0_conclude_111 := fun _ _ _ h => jdec_of (b := prog_1_method_13_code) (d := je_0_conclude_111) (by decide +kernel) h
set_option maxRecDepth 20000 in
theorem jdd_3_stepsTaken_112 : jdecOK jm_3_stepsTaken_112 := fun _ _ _ h => jdec_of (b := prog_4_method_3_code) (d := je_3_stepsTaken_112) (by decide +kernel) h
set_option maxRecDepth 20000 in
theorem jdd_0_next_113 : jdecOK jm_0_next_113 := fun _ _ _ h => jdec_of (b := prog_1_method_6_code) (d := je_0_next_113) (by decide +kernel) h
set_option maxRecDepth 20000 in
theorem jdd_0_letter_114 : jdecOK jm_0_letter_114 := fun _ _ _ h => jdec_of (b := prog_1_method_7_code) (d := je_0_letter_114) (by decide +kernel) h
set_option maxRecDepth 20000 in
theorem jdd_0_isVariableName_115 : jdecOK jm_0_isVariableName_115 := fun _ _ _ h => jdec_of (b := prog_1_method_11_code) (d := je_0_isVariableName_115) (by decide +kernel) h
set_option maxRecDepth 20000 in
theorem jdd_0_questionNode_116 : jdecOK jm_0_questionNode_116 := fun _ _ _ h => jdec_of (b := prog_1_method_12_code) (d := je_0_questionNode_116) (by decide +kernel) h
set_option maxRecDepth 20000 in
theorem jdd_1_nodeWithSign_117 : jdecOK jm_1_nodeWithSign_117 := fun _ _ _ h => jdec_of (b := prog_2_method_23_code) (d := je_1_nodeWithSign_117) (by decide +kernel) h
set_option maxRecDepth 20000 in
theorem jdd_11_write_118 : jdecOK jm_11_write_118 := fun _ _ _ h => jdec_of (b := prog_12_method_3_code) (d := je_11_write_118) (by decide +kernel) h
set_option maxRecDepth 20000 in
theorem jdd_11_pushTerm_119 : jdecOK jm_11_pushTerm_119 := fun _ _ _ h => jdec_of (b := prog_12_method_6_code) (d := je_11_pushTerm_119) (by decide +kernel) h
