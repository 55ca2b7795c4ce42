def jdecOK (M : jM) : Prop := ∀ pc i len, M.2.2.2.2.2.2.1 pc = some (i, len) → decode M.2.1 pc = .ok (i, len)
theorem jdec_of {b : ByteArray} {d : List (Nat × List (Nat × (Instr × Nat)))} (h : ∀ q ∈ d.flatMap (fun q => q.2), decode b q.1 = .ok q.2) {pc : Nat} {i : Instr} {len : Nat} (hq : jlk2 d pc = some (i, len)) : decode b pc = .ok (i, len) := h (pc, (i, len)) (jlk2_mem hq)
set_option maxRecDepth 20000 in
theorem jdd_0_init_0 : jdecOK jm_0_init_0 := fun _ _ _ h => jdec_of (b := prog_1_method_1_code) (d := je_0_init_0) (by decide +kernel) h
set_option maxRecDepth 20000 in
theorem jdd_9_init_1 : jdecOK jm_9_init_1 := fun _ _ _ h => jdec_of (b := prog_10_method_1_code) (d := je_9_init_1) (by decide +kernel) h
set_option maxRecDepth 20000 in
theorem jdd_1_init_2 : jdecOK jm_1_init_2 := fun _ _ _ h => jdec_of (b := prog_2_method_1_code) (d := je_1_init_2) (by decide +kernel) h
set_option maxRecDepth 20000 in
theorem jdd_8_init_3 : jdecOK jm_8_init_3 := fun _ _ _ h => jdec_of (b := prog_9_method_1_code) (d := je_8_init_3) (by decide +kernel) h
set_option maxRecDepth 20000 in
theorem jdd_5_init_4 : jdecOK jm_5_init_4 := fun _ _ _ h => jdec_of (b := prog_6_method_1_code) (d := je_5_init_4) (by decide +kernel) h
set_option maxRecDepth 20000 in
theorem jdd_2_init_5 : jdecOK jm_2_init_5 := fun _ _ _ h => jdec_of (b := prog_3_method_1_code) (d := je_2_init_5) (by decide +kernel) h
set_option maxRecDepth 20000 in
theorem jdd_7_init_6 : jdecOK jm_7_init_6 := fun _ _ _ h => jdec_of (b := prog_8_method_1_code) (d := je_7_init_6) (by decide +kernel) h
set_option maxRecDepth 20000 in
theorem jdd_3_init_7 : jdecOK jm_3_init_7 := fun _ _ _ h => jdec_of (b := prog_4_method_1_code) (d := je_3_init_7) (by decide +kernel) h
set_option maxRecDepth 20000 in
theorem jdd_10_init_8 : jdecOK jm_10_init_8 := fun _ _ _ h => jdec_of (b := prog_11_method_1_code) (d := je_10_init_8) (by decide +kernel) h
set_option maxRecDepth 20000 in
theorem jdd_6_init_9 : jdecOK jm_6_init_9 := fun _ _ _ h => jdec_of (b := prog_7_method_1_code) (d := je_6_init_9) (by decide +kernel) h
set_option maxRecDepth 20000 in
theorem jdd_11_init_10 : jdecOK jm_11_init_10 := fun _ _ _ h => jdec_of (b := prog_12_method_1_code) (d := je_11_init_10) (by decide +kernel) h
set_option maxRecDepth 20000 in
theorem jdd_0_count_11 : jdecOK jm_0_count_11 := fun _ _ _ h => jdec_of (b := prog_1_method_9_code) (d := je_0_count_11) (by decide +kernel) h
set_option maxRecDepth 20000 in
theorem jdd_9_length_12 : jdecOK jm_9_length_12 := fun _ _ _ h => jdec_of (b := prog_10_method_2_code) (d := je_9_length_12) (by decide +kernel) h
set_option maxRecDepth 20000 in
theorem jdd_2_size_13 : jdecOK jm_2_size_13 := fun _ _ _ h => jdec_of (b := prog_3_method_2_code) (d := je_2_size_13) (by decide +kernel) h
set_option maxRecDepth 20000 in
theorem jdd_6_choicesLeft_14 : jdecOK jm_6_choicesLeft_14 := fun _ _ _ h => jdec_of (b := prog_7_method_2_code) (d := je_6_choicesLeft_14) (by decide +kernel) h
set_option maxRecDepth 20000 in
theorem jdd_8_rows_15 : jdecOK jm_8_rows_15 := fun _ _ _ h => jdec_of (b := prog_9_method_2_code) (d := je_8_rows_15) (by decide +kernel) h
set_option maxRecDepth 20000 in
theorem jdd_7_apartsWaiting_16 : jdecOK jm_7_apartsWaiting_16 := fun _ _ _ h => jdec_of (b := prog_8_method_24_code) (d := je_7_apartsWaiting_16) (by decide +kernel) h
set_option maxRecDepth 20000 in
theorem jdd_7_isWaiting_17 : jdecOK jm_7_isWaiting_17 := fun _ _ _ h => jdec_of (b := prog_8_method_20_code) (d := je_7_isWaiting_17) (by decide +kernel) h
set_option maxRecDepth 20000 in
theorem jdd_8_at_18 : jdecOK jm_8_at_18 := fun _ _ _ h => jdec_of (b := prog_9_method_3_code) (d := je_8_at_18) (by decide +kernel) h
set_option maxRecDepth 20000 in
theorem jdd_7_variablesMade_19 : jdecOK jm_7_variablesMade_19 := fun _ _ _ h => jdec_of (b := prog_8_method_3_code) (d := je_7_variablesMade_19) (by decide +kernel) h
set_option maxRecDepth 20000 in
theorem jdd_0_type_20 : jdecOK jm_0_type_20 := fun _ _ _ h => jdec_of (b := prog_1_method_2_code) (d := je_0_type_20) (by decide +kernel) h
set_option maxRecDepth 20000 in
theorem jdd_0_byteOf_21 : jdecOK jm_0_byteOf_21 := fun _ _ _ h => jdec_of (b := prog_1_method_10_code) (d := je_0_byteOf_21) (by decide +kernel) h
set_option maxRecDepth 20000 in
theorem jdd_9_append_22 : jdecOK jm_9_append_22 := fun _ _ _ h => jdec_of (b := prog_10_method_4_code) (d := je_9_append_22) (by decide +kernel) h
set_option maxRecDepth 20000 in
theorem jdd_0_add_23 : jdecOK jm_0_add_23 := fun _ _ _ h => jdec_of (b := prog_1_method_3_code) (d := je_0_add_23) (by decide +kernel) h
set_option maxRecDepth 20000 in
theorem jdd_9_clear_24 : jdecOK jm_9_clear_24 := fun _ _ _ h => jdec_of (b := prog_10_method_5_code) (d := je_9_clear_24) (by decide +kernel) h
set_option maxRecDepth 20000 in
theorem jdd_2_freePage_25 : jdecOK jm_2_freePage_25 := fun _ _ _ h => jdec_of (b := prog_3_method_4_code) (d := je_2_freePage_25) (by decide +kernel) h
set_option maxRecDepth 20000 in
theorem jdd_2_page_26 : jdecOK jm_2_page_26 := fun _ _ _ h => jdec_of (b := prog_3_method_3_code) (d := je_2_page_26) (by decide +kernel) h
set_option maxRecDepth 20000 in
theorem jdd_5_readClause_27 : jdecOK jm_5_readClause_27 := fun _ _ _ h => jdec_of (b := prog_6_method_3_code) (d := je_5_readClause_27) (by decide +kernel) h
set_option maxRecDepth 20000 in
theorem jdd_5_begin_28 : jdecOK jm_5_begin_28 := fun _ _ _ h => jdec_of (b := prog_6_method_5_code) (d := je_5_begin_28) (by decide +kernel) h
set_option maxRecDepth 20000 in
theorem jdd_1_clearPage_29 : jdecOK jm_1_clearPage_29 := fun _ _ _ h => jdec_of (b := prog_2_method_6_code) (d := je_1_clearPage_29) (by decide +kernel) h
set_option maxRecDepth 20000 in
theorem jdd_8_put_30 : jdecOK jm_8_put_30 := fun _ _ _ h => jdec_of (b := prog_9_method_4_code) (d := je_8_put_30) (by decide +kernel) h
set_option maxRecDepth 20000 in
theorem jdd_1_firstNode_31 : jdecOK jm_1_firstNode_31 := fun _ _ _ h => jdec_of (b := prog_2_method_2_code) (d := je_1_firstNode_31) (by decide +kernel) h
set_option maxRecDepth 20000 in
theorem jdd_9_at_32 : jdecOK jm_9_at_32 := fun _ _ _ h => jdec_of (b := prog_10_method_3_code) (d := je_9_at_32) (by decide +kernel) h
set_option maxRecDepth 20000 in
theorem jdd_1_isSmall_33 : jdecOK jm_1_isSmall_33 := fun _ _ _ h => jdec_of (b := prog_2_method_5_code) (d := je_1_isSmall_33) (by decide +kernel) h
set_option maxRecDepth 20000 in
theorem jdd_5_readTerm_34 : jdecOK jm_5_readTerm_34 := fun _ _ _ h => jdec_of (b := prog_6_method_11_code) (d := je_5_readTerm_34) (by decide +kernel) h
set_option maxRecDepth 20000 in
theorem jdd_1_isCapital_35 : jdecOK jm_1_isCapital_35 := fun _ _ _ h => jdec_of (b := prog_2_method_3_code) (d := je_1_isCapital_35) (by decide +kernel) h
set_option maxRecDepth 20000 in
theorem jdd_1_isDigit_36 : jdecOK jm_1_isDigit_36 := fun _ _ _ h => jdec_of (b := prog_2_method_4_code) (d := je_1_isDigit_36) (by decide +kernel) h
set_option maxRecDepth 20000 in
theorem jdd_5_node_37 : jdecOK jm_5_node_37 := fun _ _ _ h => jdec_of (b := prog_6_method_6_code) (d := je_5_node_37) (by decide +kernel) h
set_option maxRecDepth 20000 in
theorem jdd_1_noteTerm_38 : jdecOK jm_1_noteTerm_38 := fun _ _ _ h => jdec_of (b := prog_2_method_7_code) (d := je_1_noteTerm_38) (by decide +kernel) h
set_option maxRecDepth 20000 in
theorem jdd_5_readSign_39 : jdecOK jm_5_readSign_39 := fun _ _ _ h => jdec_of (b := prog_6_method_8_code) (d := je_5_readSign_39) (by decide +kernel) h
set_option maxRecDepth 20000 in
theorem jdd_1_noteArgument_40 : jdecOK jm_1_noteArgument_40 := fun _ _ _ h => jdec_of (b := prog_2_method_8_code) (d := je_1_noteArgument_40) (by decide +kernel) h
set_option maxRecDepth 20000 in
theorem jdd_5_atEnd_41 : jdecOK jm_5_atEnd_41 := fun _ _ _ h => jdec_of (b := prog_6_method_7_code) (d := je_5_atEnd_41) (by decide +kernel) h
set_option maxRecDepth 20000 in
theorem jdd_5_readGoals_42 : jdecOK jm_5_readGoals_42 := fun _ _ _ h => jdec_of (b := prog_6_method_9_code) (d := je_5_readGoals_42) (by decide +kernel) h
set_option maxRecDepth 20000 in
theorem jdd_1_noteFirstGoal_43 : jdecOK jm_1_noteFirstGoal_43 := fun _ _ _ h => jdec_of (b := prog_2_method_11_code) (d := je_1_noteFirstGoal_43) (by decide +kernel) h
set_option maxRecDepth 20000 in
theorem jdd_5_readGoal_44 : jdecOK jm_5_readGoal_44 := fun _ _ _ h => jdec_of (b := prog_6_method_10_code) (d := je_5_readGoal_44) (by decide +kernel) h
set_option maxRecDepth 20000 in
theorem jdd_1_noteGoal_45 : jdecOK jm_1_noteGoal_45 := fun _ _ _ h => jdec_of (b := prog_2_method_9_code) (d := je_1_noteGoal_45) (by decide +kernel) h
set_option maxRecDepth 20000 in
theorem jdd_1_noteFollower_46 : jdecOK jm_1_noteFollower_46 := fun _ _ _ h => jdec_of (b := prog_2_method_10_code) (d := je_1_noteFollower_46) (by decide +kernel) h
set_option maxRecDepth 20000 in
theorem jdd_1_rankVariables_47 : jdecOK jm_1_rankVariables_47 := fun _ _ _ h => jdec_of (b := prog_2_method_12_code) (d := je_1_rankVariables_47) (by decide +kernel) h
set_option maxRecDepth 20000 in
theorem jdd_1_sign_48 : jdecOK jm_1_sign_48 := fun _ _ _ h => jdec_of (b := prog_2_method_13_code) (d := je_1_sign_48) (by decide +kernel) h
set_option maxRecDepth 20000 in
theorem jdd_5_place_49 : jdecOK jm_5_place_49 := fun _ _ _ h => jdec_of (b := prog_6_method_2_code) (d := je_5_place_49) (by decide +kernel) h
set_option maxRecDepth 20000 in
theorem jdd_2_keepFreePage_50 : jdecOK jm_2_keepFreePage_50 := fun _ _ _ h => jdec_of (b := prog_3_method_5_code) (d := je_2_keepFreePage_50) (by decide +kernel) h
set_option maxRecDepth 20000 in
theorem jdd_0_drop_51 : jdecOK jm_0_drop_51 := fun _ _ _ h => jdec_of (b := prog_1_method_4_code) (d := je_0_drop_51) (by decide +kernel) h
set_option maxRecDepth 20000 in
theorem jdd_2_remove_52 : jdecOK jm_2_remove_52 := fun _ _ _ h => jdec_of (b := prog_3_method_6_code) (d := je_2_remove_52) (by decide +kernel) h
set_option maxRecDepth 20000 in
theorem jdd_0_ask_53 : jdecOK jm_0_ask_53 := fun _ _ _ h => jdec_of (b := prog_1_method_5_code) (d := je_0_ask_53) (by decide +kernel) h
set_option maxRecDepth 20000 in
theorem jdd_5_readQuestion_54 : jdecOK jm_5_readQuestion_54 := fun _ _ _ h => jdec_of (b := prog_6_method_4_code) (d := je_5_readQuestion_54) (by decide +kernel) h
set_option maxRecDepth 20000 in
theorem jdd_6_begin_55 : jdecOK jm_6_begin_55 := fun _ _ _ h => jdec_of (b := prog_7_method_3_code) (d := je_6_begin_55) (by decide +kernel) h
set_option maxRecDepth 20000 in
theorem jdd_7_clear_56 : jdecOK jm_7_clear_56 := fun _ _ _ h => jdec_of (b := prog_8_method_2_code) (d := je_7_clear_56) (by decide +kernel) h
set_option maxRecDepth 20000 in
theorem jdd_8_shrink_57 : jdecOK jm_8_shrink_57 := fun _ _ _ h => jdec_of (b := prog_9_method_6_code) (d := je_8_shrink_57) (by decide +kernel) h
set_option maxRecDepth 20000 in
theorem jdd_3_clear_58 : jdecOK jm_3_clear_58 := fun _ _ _ h => jdec_of (b := prog_4_method_2_code) (d := je_3_clear_58) (by decide +kernel) h
set_option maxRecDepth 20000 in
theorem jdd_7_makeVariables_59 : jdecOK jm_7_makeVariables_59 := fun _ _ _ h => jdec_of (b := prog_8_method_8_code) (d := je_7_makeVariables_59) (by decide +kernel) h
