section
-- ===== PART A: goes FIRST, ahead of the names: the tables' words, and 'selects' of the private methods out of them =====
/-- a private method of a class that the tables say can be made, by its rows of tables_1 -/
def lw_okq (q : MethodName × Nat) : Prop := (q.1.cls ≠ "java/lang/invoke/MethodHandle" ∧ q.1.cls ≠ "java/lang/invoke/VarHandle") ∧ Cond.instantiable q.1.cls q.2 ∈ tables_1 ∧ Cond.privateMethod q.1 ∈ tables_1 ∧ Cond.instanceMethod q.1 ∈ tables_1
theorem lw_p0 : lw_okq (⟨"java/lang/Throwable", "fillInStackTrace", "(I)Ljava/lang/Throwable;"⟩, 6) := ⟨⟨by decide +kernel, by decide +kernel⟩, List.mem_of_getElem? (i := 390) (by decide +kernel), List.mem_of_getElem? (i := 388) (by decide +kernel), List.mem_of_getElem? (i := 389) (by decide +kernel)⟩
theorem lw_p1 : lw_okq (⟨"GoalDesk$Reader", "begin", "(I)V"⟩, 4) := ⟨⟨by decide +kernel, by decide +kernel⟩, List.mem_of_getElem? (i := 82) (by decide +kernel), List.mem_of_getElem? (i := 464) (by decide +kernel), List.mem_of_getElem? (i := 465) (by decide +kernel)⟩
theorem lw_p2 : lw_okq (⟨"GoalDesk$Reader", "readTerm", "(I)Z"⟩, 4) := ⟨⟨by decide +kernel, by decide +kernel⟩, List.mem_of_getElem? (i := 82) (by decide +kernel), List.mem_of_getElem? (i := 503) (by decide +kernel), List.mem_of_getElem? (i := 504) (by decide +kernel)⟩
theorem lw_p3 : lw_okq (⟨"GoalDesk$Reader", "node", "()I"⟩, 4) := ⟨⟨by decide +kernel, by decide +kernel⟩, List.mem_of_getElem? (i := 82) (by decide +kernel), List.mem_of_getElem? (i := 513) (by decide +kernel), List.mem_of_getElem? (i := 514) (by decide +kernel)⟩
theorem lw_p4 : lw_okq (⟨"GoalDesk$Reader", "readSign", "(I)Z"⟩, 4) := ⟨⟨by decide +kernel, by decide +kernel⟩, List.mem_of_getElem? (i := 82) (by decide +kernel), List.mem_of_getElem? (i := 524) (by decide +kernel), List.mem_of_getElem? (i := 525) (by decide +kernel)⟩
theorem lw_p5 : lw_okq (⟨"GoalDesk$Reader", "atEnd", "()Z"⟩, 4) := ⟨⟨by decide +kernel, by decide +kernel⟩, List.mem_of_getElem? (i := 82) (by decide +kernel), List.mem_of_getElem? (i := 532) (by decide +kernel), List.mem_of_getElem? (i := 533) (by decide +kernel)⟩
theorem lw_p6 : lw_okq (⟨"GoalDesk$Reader", "readGoals", "()Z"⟩, 4) := ⟨⟨by decide +kernel, by decide +kernel⟩, List.mem_of_getElem? (i := 82) (by decide +kernel), List.mem_of_getElem? (i := 537) (by decide +kernel), List.mem_of_getElem? (i := 538) (by decide +kernel)⟩
theorem lw_p7 : lw_okq (⟨"GoalDesk$Reader", "readGoal", "()Z"⟩, 4) := ⟨⟨by decide +kernel, by decide +kernel⟩, List.mem_of_getElem? (i := 82) (by decide +kernel), List.mem_of_getElem? (i := 545) (by decide +kernel), List.mem_of_getElem? (i := 546) (by decide +kernel)⟩
theorem lw_p8 : lw_okq (⟨"GoalDesk$Search", "doGoal", "()LGoalDesk$Outcome;"⟩, 9) := ⟨⟨by decide +kernel, by decide +kernel⟩, List.mem_of_getElem? (i := 199) (by decide +kernel), List.mem_of_getElem? (i := 651) (by decide +kernel), List.mem_of_getElem? (i := 652) (by decide +kernel)⟩
theorem lw_p9 : lw_okq (⟨"GoalDesk$Search", "doLess", "(II)LGoalDesk$Outcome;"⟩, 9) := ⟨⟨by decide +kernel, by decide +kernel⟩, List.mem_of_getElem? (i := 199) (by decide +kernel), List.mem_of_getElem? (i := 687) (by decide +kernel), List.mem_of_getElem? (i := 688) (by decide +kernel)⟩
theorem lw_p10 : lw_okq (⟨"GoalDesk$Search", "doSleep", "(II)LGoalDesk$Outcome;"⟩, 9) := ⟨⟨by decide +kernel, by decide +kernel⟩, List.mem_of_getElem? (i := 199) (by decide +kernel), List.mem_of_getElem? (i := 705) (by decide +kernel), List.mem_of_getElem? (i := 706) (by decide +kernel)⟩
theorem lw_p11 : lw_okq (⟨"GoalDesk$Search", "putInFront", "(II)V"⟩, 9) := ⟨⟨by decide +kernel, by decide +kernel⟩, List.mem_of_getElem? (i := 199) (by decide +kernel), List.mem_of_getElem? (i := 709) (by decide +kernel), List.mem_of_getElem? (i := 710) (by decide +kernel)⟩
theorem lw_p12 : lw_okq (⟨"GoalDesk$Search", "doCall", "(II)LGoalDesk$Outcome;"⟩, 9) := ⟨⟨by decide +kernel, by decide +kernel⟩, List.mem_of_getElem? (i := 199) (by decide +kernel), List.mem_of_getElem? (i := 726) (by decide +kernel), List.mem_of_getElem? (i := 727) (by decide +kernel)⟩
theorem lw_p13 : lw_okq (⟨"GoalDesk$Search", "leaveChoice", "(III)V"⟩, 9) := ⟨⟨by decide +kernel, by decide +kernel⟩, List.mem_of_getElem? (i := 199) (by decide +kernel), List.mem_of_getElem? (i := 745) (by decide +kernel), List.mem_of_getElem? (i := 746) (by decide +kernel)⟩
theorem lw_p14 : lw_okq (⟨"GoalDesk$Search", "take", "(IIII)V"⟩, 9) := ⟨⟨by decide +kernel, by decide +kernel⟩, List.mem_of_getElem? (i := 199) (by decide +kernel), List.mem_of_getElem? (i := 766) (by decide +kernel), List.mem_of_getElem? (i := 767) (by decide +kernel)⟩
theorem lw_p15 : lw_okq (⟨"GoalDesk$Matcher", "goThroughPairs", "(Z)LGoalDesk$Outcome;"⟩, 7) := ⟨⟨by decide +kernel, by decide +kernel⟩, List.mem_of_getElem? (i := 144) (by decide +kernel), List.mem_of_getElem? (i := 786) (by decide +kernel), List.mem_of_getElem? (i := 787) (by decide +kernel)⟩
def lw_privs_1 : List (MethodName × Nat) := [(⟨"java/lang/Throwable", "fillInStackTrace", "(I)Ljava/lang/Throwable;"⟩, 6), (⟨"GoalDesk$Reader", "begin", "(I)V"⟩, 4), (⟨"GoalDesk$Reader", "readTerm", "(I)Z"⟩, 4), (⟨"GoalDesk$Reader", "node", "()I"⟩, 4), (⟨"GoalDesk$Reader", "readSign", "(I)Z"⟩, 4), (⟨"GoalDesk$Reader", "atEnd", "()Z"⟩, 4), (⟨"GoalDesk$Reader", "readGoals", "()Z"⟩, 4), (⟨"GoalDesk$Reader", "readGoal", "()Z"⟩, 4), (⟨"GoalDesk$Search", "doGoal", "()LGoalDesk$Outcome;"⟩, 9), (⟨"GoalDesk$Search", "doLess", "(II)LGoalDesk$Outcome;"⟩, 9), (⟨"GoalDesk$Search", "doSleep", "(II)LGoalDesk$Outcome;"⟩, 9), (⟨"GoalDesk$Search", "putInFront", "(II)V"⟩, 9), (⟨"GoalDesk$Search", "doCall", "(II)LGoalDesk$Outcome;"⟩, 9), (⟨"GoalDesk$Search", "leaveChoice", "(III)V"⟩, 9), (⟨"GoalDesk$Search", "take", "(IIII)V"⟩, 9), (⟨"GoalDesk$Matcher", "goThroughPairs", "(Z)LGoalDesk$Outcome;"⟩, 7)]
theorem lw_r1 : ∀ q ∈ lw_privs_1, lw_okq q := List.forall_mem_cons.mpr ⟨lw_p0, List.forall_mem_cons.mpr ⟨lw_p1, List.forall_mem_cons.mpr ⟨lw_p2, List.forall_mem_cons.mpr ⟨lw_p3, List.forall_mem_cons.mpr ⟨lw_p4, List.forall_mem_cons.mpr ⟨lw_p5, List.forall_mem_cons.mpr ⟨lw_p6, List.forall_mem_cons.mpr ⟨lw_p7, List.forall_mem_cons.mpr ⟨lw_p8, List.forall_mem_cons.mpr ⟨lw_p9, List.forall_mem_cons.mpr ⟨lw_p10, List.forall_mem_cons.mpr ⟨lw_p11, List.forall_mem_cons.mpr ⟨lw_p12, List.forall_mem_cons.mpr ⟨lw_p13, List.forall_mem_cons.mpr ⟨lw_p14, List.forall_mem_cons.mpr ⟨lw_p15, fun _ h => absurd h List.not_mem_nil⟩⟩⟩⟩⟩⟩⟩⟩⟩⟩⟩⟩⟩⟩⟩⟩
theorem lw_p16 : lw_okq (⟨"GoalDesk$Matcher", "wake", "(I)V"⟩, 7) := ⟨⟨by decide +kernel, by decide +kernel⟩, List.mem_of_getElem? (i := 144) (by decide +kernel), List.mem_of_getElem? (i := 805) (by decide +kernel), List.mem_of_getElem? (i := 806) (by decide +kernel)⟩
theorem lw_p17 : lw_okq (⟨"GoalDesk$Store", "undo", "(I)V"⟩, 6) := ⟨⟨by decide +kernel, by decide +kernel⟩, List.mem_of_getElem? (i := 117) (by decide +kernel), List.mem_of_getElem? (i := 845) (by decide +kernel), List.mem_of_getElem? (i := 846) (by decide +kernel)⟩
theorem lw_p18 : lw_okq (⟨"GoalDesk$Search", "putWokenInFront", "()LGoalDesk$Outcome;"⟩, 9) := ⟨⟨by decide +kernel, by decide +kernel⟩, List.mem_of_getElem? (i := 199) (by decide +kernel), List.mem_of_getElem? (i := 857) (by decide +kernel), List.mem_of_getElem? (i := 858) (by decide +kernel)⟩
theorem lw_p19 : lw_okq (⟨"GoalDesk$Search", "retry", "()LGoalDesk$Outcome;"⟩, 9) := ⟨⟨by decide +kernel, by decide +kernel⟩, List.mem_of_getElem? (i := 199) (by decide +kernel), List.mem_of_getElem? (i := 877) (by decide +kernel), List.mem_of_getElem? (i := 878) (by decide +kernel)⟩
theorem lw_p20 : lw_okq (⟨"GoalDesk", "conclude", "(LGoalDesk$Outcome;)I"⟩, 12) := ⟨⟨by decide +kernel, by decide +kernel⟩, List.mem_of_getElem? (i := 27) (by decide +kernel), List.mem_of_getElem? (i := 888) (by decide +kernel), List.mem_of_getElem? (i := 889) (by decide +kernel)⟩
theorem lw_p21 : lw_okq (⟨"GoalDesk", "questionNode", "(I)I"⟩, 12) := ⟨⟨by decide +kernel, by decide +kernel⟩, List.mem_of_getElem? (i := 27) (by decide +kernel), List.mem_of_getElem? (i := 952) (by decide +kernel), List.mem_of_getElem? (i := 953) (by decide +kernel)⟩
theorem lw_p22 : lw_okq (⟨"GoalDesk$Writer", "pushTerm", "(II)V"⟩, 5) := ⟨⟨by decide +kernel, by decide +kernel⟩, List.mem_of_getElem? (i := 237) (by decide +kernel), List.mem_of_getElem? (i := 966) (by decide +kernel), List.mem_of_getElem? (i := 967) (by decide +kernel)⟩
theorem lw_p23 : lw_okq (⟨"GoalDesk$Writer", "writeTop", "()I"⟩, 5) := ⟨⟨by decide +kernel, by decide +kernel⟩, List.mem_of_getElem? (i := 237) (by decide +kernel), List.mem_of_getElem? (i := 972) (by decide +kernel), List.mem_of_getElem? (i := 973) (by decide +kernel)⟩
theorem lw_p24 : lw_okq (⟨"GoalDesk$Writer", "pushArguments", "(II)V"⟩, 5) := ⟨⟨by decide +kernel, by decide +kernel⟩, List.mem_of_getElem? (i := 237) (by decide +kernel), List.mem_of_getElem? (i := 978) (by decide +kernel), List.mem_of_getElem? (i := 979) (by decide +kernel)⟩
theorem lw_p25 : lw_okq (⟨"GoalDesk$Writer", "pushSign", "(I)V"⟩, 5) := ⟨⟨by decide +kernel, by decide +kernel⟩, List.mem_of_getElem? (i := 237) (by decide +kernel), List.mem_of_getElem? (i := 983) (by decide +kernel), List.mem_of_getElem? (i := 984) (by decide +kernel)⟩
theorem lw_p26 : lw_okq (⟨"GoalDeskModel", "bad", "(Z)Z"⟩, 64) := ⟨⟨by decide +kernel, by decide +kernel⟩, List.mem_of_getElem? (i := 1008) (by decide +kernel), List.mem_of_getElem? (i := 1219) (by decide +kernel), List.mem_of_getElem? (i := 1220) (by decide +kernel)⟩
theorem lw_p27 : lw_okq (⟨"GoalDeskModel", "fail", "(I)I"⟩, 64) := ⟨⟨by decide +kernel, by decide +kernel⟩, List.mem_of_getElem? (i := 1008) (by decide +kernel), List.mem_of_getElem? (i := 1223) (by decide +kernel), List.mem_of_getElem? (i := 1224) (by decide +kernel)⟩
theorem lw_p28 : lw_okq (⟨"GoalDeskModel", "readClause", "()Z"⟩, 64) := ⟨⟨by decide +kernel, by decide +kernel⟩, List.mem_of_getElem? (i := 1008) (by decide +kernel), List.mem_of_getElem? (i := 1231) (by decide +kernel), List.mem_of_getElem? (i := 1232) (by decide +kernel)⟩
theorem lw_p29 : lw_okq (⟨"GoalDeskModel", "readTerm", "(Z)Z"⟩, 64) := ⟨⟨by decide +kernel, by decide +kernel⟩, List.mem_of_getElem? (i := 1008) (by decide +kernel), List.mem_of_getElem? (i := 1235) (by decide +kernel), List.mem_of_getElem? (i := 1236) (by decide +kernel)⟩
theorem lw_p30 : lw_okq (⟨"GoalDeskModel", "look", "()I"⟩, 64) := ⟨⟨by decide +kernel, by decide +kernel⟩, List.mem_of_getElem? (i := 1008) (by decide +kernel), List.mem_of_getElem? (i := 1239) (by decide +kernel), List.mem_of_getElem? (i := 1240) (by decide +kernel)⟩
theorem lw_p31 : lw_okq (⟨"GoalDeskModel", "passes", "(I)Z"⟩, 64) := ⟨⟨by decide +kernel, by decide +kernel⟩, List.mem_of_getElem? (i := 1008) (by decide +kernel), List.mem_of_getElem? (i := 1243) (by decide +kernel), List.mem_of_getElem? (i := 1244) (by decide +kernel)⟩
def lw_privs_2 : List (MethodName × Nat) := [(⟨"GoalDesk$Matcher", "wake", "(I)V"⟩, 7), (⟨"GoalDesk$Store", "undo", "(I)V"⟩, 6), (⟨"GoalDesk$Search", "putWokenInFront", "()LGoalDesk$Outcome;"⟩, 9), (⟨"GoalDesk$Search", "retry", "()LGoalDesk$Outcome;"⟩, 9), (⟨"GoalDesk", "conclude", "(LGoalDesk$Outcome;)I"⟩, 12), (⟨"GoalDesk", "questionNode", "(I)I"⟩, 12), (⟨"GoalDesk$Writer", "pushTerm", "(II)V"⟩, 5), (⟨"GoalDesk$Writer", "writeTop", "()I"⟩, 5), (⟨"GoalDesk$Writer", "pushArguments", "(II)V"⟩, 5), (⟨"GoalDesk$Writer", "pushSign", "(I)V"⟩, 5), (⟨"GoalDeskModel", "bad", "(Z)Z"⟩, 64), (⟨"GoalDeskModel", "fail", "(I)I"⟩, 64), (⟨"GoalDeskModel", "readClause", "()Z"⟩, 64), (⟨"GoalDeskModel", "readTerm", "(Z)Z"⟩, 64), (⟨"GoalDeskModel", "look", "()I"⟩, 64), (⟨"GoalDeskModel", "passes", "(I)Z"⟩, 64)]
theorem lw_r2 : ∀ q ∈ lw_privs_2, lw_okq q := List.forall_mem_cons.mpr ⟨lw_p16, List.forall_mem_cons.mpr ⟨lw_p17, List.forall_mem_cons.mpr ⟨lw_p18, List.forall_mem_cons.mpr ⟨lw_p19, List.forall_mem_cons.mpr ⟨lw_p20, List.forall_mem_cons.mpr ⟨lw_p21, List.forall_mem_cons.mpr ⟨lw_p22, List.forall_mem_cons.mpr ⟨lw_p23, List.forall_mem_cons.mpr ⟨lw_p24, List.forall_mem_cons.mpr ⟨lw_p25, List.forall_mem_cons.mpr ⟨lw_p26, List.forall_mem_cons.mpr ⟨lw_p27, List.forall_mem_cons.mpr ⟨lw_p28, List.forall_mem_cons.mpr ⟨lw_p29, List.forall_mem_cons.mpr ⟨lw_p30, List.forall_mem_cons.mpr ⟨lw_p31, fun _ h => absurd h List.not_mem_nil⟩⟩⟩⟩⟩⟩⟩⟩⟩⟩⟩⟩⟩⟩⟩⟩
theorem lw_p32 : lw_okq (⟨"GoalDeskModel", "readGoals", "()Z"⟩, 64) := ⟨⟨by decide +kernel, by decide +kernel⟩, List.mem_of_getElem? (i := 1008) (by decide +kernel), List.mem_of_getElem? (i := 1247) (by decide +kernel), List.mem_of_getElem? (i := 1248) (by decide +kernel)⟩
theorem lw_p33 : lw_okq (⟨"GoalDeskModel", "number", "()V"⟩, 64) := ⟨⟨by decide +kernel, by decide +kernel⟩, List.mem_of_getElem? (i := 1008) (by decide +kernel), List.mem_of_getElem? (i := 1259) (by decide +kernel), List.mem_of_getElem? (i := 1260) (by decide +kernel)⟩
theorem lw_p34 : lw_okq (⟨"GoalDeskModel", "born", "()I"⟩, 64) := ⟨⟨by decide +kernel, by decide +kernel⟩, List.mem_of_getElem? (i := 1008) (by decide +kernel), List.mem_of_getElem? (i := 1263) (by decide +kernel), List.mem_of_getElem? (i := 1264) (by decide +kernel)⟩
theorem lw_p35 : lw_okq (⟨"GoalDeskModel", "buildGoals", "(II)I"⟩, 64) := ⟨⟨by decide +kernel, by decide +kernel⟩, List.mem_of_getElem? (i := 1008) (by decide +kernel), List.mem_of_getElem? (i := 1268) (by decide +kernel), List.mem_of_getElem? (i := 1269) (by decide +kernel)⟩
theorem lw_p36 : lw_okq (⟨"GoalDeskModel", "at", "(I)I"⟩, 64) := ⟨⟨by decide +kernel, by decide +kernel⟩, List.mem_of_getElem? (i := 1008) (by decide +kernel), List.mem_of_getElem? (i := 1272) (by decide +kernel), List.mem_of_getElem? (i := 1273) (by decide +kernel)⟩
theorem lw_p37 : lw_okq (⟨"GoalDeskModel", "goal", "(IIIII)I"⟩, 64) := ⟨⟨by decide +kernel, by decide +kernel⟩, List.mem_of_getElem? (i := 1008) (by decide +kernel), List.mem_of_getElem? (i := 1276) (by decide +kernel), List.mem_of_getElem? (i := 1277) (by decide +kernel)⟩
theorem lw_p38 : lw_okq (⟨"GoalDeskModel", "build", "()I"⟩, 64) := ⟨⟨by decide +kernel, by decide +kernel⟩, List.mem_of_getElem? (i := 1008) (by decide +kernel), List.mem_of_getElem? (i := 1280) (by decide +kernel), List.mem_of_getElem? (i := 1281) (by decide +kernel)⟩
theorem lw_p39 : lw_okq (⟨"GoalDeskModel", "cell", "(I)I"⟩, 64) := ⟨⟨by decide +kernel, by decide +kernel⟩, List.mem_of_getElem? (i := 1008) (by decide +kernel), List.mem_of_getElem? (i := 1284) (by decide +kernel), List.mem_of_getElem? (i := 1285) (by decide +kernel)⟩
theorem lw_p40 : lw_okq (⟨"GoalDeskModel", "hang", "(II)V"⟩, 64) := ⟨⟨by decide +kernel, by decide +kernel⟩, List.mem_of_getElem? (i := 1008) (by decide +kernel), List.mem_of_getElem? (i := 1288) (by decide +kernel), List.mem_of_getElem? (i := 1289) (by decide +kernel)⟩
theorem lw_p41 : lw_okq (⟨"GoalDeskModel", "seek", "(Z)I"⟩, 64) := ⟨⟨by decide +kernel, by decide +kernel⟩, List.mem_of_getElem? (i := 1008) (by decide +kernel), List.mem_of_getElem? (i := 1292) (by decide +kernel), List.mem_of_getElem? (i := 1293) (by decide +kernel)⟩
theorem lw_p42 : lw_okq (⟨"GoalDeskModel", "back", "()Z"⟩, 64) := ⟨⟨by decide +kernel, by decide +kernel⟩, List.mem_of_getElem? (i := 1008) (by decide +kernel), List.mem_of_getElem? (i := 1296) (by decide +kernel), List.mem_of_getElem? (i := 1297) (by decide +kernel)⟩
theorem lw_p43 : lw_okq (⟨"GoalDeskModel", "nextFit", "(II)I"⟩, 64) := ⟨⟨by decide +kernel, by decide +kernel⟩, List.mem_of_getElem? (i := 1008) (by decide +kernel), List.mem_of_getElem? (i := 1300) (by decide +kernel), List.mem_of_getElem? (i := 1301) (by decide +kernel)⟩
theorem lw_p44 : lw_okq (⟨"GoalDeskModel", "fits", "(II)Z"⟩, 64) := ⟨⟨by decide +kernel, by decide +kernel⟩, List.mem_of_getElem? (i := 1008) (by decide +kernel), List.mem_of_getElem? (i := 1304) (by decide +kernel), List.mem_of_getElem? (i := 1305) (by decide +kernel)⟩
theorem lw_p45 : lw_okq (⟨"GoalDeskModel", "undo", "(I)V"⟩, 64) := ⟨⟨by decide +kernel, by decide +kernel⟩, List.mem_of_getElem? (i := 1008) (by decide +kernel), List.mem_of_getElem? (i := 1308) (by decide +kernel), List.mem_of_getElem? (i := 1309) (by decide +kernel)⟩
theorem lw_p46 : lw_okq (⟨"GoalDeskModel", "take", "(IIII)Z"⟩, 64) := ⟨⟨by decide +kernel, by decide +kernel⟩, List.mem_of_getElem? (i := 1008) (by decide +kernel), List.mem_of_getElem? (i := 1312) (by decide +kernel), List.mem_of_getElem? (i := 1313) (by decide +kernel)⟩
theorem lw_p47 : lw_okq (⟨"GoalDeskModel", "pair", "(II)V"⟩, 64) := ⟨⟨by decide +kernel, by decide +kernel⟩, List.mem_of_getElem? (i := 1008) (by decide +kernel), List.mem_of_getElem? (i := 1316) (by decide +kernel), List.mem_of_getElem? (i := 1317) (by decide +kernel)⟩
def lw_privs_3 : List (MethodName × Nat) := [(⟨"GoalDeskModel", "readGoals", "()Z"⟩, 64), (⟨"GoalDeskModel", "number", "()V"⟩, 64), (⟨"GoalDeskModel", "born", "()I"⟩, 64), (⟨"GoalDeskModel", "buildGoals", "(II)I"⟩, 64), (⟨"GoalDeskModel", "at", "(I)I"⟩, 64), (⟨"GoalDeskModel", "goal", "(IIIII)I"⟩, 64), (⟨"GoalDeskModel", "build", "()I"⟩, 64), (⟨"GoalDeskModel", "cell", "(I)I"⟩, 64), (⟨"GoalDeskModel", "hang", "(II)V"⟩, 64), (⟨"GoalDeskModel", "seek", "(Z)I"⟩, 64), (⟨"GoalDeskModel", "back", "()Z"⟩, 64), (⟨"GoalDeskModel", "nextFit", "(II)I"⟩, 64), (⟨"GoalDeskModel", "fits", "(II)Z"⟩, 64), (⟨"GoalDeskModel", "undo", "(I)V"⟩, 64), (⟨"GoalDeskModel", "take", "(IIII)Z"⟩, 64), (⟨"GoalDeskModel", "pair", "(II)V"⟩, 64)]
theorem lw_r3 : ∀ q ∈ lw_privs_3, lw_okq q := List.forall_mem_cons.mpr ⟨lw_p32, List.forall_mem_cons.mpr ⟨lw_p33, List.forall_mem_cons.mpr ⟨lw_p34, List.forall_mem_cons.mpr ⟨lw_p35, List.forall_mem_cons.mpr ⟨lw_p36, List.forall_mem_cons.mpr ⟨lw_p37, List.forall_mem_cons.mpr ⟨lw_p38, List.forall_mem_cons.mpr ⟨lw_p39, List.forall_mem_cons.mpr ⟨lw_p40, List.forall_mem_cons.mpr ⟨lw_p41, List.forall_mem_cons.mpr ⟨lw_p42, List.forall_mem_cons.mpr ⟨lw_p43, List.forall_mem_cons.mpr ⟨lw_p44, List.forall_mem_cons.mpr ⟨lw_p45, List.forall_mem_cons.mpr ⟨lw_p46, List.forall_mem_cons.mpr ⟨lw_p47, fun _ h => absurd h List.not_mem_nil⟩⟩⟩⟩⟩⟩⟩⟩⟩⟩⟩⟩⟩⟩⟩⟩
theorem lw_p48 : lw_okq (⟨"GoalDeskModel", "unify", "(I)Z"⟩, 64) := ⟨⟨by decide +kernel, by decide +kernel⟩, List.mem_of_getElem? (i := 1008) (by decide +kernel), List.mem_of_getElem? (i := 1320) (by decide +kernel), List.mem_of_getElem? (i := 1321) (by decide +kernel)⟩
theorem lw_p49 : lw_okq (⟨"GoalDeskModel", "same", "()Z"⟩, 64) := ⟨⟨by decide +kernel, by decide +kernel⟩, List.mem_of_getElem? (i := 1008) (by decide +kernel), List.mem_of_getElem? (i := 1324) (by decide +kernel), List.mem_of_getElem? (i := 1325) (by decide +kernel)⟩
theorem lw_p50 : lw_okq (⟨"GoalDeskModel", "step", "()Z"⟩, 64) := ⟨⟨by decide +kernel, by decide +kernel⟩, List.mem_of_getElem? (i := 1008) (by decide +kernel), List.mem_of_getElem? (i := 1328) (by decide +kernel), List.mem_of_getElem? (i := 1329) (by decide +kernel)⟩
theorem lw_p51 : lw_okq (⟨"GoalDeskModel", "value", "(I)I"⟩, 64) := ⟨⟨by decide +kernel, by decide +kernel⟩, List.mem_of_getElem? (i := 1008) (by decide +kernel), List.mem_of_getElem? (i := 1332) (by decide +kernel), List.mem_of_getElem? (i := 1333) (by decide +kernel)⟩
theorem lw_p52 : lw_okq (⟨"GoalDeskModel", "tie", "(II)V"⟩, 64) := ⟨⟨by decide +kernel, by decide +kernel⟩, List.mem_of_getElem? (i := 1008) (by decide +kernel), List.mem_of_getElem? (i := 1336) (by decide +kernel), List.mem_of_getElem? (i := 1337) (by decide +kernel)⟩
theorem lw_p53 : lw_okq (⟨"GoalDeskModel", "change", "(II)V"⟩, 64) := ⟨⟨by decide +kernel, by decide +kernel⟩, List.mem_of_getElem? (i := 1008) (by decide +kernel), List.mem_of_getElem? (i := 1340) (by decide +kernel), List.mem_of_getElem? (i := 1341) (by decide +kernel)⟩
theorem lw_p54 : lw_okq (⟨"GoalDeskModel", "follow", "(III)V"⟩, 64) := ⟨⟨by decide +kernel, by decide +kernel⟩, List.mem_of_getElem? (i := 1008) (by decide +kernel), List.mem_of_getElem? (i := 1344) (by decide +kernel), List.mem_of_getElem? (i := 1345) (by decide +kernel)⟩
theorem lw_p55 : lw_okq (⟨"GoalDeskModel", "test", "(II)I"⟩, 64) := ⟨⟨by decide +kernel, by decide +kernel⟩, List.mem_of_getElem? (i := 1008) (by decide +kernel), List.mem_of_getElem? (i := 1348) (by decide +kernel), List.mem_of_getElem? (i := 1349) (by decide +kernel)⟩
theorem lw_p56 : lw_okq (⟨"GoalDeskModel", "perform", "(I)Z"⟩, 64) := ⟨⟨by decide +kernel, by decide +kernel⟩, List.mem_of_getElem? (i := 1008) (by decide +kernel), List.mem_of_getElem? (i := 1352) (by decide +kernel), List.mem_of_getElem? (i := 1353) (by decide +kernel)⟩
theorem lw_p57 : lw_okq (⟨"GoalDeskModel", "call", "(II)Z"⟩, 64) := ⟨⟨by decide +kernel, by decide +kernel⟩, List.mem_of_getElem? (i := 1008) (by decide +kernel), List.mem_of_getElem? (i := 1356) (by decide +kernel), List.mem_of_getElem? (i := 1357) (by decide +kernel)⟩
theorem lw_p58 : lw_okq (⟨"GoalDeskModel", "apart", "(III)Z"⟩, 64) := ⟨⟨by decide +kernel, by decide +kernel⟩, List.mem_of_getElem? (i := 1008) (by decide +kernel), List.mem_of_getElem? (i := 1360) (by decide +kernel), List.mem_of_getElem? (i := 1361) (by decide +kernel)⟩
theorem lw_p59 : lw_okq (⟨"GoalDeskModel", "less", "(III)Z"⟩, 64) := ⟨⟨by decide +kernel, by decide +kernel⟩, List.mem_of_getElem? (i := 1008) (by decide +kernel), List.mem_of_getElem? (i := 1364) (by decide +kernel), List.mem_of_getElem? (i := 1365) (by decide +kernel)⟩
theorem lw_p60 : lw_okq (⟨"GoalDeskModel", "sleep", "(III)Z"⟩, 64) := ⟨⟨by decide +kernel, by decide +kernel⟩, List.mem_of_getElem? (i := 1008) (by decide +kernel), List.mem_of_getElem? (i := 1368) (by decide +kernel), List.mem_of_getElem? (i := 1369) (by decide +kernel)⟩
theorem lw_p61 : lw_okq (⟨"GoalDeskModel", "write", "(I)V"⟩, 64) := ⟨⟨by decide +kernel, by decide +kernel⟩, List.mem_of_getElem? (i := 1008) (by decide +kernel), List.mem_of_getElem? (i := 1380) (by decide +kernel), List.mem_of_getElem? (i := 1381) (by decide +kernel)⟩
theorem lw_p62 : lw_okq (⟨"GoalDeskModel", "put", "(I)V"⟩, 64) := ⟨⟨by decide +kernel, by decide +kernel⟩, List.mem_of_getElem? (i := 1008) (by decide +kernel), List.mem_of_getElem? (i := 1385) (by decide +kernel), List.mem_of_getElem? (i := 1386) (by decide +kernel)⟩
def lw_privs_4 : List (MethodName × Nat) := [(⟨"GoalDeskModel", "unify", "(I)Z"⟩, 64), (⟨"GoalDeskModel", "same", "()Z"⟩, 64), (⟨"GoalDeskModel", "step", "()Z"⟩, 64), (⟨"GoalDeskModel", "value", "(I)I"⟩, 64), (⟨"GoalDeskModel", "tie", "(II)V"⟩, 64), (⟨"GoalDeskModel", "change", "(II)V"⟩, 64), (⟨"GoalDeskModel", "follow", "(III)V"⟩, 64), (⟨"GoalDeskModel", "test", "(II)I"⟩, 64), (⟨"GoalDeskModel", "perform", "(I)Z"⟩, 64), (⟨"GoalDeskModel", "call", "(II)Z"⟩, 64), (⟨"GoalDeskModel", "apart", "(III)Z"⟩, 64), (⟨"GoalDeskModel", "less", "(III)Z"⟩, 64), (⟨"GoalDeskModel", "sleep", "(III)Z"⟩, 64), (⟨"GoalDeskModel", "write", "(I)V"⟩, 64), (⟨"GoalDeskModel", "put", "(I)V"⟩, 64)]
theorem lw_r4 : ∀ q ∈ lw_privs_4, lw_okq q := List.forall_mem_cons.mpr ⟨lw_p48, List.forall_mem_cons.mpr ⟨lw_p49, List.forall_mem_cons.mpr ⟨lw_p50, List.forall_mem_cons.mpr ⟨lw_p51, List.forall_mem_cons.mpr ⟨lw_p52, List.forall_mem_cons.mpr ⟨lw_p53, List.forall_mem_cons.mpr ⟨lw_p54, List.forall_mem_cons.mpr ⟨lw_p55, List.forall_mem_cons.mpr ⟨lw_p56, List.forall_mem_cons.mpr ⟨lw_p57, List.forall_mem_cons.mpr ⟨lw_p58, List.forall_mem_cons.mpr ⟨lw_p59, List.forall_mem_cons.mpr ⟨lw_p60, List.forall_mem_cons.mpr ⟨lw_p61, List.forall_mem_cons.mpr ⟨lw_p62, fun _ h => absurd h List.not_mem_nil⟩⟩⟩⟩⟩⟩⟩⟩⟩⟩⟩⟩⟩⟩⟩
def lw_privs : List (MethodName × Nat) := lw_privs_1 ++ (lw_privs_2 ++ (lw_privs_3 ++ (lw_privs_4)))
def lw_tbl : List Cond := k2_sels lw_privs ++ tables_1
theorem lw_privs_ok : ∀ q ∈ lw_privs, lw_okq q := by
  show ∀ q ∈ lw_privs_1 ++ (lw_privs_2 ++ (lw_privs_3 ++ (lw_privs_4))), lw_okq q
  exact List.forall_mem_append.mpr ⟨lw_r1, List.forall_mem_append.mpr ⟨lw_r2, List.forall_mem_append.mpr ⟨lw_r3, lw_r4⟩⟩⟩
end
section
/-! THE SMALL MACHINE: an executable picture of the bytecode over a heap that is a list; jx_ = its meaning in the kit's words -/
abbrev jC : Type := (FieldType × vp_A) ⊕ (Nat × List Value)
abbrev jH : Type := List jC
/-- pc, locals, stack, heap -/
abbrev jS : Type := Nat × List (Nat × Value) × List Value × jH
def jx_V (α : Nat → Nat) : Value → Value
  | .ref a => .ref (α a)
  | v => v
def jx_L (α : Nat → Nat) (q : Nat × Value) : Nat × Value := (q.1, jx_V α q.2)
def jx_A (α : Nat → Nat) : vp_A → vp_A
  | (n, .inr (.inr (.inr (.inr f)))) => (n, .inr (.inr (.inr (.inr (fun i => (f i).map α)))))
  | a => a
def jx_E (α : Nat → Nat) (dA : FieldType → ClassId) : jC → va_E
  | .inl (ty, a) => .inl (dA ty, jx_A α a)
  | .inr (ci, fs) => .inr (ci, fs.map (jx_V α))
def jx_ws (α : Nat → Nat) (dA : FieldType → ClassId) (K : Nat) (h : jH) : va_W := (h.drop K).mapIdx (fun i c => (α (K + i), jx_E α dA c))
theorem jx_V_cat (α : Nat → Nat) (v : Value) : (jx_V α v).category = v.category := by cases v <;> rfl
theorem jx_ws_get {α : Nat → Nat} {dA : FieldType → ClassId} {K a : Nat} {h : jH} {c : jC} (ha : h[a]? = some c) (hK : K ≤ a) : (jx_ws α dA K h)[a - K]? = some (α a, jx_E α dA c) := by
  unfold jx_ws
  rw [List.getElem?_mapIdx, List.getElem?_drop, show K + (a - K) = a by omega, ha]
  rfl
theorem jx_ws_len {α : Nat → Nat} {dA : FieldType → ClassId} {K : Nat} {h : jH} : (jx_ws α dA K h).length = h.length - K := by
  simp [jx_ws]
theorem jx_ws_set {α : Nat → Nat} {dA : FieldType → ClassId} {K a : Nat} {h : jH} {c : jC} (hK : K ≤ a) : jx_ws α dA K (h.set a c) = (jx_ws α dA K h).set (a - K) (α a, jx_E α dA c) := by
  apply List.ext_getElem?
  intro i
  unfold jx_ws
  rw [List.getElem?_mapIdx, List.getElem?_drop, List.getElem?_set, List.getElem?_set, List.getElem?_mapIdx, List.getElem?_drop]
  by_cases hi : a = K + i
  · subst hi
    have e : K + i - K = i := by omega
    simp only [e, if_true, List.length_mapIdx, List.length_drop]
    by_cases hl : K + i < h.length
    · rw [if_pos hl, if_pos (by omega)]; rfl
    · rw [if_neg hl, if_neg (by omega)]; rfl
  · rw [if_neg hi, if_neg (by omega)]
theorem jx_ws_push {α : Nat → Nat} {dA : FieldType → ClassId} {K : Nat} {h : jH} {c : jC} (hK : K ≤ h.length) : jx_ws α dA K (h ++ [c]) = jx_ws α dA K h ++ [(α h.length, jx_E α dA c)] := by
  unfold jx_ws
  rw [List.drop_append_of_le_length hK, List.mapIdx_append]
  have e : K + (h.length - K) = h.length := by omega
  simp [e]
/-- locals -/
def jld (i : Nat) : List (Nat × Value) → Option Value
  | [] => none
  | q :: r => if q.1 = i then some q.2 else jld i r
def jst1 (i : Nat) (v : Value) (lv : List (Nat × Value)) : List (Nat × Value) := (i, v) :: lv.filter (fun q => !(q.1 == i) && !(q.1 + 1 == i && q.2.category == 2))
def jst2 (i : Nat) (v : Value) (lv : List (Nat × Value)) : List (Nat × Value) := (i, v) :: lv.filter (fun q => !(q.1 == i) && (!(q.1 == i + 1) && !(q.1 + 1 == i && q.2.category == 2)))
theorem jld_mem {i : Nat} {v : Value} : ∀ {lv : List (Nat × Value)}, jld i lv = some v → (i, v) ∈ lv
  | [], h => by cases h
  | q :: r, h => by
    unfold jld at h
    by_cases hq : q.1 = i
    · rw [if_pos hq] at h
      cases h
      subst hq
      exact List.mem_cons_self
    · rw [if_neg hq] at h
      exact List.mem_cons_of_mem _ (jld_mem h)
theorem jld_at {α : Nat → Nat} {ls : Array Slot} {n i : Nat} {v : Value} {lv : List (Nat × Value)} (hl : lv_has ls n (lv.map (jx_L α))) (h : jld i lv = some v) : ls[i]? = some (.val (jx_V α v)) :=
  hl.2.2 (i, jx_V α v) (List.mem_map.mpr ⟨(i, v), jld_mem h, rfl⟩)
theorem jst1_map {α : Nat → Nat} {i : Nat} {v : Value} {lv : List (Nat × Value)} : (jst1 i v lv).map (jx_L α) = (i, jx_V α v) :: (lv.map (jx_L α)).filter (fun q => !(q.1 == i) && !(q.1 + 1 == i && q.2.category == 2)) := by
  unfold jst1
  rw [List.map_cons, List.filter_map]
  refine congrArg (List.cons _) (congrArg (List.map _) (List.filter_congr (fun q _ => ?_)))
  simp [jx_L, jx_V_cat]
theorem jst2_map {α : Nat → Nat} {i : Nat} {v : Value} {lv : List (Nat × Value)} : (jst2 i v lv).map (jx_L α) = (i, jx_V α v) :: (lv.map (jx_L α)).filter (fun q => !(q.1 == i) && (!(q.1 == i + 1) && !(q.1 + 1 == i && q.2.category == 2))) := by
  unfold jst2
  rw [List.map_cons, List.filter_map]
  refine congrArg (List.cons _) (congrArg (List.map _) (List.filter_congr (fun q _ => ?_)))
  simp [jx_L, jx_V_cat]
/-- stack words -/
def j2i (f : Int32 → Int32 → Int32) : List Value → Option (List Value)
  | .int y :: .int x :: r => some (.int (f x y) :: r)
  | _ => none
def j2l (f : Int64 → Int64 → Int64) : List Value → Option (List Value)
  | .long y :: .long x :: r => some (.long (f x y) :: r)
  | _ => none
def jsl (f : Int64 → Int32 → Int64) : List Value → Option (List Value)
  | .int y :: .long x :: r => some (.long (f x y) :: r)
  | _ => none
def j1i (f : Int32 → Int32) : List Value → Option (List Value)
  | .int x :: r => some (.int (f x) :: r)
  | _ => none
theorem j2i_inv {f : Int32 → Int32 → Int32} {st st' : List Value} (h : j2i f st = some st') : ∃ x y r, st = .int y :: .int x :: r ∧ st' = .int (f x y) :: r := by
  unfold j2i at h
  split at h
  · cases h; exact ⟨_, _, _, rfl, rfl⟩
  · cases h
theorem j2l_inv {f : Int64 → Int64 → Int64} {st st' : List Value} (h : j2l f st = some st') : ∃ x y r, st = .long y :: .long x :: r ∧ st' = .long (f x y) :: r := by
  unfold j2l at h
  split at h
  · cases h; exact ⟨_, _, _, rfl, rfl⟩
  · cases h
theorem jsl_inv {f : Int64 → Int32 → Int64} {st st' : List Value} (h : jsl f st = some st') : ∃ x y r, st = .int y :: .long x :: r ∧ st' = .long (f x y) :: r := by
  unfold jsl at h
  split at h
  · cases h; exact ⟨_, _, _, rfl, rfl⟩
  · cases h
theorem j1i_inv {f : Int32 → Int32} {st st' : List Value} (h : j1i f st = some st') : ∃ x r, st = .int x :: r ∧ st' = .int (f x) :: r := by
  unfold j1i at h
  split at h
  · cases h; exact ⟨_, _, rfl, rfl⟩
  · cases h
end
section
/-- words that touch the stack alone: the new stack, the word's length -/
def jstk (i : Instr) (st : List Value) : Option (List Value × Nat) := match i with
  | .iconst n => some (.int (Int32.ofInt n) :: st, 1)
  | .bipush n => some (.int (Int8.ofInt n).toInt32 :: st, 2)
  | .sipush n => some (.int (Int16.ofInt n).toInt32 :: st, 3)
  | .lconst n => some (.long (Int64.ofNat n.val) :: st, 1)
  | .aconst_null => some (.null :: st, 1)
  | .iadd => (j2i (fun x y => x + y) st).map (fun r => (r, 1))
  | .isub => (j2i (fun x y => x - y) st).map (fun r => (r, 1))
  | .imul => (j2i (fun x y => x * y) st).map (fun r => (r, 1))
  | .iand => (j2i (fun x y => x &&& y) st).map (fun r => (r, 1))
  | .ior => (j2i (fun x y => x ||| y) st).map (fun r => (r, 1))
  | .ixor => (j2i (fun x y => x ^^^ y) st).map (fun r => (r, 1))
  | .ishl => (j2i (fun x y => x <<< (y &&& 31)) st).map (fun r => (r, 1))
  | .ishr => (j2i (fun x y => x >>> (y &&& 31)) st).map (fun r => (r, 1))
  | .iushr => (j2i (fun x y => (x.toUInt32 >>> (y.toUInt32 &&& Int32.toUInt32 31)).toInt32) st).map (fun r => (r, 1))
  | .ladd => (j2l (fun x y => x + y) st).map (fun r => (r, 1))
  | .lsub => (j2l (fun x y => x - y) st).map (fun r => (r, 1))
  | .land => (j2l (fun x y => x &&& y) st).map (fun r => (r, 1))
  | .lor => (j2l (fun x y => x ||| y) st).map (fun r => (r, 1))
  | .lxor => (j2l (fun x y => x ^^^ y) st).map (fun r => (r, 1))
  | .lshl => (jsl (fun x y => x <<< (y.toInt64 &&& 63)) st).map (fun r => (r, 1))
  | .lshr => (jsl (fun x y => x >>> (y.toInt64 &&& 63)) st).map (fun r => (r, 1))
  | .lushr => (jsl (fun x y => (x.toUInt64 >>> (y.toInt64.toUInt64 &&& Int64.toUInt64 63)).toInt64) st).map (fun r => (r, 1))
  | .ineg => (j1i (fun x => -x) st).map (fun r => (r, 1))
  | .i2b => (j1i (fun x => x.toInt8.toInt32) st).map (fun r => (r, 1))
  | .i2s => (j1i (fun x => x.toInt16.toInt32) st).map (fun r => (r, 1))
  | .i2c => (j1i (fun x => (x.toUInt32 % 65536).toInt32) st).map (fun r => (r, 1))
  | .idiv => match st with
    | .int y :: .int x :: r => if y = 0 then none else some (.int (x / y) :: r, 1)
    | _ => none
  | .irem => match st with
    | .int y :: .int x :: r => if y = 0 then none else some (.int (x - x / y * y) :: r, 1)
    | _ => none
  | .i2l => match st with
    | .int x :: r => some (.long x.toInt64 :: r, 1)
    | _ => none
  | .l2i => match st with
    | .long x :: r => some (.int x.toInt32 :: r, 1)
    | _ => none
  | .lcmp => match st with
    | .long y :: .long x :: r => some (.int (lg_cmp x y) :: r, 1)
    | _ => none
  | .dup => match st with
    | v :: r => if v.category = 1 then some (v :: v :: r, 1) else none
    | _ => none
  | .pop => match st with
    | v :: r => if v.category = 1 then some (r, 1) else none
    | _ => none
  | .dup_x1 => match st with
    | v :: w :: r => if v.category = 1 ∧ w.category = 1 then some (v :: w :: v :: r, 1) else none
    | _ => none
  | .dup2 => match st with
    | v :: w :: r => if v.category = 1 ∧ w.category = 1 then some (v :: w :: v :: w :: r, 1) else none
    | _ => none
  | _ => none
section JW2
variable {p : Program} {l : Launch} {e : Env} {R : Room} {s : State} {m : MethodId} {args : Array Value} {below : List Frame} {meth : Method} {c : Code} {H : Heap} {locs : List Loc} {cells slots : Nat} {Q : State → Prop} {cc : ByteArray} {pc : Nat} {ls : Array Slot} {α : Nat → Nat}
set_option maxHeartbeats 1000000 in
theorem jstk_ok (hx : p.tables.exec = Jvm.exec) (hb : c.code = cc) {i : Instr} {st st' : List Value} {len : Nat} (h : jstk i st = some (st', len)) (hd : decode cc pc = .ok (i, len)) (k : W p l e R s m args below meth c H locs cells slots Q (F0 m (pc + len) ls (st'.map (jx_V α)))) : W p l e R s m args below meth c H locs cells slots Q (F0 m (pc) ls (st.map (jx_V α))) := by
  unfold jstk at h
  split at h
  · cases h; exact lv_iconst hx hb hd rfl k
  · cases h; exact lv_bipush hx hb hd rfl k
  · cases h; exact lv_sipush hx hb hd rfl k
  · cases h; exact lv_lconst hx hb hd rfl k
  · cases h; exact lv_null hx hb hd k
  · obtain ⟨r, hr, e1⟩ := Option.map_eq_some_iff.mp h
    cases e1
    obtain ⟨x, y, r', rfl, rfl⟩ := j2i_inv hr
    exact lv_iadd hx hb hd k
  · obtain ⟨r, hr, e1⟩ := Option.map_eq_some_iff.mp h
    cases e1
    obtain ⟨x, y, r', rfl, rfl⟩ := j2i_inv hr
    exact lv_isub hx hb hd k
  · obtain ⟨r, hr, e1⟩ := Option.map_eq_some_iff.mp h
    cases e1
    obtain ⟨x, y, r', rfl, rfl⟩ := j2i_inv hr
    exact lv_imul hx hb hd k
  · obtain ⟨r, hr, e1⟩ := Option.map_eq_some_iff.mp h
    cases e1
    obtain ⟨x, y, r', rfl, rfl⟩ := j2i_inv hr
    exact lv_iand hx hb hd k
  · obtain ⟨r, hr, e1⟩ := Option.map_eq_some_iff.mp h
    cases e1
    obtain ⟨x, y, r', rfl, rfl⟩ := j2i_inv hr
    exact lv_ior hx hb hd k
  · obtain ⟨r, hr, e1⟩ := Option.map_eq_some_iff.mp h
    cases e1
    obtain ⟨x, y, r', rfl, rfl⟩ := j2i_inv hr
    exact lv_ixor hx hb hd k
  · obtain ⟨r, hr, e1⟩ := Option.map_eq_some_iff.mp h
    cases e1
    obtain ⟨x, y, r', rfl, rfl⟩ := j2i_inv hr
    exact lv_ishl hx hb hd k
  · obtain ⟨r, hr, e1⟩ := Option.map_eq_some_iff.mp h
    cases e1
    obtain ⟨x, y, r', rfl, rfl⟩ := j2i_inv hr
    exact lv_ishr hx hb hd k
  · obtain ⟨r, hr, e1⟩ := Option.map_eq_some_iff.mp h
    cases e1
    obtain ⟨x, y, r', rfl, rfl⟩ := j2i_inv hr
    exact lv_iushr hx hb hd rfl k
  · obtain ⟨r, hr, e1⟩ := Option.map_eq_some_iff.mp h
    cases e1
    obtain ⟨x, y, r', rfl, rfl⟩ := j2l_inv hr
    exact lv_ladd hx hb hd k
  · obtain ⟨r, hr, e1⟩ := Option.map_eq_some_iff.mp h
    cases e1
    obtain ⟨x, y, r', rfl, rfl⟩ := j2l_inv hr
    exact lv_lsub hx hb hd k
  · obtain ⟨r, hr, e1⟩ := Option.map_eq_some_iff.mp h
    cases e1
    obtain ⟨x, y, r', rfl, rfl⟩ := j2l_inv hr
    exact lv_land hx hb hd k
  · obtain ⟨r, hr, e1⟩ := Option.map_eq_some_iff.mp h
    cases e1
    obtain ⟨x, y, r', rfl, rfl⟩ := j2l_inv hr
    exact lv_lor hx hb hd k
  · obtain ⟨r, hr, e1⟩ := Option.map_eq_some_iff.mp h
    cases e1
    obtain ⟨x, y, r', rfl, rfl⟩ := j2l_inv hr
    exact lv_lxor hx hb hd k
  · obtain ⟨r, hr, e1⟩ := Option.map_eq_some_iff.mp h
    cases e1
    obtain ⟨x, y, r', rfl, rfl⟩ := jsl_inv hr
    exact lv_lshl hx hb hd rfl k
  · obtain ⟨r, hr, e1⟩ := Option.map_eq_some_iff.mp h
    cases e1
    obtain ⟨x, y, r', rfl, rfl⟩ := jsl_inv hr
    exact lv_lshr hx hb hd rfl k
  · obtain ⟨r, hr, e1⟩ := Option.map_eq_some_iff.mp h
    cases e1
    obtain ⟨x, y, r', rfl, rfl⟩ := jsl_inv hr
    exact lv_lushr hx hb hd rfl k
  · obtain ⟨r, hr, e1⟩ := Option.map_eq_some_iff.mp h
    cases e1
    obtain ⟨x, r', rfl, rfl⟩ := j1i_inv hr
    exact lv_ineg hx hb hd  k
  · obtain ⟨r, hr, e1⟩ := Option.map_eq_some_iff.mp h
    cases e1
    obtain ⟨x, r', rfl, rfl⟩ := j1i_inv hr
    exact lv_i2b hx hb hd rfl k
  · obtain ⟨r, hr, e1⟩ := Option.map_eq_some_iff.mp h
    cases e1
    obtain ⟨x, r', rfl, rfl⟩ := j1i_inv hr
    exact lv_i2s hx hb hd rfl k
  · obtain ⟨r, hr, e1⟩ := Option.map_eq_some_iff.mp h
    cases e1
    obtain ⟨x, r', rfl, rfl⟩ := j1i_inv hr
    exact lv_i2c hx hb hd rfl k
  · split at h
    · split at h
      · cases h
      · rename_i hy; cases h; exact lv_idiv hx hb hd hy k
    · cases h
  · split at h
    · split at h
      · cases h
      · rename_i hy; cases h; exact lv_irem hx hb hd hy k
    · cases h
  · split at h
    · cases h; exact lv_i2l hx hb hd rfl k
    · cases h
  · split at h
    · cases h; exact lv_l2i hx hb hd rfl k
    · cases h
  · split at h
    · cases h; exact W.lcmp hx hb hd k
    · cases h
  · split at h
    · split at h
      · rename_i hv; cases h; exact lv_dup hx hb hd (by rw [jx_V_cat]; exact hv) k
      · cases h
    · cases h
  · split at h
    · split at h
      · rename_i hv; cases h; exact lv_pop hx hb hd (by rw [jx_V_cat]; exact hv) k
      · cases h
    · cases h
  · split at h
    · split at h
      · rename_i hv; cases h; exact lv_dup_x1 hx hb hd (by rw [jx_V_cat]; exact hv.1) (by rw [jx_V_cat]; exact hv.2) k
      · cases h
    · cases h
  · split at h
    · split at h
      · rename_i hv; cases h; exact lv_dup2_11 hx hb hd (by rw [jx_V_cat]; exact hv.1) (by rw [jx_V_cat]; exact hv.2) k
      · cases h
    · cases h
  · cases h
end JW2
/-- words that touch locals and stack -/
def jloc (i : Instr) (nL : Nat) (lv : List (Nat × Value)) (st : List Value) : Option (List (Nat × Value) × List Value × Nat) := match i with
  | .iload k => match jld k lv with
    | some (.int x) => some (lv, .int x :: st, 2)
    | _ => none
  | .iload_n k => match jld k.val lv with
    | some (.int x) => some (lv, .int x :: st, 1)
    | _ => none
  | .lload k => match jld k lv with
    | some (.long x) => some (lv, .long x :: st, 2)
    | _ => none
  | .lload_n k => match jld k.val lv with
    | some (.long x) => some (lv, .long x :: st, 1)
    | _ => none
  | .aload k => match jld k lv with
    | some (.ref x) => some (lv, .ref x :: st, 2)
    | some (.null) => some (lv, .null :: st, 2)
    | _ => none
  | .aload_n k => match jld k.val lv with
    | some (.ref x) => some (lv, .ref x :: st, 1)
    | some (.null) => some (lv, .null :: st, 1)
    | _ => none
  | .istore k => match st with
    | .int x :: r => if k < nL then some (jst1 k (.int x) lv, r, 2) else none
    | _ => none
  | .istore_n k => match st with
    | .int x :: r => if k.val < nL then some (jst1 k.val (.int x) lv, r, 1) else none
    | _ => none
  | .lstore k => match st with
    | .long x :: r => if k + 1 < nL then some (jst2 k (.long x) lv, r, 2) else none
    | _ => none
  | .lstore_n k => match st with
    | .long x :: r => if k.val + 1 < nL then some (jst2 k.val (.long x) lv, r, 1) else none
    | _ => none
  | .astore k => match st with
    | .ref x :: r => if k < nL then some (jst1 k (.ref x) lv, r, 2) else none
    | .null :: r => if k < nL then some (jst1 k (.null) lv, r, 2) else none
    | _ => none
  | .astore_n k => match st with
    | .ref x :: r => if k.val < nL then some (jst1 k.val (.ref x) lv, r, 1) else none
    | .null :: r => if k.val < nL then some (jst1 k.val (.null) lv, r, 1) else none
    | _ => none
  | .iinc k n => match jld k lv with
    | some (.int x) => if k < nL then some (jst1 k (.int (x + Int32.ofInt n)) lv, st, 3) else none
    | _ => none
  | _ => none
section JW3
variable {p : Program} {l : Launch} {e : Env} {R : Room} {s : State} {m : MethodId} {args : Array Value} {below : List Frame} {meth : Method} {c : Code} {H : Heap} {locs : List Loc} {cells slots : Nat} {Q : State → Prop} {cc : ByteArray} {pc : Nat} {ls : Array Slot} {α : Nat → Nat}
set_option maxHeartbeats 1000000 in
theorem jloc_ok (hx : p.tables.exec = Jvm.exec) (hb : c.code = cc) {i : Instr} {nL : Nat} {lv lv' : List (Nat × Value)} {st st' : List Value} {len : Nat} (h : jloc i nL lv st = some (lv', st', len)) (hd : decode cc pc = .ok (i, len)) (hl : lv_has ls nL (lv.map (jx_L α))) (kk : ∀ ls' : Array Slot, lv_has ls' nL (lv'.map (jx_L α)) → W p l e R s m args below meth c H locs cells slots Q (F0 m (pc + len) ls' (st'.map (jx_V α)))) : W p l e R s m args below meth c H locs cells slots Q (F0 m (pc) ls (st.map (jx_V α))) := by
  unfold jloc at h
  split at h
  · split at h
    · rename_i hq; cases h; exact lv_iload hx hb hd (jld_at hl hq) (kk ls hl)
    · cases h
  · split at h
    · rename_i hq; cases h; exact lv_iload_n hx hb hd rfl (jld_at hl hq) (kk ls hl)
    · cases h
  · split at h
    · rename_i hq; cases h; exact lv_lload hx hb hd (jld_at hl hq) (kk ls hl)
    · cases h
  · split at h
    · rename_i hq; cases h; exact lv_lload_n hx hb hd rfl (jld_at hl hq) (kk ls hl)
    · cases h
  · split at h
    · rename_i hq; cases h; exact lv_aload hx hb hd (jld_at hl hq) (kk ls hl)
    · rename_i hq; cases h; exact lv_aloadN hx hb hd (jld_at hl hq) (kk ls hl)
    · cases h
  · split at h
    · rename_i hq; cases h; exact lv_aload_n hx hb hd rfl (jld_at hl hq) (kk ls hl)
    · rename_i hq; cases h; exact lv_aload_nN hx hb hd rfl (jld_at hl hq) (kk ls hl)
    · cases h
  · split at h
    · split at h
      · rename_i hn; cases h; exact lv_istore hx hb hd hl hn (by rw [jst1_map]; rfl) kk
      · cases h
    · cases h
  · split at h
    · split at h
      · rename_i hn; cases h; exact lv_istore_n hx hb hd rfl hl hn (by rw [jst1_map]; rfl) kk
      · cases h
    · cases h
  · split at h
    · split at h
      · rename_i hn; cases h; exact lv_lstore hx hb hd hl hn (by rw [jst2_map]; rfl) kk
      · cases h
    · cases h
  · split at h
    · split at h
      · rename_i hn; cases h; exact lv_lstore_n hx hb hd rfl hl hn (by rw [jst2_map]; rfl) kk
      · cases h
    · cases h
  · split at h
    · split at h
      · rename_i hn; cases h; exact lv_astore hx hb hd hl hn (by rw [jst1_map]; rfl) kk
      · cases h
    · split at h
      · rename_i hn; cases h; exact lv_astoreN hx hb hd hl hn (by rw [jst1_map]; rfl) kk
      · cases h
    · cases h
  · split at h
    · split at h
      · rename_i hn; cases h; exact lv_astore_n hx hb hd rfl hl hn (by rw [jst1_map]; rfl) kk
      · cases h
    · split at h
      · rename_i hn; cases h; exact lv_astore_nN hx hb hd rfl hl hn (by rw [jst1_map]; rfl) kk
      · cases h
    · cases h
  · split at h
    · rename_i hq; split at h
      · rename_i hn; cases h
        obtain ⟨k9, hk9⟩ := List.getElem?_of_mem (List.mem_map.mpr ⟨_, jld_mem hq, rfl⟩ : jx_L α _ ∈ lv.map (jx_L α))
        exact lv_iinc hx hb hd hl hk9 rfl hn (by rw [jst1_map]; rfl) kk
      · cases h
    · cases h
  · cases h
end JW3
def jtgt (pc : Nat) (off : Int) : Option Nat := if 0 ≤ (pc : Int) + off then some ((pc : Int) + off).toNat else none
theorem jtgt_eq {pc t : Nat} {off : Int} (h : jtgt pc off = some t) : (pc : Int) + off = (t : Int) := by
  unfold jtgt at h
  split at h
  · cases h; omega
  · cases h
def jbr1 (c : Jvm.ClassFile.Cond) (x : Int32) (t f : Nat) : Nat := match c with
  | .eq => if x = 0 then t else f
  | .ne => if ¬ x = 0 then t else f
  | .lt => if x < 0 then t else f
  | .ge => if 0 ≤ x then t else f
  | .gt => if 0 < x then t else f
  | .le => if x ≤ 0 then t else f
def jbr2 (c : Jvm.ClassFile.Cond) (x y : Int32) (t f : Nat) : Nat := match c with
  | .eq => if x = y then t else f
  | .ne => if ¬ x = y then t else f
  | .lt => if x < y then t else f
  | .ge => if y ≤ x then t else f
  | .gt => if y < x then t else f
  | .le => if x ≤ y then t else f
def jsw (pc : Nat) (dflt lo hi : Int) (offs : Array Int) (x : Int32) : Option Nat := if x.toInt < lo ∨ hi < x.toInt then jtgt pc dflt else match offs[(x.toInt - lo).toNat]? with
  | some off => jtgt pc off
  | none => none
def jbrA (c : ACond) (x y t f : Nat) : Nat := match c with
  | .eq => if x = y then t else f
  | .ne => if ¬ x = y then t else f
/-- the constants among the references that may be compared -/
def jcmp (x : Nat) : Prop := 1 ≤ x ∧ x < 11
/-- jumps: the new pc and stack -/
def jjmp (i : Instr) (pc len : Nat) (st : List Value) : Option (Nat × List Value) := match i with
  | .goto off => if len = 3 then (jtgt pc off).map (fun t => (t, st)) else none
  | .ifCond c off => match st with
    | .int x :: r => if len = 3 then (jtgt pc off).map (fun t => (jbr1 c x t (pc + 3), r)) else none
    | _ => none
  | .if_icmp c off => match st with
    | .int y :: .int x :: r => if len = 3 then (jtgt pc off).map (fun t => (jbr2 c x y t (pc + 3), r)) else none
    | _ => none
  | .if_acmp c off => match st with
    | .ref y :: .ref x :: r => if len = 3 ∧ (1 ≤ x ∧ x < 11) ∧ (1 ≤ y ∧ y < 11) then (jtgt pc off).map (fun t => (jbrA c x y t (pc + 3), r)) else none
    | _ => none
  | .ifnull off => match st with
    | .null :: r => if len = 3 then (jtgt pc off).map (fun t => (t, r)) else none
    | .ref _ :: r => if len = 3 then some (pc + 3, r) else none
    | _ => none
  | .ifnonnull off => match st with
    | .null :: r => if len = 3 then some (pc + 3, r) else none
    | .ref _ :: r => if len = 3 then (jtgt pc off).map (fun t => (t, r)) else none
    | _ => none
  | .tableswitch d lo hi offs => match st with
    | .int x :: r => (jsw pc d lo hi offs x).map (fun t => (t, r))
    | _ => none
  | .lookupswitch d ps => match st with
    | .int x :: r => if (ps.toList.zip (ps.toList.drop 1)).all (fun (a, next) => a.1 < next.1) = true then (jtgt pc (Op.lookupswitch.offset ps.toList d x.toInt)).map (fun t => (t, r)) else none
    | _ => none
  | _ => none
section JW4
variable {p : Program} {l : Launch} {e : Env} {R : Room} {s : State} {m : MethodId} {args : Array Value} {below : List Frame} {meth : Method} {c : Code} {H : Heap} {locs : List Loc} {cells slots : Nat} {Q : State → Prop} {cc : ByteArray} {pc : Nat} {ls : Array Slot} {α : Nat → Nat}
set_option maxHeartbeats 1000000 in
theorem jjmp_ok (hx : p.tables.exec = Jvm.exec) (hb : c.code = cc) {i : Instr} {st st' : List Value} {len pc' : Nat} (hα : ∀ x y, jcmp x → jcmp y → α x = α y → x = y) (h : jjmp i pc len st = some (pc', st')) (hd : decode cc pc = .ok (i, len)) (k : W p l e R s m args below meth c H locs cells slots Q (F0 m (pc') ls (st'.map (jx_V α)))) : W p l e R s m args below meth c H locs cells slots Q (F0 m (pc) ls (st.map (jx_V α))) := by
  unfold jjmp at h
  split at h
  · split at h
    · rename_i hl3; subst hl3; obtain ⟨t, ht, e1⟩ := Option.map_eq_some_iff.mp h; cases e1; exact lv_goto hx hb hd (jtgt_eq ht) k
    · cases h
  · split at h
    · split at h
      · rename_i hl3; subst hl3; obtain ⟨t, ht, e1⟩ := Option.map_eq_some_iff.mp h; cases e1
        revert hd k
        cases ‹Jvm.ClassFile.Cond› <;> intro hd k <;> unfold jbr1 at k <;> dsimp only at k
        · exact lv_if_eq hx hb hd (jtgt_eq ht) (fun q => by rw [if_pos q] at k; exact k) (fun q => by rw [if_neg q] at k; exact k)
        · exact lv_if_ne hx hb hd (jtgt_eq ht) (fun q => by rw [if_pos q] at k; exact k) (fun q => by rw [if_neg (not_not_intro q)] at k; exact k)
        · exact lv_if_lt hx hb hd (jtgt_eq ht) (fun q => by rw [if_pos q] at k; exact k) (fun q => by rw [if_neg q] at k; exact k)
        · exact lv_if_ge hx hb hd (jtgt_eq ht) (fun q => by rw [if_pos q] at k; exact k) (fun q => by rw [if_neg q] at k; exact k)
        · exact lv_if_gt hx hb hd (jtgt_eq ht) (fun q => by rw [if_pos q] at k; exact k) (fun q => by rw [if_neg q] at k; exact k)
        · exact lv_if_le hx hb hd (jtgt_eq ht) (fun q => by rw [if_pos q] at k; exact k) (fun q => by rw [if_neg q] at k; exact k)
      · cases h
    · cases h
  · split at h
    · split at h
      · rename_i hl3; subst hl3; obtain ⟨t, ht, e1⟩ := Option.map_eq_some_iff.mp h; cases e1
        revert hd k
        cases ‹Jvm.ClassFile.Cond› <;> intro hd k <;> unfold jbr2 at k <;> dsimp only at k
        · exact lv_icmp_eq hx hb hd (jtgt_eq ht) (fun q => by rw [if_pos q] at k; exact k) (fun q => by rw [if_neg q] at k; exact k)
        · exact lv_icmp_ne hx hb hd (jtgt_eq ht) (fun q => by rw [if_pos q] at k; exact k) (fun q => by rw [if_neg (not_not_intro q)] at k; exact k)
        · exact lv_icmp_lt hx hb hd (jtgt_eq ht) (fun q => by rw [if_pos q] at k; exact k) (fun q => by rw [if_neg q] at k; exact k)
        · exact lv_icmp_ge hx hb hd (jtgt_eq ht) (fun q => by rw [if_pos q] at k; exact k) (fun q => by rw [if_neg q] at k; exact k)
        · exact lv_icmp_gt hx hb hd (jtgt_eq ht) (fun q => by rw [if_pos q] at k; exact k) (fun q => by rw [if_neg q] at k; exact k)
        · exact lv_icmp_le hx hb hd (jtgt_eq ht) (fun q => by rw [if_pos q] at k; exact k) (fun q => by rw [if_neg q] at k; exact k)
      · cases h
    · cases h
  · split at h
    · split at h
      · rename_i hl3; obtain ⟨hl3, hc1, hc2⟩ := hl3; subst hl3; obtain ⟨t, ht, e1⟩ := Option.map_eq_some_iff.mp h; cases e1
        revert hd k
        cases ‹ACond› <;> intro hd k <;> unfold jbrA at k <;> dsimp only at k
        · exact lv_acmp_eq (rx := some (α _)) (ry := some (α _)) hx hb hd (jtgt_eq ht) (fun q => by rw [if_pos (hα _ _ hc1 hc2 (Option.some.inj q))] at k; exact k) (fun q => by rw [if_neg (fun z => q (by rw [z]))] at k; exact k)
        · exact lv_acmp_ne (rx := some (α _)) (ry := some (α _)) hx hb hd (jtgt_eq ht) (fun q => by rw [if_pos (fun z => q (by rw [z]))] at k; exact k) (fun q => by rw [if_neg (not_not_intro (hα _ _ hc1 hc2 (Option.some.inj q)))] at k; exact k)
      · cases h
    · cases h
  · split at h
    · split at h
      · rename_i hl3; subst hl3; obtain ⟨t, ht, e1⟩ := Option.map_eq_some_iff.mp h; cases e1; exact lv_ifnullN hx hb hd (jtgt_eq ht) k
      · cases h
    · split at h
      · rename_i hl3; subst hl3; cases h; exact lv_ifnull hx hb hd k
      · cases h
    · cases h
  · split at h
    · split at h
      · rename_i hl3; subst hl3; cases h; exact lv_ifnonnullN hx hb hd k
      · cases h
    · split at h
      · rename_i hl3; subst hl3; obtain ⟨t, ht, e1⟩ := Option.map_eq_some_iff.mp h; cases e1; exact lv_ifnonnull hx hb hd (jtgt_eq ht) k
      · cases h
    · cases h
  · split at h
    · obtain ⟨t, ht, e1⟩ := Option.map_eq_some_iff.mp h; cases e1
      unfold jsw at ht
      split at ht
      · rename_i hq; exact lv_tableOut hx hb hd hq (jtgt_eq ht) k
      · rename_i hq; split at ht
        · rename_i off hoff; exact lv_tableIn hx hb hd (fun z => hq (Or.inl z)) (fun z => hq (Or.inr z)) hoff (jtgt_eq ht) k
        · cases ht
    · cases h
  · split at h
    · split at h
      · rename_i hps; obtain ⟨t, ht, e1⟩ := Option.map_eq_some_iff.mp h; cases e1; exact lv_lookup hx hb hd hps rfl (jtgt_eq ht) k
      · cases h
    · cases h
  · cases h
end JW4
end
section
/-! words that read or write the heap -/
/-- tables, by class number and pool index: a field (class number, slot, kind), a class to make (class number, its first fields), a static, a constant -/
abbrev jG : Type := (Nat → Nat → Option (Nat × Nat × Nat)) × (Nat → Nat → Option (Nat × List Value)) × (Nat → Nat → Option Value) × (Nat → Nat → Option Value)
/-- kinds: 0 int, 1 reference, 2 boolean, 3 long -/
def jfit (kd : Nat) (v : Value) : Bool := match kd, v with
  | 0, .int _ => true
  | 1, .ref _ => true
  | 1, .null => true
  | 2, .int x => decide (x = 0) || decide (x = 1)
  | 3, .long _ => true
  | _, _ => false
def jnewa (at' : ArrayType) (N : Nat) : Option jC := match at' with
  | .int => some (.inl (.int, N, .inl (fun _ => 0)))
  | .char => some (.inl (.char, N, .inl (fun _ => 0)))
  | .long => some (.inl (.long, N, .inr (.inl (fun _ => 0))))
  | _ => none
def jatok : FieldType → Bool
  | .int => true
  | .char => true
  | .long => true
  | _ => false
theorem jat_of {ty : FieldType} (h : jatok ty = true) : ∃ (at' : ArrayType) (c : jC), newarray.typeOf at' = ty ∧ jnewa at' 0 = some c := by
  unfold jatok at h
  split at h
  · exact ⟨.int, _, rfl, rfl⟩
  · exact ⟨.char, _, rfl, rfl⟩
  · exact ⟨.long, _, rfl, rfl⟩
  · cases h
def jhp (G : jG) (K cn : Nat) (ini : Bool) (i : Instr) (st : List Value) (h : jH) : Option (List Value × jH × Nat) := match i with
  | .getfield idx => match st with
    | .ref a :: r => match G.1 cn idx with
      | some (ci, k, _) => match h[a]? with
        | some (.inr (cj, fs)) => if cj = ci ∧ K ≤ a then match fs[k]? with
          | some v => some (v :: r, h, 3)
          | none => none
          else none
        | _ => none
      | none => none
    | _ => none
  | .putfield idx => match st with
    | v :: .ref a :: r => match G.1 cn idx with
      | some (ci, k, kd) => match h[a]? with
        | some (.inr (cj, fs)) => if cj = ci ∧ K ≤ a ∧ k < fs.length ∧ jfit (kd % 10) v = true ∧ (kd < 10 ∨ ini = true) then some (r, h.set a (.inr (ci, fs.set k v)), 3) else none
        | _ => none
      | none => none
    | _ => none
  | .getstatic idx => match G.2.2.1 cn idx with
    | some v => some (v :: st, h, 3)
    | none => none
  | .ldc idx => match G.2.2.2 cn idx with
    | some (.int x) => some (.int x :: st, h, 2)
    | some (.ref a) => some (.ref a :: st, h, 2)
    | _ => none
  | .ldc_w idx => match G.2.2.2 cn idx with
    | some (.int x) => some (.int x :: st, h, 3)
    | _ => none
  | .ldc2_w idx => match G.2.2.2 cn idx with
    | some (.long x) => some (.long x :: st, h, 3)
    | _ => none
  | .new idx => match G.2.1 cn idx with
    | some (ci, fs) => some (.ref h.length :: st, h ++ [.inr (ci, fs)], 3)
    | none => none
  | .newarray at' => match st with
    | .int n :: r => if n < 0 ∨ 60000000 < n.toNatClampNeg then none else match jnewa at' n.toNatClampNeg with
      | some c => some (.ref h.length :: r, h ++ [c], 2)
      | none => none
    | _ => none
  | .arraylength => match st with
    | .ref a :: r => match h[a]? with
      | some (.inl (ty, n, _)) => if jatok ty = true then some (.int (Int32.ofNat n) :: r, h, 1) else none
      | _ => none
    | _ => none
  | .iaload => match st with
    | .int j :: .ref a :: r => match h[a]? with
      | some (.inl (.int, n, .inl f)) => if j < 0 ∨ n ≤ j.toNatClampNeg then none else some (.int (f j.toNatClampNeg) :: r, h, 1)
      | _ => none
    | _ => none
  | .caload => match st with
    | .int j :: .ref a :: r => match h[a]? with
      | some (.inl (.char, n, .inl f)) => if j < 0 ∨ n ≤ j.toNatClampNeg then none else some (.int (f j.toNatClampNeg) :: r, h, 1)
      | _ => none
    | _ => none
  | .laload => match st with
    | .int j :: .ref a :: r => match h[a]? with
      | some (.inl (.long, n, .inr (.inl f))) => if j < 0 ∨ n ≤ j.toNatClampNeg then none else some (.long (f j.toNatClampNeg) :: r, h, 1)
      | _ => none
    | _ => none
  | .iastore => match st with
    | .int x :: .int j :: .ref a :: r => match h[a]? with
      | some (.inl (.int, n, .inl f)) => if (j < 0 ∨ n ≤ j.toNatClampNeg) ∨ a < K then none else some (r, h.set a (.inl (.int, n, .inl (upd f j.toNatClampNeg x))), 1)
      | _ => none
    | _ => none
  | .castore => match st with
    | .int x :: .int j :: .ref a :: r => match h[a]? with
      | some (.inl (.char, n, .inl f)) => if (j < 0 ∨ n ≤ j.toNatClampNeg) ∨ a < K then none else some (r, h.set a (.inl (.char, n, .inl (upd f j.toNatClampNeg (vp_nar .char x)))), 1)
      | _ => none
    | _ => none
  | .lastore => match st with
    | .long x :: .int j :: .ref a :: r => match h[a]? with
      | some (.inl (.long, n, .inr (.inl f))) => if (j < 0 ∨ n ≤ j.toNatClampNeg) ∨ a < K then none else some (r, h.set a (.inl (.long, n, .inr (.inl (vp_updL f j.toNatClampNeg x)))), 1)
      | _ => none
    | _ => none
  | _ => none
/-- the heap's list and the machine's heap: the first K entries are what was there before (the script, constants), the rest what has been made, from sz on -/
def jRel (D : va_G) (cl : List vw_C) (α : Nat → Nat) (dA : FieldType → ClassId) (K sz : Nat) (h : jH) (s : State) (H : Heap) (locs : List Loc) : Prop :=
  K ≤ h.length ∧ va_P D cl (jx_ws α dA K h) H ∧ va_S (fun q => sz ≤ q) s.heap H locs
theorem jx_ws_at {α : Nat → Nat} {dA : FieldType → ClassId} {K sz i : Nat} (hα : ∀ j, α (K + j) = sz + j) {h : jH} {q : Nat × va_E} (hq : (jx_ws α dA K h)[i]? = some q) : q.1 = sz + i := by
  unfold jx_ws at hq
  rw [List.getElem?_mapIdx] at hq
  obtain ⟨c, -, e⟩ := Option.map_eq_some_iff.mp hq
  rw [← e]
  exact hα i
theorem jx_D {α : Nat → Nat} {dA : FieldType → ClassId} {K sz : Nat} (hα : ∀ j, α (K + j) = sz + j) (h : jH) : va_D (fun q => sz ≤ q) (jx_ws α dA K h) := by
  refine ⟨fun i j p q hi hj hpq => ?_, fun k q hk => ?_⟩
  · have h1 := jx_ws_at hα hi
    have h2 := jx_ws_at hα hj
    omega
  · have h1 := jx_ws_at hα hk
    show sz ≤ q.1
    omega
theorem jRel.size {D : va_G} {cl : List vw_C} {α : Nat → Nat} {dA : FieldType → ClassId} {K sz : Nat} {h : jH} {s : State} {H : Heap} {locs : List Loc} (hR : jRel D cl α dA K sz h s H locs) (hα : ∀ j, α (K + j) = sz + j) (hs : sz ≤ s.heap.size) (hub : H.size ≤ sz + (h.length - K)) : H.size = sz + (h.length - K) := by
  obtain ⟨hK, hP, hS⟩ := hR
  by_cases hl : h.length = K
  · have := hS.1
    omega
  · obtain ⟨c, hc⟩ : ∃ c, h[h.length - 1]? = some c := ⟨h[h.length - 1]'(by omega), List.getElem?_eq_getElem (by omega)⟩
    have h1 := (hP _ _ (jx_ws_get (α := α) (dA := dA) hc (by omega : K ≤ h.length - 1))).lt
    have h2 : α (h.length - 1) = sz + (h.length - 1 - K) := by rw [← hα]; congr 1; omega
    have h3 : α (h.length - 1) < H.size := h1
    omega
/-- what a class's field link means -/
def jFok (SP : State → Prop) (TB : List Jvm.Cond) (cl : List vw_C) (own : String) (idx ci k kd : Nat) : Prop :=
  ∃ (C : String) (T : u_T) (N : Nat) (ty : Nat → FieldType), cl[ci]? = some (C, T, N) ∧ k < N ∧ (∀ w ∈ u_ws C T N, w ∈ TB) ∧ (∀ j, j < N → parseFieldDescriptor (T j).2.2.1 = some (ty j)) ∧
    (∀ a, a < N → ∀ b, b < N → a ≠ b → (T a).2.1 ≠ (T b).2.1) ∧ (Jvm.Cond.fieldLink own idx (T k).1 (T k).2.1 (T k).2.2.1 ∈ TB ∨ (kd < 10 ∧ ∃ host, ∀ s, SP s → va_Nw (.fieldLinkNest own idx (T k).1 (T k).2.1 (T k).2.2.1 host) s)) ∧
    (kd < 10 → (T k).2.2.2 = false) ∧ (¬ kd < 10 → (T k).2.2.2 = true ∧ (T k).1 = own) ∧
    (kd % 10 = 0 → ty k = .int) ∧ (kd % 10 = 1 → (∃ n, ty k = .object n) ∨ ∃ t, ty k = .array t) ∧ (kd % 10 = 2 → ty k = .boolean) ∧ (kd % 10 = 3 → ty k = .long)
theorem jfit_ok {α : Nat → Nat} {kd : Nat} {v : Value} {ty : FieldType} (h : jfit kd v = true) (h0 : kd = 0 → ty = .int) (h1 : kd = 1 → (∃ n, ty = .object n) ∨ ∃ t, ty = .array t) (h2 : kd = 2 → ty = .boolean) (h3 : kd = 3 → ty = .long) :
    narrow ty (jx_V α v) = jx_V α v ∧ fits ty (jx_V α v) = true := by
  unfold jfit at h
  split at h
  · rw [h0 rfl]; exact ⟨rfl, rfl⟩
  · rcases h1 rfl with ⟨n, e⟩ | ⟨t, e⟩ <;> rw [e] <;> exact ⟨rfl, rfl⟩
  · rcases h1 rfl with ⟨n, e⟩ | ⟨t, e⟩ <;> rw [e] <;> exact ⟨rfl, rfl⟩
  · rw [h2 rfl]
    simp only [Bool.or_eq_true, decide_eq_true_eq] at h
    rcases h with rfl | rfl
    · exact ⟨rfl, rfl⟩
    · exact ⟨rfl, rfl⟩
  · rw [h3 rfl]; exact ⟨rfl, rfl⟩
  · cases h
section JH
variable {p : Program} {l : Launch} {e : Env} {R : Room} {s : State} {m : MethodId} {args : Array Value} {below : List Frame} {meth : Method} {c : Code} {H : Heap} {locs : List Loc} {cells slots : Nat} {Q : State → Prop} {cc : ByteArray} {pc : Nat} {ls : Array Slot}
variable {D : va_G} {cl : List vw_C} {tys : List (ClassId × FieldType)} {α : Nat → Nat} {dA : FieldType → ClassId} {K sz : Nat} {TB : List Jvm.Cond} {own : String} {h : jH} {r : List Value}
theorem W.jsized {g : JFrame} (k : H.size ≤ s.heap.size + cells → W p l e R s m args below meth c H locs cells slots Q g) : W p l e R s m args below meth c H locs cells slots Q g :=
  fun T hT X => k (by rw [← hT]; exact X.heapSize) T hT X
theorem jget_ok (hx : p.tables.exec = Jvm.exec) (hb : c.code = cc) (hts : ∀ w ∈ TB, w.before args s = true) (hown : s.vm.findClass own = some m.cls) (hK : va_K D cl tys s) (hR : jRel D cl α dA K sz h s H locs) {idx ci k kd a : Nat} {fs : List Value} {v : Value}
    {SP : State → Prop} (hSP : SP s) (hF : jFok SP TB cl own idx ci k kd) (ha : h[a]? = some (.inr (ci, fs))) (hKa : K ≤ a) (hv : fs[k]? = some v) (hd : decode cc pc = .ok (.getfield idx, 3)) (kk : W p l e R s m args below meth c H locs cells slots Q (F0 m (pc + 3) ls (jx_V α v :: r))) :
    W p l e R s m args below meth c H locs cells slots Q (F0 m pc ls (.ref (α a) :: r)) := by
  obtain ⟨C, T, N, ty, hc, hk, hin, -, -, hlk, -⟩ := hF
  rcases hlk with hlk | ⟨-, host, hlk⟩
  · exact va_get (D := D) hx hb hts hin hown hK hR.2.1 (a - K) (jx_ws_get ha hKa) hc k hk (hts _ hlk) (fun _ h9 => h9) (by rw [List.getElem?_map, hv]; rfl) hd kk
  · exact va_getN (D := D) hx hb hts hin hown hK hR.2.1 (a - K) (jx_ws_get ha hKa) hc k hk (va_Nw.use rfl (hlk s hSP)) (fun _ h9 => h9) (by rw [List.getElem?_map, hv]; rfl) hd kk
theorem jRel_set {H1 : Heap} {locs1 : List Loc} (hR : jRel D cl α dA K sz h s H locs) {a : Nat} {c1 : jC} {e1 : va_E} (hKa : K ≤ a) (he : jx_E α dA c1 = e1) (hP : va_P D cl ((jx_ws α dA K h).set (a - K) (α a, e1)) H1) (hS : va_S (fun q => sz ≤ q) s.heap H1 locs1) : jRel D cl α dA K sz (h.set a c1) s H1 locs1 :=
  ⟨by rw [List.length_set]; exact hR.1, by rw [jx_ws_set hKa, he]; exact hP, hS⟩
theorem jput_ok (hx : p.tables.exec = Jvm.exec) (hb : c.code = cc) (hts : ∀ w ∈ TB, w.before args s = true) (hown : s.vm.findClass own = some m.cls) (hK : va_K D cl tys s) (hα : ∀ j, α (K + j) = sz + j) (hR : jRel D cl α dA K sz h s H locs) {idx ci k kd a : Nat} {fs : List Value} {v : Value}
    {SP : State → Prop} (hSP : SP s) (hF : jFok SP TB cl own idx ci k kd) (ha : h[a]? = some (.inr (ci, fs))) (hKa : K ≤ a) (hkl : k < fs.length) (hfit : jfit (kd % 10) v = true) (hini : kd < 10 ∨ meth.name = "<init>") (hd : decode cc pc = .ok (.putfield idx, 3))
    (kk : ∀ (H1 : Heap) (locs1 : List Loc), jRel D cl α dA K sz (h.set a (.inr (ci, fs.set k v))) s H1 locs1 → W p l e R s m args below meth c H1 locs1 cells slots Q (F0 m (pc + 3) ls r)) :
    W p l e R s m args below meth c H locs cells slots Q (F0 m pc ls (jx_V α v :: .ref (α a) :: r)) := by
  obtain ⟨C, T, N, ty, hc, hk, hin, hty, hnm, hlk, hf1, hf2, t0, t1, t2, t3⟩ := hF
  obtain ⟨hn, hft⟩ := jfit_ok (α := α) hfit t0 t1 t2 t3
  have hE : jx_E α dA (.inr (ci, fs.set k v)) = .inr (ci, (fs.map (jx_V α)).set k (jx_V α v)) := by
    show Sum.inr (ci, (fs.set k v).map (jx_V α)) = _
    rw [List.map_set]
  by_cases hkd : kd < 10
  · rcases hlk with hlk | ⟨-, host, hlk⟩
    · exact va_put (D := D) hx hb hts hin ty hty hnm hown hK hR.2.1 (jx_D hα h) hR.2.2 (a - K) (jx_ws_get ha hKa) hc k hk (hts _ hlk) (fun _ h9 => h9) (hf1 hkd) (hty k hk) hn hft (by rw [List.length_map]; exact hkl) hd
        (fun H1 locs1 q1 _ q3 => kk H1 locs1 (jRel_set hR hKa hE q1 q3))
    · exact va_putN (D := D) hx hb hts hin ty hty hnm hown hK hR.2.1 (jx_D hα h) hR.2.2 (a - K) (jx_ws_get ha hKa) hc k hk (va_Nw.use rfl (hlk s hSP)) (fun _ h9 => h9) (hf1 hkd) (hty k hk) hn hft (by rw [List.length_map]; exact hkl) hd
        (fun H1 locs1 q1 _ q3 => kk H1 locs1 (jRel_set hR hKa hE q1 q3))
  · have hlk := hlk.resolve_right (fun z => hkd z.1)
    exact va_putF (D := D) hx hb hts hin ty hty hnm hown hK hR.2.1 (jx_D hα h) hR.2.2 (a - K) (jx_ws_get ha hKa) hc k hk (hts _ hlk) (fun _ h9 => h9) (hf2 hkd).1 (hini.resolve_left hkd) (hf2 hkd).2 (hty k hk) hn hft (by rw [List.length_map]; exact hkl) hd
        (fun H1 locs1 q1 _ q3 => kk H1 locs1 (jRel_set hR hKa hE q1 q3))
/-- arrays -/
def jTy (tys : List (ClassId × FieldType)) (dA : FieldType → ClassId) (ty : FieldType) : Prop := ∃ t0 : Nat, tys[t0]? = some (dA ty, ty)
theorem jiald (hx : p.tables.exec = Jvm.exec) (hb : c.code = cc) (hK : va_K D cl tys s) (ht : jTy tys dA .int) (hR : jRel D cl α dA K sz h s H locs) {a n : Nat} {f : Nat → Int32} {j : Int32}
    (ha : h[a]? = some (.inl (.int, n, .inl f))) (hKa : K ≤ a) (hj : ¬ (j < 0 ∨ n ≤ j.toNatClampNeg)) (hd : decode cc pc = .ok (.iaload, 1)) (kk : W p l e R s m args below meth c H locs cells slots Q (F0 m (pc + 1) ls (.int (f j.toNatClampNeg) :: r))) :
    W p l e R s m args below meth c H locs cells slots Q (F0 m pc ls (.int j :: .ref (α a) :: r)) := by
  obtain ⟨t0, ht⟩ := ht
  exact va_iald hx hb hK hR.2.1 (a - K) t0 (jx_ws_get ha hKa) ht hj hd kk
theorem jcald (hx : p.tables.exec = Jvm.exec) (hb : c.code = cc) (hK : va_K D cl tys s) (ht : jTy tys dA .char) (hR : jRel D cl α dA K sz h s H locs) {a n : Nat} {f : Nat → Int32} {j : Int32}
    (ha : h[a]? = some (.inl (.char, n, .inl f))) (hKa : K ≤ a) (hj : ¬ (j < 0 ∨ n ≤ j.toNatClampNeg)) (hd : decode cc pc = .ok (.caload, 1)) (kk : W p l e R s m args below meth c H locs cells slots Q (F0 m (pc + 1) ls (.int (f j.toNatClampNeg) :: r))) :
    W p l e R s m args below meth c H locs cells slots Q (F0 m pc ls (.int j :: .ref (α a) :: r)) := by
  obtain ⟨t0, ht⟩ := ht
  exact va_cald hx hb hK hR.2.1 (a - K) t0 (jx_ws_get ha hKa) ht hj hd kk
theorem jlald (hx : p.tables.exec = Jvm.exec) (hb : c.code = cc) (hK : va_K D cl tys s) (ht : jTy tys dA .long) (hR : jRel D cl α dA K sz h s H locs) {a n : Nat} {f : Nat → Int64} {j : Int32}
    (ha : h[a]? = some (.inl (.long, n, .inr (.inl f)))) (hKa : K ≤ a) (hj : ¬ (j < 0 ∨ n ≤ j.toNatClampNeg)) (hd : decode cc pc = .ok (.laload, 1)) (kk : W p l e R s m args below meth c H locs cells slots Q (F0 m (pc + 1) ls (.long (f j.toNatClampNeg) :: r))) :
    W p l e R s m args below meth c H locs cells slots Q (F0 m pc ls (.int j :: .ref (α a) :: r)) := by
  obtain ⟨t0, ht⟩ := ht
  exact va_lald hx hb hK hR.2.1 (a - K) t0 (jx_ws_get ha hKa) ht hj hd kk
theorem jiast (hx : p.tables.exec = Jvm.exec) (hb : c.code = cc) (hK : va_K D cl tys s) (hα : ∀ j, α (K + j) = sz + j) (ht : jTy tys dA .int) (hR : jRel D cl α dA K sz h s H locs) {a n : Nat} {f : Nat → Int32} {j : Int32} {x : Int32}
    (ha : h[a]? = some (.inl (.int, n, .inl f))) (hKa : K ≤ a) (hj : ¬ (j < 0 ∨ n ≤ j.toNatClampNeg)) (hd : decode cc pc = .ok (.iastore, 1))
    (kk : ∀ (H1 : Heap) (locs1 : List Loc), jRel D cl α dA K sz (h.set a (.inl (.int, n, .inl (upd f j.toNatClampNeg x)))) s H1 locs1 → W p l e R s m args below meth c H1 locs1 cells slots Q (F0 m (pc + 1) ls r)) :
    W p l e R s m args below meth c H locs cells slots Q (F0 m pc ls (.int x :: .int j :: .ref (α a) :: r)) := by
  obtain ⟨t0, ht⟩ := ht
  exact va_iast hx hb hK hR.2.1 (jx_D hα h) hR.2.2 (a - K) t0 (jx_ws_get ha hKa) ht hj hd (fun H1 locs1 q1 _ q3 => kk H1 locs1 (jRel_set hR hKa rfl q1 q3))
theorem jcast (hx : p.tables.exec = Jvm.exec) (hb : c.code = cc) (hK : va_K D cl tys s) (hα : ∀ j, α (K + j) = sz + j) (ht : jTy tys dA .char) (hR : jRel D cl α dA K sz h s H locs) {a n : Nat} {f : Nat → Int32} {j : Int32} {x : Int32}
    (ha : h[a]? = some (.inl (.char, n, .inl f))) (hKa : K ≤ a) (hj : ¬ (j < 0 ∨ n ≤ j.toNatClampNeg)) (hd : decode cc pc = .ok (.castore, 1))
    (kk : ∀ (H1 : Heap) (locs1 : List Loc), jRel D cl α dA K sz (h.set a (.inl (.char, n, .inl (upd f j.toNatClampNeg (vp_nar .char x))))) s H1 locs1 → W p l e R s m args below meth c H1 locs1 cells slots Q (F0 m (pc + 1) ls r)) :
    W p l e R s m args below meth c H locs cells slots Q (F0 m pc ls (.int x :: .int j :: .ref (α a) :: r)) := by
  obtain ⟨t0, ht⟩ := ht
  exact va_cast hx hb hK hR.2.1 (jx_D hα h) hR.2.2 (a - K) t0 (jx_ws_get ha hKa) ht hj hd (fun H1 locs1 q1 _ q3 => kk H1 locs1 (jRel_set hR hKa rfl q1 q3))
theorem jlast (hx : p.tables.exec = Jvm.exec) (hb : c.code = cc) (hK : va_K D cl tys s) (hα : ∀ j, α (K + j) = sz + j) (ht : jTy tys dA .long) (hR : jRel D cl α dA K sz h s H locs) {a n : Nat} {f : Nat → Int64} {j : Int32} {x : Int64}
    (ha : h[a]? = some (.inl (.long, n, .inr (.inl f)))) (hKa : K ≤ a) (hj : ¬ (j < 0 ∨ n ≤ j.toNatClampNeg)) (hd : decode cc pc = .ok (.lastore, 1))
    (kk : ∀ (H1 : Heap) (locs1 : List Loc), jRel D cl α dA K sz (h.set a (.inl (.long, n, .inr (.inl (vp_updL f j.toNatClampNeg x))))) s H1 locs1 → W p l e R s m args below meth c H1 locs1 cells slots Q (F0 m (pc + 1) ls r)) :
    W p l e R s m args below meth c H locs cells slots Q (F0 m pc ls (.long x :: .int j :: .ref (α a) :: r)) := by
  obtain ⟨t0, ht⟩ := ht
  exact va_last hx hb hK hR.2.1 (jx_D hα h) hR.2.2 (a - K) t0 (jx_ws_get ha hKa) ht hj hd (fun H1 locs1 q1 _ q3 => kk H1 locs1 (jRel_set hR hKa rfl q1 q3))
theorem jx_A_len {α : Nat → Nat} (x : vp_A) : (jx_A α x).1 = x.1 := by
  unfold jx_A
  split <;> rfl
theorem jalen (hx : p.tables.exec = Jvm.exec) (hb : c.code = cc) (hK : va_K D cl tys s) {ty : FieldType} (ht : jTy tys dA ty) (hR : jRel D cl α dA K sz h s H locs) {a : Nat} {x : vp_A}
    (ha : h[a]? = some (.inl (ty, x))) (hKa : K ≤ a) (hd : decode cc pc = .ok (.arraylength, 1)) (kk : W p l e R s m args below meth c H locs cells slots Q (F0 m (pc + 1) ls (.int (Int32.ofNat x.1) :: r))) :
    W p l e R s m args below meth c H locs cells slots Q (F0 m pc ls (.ref (α a) :: r)) := by
  obtain ⟨t0, ht⟩ := ht
  exact va_alen hx hb hK hR.2.1 (a - K) t0 (jx_ws_get ha hKa) ht (by rw [jx_A_len]) hd kk
/-- a class that can be made -/
def jNok (TB : List Jvm.Cond) (cl : List vw_C) (own : String) (idx ci : Nat) (fs : List Value) : Prop :=
  ∃ (C : String) (T : u_T) (N : Nat) (ty : Nat → FieldType), cl[ci]? = some (C, T, N) ∧ fs.length = N ∧ (∀ w ∈ u_ws C T N, w ∈ TB) ∧ (∀ j, j < N → parseFieldDescriptor (T j).2.2.1 = some (ty j)) ∧
    Jvm.Cond.classLink own idx C ∈ TB ∧ Jvm.Cond.instantiable C N ∈ TB ∧ Jvm.Cond.initialized C ∈ TB ∧ (∀ j, j < N → defaultValue (ty j) = vp_V fs j) ∧ (∀ v ∈ fs, ∀ a, v ≠ .ref a)
theorem jx_V_noref {α : Nat → Nat} {fs : List Value} (h : ∀ v ∈ fs, ∀ a, v ≠ .ref a) : fs.map (jx_V α) = fs := by
  have h1 : fs.map (jx_V α) = fs.map id := List.map_congr_left (fun v hv => by
    cases v with
    | ref a => exact absurd rfl (h _ hv a)
    | _ => rfl)
  rw [h1, List.map_id]
theorem jRel_push {H1 : Heap} (hR : jRel D cl α dA K sz h s H locs) (hsz : sz ≤ s.heap.size) {c1 : jC} (hz : H.size = α h.length) (hz1 : H1.size = H.size + 1) (ho : ∀ q, q < H.size → H1[q]? = H[q]?) (hn : va_at D cl (α h.length, jx_E α dA c1) H1) : jRel D cl α dA K sz (h ++ [c1]) s H1 locs := by
  obtain ⟨hK, hP, hS⟩ := hR
  refine ⟨by rw [List.length_append]; omega, ?_, ⟨by have := hS.1; omega, fun q h1 h2 => (ho q (Nat.lt_of_lt_of_le h1 hS.1)).trans (hS.2.1 q h1 h2), hS.2.2⟩⟩
  rw [jx_ws_push hK]
  refine (hP.kept (fun k x hx => ho x.1 ((hP k x hx).lt))).app (fun k x hx => ?_)
  have hk : k < 1 := (List.getElem?_eq_some_iff.mp hx).1
  rw [show k = 0 by omega] at hx
  cases hx
  exact hn
theorem jnew_ok (hx : p.tables.exec = Jvm.exec) (hb : c.code = cc) (hts : ∀ w ∈ TB, w.before args s = true) (hown : s.vm.findClass own = some m.cls) (hK : va_K D cl tys s) (hsz : sz ≤ s.heap.size) (hR : jRel D cl α dA K sz h s H locs) (hz : H.size = α h.length) {idx ci : Nat} {fs : List Value}
    (hN : jNok TB cl own idx ci fs) (hcells : cells + 1 ≤ R.cells) (hslots : slots + fs.length ≤ R.slots) (hd : decode cc pc = .ok (.new idx, 3))
    (kk : ∀ H1 : Heap, jRel D cl α dA K sz (h ++ [.inr (ci, fs)]) s H1 locs → W p l e R s m args below meth c H1 locs (cells + 1) (slots + fs.length) Q (F0 m (pc + 3) ls (.ref (α h.length) :: r))) :
    W p l e R s m args below meth c H locs cells slots Q (F0 m pc ls r) := by
  obtain ⟨C, T, N, ty, hc, rfl, hin, hty, h1, h2, h3, h4, h5⟩ := hN
  have hKn := hK.1 ci _ hc
  refine W.newcK hx hb hown (hts _ h1) (hts _ h2) (hts _ h3) rfl hd hcells hslots hKn.2.1 hz fun H1 kC hkC e1 z1 o1 => ?_
  refine kk H1 (jRel_push hR hsz hz (by rw [z1, hz]) (fun q hq => o1 q (by rw [← hz]; exact hq)) ?_)
  show ∃ r : vw_C, cl[ci]? = some r ∧ t_OB (α h.length) (D.1 ci) r.2.2 (D.2 ci) H1 (vp_V (fs.map (jx_V α)))
  rw [jx_V_noref h5]
  exact ⟨_, hc, (u_born ty hts hin hKn hkC e1 hty).to h4⟩
theorem jnewa_ok (hx : p.tables.exec = Jvm.exec) (hb : c.code = cc) (hts : ∀ w ∈ TB, w.before args s = true) (hK : va_K D cl tys s) (hsz : sz ≤ s.heap.size) (hR : jRel D cl α dA K sz h s H locs) (hz : H.size = α h.length) {at' : ArrayType} {n : Int32} {c1 : jC}
    (ht : jTy tys dA (newarray.typeOf at')) (hA : Jvm.Cond.arrayClass (newarray.typeOf at') ∈ TB) (hc1 : jnewa at' n.toNatClampNeg = some c1) (hn : ¬ n < 0) (hb2 : ¬ 60000000 < n.toNatClampNeg) (hcells : cells + 1 ≤ R.cells) (hslots : slots + n.toNatClampNeg ≤ R.slots) (hd : decode cc pc = .ok (.newarray at', 2))
    (kk : ∀ H1 : Heap, jRel D cl α dA K sz (h ++ [c1]) s H1 locs → W p l e R s m args below meth c H1 locs (cells + 1) (slots + n.toNatClampNeg) Q (F0 m (pc + 2) ls (.ref (α h.length) :: r))) :
    W p l e R s m args below meth c H locs cells slots Q (F0 m pc ls (.int n :: r)) := by
  obtain ⟨t0, ht⟩ := ht
  have hcb : componentBytes (newarray.typeOf at') ≤ 8 := by cases at' <;> decide
  refine va_newaK hx hb (hts _ hA) rfl hd rfl hn rfl (by have := Nat.mul_le_mul (Nat.le_of_not_lt hb2) hcb; omega) hcells hslots hz fun H1 cA e1 z1 o1 hAr hNm => ?_
  refine kk H1 (jRel_push hR hsz hz (by rw [z1, hz]) (fun q hq => o1 q (by rw [← hz]; exact hq)) ?_)
  have hRA := (hK.2 t0 _ ht).2
  unfold jnewa at hc1
  cases at' <;> first
    | (cases hc1; done)
    | (cases hc1
       have hcA : cA = dA _ := Option.some.inj (hNm.symm.trans hRA)
       subst hcA
       exact e1)
theorem jgets_ok (hx : p.tables.exec = Jvm.exec) (hb : c.code = cc) (hts : ∀ w ∈ TB, w.before args s = true) (hown : s.vm.findClass own = some m.cls) (hR : jRel D cl α dA K sz h s H locs) {idx : Nat} {C n d : String} {v : Value} (hZ : va_Z C n d (jx_V α v) (fun q => sz ≤ q) s s.heap) (hlk : Jvm.Cond.fieldLink own idx C n d ∈ TB)
    (hd : decode cc pc = .ok (.getstatic idx, 3)) (kk : W p l e R s m args below meth c H locs cells slots Q (F0 m (pc + 3) ls (jx_V α v :: r))) : W p l e R s m args below meth c H locs cells slots Q (F0 m pc ls r) :=
  va_gets hx hb hZ hR.2.2 hown (hts _ hlk) (fun _ h9 => h9) hd kk
end JH
end
section
/-! the small machine's run -/
/-- a method: its name, bytes, locals, answer's type, class number, whether it makes an object, its words by place, its handlers (from, to, handler, class numbers caught) -/
abbrev jM : Type := MethodName × ByteArray × Nat × Option FieldType × Nat × Bool × (Nat → Option (Instr × Nat)) × List ((Nat × Nat × Nat × Nat) × List Nat)
/-- a call by class number and pool index: kind (0 on an object, 1 making, 2 static, 3 Object's own making), method, how many arguments with the object, class number of the object -/
abbrev jL : Type := Nat → Nat → Option (Nat × Nat × Nat × Nat)
def jsz : jC → Nat
  | .inl (_, n, _) => n
  | .inr (_, fs) => fs.length
def jtot (h : jH) : Nat := (h.map jsz).sum
def jstep (G : jG) (K cn nL : Nat) (ini : Bool) (i : Instr) (len pc : Nat) (lv : List (Nat × Value)) (st : List Value) (h : jH) : Option jS :=
  match jstk i st with
  | some (st', k) => if k = len then some (pc + len, lv, st', h) else none
  | none => match jloc i nL lv st with
    | some (lv', st', k) => if k = len then some (pc + len, lv', st', h) else none
    | none => match jjmp i pc len st with
      | some (pc', st') => some (pc', lv, st', h)
      | none => match jhp G K cn ini i st h with
        | some (st', h', k) => if k = len then some (pc + len, lv, st', h') else none
        | none => none
def jend (ret : Option FieldType) (i : Instr) (len : Nat) (st : List Value) : Option (Option Value) := match i with
  | .ireturn => match st, ret with
    | [.int v], some .int => if len = 1 then some (some (.int v)) else none
    | [.int v], some .boolean => if len = 1 ∧ (v = 0 ∨ v = 1) then some (some (.int v)) else none
    | _, _ => none
  | .lreturn => match st, ret with
    | [.long v], some .long => if len = 1 then some (some (.long v)) else none
    | _, _ => none
  | .areturn => match st, ret with
    | [.ref a], some (.object _) => if len = 1 then some (some (.ref a)) else none
    | [.null], some (.object _) => if len = 1 then some (some .null) else none
    | [.ref a], some (.array _) => if len = 1 then some (some (.ref a)) else none
    | [.null], some (.array _) => if len = 1 then some (some .null) else none
    | _, _ => none
  | .return_ => match st, ret with
    | [], none => if len = 1 then some none else none
    | _, _ => none
  | _ => none
/-- the call that stands here: kind, method, arguments, what stays on the stack -/
def jcall (gM : jL) (K cn : Nat) (i : Instr) (len : Nat) (st : List Value) (h : jH) : Option (Nat × Nat × List Value × List Value) := match i with
  | .invokevirtual idx => match gM cn idx with
    | some (0, z, n, ci) => if len = 3 ∧ n ≤ st.length then match (st.take n).reverse with
      | .ref b :: _ => match h[b]? with
        | some (.inr (cj, _)) => if cj = ci ∧ K ≤ b then some (0, z, (st.take n).reverse, st.drop n) else none
        | _ => none
      | _ => none
      else none
    | _ => none
  | .invokespecial idx => match gM cn idx with
    | some (1, z, n, _) => if len = 3 ∧ n ≤ st.length then match (st.take n).reverse with
      | .ref _ :: _ => some (1, z, (st.take n).reverse, st.drop n)
      | _ => none
      else none
    | some (4, z, n, _) => if len = 3 ∧ n ≤ st.length then match (st.take n).reverse with
      | .ref _ :: _ => some (4, z, (st.take n).reverse, st.drop n)
      | _ => none
      else none
    | some (3, _, _, _) => match st with
      | .ref b :: r => if len = 3 then some (3, 0, [.ref b], r) else none
      | _ => none
    | _ => none
  | .invokestatic idx => match gM cn idx with
    | some (2, z, n, _) => if len = 3 ∧ n ≤ st.length then some (2, z, (st.take n).reverse, st.drop n) else none
    | some (5, _, _, _) => if len = 3 ∧ 5 ≤ st.length then some (5, 0, (st.take 5).reverse, st.drop 5) else none
    | _ => none
  | _ => none
/-- System.arraycopy of ints -/
def jcopy (K : Nat) (as : List Value) (h : jH) : Option jH := match as with
  | [.ref a0, .int sp, .ref a, .int dp, .int n] => match h[a0]?, h[a]? with
    | some (.inl (.int, n0, .inl f)), some (.inl (.int, n1, .inl g)) =>
      if (sp < 0 ∨ dp < 0 ∨ n < 0) ∨ (n0 < sp.toNatClampNeg + n.toNatClampNeg ∨ n1 < dp.toNatClampNeg + n.toNatClampNeg) ∨ a0 < K ∨ a < K then none
      else some (h.set a (.inl (.int, n1, .inl (va_cpy f g sp.toNatClampNeg dp.toNatClampNeg n.toNatClampNeg))))
    | _, _ => none
  | _ => none
def jhand (hs : List ((Nat × Nat × Nat × Nat) × List Nat)) (pc : Nat) (h : jH) (a : Nat) : Option Nat := match h[a]? with
  | some (.inr (ci, _)) => if a < 24 then none else match hs.find? (fun q => decide (q.1.1 ≤ pc ∧ pc < q.1.2.1 ∧ ci ∈ q.2)) with
    | some q => some q.1.2.2.1
    | none => none
  | _ => none
/-- the tables: fields and constants, calls, methods, exceptions (class number, entries of 'new' and of the making) -/
abbrev jT : Type := jG × jL × (Nat → Option jM) × (Nat → Nat → Nat → Option Nat)
/-- 'throw new X(text)' stands here: X's class number -/
def jthr (T : jT) (K : Nat) (M : jM) (i : Instr) (len pc : Nat) (st : List Value) : Option Nat := match i with
  | .new idx => match M.2.2.2.2.2.2.1 (pc + 3), M.2.2.2.2.2.2.1 (pc + 4), M.2.2.2.2.2.2.1 (pc + 6), M.2.2.2.2.2.2.1 (pc + 9), M.2.2.2.2.2.2.2 with
    | some (.dup, 1), some (.ldc k, 2), some (.invokespecial ic, 3), some (.athrow, 1), [] => match T.1.2.2.2 M.2.2.2.2.1 k with
      | some (.ref _) => if len = 3 ∧ (st.map fun v => v.category).sum ≤ 8 then T.2.2.2 M.2.2.2.2.1 idx ic else none
      | _ => none
    | _, _, _, _, _ => none
  | _ => none
abbrev jO : Type := (Option Value ⊕ Nat) × jH
def jbody (T : jT) (K : Nat) (rec : Nat → jM → jS → Option jO) (d : Nat) (M : jM) (s : jS) : Option jO :=
  match M.2.2.2.2.2.2.1 s.1 with
  | none => none
  | some (i, len) =>
    match jstep T.1 K M.2.2.2.2.1 M.2.2.1 M.2.2.2.2.2.1 i len s.1 s.2.1 s.2.2.1 s.2.2.2 with
    | some s' => rec d M s'
    | none =>
      match jend M.2.2.2.1 i len s.2.2.1 with
      | some v => some (.inl v, s.2.2.2)
      | none =>
        match jcall T.2.1 K M.2.2.2.2.1 i len s.2.2.1 s.2.2.2 with
        | some (kd, z, as, r) =>
          match d with
          | 0 => none
          | d' + 1 =>
            if 8 < (r.map fun v => v.category).sum then none else
            if kd = 3 then rec (d' + 1) M (s.1 + 3, s.2.1, r, s.2.2.2) else
            if kd = 5 then match jcopy K as s.2.2.2 with
              | some h' => rec (d' + 1) M (s.1 + 3, s.2.1, r, h')
              | none => none
            else
            match T.2.2.1 z with
            | none => none
            | some Z =>
              if Z.2.2.1 < (lg_sl as).length then none else
              match rec d' Z (0, lv_args 0 as, [], s.2.2.2) with
              | some (.inl v, h') => rec (d' + 1) M (s.1 + 3, s.2.1, v.toList ++ r, h')
              | some (.inr a, h') => match M.2.2.2.2.2.2.2 with
                | [] => some (.inr a, h')
                | b :: hs => match jhand (b :: hs) s.1 h' a with
                  | some q => rec (d' + 1) M (q, s.2.1, [.ref a], h')
                  | none => none
              | none => none
        | none => match jthr T K M i len s.1 s.2.2.1 with
          | some ci => if d < 8 then none else some (.inr s.2.2.2.length, s.2.2.2 ++ [.inr (ci, [.null, .null, .null, .null, .null, .null])])
          | none => none
def jrun (T : jT) (K : Nat) : Nat → Nat → jM → jS → Option jO
  | 0 => fun _ _ _ => none
  | n + 1 => jbody T K (jrun T K n)
theorem jbody_mono {T : jT} {K : Nat} {f g : Nat → jM → jS → Option jO} (hfg : ∀ d M s r, f d M s = some r → g d M s = some r) {d : Nat} {M : jM} {s : jS} {r : jO} (h : jbody T K f d M s = some r) : jbody T K g d M s = some r := by
  unfold jbody at h ⊢
  cases h1 : M.2.2.2.2.2.2.1 s.1 with
  | none => rw [h1] at h; cases h
  | some q =>
    obtain ⟨i, len⟩ := q
    simp only [h1] at h ⊢
    cases h2 : jstep T.1 K M.2.2.2.2.1 M.2.2.1 M.2.2.2.2.2.1 i len s.1 s.2.1 s.2.2.1 s.2.2.2 with
    | some s' => simp only [h2] at h ⊢; exact hfg _ _ _ _ h
    | none =>
      simp only [h2] at h ⊢
      cases h3 : jend M.2.2.2.1 i len s.2.2.1 with
      | some v => simp only [h3] at h ⊢; exact h
      | none =>
        simp only [h3] at h ⊢
        cases h4 : jcall T.2.1 K M.2.2.2.2.1 i len s.2.2.1 s.2.2.2 with
        | some q =>
          obtain ⟨kd, z, as, r0⟩ := q
          simp only [h4] at h ⊢
          cases d with
          | zero => cases h
          | succ d' =>
            by_cases h5 : 8 < (r0.map fun v => v.category).sum
            · simp only [h5, if_true] at h; cases h
            · simp only [h5, if_false] at h ⊢
              by_cases h6 : kd = 3
              · simp only [h6, if_true] at h ⊢; exact hfg _ _ _ _ h
              · simp only [h6, if_false] at h ⊢
                by_cases h66 : kd = 5
                · simp only [h66, if_true] at h ⊢
                  cases h67 : jcopy K as s.2.2.2 with
                  | none => simp only [h67] at h; cases h
                  | some h' => simp only [h67] at h ⊢; exact hfg _ _ _ _ h
                simp only [h66, if_false] at h ⊢
                cases h7 : T.2.2.1 z with
                | none => simp only [h7] at h; cases h
                | some Z =>
                  simp only [h7] at h ⊢
                  by_cases h8 : Z.2.2.1 < (lg_sl as).length
                  · simp only [h8, if_true] at h; cases h
                  · simp only [h8, if_false] at h ⊢
                    cases h9 : f d' Z (0, lv_args 0 as, [], s.2.2.2) with
                    | none => simp only [h9] at h; cases h
                    | some q9 =>
                      simp only [h9] at h
                      rw [hfg _ _ _ _ h9]
                      obtain ⟨o, h'⟩ := q9
                      cases o with
                      | inl v => exact hfg _ _ _ _ h
                      | inr a =>
                        simp only at h ⊢
                        cases h11 : M.2.2.2.2.2.2.2 with
                        | nil => simp only [h11] at h ⊢; exact h
                        | cons b hs =>
                          simp only [h11] at h ⊢
                          cases h10 : jhand (b :: hs) s.1 h' a with
                          | some q => simp only [h10] at h ⊢; exact hfg _ _ _ _ h
                          | none => simp only [h10] at h; cases h
        | none =>
          simp only [h4] at h ⊢
          exact h
theorem jrun_mono {T : jT} {K : Nat} : ∀ (n : Nat) {d : Nat} {M : jM} {s : jS} {r : jO}, jrun T K n d M s = some r → jrun T K (n + 1) d M s = some r
  | 0, _, _, _, _, h => by cases h
  | n + 1, _, _, _, _, h => jbody_mono (fun _ _ _ _ h => jrun_mono n h) h
theorem jrun_le {T : jT} {K n : Nat} (k : Nat) {d : Nat} {M : jM} {s : jS} {r : jO} (h : jrun T K n d M s = some r) : jrun T K (n + k) d M s = some r := by
  induction k with
  | zero => exact h
  | succ k ih => exact jrun_mono _ ih
/-- the method comes to this end -/
def jEv (T : jT) (K d : Nat) (M : jM) (s : jS) (r : jO) : Prop := ∃ n, jrun T K n d M s = some r
/-- k plain steps -/
def jit (T : jT) (K : Nat) (M : jM) : Nat → jS → Option jS
  | 0, s => some s
  | k + 1, s => match M.2.2.2.2.2.2.1 s.1 with
    | none => none
    | some (i, len) => match jstep T.1 K M.2.2.2.2.1 M.2.2.1 M.2.2.2.2.2.1 i len s.1 s.2.1 s.2.2.1 s.2.2.2 with
      | some s' => jit T K M k s'
      | none => none
theorem jEv.steps {T : jT} {K d : Nat} {M : jM} {r : jO} : ∀ (k : Nat) {s s' : jS}, jit T K M k s = some s' → jEv T K d M s' r → jEv T K d M s r
  | 0, _, _, h, kk => by cases h; exact kk
  | k + 1, s, s', h, kk => by
    unfold jit at h
    split at h
    · cases h
    · rename_i i len hf
      split at h
      · rename_i s1 hs
        obtain ⟨n, hn⟩ := jEv.steps k h kk
        refine ⟨n + 1, ?_⟩
        show jbody T K (jrun T K n) d M s = some r
        unfold jbody
        simp only [hf, hs]
        exact hn
      · cases h
/-- what stands here when it is no plain step: the end (.inl), or a call -/
def jat (T : jT) (K : Nat) (M : jM) (s : jS) : Option (Option Value ⊕ (Nat × Nat × List Value × List Value)) := match M.2.2.2.2.2.2.1 s.1 with
  | none => none
  | some (i, len) => match jstep T.1 K M.2.2.2.2.1 M.2.2.1 M.2.2.2.2.2.1 i len s.1 s.2.1 s.2.2.1 s.2.2.2 with
    | some _ => none
    | none => match jend M.2.2.2.1 i len s.2.2.1 with
      | some v => some (.inl v)
      | none => match jcall T.2.1 K M.2.2.2.2.1 i len s.2.2.1 s.2.2.2 with
        | some (kd, z, as, r) => if 8 < (r.map fun v => v.category).sum then none else some (.inr (kd, z, as, r))
        | none => none
theorem jEv.ret {T : jT} {K d : Nat} {M : jM} {s : jS} {v : Option Value} (h : jat T K M s = some (.inl v)) : jEv T K d M s (.inl v, s.2.2.2) := by
  refine ⟨1, ?_⟩
  show jbody T K (jrun T K 0) d M s = _
  unfold jat at h
  unfold jbody
  split at h
  · cases h
  · rename_i i len hf
    split at h
    · cases h
    · rename_i hs
      split at h
      · rename_i w hw
        cases h
        simp only [hf, hs, hw]
      · split at h
        · split at h <;> cases h
        · cases h
theorem jEv.call {T : jT} {K d : Nat} {M Z : jM} {s : jS} {kd z : Nat} {as r0 : List Value} {v : Option Value} {h' : jH} {r : jO} (h : jat T K M s = some (.inr (kd, z, as, r0))) (hk : kd ≠ 3) (hk5 : kd ≠ 5) (hz : T.2.2.1 z = some Z) (hl : (lg_sl as).length ≤ Z.2.2.1)
    (hc : jEv T K d Z (0, lv_args 0 as, [], s.2.2.2) (.inl v, h')) (kk : jEv T K (d + 1) M (s.1 + 3, s.2.1, v.toList ++ r0, h') r) : jEv T K (d + 1) M s r := by
  obtain ⟨n1, hn1⟩ := hc
  obtain ⟨n2, hn2⟩ := kk
  refine ⟨n1 + n2 + 1, ?_⟩
  show jbody T K (jrun T K (n1 + n2)) (d + 1) M s = _
  have e1 := jrun_le n2 hn1
  have e2 : jrun T K (n1 + n2) (d + 1) M (s.1 + 3, s.2.1, v.toList ++ r0, h') = some r := by
    rw [Nat.add_comm]
    exact jrun_le n1 hn2
  unfold jat at h
  unfold jbody
  split at h
  · cases h
  · rename_i i len hf
    split at h
    · cases h
    · rename_i hs
      split at h
      · cases h
      · rename_i hw
        split at h
        · rename_i kd' z' as' r' hcl
          split at h
          · cases h
          · rename_i h8
            cases h
            simp only [hf, hs, hw, hcl, if_neg h8, if_neg hk, if_neg hk5, hz, if_neg (Nat.not_lt.mpr hl), e1]
            exact e2
        · cases h
theorem jEv.obj {T : jT} {K d : Nat} {M : jM} {s : jS} {z : Nat} {as r0 : List Value} {r : jO} (h : jat T K M s = some (.inr (3, z, as, r0)))
    (kk : jEv T K (d + 1) M (s.1 + 3, s.2.1, r0, s.2.2.2) r) : jEv T K (d + 1) M s r := by
  obtain ⟨n2, hn2⟩ := kk
  refine ⟨n2 + 1, ?_⟩
  show jbody T K (jrun T K n2) (d + 1) M s = _
  unfold jat at h
  unfold jbody
  split at h
  · cases h
  · rename_i i len hf
    split at h
    · cases h
    · rename_i hs
      split at h
      · cases h
      · rename_i hw
        split at h
        · rename_i kd' z' as' r' hcl
          split at h
          · cases h
          · rename_i h8
            cases h
            simp only [hf, hs, hw, hcl, if_neg h8, if_true]
            exact hn2
        · cases h
end
section
/-! what the small machine does, the machine does -/
def jLok (SP : State → Prop) (TB : List Jvm.Cond) (cl : List vw_C) (mt : Nat → Option jM) (own : String) (idx kd z n ci : Nat) : Prop :=
  (kd = 0 → ∃ (Z : jM) (T : u_T) (N : Nat), mt z = some Z ∧ cl[ci]? = some (Z.1.cls, T, N) ∧ Jvm.Cond.methodLink own idx Z.1 ∈ TB ∧ Jvm.Cond.instanceMethod Z.1 ∈ TB ∧ Jvm.Cond.selects Z.1.cls Z.1 Z.1 ∈ TB ∧ (parseMethodDescriptor Z.1.desc).map (fun d => d.parameters.length) = some (n - 1)) ∧
  (kd = 1 → ∃ Z : jM, mt z = some Z ∧ Z.1.name = "<init>" ∧ Z.2.2.2.1 = none ∧ Z.2.2.2.2.2.2.2 = [] ∧ Jvm.Cond.methodLink own idx Z.1 ∈ TB ∧ Jvm.Cond.instanceMethod Z.1 ∈ TB ∧ (parseMethodDescriptor Z.1.desc).map (fun d => d.parameters.length) = some (n - 1)) ∧
  (kd = 2 → ∃ Z : jM, mt z = some Z ∧ Jvm.Cond.methodLink own idx Z.1 ∈ TB ∧ Jvm.Cond.static Z.1 ∈ TB ∧ (parseMethodDescriptor Z.1.desc).map (fun d => d.parameters.length) = some n) ∧
  (kd = 3 → Jvm.Cond.methodLink own idx Lib.objectInit ∈ TB ∧ Jvm.Cond.instanceMethod Lib.objectInit ∈ TB ∧ Jvm.Cond.code Lib.objectInit ⟨#[0xb1]⟩ 1 none ∈ TB) ∧
  (kd = 4 → ∃ (Z : jM) (host : String), mt z = some Z ∧ Z.1.name = "<init>" ∧ Z.2.2.2.1 = none ∧ Z.2.2.2.2.2.2.2 = [] ∧ (∀ s, SP s → va_Nw (.methodLinkNest own idx Z.1 host) s) ∧ Jvm.Cond.instanceMethod Z.1 ∈ TB ∧ (parseMethodDescriptor Z.1.desc).map (fun d => d.parameters.length) = some (n - 1)) ∧
  (kd = 5 → Jvm.Cond.methodLink own idx arraycopyName ∈ TB ∧ Jvm.Cond.native arraycopyName ∈ TB ∧ Jvm.Cond.static arraycopyName ∈ TB ∧ Jvm.Cond.initialized "java/lang/System" ∈ TB)
/-- what is known of a method's tables -/
def jMok (TB : List Jvm.Cond) (cl : List vw_C) (α : Nat → Nat) (sz : Nat) (SP : State → Prop) (T : jT) (own : String) (cn : Nat) (bytes : ByteArray) (nL : Nat) (ft : Nat → Option (Instr × Nat)) : Prop :=
  (∀ pc i len, ft pc = some (i, len) → decode bytes pc = .ok (i, len)) ∧ nL ≤ 45 ∧
  (∀ idx ci k kd, T.1.1 cn idx = some (ci, k, kd) → jFok SP TB cl own idx ci k kd) ∧
  (∀ idx ci fs, T.1.2.1 cn idx = some (ci, fs) → jNok TB cl own idx ci fs) ∧
  (∀ idx v, T.1.2.2.1 cn idx = some v → ∀ s, SP s → ∃ C n d, va_Z C n d (jx_V α v) (fun q => sz ≤ q) s s.heap ∧ Jvm.Cond.fieldLink own idx C n d ∈ TB) ∧
  (∀ idx v, T.1.2.2.2 cn idx = some v → (∃ x, v = .int x ∧ Jvm.Cond.constant own idx x ∈ TB) ∨ (∃ x, v = .long x ∧ Jvm.Cond.constantLong own idx x ∈ TB) ∨ ∃ a tx, v = .ref a ∧ ∀ s, SP s → vk_R own idx tx (α a) s) ∧
  (∀ idx kd z n ci, T.2.1 cn idx = some (kd, z, n, ci) → jLok SP TB cl T.2.2.1 own idx kd z n ci)
/-- the frame of things: addresses, words, what is kept -/
def jOK (D : va_G) (cl : List vw_C) (tys : List (ClassId × FieldType)) (α : Nat → Nat) (dA : FieldType → ClassId) (K sz : Nat) (SP : State → Prop) (TB : List Jvm.Cond) (hd0 : jH) (T : jT) : Prop :=
  (∀ j, α (K + j) = sz + j) ∧ (hd0.length = K ∧ ∀ x y, jcmp x → jcmp y → α x = α y → x = y) ∧
  (∀ w ∈ TB, (w.onTables && w.keeps) = true ∨ ∃ ty, w = .arrayClass ty) ∧
  (∀ at' N c, jnewa at' N = some c → jTy tys dA (newarray.typeOf at') ∧ Jvm.Cond.arrayClass (newarray.typeOf at') ∈ TB) ∧
  (∀ (u U : State), u.WarmedH U.vm → (∀ q : Nat, q < sz → U.heap[q]? = u.heap[q]?) → SP u → SP U) ∧
  (∀ a ty x, hd0[a]? = some (.inl (ty, x)) → ty = .int ∧ ∃ xs, x.2 = .inl xs ∧ α a < sz ∧ ∀ s, SP s → va_X (α a) x.1 xs s s.heap) ∧
  (∀ z M, T.2.2.1 z = some M → plainFor M.1 = true ∧ (M.1.cls ≠ "java/lang/invoke/MethodHandle" ∧ M.1.cls ≠ "java/lang/invoke/VarHandle") ∧ (M.2.2.2.2.2.1 = true → M.1.name = "<init>") ∧
    (if M.2.2.2.2.2.2.2.map (fun q => q.1) = [] then Jvm.Cond.code M.1 M.2.1 M.2.2.1 M.2.2.2.1 else Jvm.Cond.codeWith M.1 M.2.1 M.2.2.1 M.2.2.2.1 (M.2.2.2.2.2.2.2.map (fun q => q.1))) ∈ TB ∧ Jvm.Cond.initialized M.1.cls ∈ TB ∧ jMok TB cl α sz SP T M.1.cls M.2.2.2.2.1 M.2.1 M.2.2.1 M.2.2.2.2.2.2.1)
theorem jld_take {K a : Nat} {h hd0 : jH} (hh : h.take K = hd0) (ha : a < K) : h[a]? = hd0[a]? := by
  rw [← hh, List.getElem?_take, if_pos ha]
theorem jtot_push (h : jH) (c : jC) : jtot (h ++ [c]) = jtot h + jsz c := by simp [jtot]
theorem jtot_set {h : jH} {a : Nat} {c c' : jC} (ha : h[a]? = some c) (hs : jsz c' = jsz c) : jtot (h.set a c') = jtot h := by
  unfold jtot
  rw [List.map_set, hs]
  congr 1
  apply List.ext_getElem?
  intro i
  rw [List.getElem?_set]
  by_cases hi : a = i
  · subst hi
    rw [if_pos rfl, List.length_map, List.getElem?_map, ha, if_pos ((List.getElem?_eq_some_iff.mp ha).1)]
    rfl
  · rw [if_neg hi]
theorem jhp_grow {G : jG} {K cn : Nat} {ini : Bool} {i : Instr} {st st' : List Value} {h h' : jH} {k : Nat} (hq : jhp G K cn ini i st h = some (st', h', k)) (hKl : K ≤ h.length) : h'.take K = h.take K ∧ h.length ≤ h'.length ∧ (jtot h ≤ jtot h') := by
  unfold jhp at hq
  repeat' split at hq
  all_goals first
    | (cases hq; done)
    | (cases hq; exact ⟨rfl, Nat.le_refl _, Nat.le_refl _⟩)
    | (cases hq; exact ⟨by rw [List.take_append_of_le_length hKl], by rw [List.length_append]; exact Nat.le_add_right _ _, by rw [jtot_push]; exact Nat.le_add_right _ _⟩)
    | (cases hq; exact ⟨by rw [List.take_set_of_le (by first | omega | exact Nat.le_of_not_lt (fun z => absurd (Or.inr z) (by assumption)))], by rw [List.length_set]; exact Nat.le_refl _, by rw [jtot_set (by assumption) (by first | rfl | simp [jsz])]; exact Nat.le_refl _⟩)
theorem jstep_grow {G : jG} {K cn nL : Nat} {ini : Bool} {i : Instr} {len pc : Nat} {lv : List (Nat × Value)} {st : List Value} {h : jH} {s' : jS} (hs : jstep G K cn nL ini i len pc lv st h = some s') (hKl : K ≤ h.length) : s'.2.2.2.take K = h.take K ∧ h.length ≤ s'.2.2.2.length ∧ jtot h ≤ jtot s'.2.2.2 := by
  unfold jstep at hs
  split at hs
  · split at hs
    · cases hs; exact ⟨rfl, Nat.le_refl _, Nat.le_refl _⟩
    · cases hs
  · split at hs
    · split at hs
      · cases hs; exact ⟨rfl, Nat.le_refl _, Nat.le_refl _⟩
      · cases hs
    · split at hs
      · cases hs; exact ⟨rfl, Nat.le_refl _, Nat.le_refl _⟩
      · split at hs
        · rename_i hq
          split at hs
          · cases hs; exact jhp_grow hq hKl
          · cases hs
        · cases hs
section JS
variable {p : Program} {l : Launch} {e : Env} {R : Room} {s : State} {m : MethodId} {args : Array Value} {below : List Frame} {meth : Method} {c : Code} {Q : State → Prop}
variable {D : va_G} {cl : List vw_C} {tys : List (ClassId × FieldType)} {α : Nat → Nat} {dA : FieldType → ClassId} {K sz : Nat} {SP : State → Prop} {TB : List Jvm.Cond} {hd0 : jH} {T : jT}
/-- a method's own surroundings -/
def jEnv (D : va_G) (cl : List vw_C) (tys : List (ClassId × FieldType)) (α : Nat → Nat) (K sz : Nat) (SP : State → Prop) (TB : List Jvm.Cond) (T : jT) (p : Program) (s : State) (m : MethodId) (args : Array Value) (meth : Method) (c : Code)
    (own : String) (cn : Nat) (bytes : ByteArray) (nL : Nat) (ini : Bool) (ft : Nat → Option (Instr × Nat)) (n0 : Nat) : Prop :=
  p.tables.exec = Jvm.exec ∧ c.code = bytes ∧ c.maxLocals = nL ∧ s.vm.findClass own = some m.cls ∧ (∀ w ∈ TB, w.before args s = true) ∧ (ini = true → meth.name = "<init>") ∧ va_K D cl tys s ∧ SP s ∧ K ≤ n0 ∧ s.heap.size = sz + (n0 - K) ∧
    jMok TB cl α sz SP T own cn bytes nL ft
set_option maxHeartbeats 4000000 in
theorem jhp_ok (O : jOK D cl tys α dA K sz SP TB hd0 T) {own : String} {cn : Nat} {bytes : ByteArray} {nL : Nat} {ini : Bool} {ft : Nat → Option (Instr × Nat)} {n0 t0 : Nat}
    (V : jEnv D cl tys α K sz SP TB T p s m args meth c own cn bytes nL ini ft n0) {i : Instr} {len pc : Nat} {lv : List (Nat × Value)} {st st' : List Value} {h h' : jH} (hd : decode bytes pc = .ok (i, len))
    (hq : jhp T.1 K cn ini i st h = some (st', h', len)) (hh : h.take K = hd0) (hn0 : n0 ≤ h.length) (ht0 : t0 ≤ jtot h) (hKl : K ≤ h.length) :
    h'.take K = hd0 ∧ h.length ≤ h'.length ∧ jtot h ≤ jtot h' ∧
    ((h'.length - n0 ≤ R.cells) → (jtot h' - t0 ≤ R.slots) →
      (∀ (ls : Array Slot) (H : Heap) (locs : List Loc), lv_has ls nL (lv.map (jx_L α)) → jRel D cl α dA K sz h' s H locs → W p l e R s m args below meth c H locs (h'.length - n0) (jtot h' - t0) Q (F0 m (pc + len) ls (st'.map (jx_V α)))) →
      ∀ (ls : Array Slot) (H : Heap) (locs : List Loc), lv_has ls nL (lv.map (jx_L α)) → jRel D cl α dA K sz h s H locs → W p l e R s m args below meth c H locs (h.length - n0) (jtot h - t0) Q (F0 m pc ls (st.map (jx_V α)))) := by
  obtain ⟨hα, ⟨hd0l, hinj⟩, hgood, harr, hSPm, hscr, hmt⟩ := O
  obtain ⟨hx, hb, hml, hown, hts, hini, hK, hSP, hKn, hsz, hdec, hnL, hF, hN, hS, hC, hL⟩ := V
  have hsz' : sz ≤ s.heap.size := by omega
  unfold jhp at hq
  split at hq
  · split at hq
    · split at hq
      · rename_i ci k kd hg
        split at hq
        · rename_i cj fs ha
          split at hq
          · rename_i hc
            split at hq
            · rename_i v hv
              cases hq
              obtain ⟨rfl, hKa⟩ := hc
              exact ⟨hh, Nat.le_refl _, Nat.le_refl _, fun _ _ k ls H locs hl hR => jget_ok hx hb hts hown hK hR hSP (hF _ _ _ _ hg) ha hKa hv hd (k ls H locs hl hR)⟩
            · cases hq
          · cases hq
        · cases hq
      · cases hq
    · cases hq
  · split at hq
    · split at hq
      · rename_i ci k kd hg
        split at hq
        · rename_i cj fs ha
          split at hq
          · rename_i hc
            cases hq
            obtain ⟨rfl, hKa, hkl, hft, hin2⟩ := hc
            refine ⟨by rw [List.take_set_of_le hKa]; exact hh, by rw [List.length_set]; exact Nat.le_refl _, by rw [jtot_set ha (by simp [jsz])]; exact Nat.le_refl _, fun _ _ k ls H locs hl hR => ?_⟩
            refine jput_ok hx hb hts hown hK hα hR hSP (hF _ _ _ _ hg) ha hKa hkl hft (hin2.imp id hini) hd (fun H1 locs1 hR1 => ?_)
            have k1 := k ls H1 locs1 hl hR1
            rw [List.length_set, jtot_set ha (by simp [jsz])] at k1
            exact k1
          · cases hq
        · cases hq
      · cases hq
    · cases hq
  · split at hq
    · rename_i v hg
      cases hq
      refine ⟨hh, Nat.le_refl _, Nat.le_refl _, fun _ _ k ls H locs hl hR => ?_⟩
      obtain ⟨C, n, d, hZ, hlk⟩ := hS _ _ hg s hSP
      exact jgets_ok hx hb hts hown hR hZ hlk hd (k ls H locs hl hR)
    · cases hq
  · split at hq
    · rename_i x hg
      cases hq
      refine ⟨hh, Nat.le_refl _, Nat.le_refl _, fun _ _ k ls H locs hl hR => ?_⟩
      rcases hC _ _ hg with ⟨x', e1, hw⟩ | ⟨x', e1, hw⟩ | ⟨a, tx, e1, hw⟩
      · cases e1; exact lv_ldc hx hb hown (hts _ hw) hd (k ls H locs hl hR)
      · cases e1
      · cases e1
    · rename_i x hg
      cases hq
      refine ⟨hh, Nat.le_refl _, Nat.le_refl _, fun _ _ k ls H locs hl hR => ?_⟩
      rcases hC _ _ hg with ⟨x', e1, hw⟩ | ⟨x', e1, hw⟩ | ⟨a, tx, e1, hw⟩
      · cases e1
      · cases e1
      · cases e1; exact va_ldcS hx hb hown (hw s hSP) hd (k ls H locs hl hR)
    · cases hq
  · split at hq
    · rename_i x hg
      cases hq
      refine ⟨hh, Nat.le_refl _, Nat.le_refl _, fun _ _ k ls H locs hl hR => ?_⟩
      rcases hC _ _ hg with ⟨x', e1, hw⟩ | ⟨x', e1, hw⟩ | ⟨a, tx, e1, hw⟩
      · cases e1; exact lv_ldcw hx hb hown (hts _ hw) hd (k ls H locs hl hR)
      · cases e1
      · cases e1
    · cases hq
  · split at hq
    · rename_i x hg
      cases hq
      refine ⟨hh, Nat.le_refl _, Nat.le_refl _, fun _ _ k ls H locs hl hR => ?_⟩
      rcases hC _ _ hg with ⟨x', e1, hw⟩ | ⟨x', e1, hw⟩ | ⟨a, tx, e1, hw⟩
      · cases e1
      · cases e1; exact lv_ldc2 hx hb hown (hts _ hw) hd (k ls H locs hl hR)
      · cases e1
    · cases hq
  · split at hq
    · rename_i ci fs hg
      cases hq
      refine ⟨by rw [List.take_append_of_le_length hKl]; exact hh, by rw [List.length_append]; omega, by rw [jtot_push]; omega, fun hc1 hc2 k ls H locs hl hR => ?_⟩
      refine W.jsized (fun hub => ?_)
      have hz : H.size = α h.length := by
        rw [hR.size hα hsz' (by omega), ← hα]
        congr 1
        omega
      rw [List.length_append] at hc1
      rw [jtot_push] at hc2
      refine jnew_ok hx hb hts hown hK hsz' hR hz (hN _ _ _ hg) (by simp at hc1; omega) (by simp only [jsz] at hc2; omega) hd (fun H1 hR1 => ?_)
      have k1 := k ls H1 locs hl hR1
      rw [List.length_append, jtot_push] at k1
      refine W.cs ?_ ?_ k1
      · simp; omega
      · simp only [jsz]; omega
    · cases hq
  · split at hq
    · split at hq
      · cases hq
      · rename_i n r hn
        split at hq
        · rename_i c1 hc1
          cases hq
          refine ⟨by rw [List.take_append_of_le_length hKl]; exact hh, by rw [List.length_append]; omega, by rw [jtot_push]; omega, fun hr1 hr2 k ls H locs hl hR => ?_⟩
          refine W.jsized (fun hub => ?_)
          have hz : H.size = α h.length := by
            rw [hR.size hα hsz' (by omega), ← hα]
            congr 1
            omega
          have hsz1 : jsz c1 = n.toNatClampNeg := by
            unfold jnewa at hc1
            split at hc1 <;> first | (cases hc1; rfl) | cases hc1
          rw [List.length_append] at hr1
          rw [jtot_push, hsz1] at hr2
          refine jnewa_ok hx hb hts hK hsz' hR hz (harr _ _ _ hc1).1 (harr _ _ _ hc1).2 hc1 (fun z => hn (Or.inl z)) (fun z => hn (Or.inr z)) (by simp at hr1; omega) (by omega) hd (fun H1 hR1 => ?_)
          have k1 := k ls H1 locs hl hR1
          rw [List.length_append, jtot_push, hsz1] at k1
          refine W.cs ?_ ?_ k1
          · simp; omega
          · omega
        · cases hq
    · cases hq
  · split at hq
    · rename_i a r
      split at hq
      · rename_i ty n x ha
        split at hq
        · rename_i hty
          cases hq
          obtain ⟨at', c0, e0, e2⟩ := jat_of hty
          refine ⟨hh, Nat.le_refl _, Nat.le_refl _, fun _ _ k ls H locs hl hR => ?_⟩
          by_cases hKa : K ≤ a
          · exact jalen hx hb hK (e0 ▸ (harr _ _ _ e2).1) hR ha hKa hd (k ls H locs hl hR)
          · rw [jld_take hh (by omega)] at ha
            obtain ⟨-, xs, e1, h1, h2⟩ := hscr _ _ _ ha
            exact va_slen hx hb (h2 s hSP) (by omega) (fun z => absurd (show sz ≤ _ from z) (by omega)) hR.2.2 hd (k ls H locs hl hR)
        · cases hq
      · cases hq
    · cases hq
  · split at hq
    · rename_i j a r
      split at hq
      · rename_i n f ha
        split at hq
        · cases hq
        · rename_i hj
          cases hq
          refine ⟨hh, Nat.le_refl _, Nat.le_refl _, fun _ _ k ls H locs hl hR => ?_⟩
          by_cases hKa : K ≤ a
          · exact jiald hx hb hK (harr .int 0 _ rfl).1 hR ha hKa hj hd (k ls H locs hl hR)
          · rw [jld_take hh (by omega)] at ha
            obtain ⟨-, xs, e1, h1, h2⟩ := hscr _ _ _ ha
            cases e1
            exact va_sld hx hb (h2 s hSP) (by omega) (fun z => absurd (show sz ≤ _ from z) (by omega)) hR.2.2 hj hd (k ls H locs hl hR)
      · cases hq
    · cases hq
  · split at hq
    · rename_i j a r
      split at hq
      · rename_i n f ha
        split at hq
        · cases hq
        · rename_i hj
          cases hq
          refine ⟨hh, Nat.le_refl _, Nat.le_refl _, fun _ _ k ls H locs hl hR => ?_⟩
          by_cases hKa : K ≤ a
          · exact jcald hx hb hK (harr .char 0 _ rfl).1 hR ha hKa hj hd (k ls H locs hl hR)
          · rw [jld_take hh (by omega)] at ha
            obtain ⟨e0, -⟩ := hscr _ _ _ ha
            cases e0
      · cases hq
    · cases hq
  · split at hq
    · rename_i j a r
      split at hq
      · rename_i n f ha
        split at hq
        · cases hq
        · rename_i hj
          cases hq
          refine ⟨hh, Nat.le_refl _, Nat.le_refl _, fun _ _ k ls H locs hl hR => ?_⟩
          by_cases hKa : K ≤ a
          · exact jlald hx hb hK (harr .long 0 _ rfl).1 hR ha hKa hj hd (k ls H locs hl hR)
          · rw [jld_take hh (by omega)] at ha
            obtain ⟨e0, -⟩ := hscr _ _ _ ha
            cases e0
      · cases hq
    · cases hq
  · split at hq
    · rename_i x j a r
      split at hq
      · rename_i n f ha
        split at hq
        · cases hq
        · rename_i hj
          cases hq
          have hKa : K ≤ a := Nat.le_of_not_lt (fun z => hj (Or.inr z))
          refine ⟨by rw [List.take_set_of_le hKa]; exact hh, by rw [List.length_set]; exact Nat.le_refl _, by rw [jtot_set ha (by rfl)]; exact Nat.le_refl _, fun _ _ k ls H locs hl hR => ?_⟩
          refine jiast hx hb hK hα (harr .int 0 _ rfl).1 hR ha hKa (fun z => hj (Or.inl z)) hd (fun H1 locs1 hR1 => ?_)
          have k1 := k ls H1 locs1 hl hR1
          rw [List.length_set, jtot_set ha (by rfl)] at k1
          exact k1
      · cases hq
    · cases hq
  · split at hq
    · rename_i x j a r
      split at hq
      · rename_i n f ha
        split at hq
        · cases hq
        · rename_i hj
          cases hq
          have hKa : K ≤ a := Nat.le_of_not_lt (fun z => hj (Or.inr z))
          refine ⟨by rw [List.take_set_of_le hKa]; exact hh, by rw [List.length_set]; exact Nat.le_refl _, by rw [jtot_set ha (by rfl)]; exact Nat.le_refl _, fun _ _ k ls H locs hl hR => ?_⟩
          refine jcast hx hb hK hα (harr .char 0 _ rfl).1 hR ha hKa (fun z => hj (Or.inl z)) hd (fun H1 locs1 hR1 => ?_)
          have k1 := k ls H1 locs1 hl hR1
          rw [List.length_set, jtot_set ha (by rfl)] at k1
          exact k1
      · cases hq
    · cases hq
  · split at hq
    · rename_i x j a r
      split at hq
      · rename_i n f ha
        split at hq
        · cases hq
        · rename_i hj
          cases hq
          have hKa : K ≤ a := Nat.le_of_not_lt (fun z => hj (Or.inr z))
          refine ⟨by rw [List.take_set_of_le hKa]; exact hh, by rw [List.length_set]; exact Nat.le_refl _, by rw [jtot_set ha (by rfl)]; exact Nat.le_refl _, fun _ _ k ls H locs hl hR => ?_⟩
          refine jlast hx hb hK hα (harr .long 0 _ rfl).1 hR ha hKa (fun z => hj (Or.inl z)) hd (fun H1 locs1 hR1 => ?_)
          have k1 := k ls H1 locs1 hl hR1
          rw [List.length_set, jtot_set ha (by rfl)] at k1
          exact k1
      · cases hq
    · cases hq
  · cases hq
set_option maxHeartbeats 2000000 in
/-- one step -/
theorem jstep_ok (O : jOK D cl tys α dA K sz SP TB hd0 T) {own : String} {cn : Nat} {bytes : ByteArray} {nL : Nat} {ini : Bool} {ft : Nat → Option (Instr × Nat)} {n0 t0 : Nat}
    (V : jEnv D cl tys α K sz SP TB T p s m args meth c own cn bytes nL ini ft n0) {i : Instr} {len pc pc' : Nat} {lv lv' : List (Nat × Value)} {st st' : List Value} {h h' : jH} (hft : ft pc = some (i, len))
    (hs : jstep T.1 K cn nL ini i len pc lv st h = some (pc', lv', st', h')) (hh : h.take K = hd0) (hn0 : n0 ≤ h.length) (ht0 : t0 ≤ jtot h) (hKl : K ≤ h.length) :
    h'.take K = hd0 ∧ h.length ≤ h'.length ∧ jtot h ≤ jtot h' ∧
    ((h'.length - n0 ≤ R.cells) → (jtot h' - t0 ≤ R.slots) →
      (∀ (ls : Array Slot) (H : Heap) (locs : List Loc), lv_has ls nL (lv'.map (jx_L α)) → jRel D cl α dA K sz h' s H locs → W p l e R s m args below meth c H locs (h'.length - n0) (jtot h' - t0) Q (F0 m pc' ls (st'.map (jx_V α)))) →
      ∀ (ls : Array Slot) (H : Heap) (locs : List Loc), lv_has ls nL (lv.map (jx_L α)) → jRel D cl α dA K sz h s H locs → W p l e R s m args below meth c H locs (h.length - n0) (jtot h - t0) Q (F0 m pc ls (st.map (jx_V α)))) := by
  obtain ⟨hα, ⟨hd0l, hinj⟩, hgood, harr, hSPm, hscr, hmt⟩ := O
  obtain ⟨hx, hb, hml, hown, hts, hini, hK, hSP, hKn, hsz, hdec, hnL, hF, hN, hS, hC, hL⟩ := V
  have hd := hdec pc i len hft
  have hsz' : sz ≤ s.heap.size := by omega
  unfold jstep at hs
  split at hs
  · rename_i st1 k1 hq
    split at hs
    · rename_i hk; subst hk; cases hs
      exact ⟨hh, Nat.le_refl _, Nat.le_refl _, fun _ _ k ls H locs hl hR => jstk_ok hx hb hq hd (k ls H locs hl hR)⟩
    · cases hs
  · split at hs
    · rename_i lv1 st1 k1 hq
      split at hs
      · rename_i hk; subst hk; cases hs
        exact ⟨hh, Nat.le_refl _, Nat.le_refl _, fun _ _ k ls H locs hl hR => jloc_ok hx hb hq hd hl (fun ls' hl' => k ls' H locs hl' hR)⟩
      · cases hs
    · split at hs
      · rename_i pc1 st1 hq
        cases hs
        exact ⟨hh, Nat.le_refl _, Nat.le_refl _, fun _ _ k ls H locs hl hR => jjmp_ok hx hb hinj hq hd (k ls H locs hl hR)⟩
      · split at hs
        · rename_i st1 h1 k1 hq
          split at hs
          · rename_i hk; subst hk; cases hs
            exact jhp_ok ⟨hα, ⟨hd0l, hinj⟩, hgood, harr, hSPm, hscr, hmt⟩ ⟨hx, hb, hml, hown, hts, hini, hK, hSP, hKn, hsz, hdec, hnL, hF, hN, hS, hC, hL⟩ hd hq hh hn0 ht0 hKl
          · cases hs
        · cases hs
end JS
end
section
/-! contracts whose end may be an answer or an exception, and calls by them -/
section JK
variable {l : Launch}
/-- the frame of an end, whatever it is -/
def jFE (first : State) (t : State) (L : List Loc) (k n : Nat) : Prop := first.WarmedH t.vm ∧ first.sameButNew ({ t with vm := first.vm } : State) L k n
def jMet (l : Launch) (y : MethodName) (ws : List Jvm.Cond) (rm : Room) (Pc : Array Value → State → Prop) (Qc : Array Value → State → Outcome → State → Prop) (mc ms : Nat) (free : Addr → Prop) : Prop :=
  MetFree l y (headSpec ws rm) Pc (fun _ _ _ _ _ => True) (fun a st o t => Qc a st o t ∧ ∃ L, jFE st t L mc ms ∧ ∀ q ∈ L, free q.base)
def jMQ (below : List Frame) (Qc : Array Value → State → Outcome → State → Prop) (a : Array Value) (s : State) (mc ms : Nat) (free : Addr → Prop) : State → Prop := fun t =>
  ∃ o, t.status = .running ∧ Ended t below o ∧ Qc a s o t ∧ ∃ L, jFE s t L mc ms ∧ ∀ q ∈ L, free q.base
theorem W.jmono {p : Program} {e : Env} {R : Room} {s : State} {m : MethodId} {args : Array Value} {below : List Frame} {meth : Method} {c : Code} {H : Heap} {locs : List Loc} {cells slots : Nat} {Q Q' : State → Prop} {g : JFrame}
    (h : ∀ t, Q t → Q' t) (k : W p l e R s m args below meth c H locs cells slots Q g) : W p l e R s m args below meth c H locs cells slots Q' g := fun T hT X => by
  obtain ⟨t, a, b⟩ := k T hT X
  exact ⟨t, a, h t b⟩
theorem jMQ_of {below : List Frame} {Qc : Array Value → State → Outcome → State → Prop} {a : Array Value} {s : State} {mc ms : Nat} {free : Addr → Prop} {t : State} (h : MQ below Qc a s mc ms free t) : jMQ below Qc a s mc ms free t := by
  obtain ⟨o, h1, h2, h3, L, h4, h5⟩ := h
  exact ⟨o, h1, h2, h3, L, ⟨h4.2.1, h4.2.2⟩, h5⟩
/-- a method with no handlers -/
theorem jMet.ofW {y : MethodName} {ws ws' : List Jvm.Cond} {rm : Room} {Pc : Array Value → State → Prop} {Qc : Array Value → State → Outcome → State → Prop} {mc ms : Nat} {free : Addr → Prop} {cc : ByteArray} {maxL : Nat} {ret : Option FieldType}
    (hy : plainName y.cls = true) (hw : ws = Jvm.Cond.code y cc maxL ret :: ws')
    (body : ∀ p e s m args below meth c s₁, BodyLoose p l y (headSpec ws rm) cc maxL ret e s m args below meth c s₁ → c.maxLocals = maxL → c.exceptionTable.toList = [] → Pc args s →
      W p l e (headSpec ws rm).room s m args below meth c s.heap [] 0 0 (jMQ below Qc args s mc ms free) (entryFrame m args maxL)) : jMet l y ws rm Pc Qc mc ms free := by
  refine MetFree.of_bodyS (code := cc) (maxLocals := maxL) (ret := ret) hy ?_ ?_
  · intro args s m h hn
    obtain ⟨meth, c, h1, h2, h3, h4, h5, h6, -, -⟩ := Cond.code_spec hn (atoms_spec (ws := ws) h _ (by rw [hw]; exact List.mem_cons_self))
    exact ⟨meth, c, h1, h2, h3, h4, h5, h6⟩
  · intro p e s m args below meth c s₁ B hml hP _
    have hh0 : s₁.heap = s.heap := by rw [B.state]; rfl
    have hex : c.exceptionTable.toList = [] := by
      have h9 := B.noHandlers (atoms_spec (ws := ws) B.pre _ (by rw [hw]; exact List.mem_cons_self))
      simpa using h9
    obtain ⟨t, a1, o, b1, b2, b3⟩ := body p e s m args below meth c s₁ B hml hex hP s₁ hh0 (Stand.of_body B)
    exact ⟨t, o, a1, b1, b2, ⟨b3.1, b3.2⟩⟩
/-- what a callee is: its code by either word -/
def jCode (y : MethodName) (bytes : ByteArray) (maxL : Nat) (ret : Option FieldType) (hh : List (Nat × Nat × Nat × Nat)) : Jvm.Cond := if hh = [] then .code y bytes maxL ret else .codeWith y bytes maxL ret hh
theorem jCode_spec {y : MethodName} {bytes : ByteArray} {maxL : Nat} {ret : Option FieldType} {hh : List (Nat × Nat × Nat × Nat)} {args : Array Value} {s : State} {m : MethodId} (hn : s.methodNamed? y = some m) (h : (jCode y bytes maxL ret hh).before args s = true) :
    ∃ meth c, s.vm.method? m = some meth ∧ meth.code = some c ∧ c.code = bytes ∧ c.maxLocals = maxL ∧ meth.sig.returnType = ret ∧ meth.locks = false ∧ c.exceptionTable.toList.map (fun h => (h.startPc, h.endPc, h.handlerPc, h.catchType)) = hh ∧ parseMethodDescriptor y.desc = some meth.sig := by
  unfold jCode at h
  split at h
  · rename_i e
    subst e
    obtain ⟨meth, c, h1, h2, h3, h4, h5, h6, h7, h8⟩ := Cond.code_spec hn h
    refine ⟨meth, c, h1, h2, h3, h4, h5, h6, ?_, h8⟩
    have : c.exceptionTable.toList = [] := by simpa using h7
    rw [this]
    rfl
  · obtain ⟨m9, meth, c, hn9, h1, h2, h3, h4, h5, h6, h7, h8⟩ := Cond.codeWith_spec h
    cases hn.symm.trans hn9
    exact ⟨meth, c, h1, h2, h3, h4, h6, h7, h5, h8⟩
end JK
section JI
variable {l : Launch} {R : Room} {p : Program} {e : Env} {below : List Frame} {s : State} {sargs : Array Value} {m : MethodId} {meth : Method} {c : Code}
theorem jinv {y : MethodName} {ws : List Jvm.Cond} {rm : Room} {Pc : Array Value → State → Prop} {Qc : Array Value → State → Outcome → State → Prop} {mc ms : Nat} {free : Addr → Prop} {bytes : ByteArray} {maxL : Nat} {ret : Option FieldType} {hh : List (Nat × Nat × Nat × Nat)} {len Wt : Nat}
    (hM : jMet l y ws rm Pc Qc mc ms free) (hblind : FrameBlind Pc) (hrc : rm.cells = mc) (hrs : rm.slots = ms) (hframes : rm.frames + 1 ≤ R.frames) (hlocals : Wt + (maxL + 11) + rm.locals ≤ R.locals)
    (hws : ∀ w ∈ ws, ∀ (a' : Array Value) (U : State), s.WarmedH U.vm → w.before a' U = true) (hcode : jCode y bytes maxL ret hh ∈ ws) (hini : ∀ (a' : Array Value) (U : State), s.WarmedH U.vm → (Jvm.Cond.initialized y.cls).before a' U = true)
    {U : State} {Ls : List Loc} {c0 s0 : Nat} (X : Stand p l e R s m sargs below meth c U Ls c0 s0) {g : JFrame} (hg : g.method = m) (hsize : g.locals.size = c.maxLocals) {ig : Instr} (hdg : decode c.code g.pc = .ok (ig, len)) (hW : 2 * g.monitorRoom + (g.stack.map fun v => v.category).sum ≤ Wt)
    {mk : MethodId} (hn : U.methodNamed? y = some mk) (hc : c0 + mc ≤ R.cells) (hs : s0 + ms ≤ R.slots) {a : Array Value} (hPc : Pc a U) :
    ∃ (o : Outcome) (t T' : State) (L : List Loc), Stand p l e R s m sargs below meth c T' (Ls ++ L) (c0 + mc) (s0 + ms) ∧ (∀ q ∈ L, free q.base) ∧ T'.heap = t.heap ∧ T'.vm = t.vm ∧ Qc a (U.calling g mk a) o t ∧
      ((∃ v, o = .returned v ∧ Steps p.tables e below (doInvoke e (U.setTop g) [] mk a).1 (T'.setTop { g with pc := g.pc + len, stack := v.toList ++ g.stack })) ∨
       (∃ x, o = .threw x ∧ Steps p.tables e below (doInvoke e (U.setTop g) [] mk a).1 ((T'.setTop g).pushFrame (.throwing x)))) := by
  have h2 := hws _ hcode a U X.warmed
  obtain ⟨methY, cY, hmY, hcY, -, hlY, -⟩ := jCode_spec hn h2
  obtain ⟨kY, hkY, -⟩ := className_of_methodNamed hn
  have hinitY : kY.init = .initialized := Cond.initialized_spec (findClass_of_methodNamed hn) hkY (hini a U X.warmed)
  have h : At U g.method c below := by rw [hg]; exact X.here
  have happ : (headSpec ws rm).appliesLoose y e.platform (U.calling g mk a) = true :=
    Spec.appliesLoose_calling (g := g) h hdg hn hkY hinitY
      (X.room_calling (g := g) (R' := (headSpec ws rm).room) hsize hmY hcY hframes (by rw [hlY]; show _ + (maxL + 11) + rm.locals ≤ _; omega) (by show c0 + rm.cells ≤ _; omega) (by show s0 + rm.slots ≤ _; omega)) (atoms_intro fun w hw => hws w hw _ _ X.warmed)
  obtain ⟨mid, hmid⟩ := h.above
  have hfr : (U.setTop g).frames = (.java g :: mid) ++ below := by rw [State.frames_setTop' g h.top, hmid]; rfl
  obtain ⟨o, s₂, hsteps, -, hend, hq⟩ := Steps.callFree hM p X.admits X.cas X.clock (acts := []) hfr happ (hblind _ _ _ _ hPc) trivial
  have hq1 : Qc a (U.calling g mk a) o s₂ ∧ ∃ L, jFE (U.calling g mk a) s₂ L mc ms ∧ ∀ q ∈ L, free q.base := hq
  obtain ⟨hq', L, ⟨hW₂, e2, q2, q3, q4, q5, q6⟩, hL⟩ := hq1
  rw [State.frames_setTop' g h.top] at hend
  have e3 : s₂ = ({ (U.calling g mk a).setFrames s₂.frames with heap := s₂.heap, slotsUsed := s₂.slotsUsed } : State).setVm s₂.vm := by
    have : s₂ = ({ s₂ with vm := (U.calling g mk a).vm } : State).setVm s₂.vm := rfl
    rw [e2] at this
    exact this
  have hW' : U.WarmedH s₂.vm := hW₂
  obtain ⟨g₀, hg0⟩ := Option.isSome_iff_exists.mp h.top
  obtain ⟨r, hr⟩ := State.topJava?_eq_some.mp hg0
  have hr' : (({ U with heap := s₂.heap, slotsUsed := s₂.slotsUsed } : State).setVm s₂.vm).frames = .java g₀ :: r := hr
  have hsame : U.sameButNew ({ U with heap := s₂.heap, slotsUsed := s₂.slotsUsed } : State) L mc ms := by
    refine ⟨?_, q2, q3, q4, q5, q6⟩
    obtain ⟨t, ht, -⟩ := State.frames_cons hr
    show ({ U with heap := s₂.heap, slotsUsed := s₂.slotsUsed } : State) = { U.setFrames U.frames with heap := s₂.heap, slotsUsed := s₂.slotsUsed }
    rw [State.setFrames_self ht]
  have hX' : Stand p l e R s m sargs below meth c (({ U with heap := s₂.heap, slotsUsed := s₂.slotsUsed } : State).setVm s₂.vm) (Ls ++ L) (c0 + mc) (s0 + ms) :=
    ⟨X.admits, X.cas, X.clock, X.frames, X.room, X.hears, X.method, X.code, (X.here.setHeapUsed s₂.heap s₂.slotsUsed).setVm hW'.alike, X.tail, State.WarmedH.trans X.warmed hW', X.limits, X.bytes, X.same.trans (hsame.setVm s.vm)⟩
  refine ⟨o, s₂, _, L, hX', hL, rfl, rfl, hq', ?_⟩
  cases o with
  | returned v =>
    refine Or.inl ⟨v, rfl, ?_⟩
    obtain ⟨c₂, i₂, len₂, hc₂, hd₂, hf₂⟩ := hend
    have hcc : c₂ = c := by
      have h1 : s₂.code? g.method = U.code? g.method := by
        rw [State.code?_eq, State.code?_eq, hW'.alike.method?]
      exact Option.some.inj (hc₂.symm.trans (h1.trans h.code))
    subst hcc
    have hlen : len₂ = len := by rw [hdg] at hd₂; cases hd₂; rfl
    subst hlen
    have hs₂ : s₂ = (({ U with heap := s₂.heap, slotsUsed := s₂.slotsUsed } : State).setVm s₂.vm).setTop { g with pc := g.pc + len₂, stack := v.toList ++ g.stack } := by
      refine e3.trans ?_
      rw [hf₂, State.calling_eq h.top, State.setFrames_setFrames, State.setTop_of_frames _ hr', hr]
      rfl
    rw [← hs₂]
    exact hsteps
  | threw x =>
    refine Or.inr ⟨x, rfl, ?_⟩
    have hf₂ : s₂.frames = .throwing x :: .java g :: U.frames.tail := hend
    have hs₂ : s₂ = ((({ U with heap := s₂.heap, slotsUsed := s₂.slotsUsed } : State).setVm s₂.vm).setTop g).pushFrame (.throwing x) := by
      refine e3.trans ?_
      rw [hf₂, State.calling_eq h.top, State.setFrames_setFrames, State.pushFrame, State.frames_setTop _ hr', State.setTop_of_frames _ hr', State.setFrames_setFrames, hr]
      rfl
    rw [← hs₂]
    exact hsteps
end JI
section JN
variable {p : Program} {l : Launch} {e : Env} {R : Room} {s : State} {m : MethodId} {args : Array Value} {below : List Frame} {meth : Method} {c : Code} {T : State} {locs : List Loc} {cells slots : Nat}
/-- the word that calls has been done: the callee stands before its entry -/
def jInvk (p : Program) (l : Launch) (e : Env) (R : Room) (s : State) (m : MethodId) (args : Array Value) (below : List Frame) (meth : Method) (c : Code) (T : State) (locs : List Loc) (cells slots : Nat) (g : JFrame) (rest : List Value) (y : MethodName) (av : Array Value) : Prop :=
  ∃ (mk : MethodId) (vm₁ : Vm), s.WarmedH vm₁ ∧ (T.setVm vm₁).methodNamed? y = some mk ∧ Stand p l e R s m args below meth c (T.setVm vm₁) locs cells slots ∧
    ∀ target, Steps p.tables e below (doInvoke e ((T.setVm vm₁).setTop { g with stack := rest }) [] mk av).1 target → Steps p.tables e below (T.setTop g) target
theorem jInvkV (X : Stand p l e R s m args below meth c T locs cells slots) (hexec : p.tables.exec = Jvm.exec) {own C : String} {index : Nat} {y : MethodName}
    (hown : s.vm.findClass own = some m.cls) (hlink : (Jvm.Cond.methodLink own index y).before args s = true) (hinst : (Jvm.Cond.instanceMethod y).before args s = true) (hsel : (Jvm.Cond.selects C y y).before args s = true)
    (hy : y.cls ≠ "java/lang/invoke/MethodHandle" ∧ y.cls ≠ "java/lang/invoke/VarHandle") (hsig : ∀ mk methM, s.methodNamed? y = some mk → s.vm.method? mk = some methM → parseMethodDescriptor y.desc = some methM.sig)
    {b : Addr} {cellB : Cell} (hcell : T.heap[b]? = some cellB) (hobj : cellB.vm.isStatics = false) (hcls : s.vm.findClass C = some cellB.cls)
    {g : JFrame} (hg : g.method = m) {argsL rest : List Value} (hlen : ∀ sig, parseMethodDescriptor y.desc = some sig → argsL.length = sig.parameters.length)
    (hstack : g.stack = argsL.reverse ++ .ref b :: rest) (hdg : decode c.code g.pc = .ok (.invokevirtual index, 3)) : jInvk p l e R s m args below meth c T locs cells slots g rest y (Value.ref b :: argsL).toArray := by
  obtain ⟨mk, methM, hnamed, hmethM, hstM, habM⟩ := Cond.instanceMethod_spec hinst
  have hsigM := hsig mk methM hnamed hmethM
  obtain ⟨c2, r2, m2, q1, q2, q3, q4, kP, hkP, hkPi⟩ := Cond.selects_spec hsel
  cases hcls.symm.trans q1
  cases (State.methodFound?_of_named hnamed hy).symm.trans q2
  cases hnamed.symm.trans q3
  have hselP : selectMethod e.platform s.vm cellB.cls mk = .method mk := by rw [Launch.admits_selectMethod X.admits]; exact q4
  obtain ⟨vm₁, X₁, hstep₁⟩ := X.invokevirtual hexec hown hlink hnamed hmethM hstM hkP hkPi hy (a := b) (cell := cellB) hcell
    (fun z h => by rw [h] at hobj; cases hobj) hselP hmethM habM hkP hkPi (g := g) hg (argsL := argsL) (rest := rest) (hlen _ hsigM) hstack hdg
  exact ⟨mk, vm₁, X₁.warmed, X₁.named hnamed, X₁, fun target h => hstep₁ _ fun acts => by rw [doInvoke_state]; exact h⟩
theorem jInvkS (X : Stand p l e R s m args below meth c T locs cells slots) (hexec : p.tables.exec = Jvm.exec) {own : String} {index : Nat} {y : MethodName} {mk : MethodId} {methM : Method}
    (hown : s.vm.findClass own = some m.cls) (hlink : (Jvm.Cond.methodLink own index y).before args s = true) (hstat : (Jvm.Cond.static y).before args s = true) (hinit : (Jvm.Cond.initialized y.cls).before args s = true)
    (hy : y.cls ≠ "java/lang/invoke/MethodHandle" ∧ y.cls ≠ "java/lang/invoke/VarHandle") (hnamed : s.methodNamed? y = some mk) (hmethM : s.vm.method? mk = some methM) (hsigM : parseMethodDescriptor y.desc = some methM.sig)
    {g : JFrame} (hg : g.method = m) {argsL rest : List Value} (hlen : ∀ sig, parseMethodDescriptor y.desc = some sig → argsL.length = sig.parameters.length)
    (hstack : g.stack = argsL.reverse ++ rest) (hdg : decode c.code g.pc = .ok (.invokestatic index, 3)) : jInvk p l e R s m args below meth c T locs cells slots g rest y argsL.toArray := by
  have hstatic : methM.isStatic = true := Cond.static_spec hnamed hmethM hstat
  obtain ⟨kP, hkP, -⟩ := className_of_methodNamed hnamed
  have hinitP : kP.init = .initialized := Cond.initialized_spec (findClass_of_methodNamed hnamed) hkP hinit
  obtain ⟨vm₁, X₁, hstep₁⟩ := X.invokestatic hexec hown hlink hnamed hmethM hstatic hkP hinitP hy (g := g) hg (argsL := argsL) (rest := rest) (hlen _ hsigM) hstack hdg
  exact ⟨mk, vm₁, X₁.warmed, X₁.named hnamed, X₁, fun target h => hstep₁ _ fun acts => by rw [doInvoke_state]; exact h⟩
theorem jInvkI (X : Stand p l e R s m args below meth c T locs cells slots) (hexec : p.tables.exec = Jvm.exec) {own : String} {index : Nat} {y : MethodName} {bytes : ByteArray} {maxL : Nat}
    (hown : s.vm.findClass own = some m.cls) (hy1 : y.name = "<init>") (hlink : (Jvm.Cond.methodLink own index y).before args s = true) (hinst : (Jvm.Cond.instanceMethod y).before args s = true)
    (hcode : (Jvm.Cond.code y bytes maxL none).before args s = true) (hy : y.cls ≠ "java/lang/invoke/MethodHandle" ∧ y.cls ≠ "java/lang/invoke/VarHandle")
    {g : JFrame} (hg : g.method = m) {a : Addr} {argsL rest : List Value} (hlen : ∀ sig, parseMethodDescriptor y.desc = some sig → argsL.length = sig.parameters.length)
    (hstack : g.stack = argsL.reverse ++ .ref a :: rest) (hdg : decode c.code g.pc = .ok (.invokespecial index, 3)) : jInvk p l e R s m args below meth c T locs cells slots g rest y (Value.ref a :: argsL).toArray := by
  subst hg
  have hpl : e.platform.magicAccessors = ({} : Platform).magicAccessors := by rw [X.admits.platform]
  obtain ⟨mk, methM, cM, kP, vm₁, hnamed, hmethM, hcodeM, -, hlocalsM, -, hkP, -, hW₁, hstep₁⟩ := Steps.initColdArgs (e := e) X.here hexec X.warmed hpl hown hy1 hy hlink hinst hcode (f := g) rfl hlen hstack hdg
  have X₁ := X.noted hW₁
  exact ⟨mk, vm₁, X₁.warmed, X₁.named hnamed, X₁, fun target h => hstep₁ _ fun acts => by rw [doInvoke_state]; exact h⟩
end JN
end
section
section JR
variable {l : Launch} {D : va_G} {cl : List vw_C} {tys : List (ClassId × FieldType)} {α : Nat → Nat} {dA : FieldType → ClassId} {K sz : Nat} {SP : State → Prop}
variable {p : Program} {e : Env} {R : Room} {s : State} {m : MethodId} {args : Array Value} {below : List Frame} {meth : Method} {c : Code} {H : Heap} {locs : List Loc} {cells slots : Nat} {Q : State → Prop}
/-- the picture of a whole heap at a state -/
def jB (D : va_G) (cl : List vw_C) (tys : List (ClassId × FieldType)) (α : Nat → Nat) (dA : FieldType → ClassId) (K sz : Nat) (SP : State → Prop) (h : jH) (U : State) : Prop :=
  K ≤ h.length ∧ U.heap.size = sz + (h.length - K) ∧ va_P D cl (jx_ws α dA K h) U.heap ∧ va_K D cl tys U ∧ SP U
def jPc (D : va_G) (cl : List vw_C) (tys : List (ClassId × FieldType)) (α : Nat → Nat) (dA : FieldType → ClassId) (K sz : Nat) (SP : State → Prop) (as : List Value) (h : jH) : Array Value → State → Prop :=
  fun a U => a = (as.map (jx_V α)).toArray ∧ jB D cl tys α dA K sz SP h U
def jQo (D : va_G) (cl : List vw_C) (tys : List (ClassId × FieldType)) (α : Nat → Nat) (dA : FieldType → ClassId) (K sz : Nat) (SP : State → Prop) (o : Outcome) (h : jH) : Array Value → State → Outcome → State → Prop :=
  fun _ st o' t => o' = o ∧ jB D cl tys α dA K sz SP h t ∧ va_F (fun q => sz ≤ q) st t
def jout (α : Nat → Nat) : (Option Value ⊕ Nat) → Outcome
  | .inl v => .returned (v.map (jx_V α))
  | .inr a => .threw (α a)
/-- the machine is throwing a out of the frame g -/
def WT (p : Program) (l : Launch) (e : Env) (R : Room) (s : State) (m : MethodId) (args : Array Value) (below : List Frame) (meth : Method) (c : Code) (H : Heap) (locs : List Loc) (cells slots : Nat) (Q : State → Prop) (g : JFrame) (a : Addr) : Prop :=
  ∀ T : State, T.heap = H → Stand p l e R s m args below meth c T locs cells slots → ∃ t, Steps p.tables e below ((T.setTop g).pushFrame (.throwing a)) t ∧ Q t
theorem jcallW {y : MethodName} {ws : List Jvm.Cond} {rm : Room} {Pc : Array Value → State → Prop} {mc ms : Nat} {bytes : ByteArray} {maxL : Nat} {ret : Option FieldType} {hh : List (Nat × Nat × Nat × Nat)} {o : Option Value ⊕ Nat} {h' : jH} {g : JFrame} {rest : List Value} {av : Array Value} {ig : Instr}
    (hM : jMet l y ws rm Pc (jQo D cl tys α dA K sz SP (jout α o) h') mc ms (fun q => sz ≤ q)) (hblind : FrameBlind Pc) (hrc : rm.cells = mc) (hrs : rm.slots = ms) (hframes : rm.frames + 1 ≤ R.frames) (hlocals : 8 + (maxL + 11) + rm.locals ≤ R.locals)
    (hws : ∀ w ∈ ws, ∀ (a' : Array Value) (U : State), s.WarmedH U.vm → w.before a' U = true) (hcode : jCode y bytes maxL ret hh ∈ ws) (hini : ∀ (a' : Array Value) (U : State), s.WarmedH U.vm → (Jvm.Cond.initialized y.cls).before a' U = true)
    (hg : g.method = m) (hsize : g.locals.size = c.maxLocals) (hdg : decode c.code g.pc = .ok (ig, 3)) (hW : 2 * g.monitorRoom + (rest.map fun v => v.category).sum ≤ 8) (hc : cells + mc ≤ R.cells) (hs : slots + ms ≤ R.slots)
    (hPc : ∀ U : State, U.heap = H → s.WarmedH U.vm → Pc av U) (hS : va_S (fun q => sz ≤ q) s.heap H locs)
    (hinv : ∀ T : State, T.heap = H → Stand p l e R s m args below meth c T locs cells slots → jInvk p l e R s m args below meth c T locs cells slots g rest y av)
    (kr : ∀ v, o = .inl v → ∀ (H1 : Heap) (locs1 : List Loc), jRel D cl α dA K sz h' s H1 locs1 → W p l e R s m args below meth c H1 locs1 (cells + mc) (slots + ms) Q { g with pc := g.pc + 3, stack := (v.map (jx_V α)).toList ++ rest })
    (kt : ∀ a, o = .inr a → ∀ (H1 : Heap) (locs1 : List Loc), jRel D cl α dA K sz h' s H1 locs1 → WT p l e R s m args below meth c H1 locs1 (cells + mc) (slots + ms) Q { g with stack := rest } (α a)) :
    W p l e R s m args below meth c H locs cells slots Q g := by
  intro T hT X
  obtain ⟨mk, vm₁, hW₁, hn, X₁, hgo⟩ := hinv T hT X
  obtain ⟨o1, t, T', L, X', hL, e1, e2, ⟨ho, ⟨hK, hz, hP, -, -⟩, hF1, hF2⟩, hend⟩ := jinv (Wt := 8) hM hblind hrc hrs hframes hlocals hws hcode hini X₁ (g := { g with stack := rest }) hg hsize hdg hW hn hc hs (hPc _ hT hW₁)
  have hF1' : H.size ≤ t.heap.size := by
    have : (T.setVm vm₁).heap.size ≤ t.heap.size := hF1
    rw [← hT]
    exact this
  have hF2' : ∀ q : Nat, q < H.size → ¬ sz ≤ q → t.heap[q]? = H[q]? := fun q h1 h2 => by
    have := hF2 q (by show q < T.heap.size; rw [hT]; exact h1) h2
    rw [← hT]
    exact this
  have hR : jRel D cl α dA K sz h' s T'.heap (locs ++ L) :=
    ⟨hK, by rw [e1]; exact hP, ⟨Nat.le_trans hS.1 (by rw [e1]; exact hF1'), fun q h1 h2 => by rw [e1, hF2' q (Nat.lt_of_lt_of_le h1 hS.1) h2]; exact hS.2.1 q h1 h2, fun q hq => by
      rcases List.mem_append.mp hq with h | h
      · exact hS.2.2 q h
      · exact hL q h⟩⟩
  rcases hend with ⟨v, hv, hsteps⟩ | ⟨x, hx, hsteps⟩
  · rw [hv] at ho
    cases o with
    | inl v0 =>
      have hv0 : v = v0.map (jx_V α) := Outcome.returned.inj ho
      subst hv0
      obtain ⟨t2, a1, b1⟩ := kr v0 rfl T'.heap (locs ++ L) hR T' rfl X'
      exact ⟨t2, hgo t2 (hsteps.trans a1), b1⟩
    | inr a0 => cases ho
  · rw [hx] at ho
    cases o with
    | inl v0 => cases ho
    | inr a0 =>
      have hx0 : x = α a0 := Outcome.threw.inj ho
      subst hx0
      obtain ⟨t2, a1, b1⟩ := kt a0 rfl T'.heap (locs ++ L) hR T' rfl X'
      exact ⟨t2, hgo t2 (hsteps.trans a1), b1⟩
theorem WT.leave {Qc : Array Value → State → Outcome → State → Prop} {free : Addr → Prop} {pc : Nat} {ls : Array Slot} {st : List Value} {a : Addr} (hlocks : meth.locks = false) (hout : ∀ x ∈ c.exceptionTable.toList, covers x pc = false)
    (hq : ∀ t : State, t.heap = H → s.WarmedH t.vm → Qc args s (.threw a) t) (hf : ∀ q ∈ locs, free q.base) : WT p l e R s m args below meth c H locs cells slots (jMQ below Qc args s cells slots free) (F0 m pc ls st) a := by
  intro T hT X
  obtain ⟨h1, h2, h3, h4, h5⟩ := X.leaveThrown a (g := F0 m pc ls st) rfl rfl rfl hout hlocks
  exact ⟨_, h1, .threw a, h2, h3, hq _ hT h4, locs, ⟨h4, h5⟩, hf⟩
end JR
end
section
/-! ends, and contracts out of walks -/
section JF
variable {p : Program} {l : Launch} {e : Env} {R : Room} {s : State} {m : MethodId} {args : Array Value} {below : List Frame} {meth : Method} {c : Code} {H : Heap} {locs : List Loc} {cells slots : Nat} {Q : State → Prop}
variable {D : va_G} {cl : List vw_C} {tys : List (ClassId × FieldType)} {α : Nat → Nat} {dA : FieldType → ClassId} {K sz : Nat} {SP : State → Prop} {TB : List Jvm.Cond} {hd0 : jH} {T : jT}
theorem jMet.ofC {y : MethodName} {ws ws' : List Jvm.Cond} {rm : Room} {Pc : Array Value → State → Prop} {Qc : Array Value → State → Outcome → State → Prop} {mc ms : Nat} {free : Addr → Prop} {cc : ByteArray} {maxL : Nat} {ret : Option FieldType} {hh : List (Nat × Nat × Nat × Nat)}
    (hy : plainFor y = true) (hw : ws = jCode y cc maxL ret hh :: ws')
    (body : ∀ p e s m args below meth c s₁, BodyLoose p l y (headSpec ws rm) cc maxL ret e s m args below meth c s₁ → c.maxLocals = maxL → c.exceptionTable.toList.map (fun h => (h.startPc, h.endPc, h.handlerPc, h.catchType)) = hh → Pc args s →
      W p l e (headSpec ws rm).room s m args below meth c s.heap [] 0 0 (jMQ below Qc args s mc ms free) (entryFrame m args maxL)) : jMet l y ws rm Pc Qc mc ms free := by
  refine MetFree.of_bodySF (code := cc) (maxLocals := maxL) (ret := ret) hy ?_ ?_
  · intro args s m h hn
    obtain ⟨meth, c, h1, h2, h3, h4, h5, h6, -, -⟩ := jCode_spec hn (atoms_spec (ws := ws) h _ (by rw [hw]; exact List.mem_cons_self))
    exact ⟨meth, c, h1, h2, h3, h4, h5, h6⟩
  · intro p e s m args below meth c s₁ B hml hP _
    have hh0 : s₁.heap = s.heap := by rw [B.state]; rfl
    obtain ⟨meth9, c9, h1, h2, -, -, -, -, h7, -⟩ := jCode_spec B.named (atoms_spec (ws := ws) B.pre _ (by rw [hw]; exact List.mem_cons_self))
    cases B.method.symm.trans h1
    cases (Stand.of_body B).code.symm.trans h2
    obtain ⟨t, a1, o, b1, b2, b3⟩ := body p e s m args below meth c s₁ B hml h7 hP s₁ hh0 (Stand.of_body B)
    exact ⟨t, o, a1, b1, b2, ⟨b3.1, b3.2⟩⟩
theorem jInvkIN {U : State} (X : Stand p l e R s m args below meth c U locs cells slots) (hexec : p.tables.exec = Jvm.exec) {own host : String} {index : Nat} {y : MethodName} {bytes : ByteArray} {maxL : Nat}
    (hown : s.vm.findClass own = some m.cls) (hy1 : y.name = "<init>") (hlink : (Jvm.Cond.methodLinkNest own index y host).before args s = true) (hinst : (Jvm.Cond.instanceMethod y).before args s = true)
    (hcode : (Jvm.Cond.code y bytes maxL none).before args s = true) (hy : y.cls ≠ "java/lang/invoke/MethodHandle" ∧ y.cls ≠ "java/lang/invoke/VarHandle")
    {g : JFrame} (hg : g.method = m) {a : Addr} {argsL rest : List Value} (hlen : ∀ sig, parseMethodDescriptor y.desc = some sig → argsL.length = sig.parameters.length)
    (hstack : g.stack = argsL.reverse ++ .ref a :: rest) (hdg : decode c.code g.pc = .ok (.invokespecial index, 3)) : jInvk p l e R s m args below meth c U locs cells slots g rest y (Value.ref a :: argsL).toArray := by
  subst hg
  have hpl : e.platform.magicAccessors = ({} : Platform).magicAccessors := by rw [X.admits.platform]
  obtain ⟨mk, methM, cM, kP, vm₁, hnamed, hmethM, hcodeM, -, hlocalsM, -, hkP, -, hW₁, hstep₁⟩ := Steps.initColdArgsNest (e := e) X.here hexec X.warmed hpl hown hy1 hy hlink hinst hcode (f := g) rfl hlen hstack hdg
  have X₁ := X.noted hW₁
  exact ⟨mk, vm₁, X₁.warmed, X₁.named hnamed, X₁, fun target h => hstep₁ _ fun acts => by rw [doInvoke_state]; exact h⟩
/-- what a walk owes at its end -/
def jFin (D : va_G) (cl : List vw_C) (α : Nat → Nat) (dA : FieldType → ClassId) (K sz : Nat) (p : Program) (l : Launch) (e : Env) (R : Room) (s : State) (m : MethodId) (args : Array Value) (below : List Frame) (meth : Method) (c : Code) (bytes : ByteArray) (ret : Option FieldType) (n0 t0 : Nat) (Q : State → Prop) (v : Option Value) (h' : jH) : Prop :=
  ∀ (i : Instr) (len pc : Nat) (st : List Value) (ls : Array Slot) (H : Heap) (locs : List Loc), jend ret i len st = some v → decode bytes pc = .ok (i, len) → jRel D cl α dA K sz h' s H locs →
    W p l e R s m args below meth c H locs (h'.length - n0) (jtot h' - t0) Q (F0 m pc ls (st.map (jx_V α)))
def jFinT (D : va_G) (cl : List vw_C) (α : Nat → Nat) (dA : FieldType → ClassId) (K sz : Nat) (p : Program) (l : Launch) (e : Env) (R : Room) (s : State) (m : MethodId) (args : Array Value) (below : List Frame) (meth : Method) (c : Code) (n0 t0 : Nat) (Q : State → Prop) (a : Nat) (h' : jH) : Prop :=
  ∀ (pc : Nat) (st : List Value) (ls : Array Slot) (H : Heap) (locs : List Loc), c.exceptionTable.toList = [] → jRel D cl α dA K sz h' s H locs →
    WT p l e R s m args below meth c H locs (h'.length - n0) (jtot h' - t0) Q (F0 m pc ls st) (α a)
/-- at a method's end the picture holds -/
theorem jB_end (hα : ∀ j, α (K + j) = sz + j) (hSPm : ∀ (u U : State), u.WarmedH U.vm → (∀ q : Nat, q < sz → U.heap[q]? = u.heap[q]?) → SP u → SP U) (hsz : sz ≤ s.heap.size) (hK : va_K D cl tys s) (hSP : SP s) {h' : jH} (hR : jRel D cl α dA K sz h' s H locs) (hub : H.size ≤ sz + (h'.length - K)) {t : State} (ht : t.heap = H) (hW : s.WarmedH t.vm) :
    jB D cl tys α dA K sz SP h' t ∧ va_F (fun q => sz ≤ q) s t := by
  refine ⟨⟨hR.1, by rw [ht]; exact hR.size hα hsz hub, by rw [ht]; exact hR.2.1, va_K.moved hW.alike hK, hSPm s t hW (fun q hq => ?_) hSP⟩, hR.2.2.F ht⟩
  rw [ht]
  exact hR.2.2.2.1 q (by omega) (by omega)
theorem jfin_of (hα : ∀ j, α (K + j) = sz + j) (hSPm : ∀ (u U : State), u.WarmedH U.vm → (∀ q : Nat, q < sz → U.heap[q]? = u.heap[q]?) → SP u → SP U) (hx : p.tables.exec = Jvm.exec) {bytes : ByteArray} (hb : c.code = bytes) {ret : Option FieldType} (hr : meth.sig.returnType = ret) (hlocks : meth.locks = false) (hK : va_K D cl tys s) (hSP : SP s)
    {n0 t0 : Nat} (hKn : K ≤ n0) (hsz : s.heap.size = sz + (n0 - K)) {v : Option Value} {h' : jH} (hn : n0 ≤ h'.length) :
    jFin D cl α dA K sz p l e R s m args below meth c bytes ret n0 t0 (jMQ below (jQo D cl tys α dA K sz SP (jout α (.inl v)) h') args s (h'.length - n0) (jtot h' - t0) (fun q => sz ≤ q)) v h' := by
  intro i len pc st ls H locs he hd hR
  refine W.jsized (fun hub => W.jmono (fun t => jMQ_of) ?_)
  have hq : ∀ (w : Option Value), w = v.map (jx_V α) → ∀ t : State, t.heap = H → s.WarmedH t.vm → jQo D cl tys α dA K sz SP (jout α (.inl v)) h' args s (.returned w) t := fun w hw t ht hW => by
    obtain ⟨h1, h2⟩ := jB_end hα hSPm (by omega) hK hSP hR (by omega) ht hW
    exact ⟨by rw [hw]; rfl, h1, h2⟩
  unfold jend at he
  split at he
  · split at he
    · split at he
      · rename_i hl; subst hl; cases he
        exact W.iret hx hb hr (hq _ rfl) hR.2.2.2.2 hd hlocks
      · cases he
    · split at he
      · rename_i hl; obtain ⟨rfl, hv⟩ := hl; cases he
        exact W.zret hx hb hr (by rcases hv with rfl | rfl <;> rfl) (hq _ rfl) hR.2.2.2.2 hd hlocks
      · cases he
    · cases he
  · split at he
    · split at he
      · rename_i hl; subst hl; cases he
        exact W.lret hx hb hr (hq _ rfl) hR.2.2.2.2 hd hlocks
      · cases he
    · cases he
  · split at he
    · split at he
      · rename_i hl; subst hl; cases he
        exact W.aret hx hb hr (Or.inl ⟨_, rfl⟩) (Or.inr ⟨_, rfl⟩) (hq _ rfl) hR.2.2.2.2 hd hlocks
      · cases he
    · split at he
      · rename_i hl; subst hl; cases he
        exact W.aret hx hb hr (Or.inl ⟨_, rfl⟩) (Or.inl rfl) (hq _ rfl) hR.2.2.2.2 hd hlocks
      · cases he
    · split at he
      · rename_i hl; subst hl; cases he
        exact W.aret hx hb hr (Or.inr ⟨_, rfl⟩) (Or.inr ⟨_, rfl⟩) (hq _ rfl) hR.2.2.2.2 hd hlocks
      · cases he
    · split at he
      · rename_i hl; subst hl; cases he
        exact W.aret hx hb hr (Or.inr ⟨_, rfl⟩) (Or.inl rfl) (hq _ rfl) hR.2.2.2.2 hd hlocks
      · cases he
    · cases he
  · split at he
    · split at he
      · rename_i hl; subst hl; cases he
        exact W.vret hx hb hr (hq _ rfl) hR.2.2.2.2 hd hlocks
      · cases he
    · cases he
  · cases he
theorem W.jsizedT {g : JFrame} {a : Addr} (k : H.size ≤ s.heap.size + cells → WT p l e R s m args below meth c H locs cells slots Q g a) : WT p l e R s m args below meth c H locs cells slots Q g a :=
  fun T hT X => k (by rw [← hT]; exact X.heapSize) T hT X
theorem jfinT_of (hα : ∀ j, α (K + j) = sz + j) (hSPm : ∀ (u U : State), u.WarmedH U.vm → (∀ q : Nat, q < sz → U.heap[q]? = u.heap[q]?) → SP u → SP U) (hlocks : meth.locks = false) (hK : va_K D cl tys s) (hSP : SP s)
    {n0 t0 : Nat} (hKn : K ≤ n0) (hsz : s.heap.size = sz + (n0 - K)) {a : Nat} {h' : jH} (hn : n0 ≤ h'.length) :
    jFinT D cl α dA K sz p l e R s m args below meth c n0 t0 (jMQ below (jQo D cl tys α dA K sz SP (jout α (.inr a)) h') args s (h'.length - n0) (jtot h' - t0) (fun q => sz ≤ q)) a h' := by
  intro pc st ls H locs hex hR
  refine W.jsizedT (fun hub => ?_)
  refine WT.leave hlocks (fun x hx => by rw [hex] at hx; cases hx) (fun t ht hW => ?_) hR.2.2.2.2
  obtain ⟨h1, h2⟩ := jB_end hα hSPm (by omega) hK hSP hR (by omega) ht hW
  exact ⟨rfl, h1, h2⟩
end JF
end
section
/-! the main row -/
section JMain
variable {l : Launch} {D : va_G} {cl : List vw_C} {tys : List (ClassId × FieldType)} {α : Nat → Nat} {dA : FieldType → ClassId} {K sz : Nat} {SP : State → Prop} {TB : List Jvm.Cond} {hd0 : jH} {T : jT}
def jKn (cl : List vw_C) (α : Nat → Nat) (sz : Nat) (SP : State → Prop) (TB : List Jvm.Cond) (T : jT) (M : jM) : Prop := jMok TB cl α sz SP T M.1.cls M.2.2.2.2.1 M.2.1 M.2.2.1 M.2.2.2.2.2.2.1
def jEnvM (D : va_G) (cl : List vw_C) (tys : List (ClassId × FieldType)) (α : Nat → Nat) (K sz : Nat) (SP : State → Prop) (TB : List Jvm.Cond) (T : jT) (p : Program) (s : State) (m : MethodId) (args : Array Value) (meth : Method) (c : Code) (M : jM) (n0 : Nat) : Prop :=
  jEnv D cl tys α K sz SP TB T p s m args meth c M.1.cls M.2.2.2.2.1 M.2.1 M.2.2.1 M.2.2.2.2.2.1 M.2.2.2.2.2.2.1 n0 ∧ c.exceptionTable.toList.map (fun h => (h.startPc, h.endPc, h.handlerPc, h.catchType)) = M.2.2.2.2.2.2.2.map (fun q => q.1)
def jThrowOK (l : Launch) (D : va_G) (cl : List vw_C) (tys : List (ClassId × FieldType)) (α : Nat → Nat) (dA : FieldType → ClassId) (K sz : Nat) (SP : State → Prop) (TB : List Jvm.Cond) (T : jT) : Prop :=
  ∀ (p : Program) (e : Env) (R : Room) (s : State) (m : MethodId) (args : Array Value) (below : List Frame) (meth : Method) (c : Code) (Q : State → Prop) (M : jM) (n0 : Nat) (i : Instr) (len pc ci : Nat) (st : List Value) (ls : Array Slot) (H : Heap) (locs : List Loc) (cells slots : Nat) (h : jH),
    jEnvM D cl tys α K sz SP TB T p s m args meth c M n0 → ls.size = M.2.2.1 → M.2.2.2.2.2.2.1 pc = some (i, len) → jthr T K M i len pc st = some ci → jRel D cl α dA K sz h s H locs → H.size = α h.length → 8 ≤ R.frames → 512 ≤ R.locals → cells + 1 ≤ R.cells → slots + 6 ≤ R.slots →
    (∀ (H1 : Heap) (locs1 : List Loc) (st1 : List Value), jRel D cl α dA K sz (h ++ [.inr (ci, [.null, .null, .null, .null, .null, .null])]) s H1 locs1 → WT p l e R s m args below meth c H1 locs1 (cells + 1) (slots + 6) Q (F0 m (pc + 9) ls st1) (α h.length)) →
    W p l e R s m args below meth c H locs cells slots Q (F0 m pc ls (st.map (jx_V α)))
def jCatchOK (l : Launch) (D : va_G) (cl : List vw_C) (tys : List (ClassId × FieldType)) (α : Nat → Nat) (dA : FieldType → ClassId) (K sz : Nat) (SP : State → Prop) (TB : List Jvm.Cond) (T : jT) : Prop :=
  ∀ (p : Program) (e : Env) (R : Room) (s : State) (m : MethodId) (args : Array Value) (below : List Frame) (meth : Method) (c : Code) (Q : State → Prop) (M : jM) (n0 pc a q : Nat) (st : List Value) (ls : Array Slot) (H : Heap) (locs : List Loc) (cells slots : Nat) (h : jH),
    (∃ z, T.2.2.1 z = some M) → jEnvM D cl tys α K sz SP TB T p s m args meth c M n0 → jhand M.2.2.2.2.2.2.2 pc h a = some q → jRel D cl α dA K sz h s H locs → 
    W p l e R s m args below meth c H locs cells slots Q (F0 m q ls [.ref (α a)]) → WT p l e R s m args below meth c H locs cells slots Q (F0 m pc ls st) (α a)
theorem lv_args_map (as : List Value) : ∀ i : Nat, (lv_args i as).map (jx_L α) = lv_args i (as.map (jx_V α)) := by
  induction as with
  | nil => intro i; rfl
  | cons v as ih =>
    intro i
    simp only [lv_args, List.map_cons, jx_V_cat, ih]
    rfl
theorem lg_sl_map (as : List Value) : (lg_sl (as.map (jx_V α))).length = (lg_sl as).length := by
  induction as with
  | nil => rfl
  | cons v as ih =>
    have e : ∀ (w : Value) (ws : List Value), (lg_sl (w :: ws)).length = (if w.category = 2 then 2 else 1) + (lg_sl ws).length := fun w ws => by
      simp only [lg_sl, List.flatMap_cons, List.length_append]
      split <;> simp
    rw [List.map_cons, e, e, jx_V_cat, ih]
theorem jsum_map (r : List Value) : ((r.map (jx_V α)).map fun v => v.category).sum = (r.map fun v => v.category).sum := by
  rw [List.map_map]
  congr 1
  apply List.map_congr_left
  intro v _
  exact jx_V_cat α v
def jRm (d mc ms : Nat) : Room := { frames := d, cells := mc, slots := ms, locals := 64 * d }
/-- the words of a method -/
def jWs (TB : List Jvm.Cond) (M : jM) : List Jvm.Cond := jCode M.1 M.2.1 M.2.2.1 M.2.2.2.1 (M.2.2.2.2.2.2.2.map (fun q => q.1)) :: TB
/-- what the main row says of a run -/
def jRow (l : Launch) (D : va_G) (cl : List vw_C) (tys : List (ClassId × FieldType)) (α : Nat → Nat) (dA : FieldType → ClassId) (K sz : Nat) (SP : State → Prop) (TB : List Jvm.Cond) (hd0 : jH) (T : jT) (d : Nat) (M : jM) (pc : Nat) (lv : List (Nat × Value)) (st : List Value) (h : jH) (o : Option Value ⊕ Nat) (h' : jH) : Prop :=
  h'.take K = hd0 ∧ h.length ≤ h'.length ∧ jtot h ≤ jtot h' ∧
  ∀ (p : Program) (e : Env) (R : Room) (s : State) (m : MethodId) (args : Array Value) (below : List Frame) (meth : Method) (c : Code) (Q : State → Prop) (n0 t0 : Nat),
    jEnvM D cl tys α K sz SP TB T p s m args meth c M n0 → n0 ≤ h.length → t0 ≤ jtot h → d ≤ R.frames → 64 * d ≤ R.locals → h'.length - n0 ≤ R.cells → jtot h' - t0 ≤ R.slots →
    (∀ v, o = .inl v → jFin D cl α dA K sz p l e R s m args below meth c M.2.1 M.2.2.2.1 n0 t0 Q v h') → (∀ a, o = .inr a → jFinT D cl α dA K sz p l e R s m args below meth c n0 t0 Q a h') →
    ∀ (ls : Array Slot) (H : Heap) (locs : List Loc), lv_has ls M.2.2.1 (lv.map (jx_L α)) → jRel D cl α dA K sz h s H locs → W p l e R s m args below meth c H locs (h.length - n0) (jtot h - t0) Q (F0 m pc ls (st.map (jx_V α)))
theorem jB_blind (hSPm : ∀ (u U : State), u.WarmedH U.vm → (∀ q : Nat, q < sz → U.heap[q]? = u.heap[q]?) → SP u → SP U) (as : List Value) (h : jH) : FrameBlind (jPc D cl tys α dA K sz SP as h) := by
  intro a U g mk q
  obtain ⟨q0, q1, q2, q3, q4, q5⟩ := q
  exact ⟨q0, q1, q2, q3, va_K.moved (u := U) (U := U.calling g mk a) (Vm.Alike.refl U.vm) q4, hSPm U (U.calling g mk a) (State.WarmedH.refl U) (fun _ _ => rfl) q5⟩
/-- a callee's contract out of the row of its run -/
theorem jmet (O : jOK D cl tys α dA K sz SP TB hd0 T) {z : Nat} {Z : jM} (hz : T.2.2.1 z = some Z) {d : Nat} {as : List Value} {h h' : jH} {o : Option Value ⊕ Nat} (hrow : jRow l D cl tys α dA K sz SP TB hd0 T d Z 0 (lv_args 0 as) [] h o h') (hKl : K ≤ h.length) (hsl : ¬ Z.2.2.1 < (lg_sl as).length) :
    jMet l Z.1 (jWs TB Z) (jRm d (h'.length - h.length) (jtot h' - jtot h)) (jPc D cl tys α dA K sz SP as h) (jQo D cl tys α dA K sz SP (jout α o) h') (h'.length - h.length) (jtot h' - jtot h) (fun q => sz ≤ q) := by
  obtain ⟨hα, ⟨hd0l, hinj⟩, hgood, harr, hSPm, hscr, hmt⟩ := O
  obtain ⟨hpl, hyn, hin, hcd, hini, hmk⟩ := hmt z Z hz
  obtain ⟨-, hlen, htot, hW⟩ := hrow
  refine jMet.ofC hpl rfl ?_
  intro p e s m args below meth c s₁ B hml hex hP
  obtain ⟨rfl, q1, q2, q3, q4, q5⟩ := hP
  have hts := atoms_spec (ws := jWs TB Z) B.pre
  have hv : jEnvM D cl tys α K sz SP TB T p s m ((as.map (jx_V α)).toArray) meth c Z h.length :=
    ⟨⟨B.exec, B.bytes, hml, findClass_of_methodNamed B.named, fun w hw => hts w (List.mem_cons_of_mem _ hw), fun hi => (name_of_methodNamed B.named B.method).1.trans (hin hi), q4, q5, hKl, q2, hmk⟩, hex⟩
  rw [lg_entry_eq]
  have hl := lv_entry (as.map (jx_V α)) (n := Z.2.2.1) (by rw [lg_sl_map]; exact Nat.le_of_not_lt hsl)
  rw [← lv_args_map] at hl
  have k := hW p e (headSpec (jWs TB Z) (jRm d (h'.length - h.length) (jtot h' - jtot h))).room s m _ below meth c (jMQ below (jQo D cl tys α dA K sz SP (jout α o) h') (as.map (jx_V α)).toArray s (h'.length - h.length) (jtot h' - jtot h) (fun q => sz ≤ q)) h.length (jtot h) hv
    (Nat.le_refl _) (Nat.le_refl _) (Nat.le_refl _) (Nat.le_refl _) (Nat.le_refl _) (Nat.le_refl _)
    (fun v hv9 => by subst hv9; exact jfin_of hα hSPm B.exec B.bytes B.returns B.notSynchronized q4 q5 hKl q2 hlen)
    (fun a ha9 => by subst ha9; exact jfinT_of hα hSPm B.notSynchronized q4 q5 hKl q2 hlen)
    _ s.heap [] hl ⟨hKl, q3, va_S.rf⟩
  rw [Nat.sub_self, Nat.sub_self] at k
  exact k
end JMain
end
section
section JSound
variable {l : Launch} {D : va_G} {cl : List vw_C} {tys : List (ClassId × FieldType)} {α : Nat → Nat} {dA : FieldType → ClassId} {K sz : Nat} {SP : State → Prop} {TB : List Jvm.Cond} {hd0 : jH} {T : jT}
theorem jtake (st : List Value) (n : Nat) : st = ((st.take n).reverse).reverse ++ st.drop n := by
  rw [List.reverse_reverse, List.take_append_drop]
theorem jcall_inv {gM : jL} {cn : Nat} {i : Instr} {len : Nat} {st : List Value} {h : jH} {kd z : Nat} {as r : List Value} (hq : jcall gM K cn i len st h = some (kd, z, as, r)) : len = 3 ∧ st = as.reverse ++ r ∧
    ((kd = 0 ∧ ∃ idx n ci b as' fs, i = .invokevirtual idx ∧ gM cn idx = some (0, z, n, ci) ∧ as = .ref b :: as' ∧ as.length = n ∧ h[b]? = some (.inr (ci, fs)) ∧ K ≤ b) ∨
     (kd = 1 ∧ ∃ idx n ci b as', i = .invokespecial idx ∧ gM cn idx = some (1, z, n, ci) ∧ as = .ref b :: as' ∧ as.length = n) ∨
     (kd = 2 ∧ ∃ idx n ci, i = .invokestatic idx ∧ gM cn idx = some (2, z, n, ci) ∧ as.length = n) ∨
     (kd = 3 ∧ ∃ idx n ci b, i = .invokespecial idx ∧ gM cn idx = some (3, n, ci) ∧ as = [.ref b]) ∨
     (kd = 4 ∧ ∃ idx n ci b as', i = .invokespecial idx ∧ gM cn idx = some (4, z, n, ci) ∧ as = .ref b :: as' ∧ as.length = n) ∨
     (kd = 5 ∧ ∃ idx q, i = .invokestatic idx ∧ gM cn idx = some (5, q))) := by
  unfold jcall at hq
  split at hq
  · split at hq
    · rename_i z0 n ci hg
      split at hq
      · rename_i hl
        split at hq
        · rename_i b as' hb
          split at hq
          · rename_i cj fs hcell
            split at hq
            · rename_i hc
              obtain ⟨rfl, hKb⟩ := hc
              cases hq
              refine ⟨hl.1, jtake _ _, Or.inl ⟨rfl, _, n, cj, b, as', fs, rfl, hg, hb, ?_, hcell, hKb⟩⟩
              rw [List.length_reverse, List.length_take]; omega
            · cases hq
          · cases hq
        · cases hq
      · cases hq
    · cases hq
  · split at hq
    · rename_i z0 n ci hg
      split at hq
      · rename_i hl
        split at hq
        · rename_i b as' hb
          cases hq
          refine ⟨hl.1, jtake _ _, Or.inr (Or.inl ⟨rfl, _, n, ci, b, as', rfl, hg, hb, ?_⟩)⟩
          rw [List.length_reverse, List.length_take]; omega
        · cases hq
      · cases hq
    · rename_i z0 n ci hg
      split at hq
      · rename_i hl
        split at hq
        · rename_i b as' hb
          cases hq
          refine ⟨hl.1, jtake _ _, Or.inr (Or.inr (Or.inr (Or.inr (Or.inl ⟨rfl, _, n, ci, b, as', rfl, hg, hb, ?_⟩))))⟩
          rw [List.length_reverse, List.length_take]; omega
        · cases hq
      · cases hq
    · rename_i z0 n ci hg
      split at hq
      · split at hq
        · rename_i hl
          cases hq
          exact ⟨hl, rfl, Or.inr (Or.inr (Or.inr (Or.inl ⟨rfl, _, _, _, _, rfl, hg, rfl⟩)))⟩
        · cases hq
      · cases hq
    · cases hq
  · split at hq
    · rename_i z0 n ci hg
      split at hq
      · rename_i hl
        cases hq
        refine ⟨hl.1, jtake _ _, Or.inr (Or.inr (Or.inl ⟨rfl, _, n, ci, rfl, hg, ?_⟩))⟩
        rw [List.length_reverse, List.length_take]; omega
      · cases hq
    · rename_i z0 n ci hg
      split at hq
      · rename_i hl
        cases hq
        exact ⟨hl.1, jtake _ _, Or.inr (Or.inr (Or.inr (Or.inr (Or.inr ⟨rfl, _, _, rfl, hg⟩))))⟩
      · cases hq
    · cases hq
  · cases hq
end JSound
end
section
section JInd
variable {l : Launch} {D : va_G} {cl : List vw_C} {tys : List (ClassId × FieldType)} {α : Nat → Nat} {dA : FieldType → ClassId} {K sz : Nat} {SP : State → Prop} {TB : List Jvm.Cond} {hd0 : jH} {T : jT}
theorem jcopy_inv {as : List Value} {h h' : jH} (hq : jcopy K as h = some h') : ∃ a0 sp a dp n n0 n1 f g, as = [.ref a0, .int sp, .ref a, .int dp, .int n] ∧ h[a0]? = some (.inl (.int, n0, .inl f)) ∧ h[a]? = some (.inl (.int, n1, .inl g)) ∧ ¬ sp < 0 ∧ ¬ dp < 0 ∧ ¬ n < 0 ∧ sp.toNatClampNeg + n.toNatClampNeg ≤ n0 ∧ dp.toNatClampNeg + n.toNatClampNeg ≤ n1 ∧ K ≤ a0 ∧ K ≤ a ∧
    h' = h.set a (.inl (.int, n1, .inl (va_cpy f g sp.toNatClampNeg dp.toNatClampNeg n.toNatClampNeg))) := by
  unfold jcopy at hq
  split at hq
  · rename_i a0 sp a dp n
    split at hq
    · rename_i n0 f n1 g h1 h2
      split at hq
      · cases hq
      · rename_i hc
        cases hq
        refine ⟨a0, sp, a, dp, n, n0, n1, f, g, rfl, h1, h2, fun z => hc (Or.inl (Or.inl z)), fun z => hc (Or.inl (Or.inr (Or.inl z))), fun z => hc (Or.inl (Or.inr (Or.inr z))), ?_, ?_, ?_, ?_, rfl⟩
        · exact Nat.le_of_not_lt (fun z => hc (Or.inr (Or.inl (Or.inl z))))
        · exact Nat.le_of_not_lt (fun z => hc (Or.inr (Or.inl (Or.inr z))))
        · exact Nat.le_of_not_lt (fun z => hc (Or.inr (Or.inr (Or.inl z))))
        · exact Nat.le_of_not_lt (fun z => hc (Or.inr (Or.inr (Or.inr z))))
    · cases hq
  · cases hq
/-- the callee stands before its entry, by whatever word -/
theorem jinvk (O : jOK D cl tys α dA K sz SP TB hd0 T) {p : Program} {e : Env} {R : Room} {s : State} {m : MethodId} {args : Array Value} {below : List Frame} {meth : Method} {c : Code} {H : Heap} {locs : List Loc} {cells slots : Nat} {M Z : jM} {n0 : Nat} (V : jEnvM D cl tys α K sz SP TB T p s m args meth c M n0)
    {i : Instr} {len pc : Nat} {st : List Value} {h : jH} {kd z : Nat} {as r : List Value} {ls : Array Slot} (hft : M.2.2.2.2.2.2.1 pc = some (i, len)) (hcl : jcall T.2.1 K M.2.2.2.2.1 i len st h = some (kd, z, as, r)) (h3 : kd ≠ 3) (h5 : kd ≠ 5) (hz : T.2.2.1 z = some Z) (hR : jRel D cl α dA K sz h s H locs)
    (U : State) (hU : U.heap = H) (X : Stand p l e R s m args below meth c U locs cells slots) : jInvk p l e R s m args below meth c U locs cells slots (F0 m pc ls (st.map (jx_V α))) (r.map (jx_V α)) Z.1 (as.map (jx_V α)).toArray := by
  obtain ⟨hα, ⟨hd0l, hinj⟩, hgood, harr, hSPm, hscr, hmt⟩ := O
  obtain ⟨⟨hx, hb, hml, hown, hts, hini, hK, hSP, hKn, hsz, hdec, hnL, hF, hN, hS, hC, hL⟩, hex⟩ := V
  obtain ⟨hpl, hyn, hin, hcd, hini2, hmk⟩ := hmt z Z hz
  have hd := hdec pc i len hft
  rw [← hb] at hd
  obtain ⟨rfl, hst, hc⟩ := jcall_inv hcl
  rcases hc with ⟨rfl, idx, n, ci, b, as', fs, rfl, hg, has, hn, hcell, hKb⟩ | ⟨rfl, idx, n, ci, b, as', rfl, hg, has, hn⟩ | ⟨rfl, idx, n, ci, rfl, hg, hn⟩ | ⟨rfl, -⟩ | ⟨rfl, idx, n, ci, b, as', rfl, hg, has, hn⟩ | ⟨rfl, -⟩
  · obtain ⟨k0, -⟩ := hL _ _ _ _ _ hg
    obtain ⟨Z', T', N', q1, q2, q3, q4, q5, q6⟩ := k0 rfl
    cases hz.symm.trans q1
    subst has
    obtain ⟨cell, g1, g2, g3⟩ := va_recv hK hR.2.1 q2 (jx_ws_get (α := α) (dA := dA) hcell hKb)
    refine jInvkV X hx hown (hts _ q3) (hts _ q4) (hts _ q5) hyn (fun mk methM h1 h2 => ?_) (by rw [hU]; exact g1) g2 g3 rfl (argsL := as'.map (jx_V α)) (fun sig hsig => ?_) ?_ hd
    · obtain ⟨meth9, c9, w1, -, -, -, -, -, -, w2⟩ := jCode_spec h1 (hts _ hcd)
      cases h2.symm.trans w1
      exact w2
    · rw [hsig] at q6
      have q7 : sig.parameters.length = n - 1 := Option.some.inj q6
      simp at hn ⊢
      omega
    · show st.map (jx_V α) = _
      rw [hst]
      simp [jx_V]
  · obtain ⟨-, k1, -⟩ := hL _ _ _ _ _ hg
    obtain ⟨Z', q1, q2, q3, qh, q4, q5, q6⟩ := k1 rfl
    cases hz.symm.trans q1
    subst has
    have hcd2 := hts _ hcd
    rw [qh, q3, List.map_nil, if_pos rfl] at hcd2
    · refine jInvkI X hx hown q2 (hts _ q4) (hts _ q5) hcd2 hyn rfl (argsL := as'.map (jx_V α)) (fun sig hsig => ?_) ?_ hd
      · rw [hsig] at q6
        have q7 : sig.parameters.length = n - 1 := Option.some.inj q6
        simp at hn ⊢
        omega
      · show st.map (jx_V α) = _
        rw [hst]
        simp [jx_V]
  · obtain ⟨-, -, k2, -⟩ := hL _ _ _ _ _ hg
    obtain ⟨Z', q1, q4, q5, q6⟩ := k2 rfl
    cases hz.symm.trans q1
    have hcd2 := hts _ hcd
    obtain ⟨mk, hmk9⟩ : ∃ mk, s.methodNamed? Z.1 = some mk := by
      split at hcd2
      · exact Cond.code_named hcd2
      · obtain ⟨mk, -, -, w, -⟩ := Cond.codeWith_spec hcd2
        exact ⟨mk, w⟩
    obtain ⟨meth9, c9, w1, -, -, -, -, -, -, w2⟩ := jCode_spec hmk9 (hts _ hcd)
    refine jInvkS X hx hown (hts _ q4) (hts _ q5) (hts _ hini2) hyn hmk9 w1 w2 rfl (argsL := as.map (jx_V α)) (fun sig hsig => ?_) ?_ hd
    · rw [hsig] at q6
      have q7 : sig.parameters.length = n := Option.some.inj q6
      simp at hn ⊢
      omega
    · show st.map (jx_V α) = _
      rw [hst]
      simp
  · exact absurd rfl h3
  · obtain ⟨-, -, -, -, k4, -⟩ := hL _ _ _ _ _ hg
    obtain ⟨Z', host, q1, q2, q3, qh, q4, q5, q6⟩ := k4 rfl
    cases hz.symm.trans q1
    subst has
    have hcd2 := hts _ hcd
    rw [qh, q3, List.map_nil, if_pos rfl] at hcd2
    · refine jInvkIN X hx hown q2 (va_Nw.use rfl (q4 s hSP)) (hts _ q5) hcd2 hyn rfl (argsL := as'.map (jx_V α)) (fun sig hsig => ?_) ?_ hd
      · rw [hsig] at q6
        have q7 : sig.parameters.length = n - 1 := Option.some.inj q6
        simp at hn ⊢
        omega
      · show st.map (jx_V α) = _
        rw [hst]
        simp [jx_V]
  · exact absurd rfl h5
end JInd
end
section
section JSnd
variable {l : Launch} {D : va_G} {cl : List vw_C} {tys : List (ClassId × FieldType)} {α : Nat → Nat} {dA : FieldType → ClassId} {K sz : Nat} {SP : State → Prop} {TB : List Jvm.Cond} {hd0 : jH} {T : jT}
set_option maxHeartbeats 4000000 in
/-- THE MAIN ROW: what the small machine does, the machine does -/
theorem jsound (O : jOK D cl tys α dA K sz SP TB hd0 T) (hThr : jThrowOK l D cl tys α dA K sz SP TB T) (hCat : jCatchOK l D cl tys α dA K sz SP TB T) :
    ∀ (n d : Nat) (M : jM) (pc : Nat) (lv : List (Nat × Value)) (st : List Value) (h : jH) (o : Option Value ⊕ Nat) (h' : jH), jKn cl α sz SP TB T M → (M.2.2.2.2.2.2.2 = [] ∨ ∃ z, T.2.2.1 z = some M) →
      jrun T K n d M (pc, lv, st, h) = some (o, h') → h.take K = hd0 → K ≤ h.length → jRow l D cl tys α dA K sz SP TB hd0 T d M pc lv st h o h' := by
  intro n
  induction n with
  | zero =>
    intro d M pc lv st h o h' _ _ hr
    have hr : (none : Option jO) = some (o, h') := hr
    cases hr
  | succ n ih =>
    intro d M pc lv st h o h' hkn hhs hr hh hKl
    have hr : jbody T K (jrun T K n) d M (pc, lv, st, h) = some (o, h') := hr
    unfold jbody at hr
    dsimp only at hr
    cases h1 : M.2.2.2.2.2.2.1 pc with
    | none => simp only [h1] at hr; cases hr
    | some q =>
      obtain ⟨i, len⟩ := q
      simp only [h1] at hr
      cases h2 : jstep T.1 K M.2.2.2.2.1 M.2.2.1 M.2.2.2.2.2.1 i len pc lv st h with
      | some s' =>
        simp only [h2] at hr
        obtain ⟨pc1, lv1, st1, h3⟩ := s'
        obtain ⟨g1, g2, g3⟩ := jstep_grow h2 hKl
        dsimp only at g1 g2 g3
        obtain ⟨r1, r2, r3, r4⟩ := ih d M pc1 lv1 st1 h3 o h' hkn hhs hr (g1.trans hh) (by omega)
        refine ⟨r1, by omega, by omega, fun p e R s m args below meth c Q n0 t0 V hn0 ht0 hf hlo hc hs hF hFT => ?_⟩
        obtain ⟨-, -, -, hst⟩ := jstep_ok (l := l) (e := e) (R := R) (below := below) (Q := Q) (t0 := t0) O V.1 h1 h2 hh hn0 ht0 hKl
        exact hst (by omega) (by omega) (r4 p e R s m args below meth c Q n0 t0 V (by omega) (by omega) hf hlo hc hs hF hFT)
      | none =>
        simp only [h2] at hr
        cases h3 : jend M.2.2.2.1 i len st with
        | some v =>
          simp only [h3] at hr
          cases hr
          refine ⟨hh, Nat.le_refl _, Nat.le_refl _, fun p e R s m args below meth c Q n0 t0 V hn0 ht0 hf hlo hc hs hF hFT ls H locs hl hR => ?_⟩
          exact hF v rfl i len pc st ls H locs h3 (hkn.1 pc i len h1) hR
        | none =>
          simp only [h3] at hr
          cases h4 : jcall T.2.1 K M.2.2.2.2.1 i len st h with
          | none =>
            simp only [h4] at hr
            cases h5 : jthr T K M i len pc st with
            | none => simp only [h5] at hr; cases hr
            | some ci =>
              simp only [h5] at hr
              split at hr
              · cases hr
              · rename_i hd8
                cases hr
                refine ⟨by rw [List.take_append_of_le_length hKl]; exact hh, by rw [List.length_append]; omega, by rw [jtot_push]; omega, fun p e R s m args below meth c Q n0 t0 V hn0 ht0 hf hlo hc hs hF hFT ls H locs hl hR => ?_⟩
                have hα := O.1
                obtain ⟨V1, V2⟩ := id V
                obtain ⟨hx, hb, hml, hown, hts, hini, hK, hSP, hKn, hsz, -⟩ := V1
                have hhs0 : M.2.2.2.2.2.2.2 = [] := by
                  unfold jthr at h5
                  split at h5
                  · split at h5
                    · rename_i hhs1
                      exact hhs1
                    · cases h5
                  · cases h5
                have hex : c.exceptionTable.toList = [] := by
                  rw [hhs0] at V2
                  exact List.map_eq_nil_iff.mp V2
                refine W.jsized (fun hub => ?_)
                have hz : H.size = α h.length := by
                  rw [hR.size hα (by omega) (by omega), ← hα]
                  congr 1
                  omega
                rw [List.length_append] at hc
                rw [jtot_push] at hs
                simp only [jsz, List.length_cons, List.length_nil] at hc hs
                refine hThr p e R s m args below meth c Q M n0 i len pc ci st ls H locs (h.length - n0) (jtot h - t0) h V hl.1 h1 h5 hR hz (by omega) (by omega) (by omega) (by omega) (fun H1 locs1 st1 hR1 => ?_)
                have k := hFT h.length rfl (pc + 9) st1 ls H1 locs1 hex hR1
                rw [List.length_append, jtot_push] at k
                simp only [jsz, List.length_cons, List.length_nil] at k
                rw [show h.length - n0 + 1 = h.length + (0 + 1) - n0 by omega, show jtot h - t0 + 6 = jtot h + (0 + 1 + 1 + 1 + 1 + 1 + 1) - t0 by omega]
                exact k
          | some q =>
            obtain ⟨kd, z, as, r⟩ := q
            simp only [h4] at hr
            cases d with
            | zero => cases hr
            | succ d' =>
              simp only at hr
              by_cases h8 : 8 < (r.map fun v => v.category).sum
              · simp only [h8, if_true] at hr; cases hr
              simp only [h8, if_false] at hr
              by_cases h6 : kd = 3
              · simp only [h6, if_true] at hr
                subst h6
                obtain ⟨rfl, hst, hc⟩ := jcall_inv h4
                obtain ⟨idx, n', ci', b, rfl, hg, rfl⟩ : ∃ idx n ci b, i = .invokespecial idx ∧ T.2.1 M.2.2.2.2.1 idx = some (3, n, ci) ∧ as = [.ref b] := by
                  rcases hc with ⟨q, -⟩ | ⟨q, -⟩ | ⟨q, -⟩ | ⟨-, q⟩ | ⟨q, -⟩ | ⟨q, -⟩
                  · exact absurd q (by decide)
                  · exact absurd q (by decide)
                  · exact absurd q (by decide)
                  · exact q
                  · exact absurd q (by decide)
                  · exact absurd q (by decide)
                obtain ⟨r1, r2, r3, r4⟩ := ih (d' + 1) M (pc + 3) lv r h o h' hkn hhs hr hh hKl
                refine ⟨r1, r2, r3, fun p e R s m args below meth c Q n0 t0 V hn0 ht0 hf hlo hc hs hF hFT ls H locs hl hR => ?_⟩
                obtain ⟨⟨hx, hb, hml, hown, hts, hini, hK, hSP, hKn, hsz, hdec, hnL, hF1, hN1, hS1, hC1, hL1⟩, V2⟩ := id V
                obtain ⟨w1, w2, w3⟩ := (hL1 _ _ _ _ _ hg).2.2.2.1 rfl
                have k := r4 p e R s m args below meth c Q n0 t0 V hn0 ht0 hf hlo hc hs hF hFT ls H locs hl hR
                rw [hst]
                refine W.objInit (g := F0 m pc ls (List.map (jx_V α) ([Value.ref b].reverse ++ r))) (a := α b) (rest := r.map (jx_V α)) hx hb hown (hts _ w1) (hts _ w2) (hts _ w3) rfl (hl.1.trans hml.symm) rfl (hkn.1 pc _ _ h1) (by omega) ?_ k
                rw [jsum_map]
                show 2 * 0 + _ + 12 ≤ _
                omega
              simp only [h6, if_false] at hr
              by_cases h66 : kd = 5
              · simp only [h66, if_true] at hr
                subst h66
                cases h67 : jcopy K as h with
                | none => simp only [h67] at hr; cases hr
                | some h3 =>
                  simp only [h67] at hr
                  obtain ⟨rfl, hst, hc⟩ := jcall_inv h4
                  obtain ⟨idx, q', rfl, hg⟩ : ∃ idx q, i = .invokestatic idx ∧ T.2.1 M.2.2.2.2.1 idx = some (5, q) := by
                    rcases hc with ⟨q, -⟩ | ⟨q, -⟩ | ⟨q, -⟩ | ⟨q, -⟩ | ⟨q, -⟩ | ⟨-, q⟩
                    · exact absurd q (by decide)
                    · exact absurd q (by decide)
                    · exact absurd q (by decide)
                    · exact absurd q (by decide)
                    · exact absurd q (by decide)
                    · exact q
                  obtain ⟨a0, sp, a, dp, n', m0, m1, f, g, rfl, e1, e2, e3, e4, e5, e6, e7, e8, e9, rfl⟩ := jcopy_inv h67
                  have gt : (h.set a (.inl (.int, m1, .inl (va_cpy f g sp.toNatClampNeg dp.toNatClampNeg n'.toNatClampNeg)))).take K = hd0 := by rw [List.take_set_of_le e9]; exact hh
                  have gs : jtot (h.set a (.inl (.int, m1, .inl (va_cpy f g sp.toNatClampNeg dp.toNatClampNeg n'.toNatClampNeg)))) = jtot h := jtot_set e2 rfl
                  obtain ⟨r1, r2, r3, r4⟩ := ih (d' + 1) M (pc + 3) lv r _ o h' hkn hhs hr gt (by rw [List.length_set]; exact hKl)
                  rw [List.length_set] at r2
                  rw [gs] at r3
                  refine ⟨r1, r2, r3, fun p e R s m args below meth c Q n0 t0 V hn0 ht0 hf hlo hc hs hF hFT ls H locs hl hR => ?_⟩
                  obtain ⟨⟨hx, hb, hml, hown, hts, hini, hK, hSP, hKn, hsz, hdec, hnL, hF1, hN1, hS1, hC1, hL1⟩, V2⟩ := id V
                  obtain ⟨w1, w2, w3, w4⟩ := (hL1 _ _ _ _ _ hg).2.2.2.2.2 rfl
                  obtain ⟨t1, ht1⟩ := (O.2.2.2.1 .int 0 _ rfl).1
                  rw [hst]
                  refine va_copyi (rest := r.map (jx_V α)) (q0 := a0 - K) (q1 := a - K) (t0 := t1) (t1 := t1) (ty := .int) hx hb (hml.trans hl.1.symm) hown (hts _ w1) (hts _ w2) (hts _ w3) (hts _ w4) hK hR.2.1 (jx_D O.1 h) hR.2.2 (jx_ws_get e1 e8) (jx_ws_get e2 e9) ht1 ht1 rfl e3 e4 e5 e6 e7 (fun _ _ => rfl) (by omega) ?_ (hkn.1 pc _ _ h1) (fun H1 locs1 q1 _ q3 => ?_)
                  · rw [jsum_map]
                    have : nativeFrameWords "java/lang/System" "arraycopy" 5 = 7 := by decide +kernel
                    omega
                  · have k := r4 p e R s m args below meth c Q n0 t0 V (by rw [List.length_set]; exact hn0) (by rw [gs]; exact ht0) hf hlo hc hs hF hFT ls H1 locs1 hl (jRel_set hR e9 rfl q1 q3)
                    rw [List.length_set, gs] at k
                    exact k
              simp only [h66, if_false] at hr
              cases h7 : T.2.2.1 z with
              | none => simp only [h7] at hr; cases hr
              | some Z =>
                simp only [h7] at hr
                by_cases h9 : Z.2.2.1 < (lg_sl as).length
                · simp only [h9, if_true] at hr; cases hr
                simp only [h9, if_false] at hr
                cases h10 : jrun T K n d' Z (0, lv_args 0 as, [], h) with
                | none => simp only [h10] at hr; cases hr
                | some q9 =>
                  simp only [h10] at hr
                  obtain ⟨o1, hv3⟩ := q9
                  have hmtZ := O.2.2.2.2.2.2 z Z h7
                  have row1 := ih d' Z 0 (lv_args 0 as) [] h o1 hv3 hmtZ.2.2.2.2.2 (Or.inr ⟨z, h7⟩) h10 hh hKl
                  have hM := jmet (l := l) O h7 row1 hKl h9
                  obtain ⟨u1, u2, u3, -⟩ := row1
                  have hwsG : ∀ w ∈ jWs TB Z, w ∈ TB := fun w hw => by
                    rcases List.mem_cons.mp hw with rfl | hw
                    · exact hmtZ.2.2.2.1
                    · exact hw
                  have key : ∀ (p : Program) (e : Env) (R : Room) (s : State) (m : MethodId) (args : Array Value) (below : List Frame) (meth : Method) (c : Code) (Q : State → Prop) (n0 t0 : Nat), jEnvM D cl tys α K sz SP TB T p s m args meth c M n0 → n0 ≤ h.length → t0 ≤ jtot h → d' + 1 ≤ R.frames → 64 * (d' + 1) ≤ R.locals → hv3.length - n0 ≤ R.cells → jtot hv3 - t0 ≤ R.slots →
                      ∀ (ls : Array Slot) (H : Heap) (locs : List Loc), lv_has ls M.2.2.1 (lv.map (jx_L α)) → jRel D cl α dA K sz h s H locs →
                      (∀ v, o1 = .inl v → ∀ (H1 : Heap) (locs1 : List Loc), jRel D cl α dA K sz hv3 s H1 locs1 → W p l e R s m args below meth c H1 locs1 (hv3.length - n0) (jtot hv3 - t0) Q (F0 m (pc + 3) ls ((v.toList ++ r).map (jx_V α)))) →
                      (∀ a, o1 = .inr a → ∀ (H1 : Heap) (locs1 : List Loc), jRel D cl α dA K sz hv3 s H1 locs1 → WT p l e R s m args below meth c H1 locs1 (hv3.length - n0) (jtot hv3 - t0) Q (F0 m pc ls (r.map (jx_V α))) (α a)) →
                      W p l e R s m args below meth c H locs (h.length - n0) (jtot h - t0) Q (F0 m pc ls (st.map (jx_V α))) := by
                    intro p e R s m args below meth c Q n0 t0 V hn0 ht0 hf hlo hc hs ls H locs hl hR kr kt
                    obtain ⟨⟨hx, hb, hml, hown, hts, hini, hK, hSP, hKn, hsz, -⟩, V2⟩ := id V
                    obtain ⟨rfl, hst, -⟩ := jcall_inv h4
                    have hd := hkn.1 pc _ _ h1
                    rw [← hb] at hd
                    refine W.jsized (fun hub => ?_)
                    have ec : h.length - n0 + (hv3.length - h.length) = hv3.length - n0 := by omega
                    have es : jtot h - t0 + (jtot hv3 - jtot h) = jtot hv3 - t0 := by omega
                    refine jcallW (hh := Z.2.2.2.2.2.2.2.map (fun q => q.1)) (bytes := Z.2.1) (maxL := Z.2.2.1) (ret := Z.2.2.2.1) (g := F0 m pc ls (st.map (jx_V α))) (rest := r.map (jx_V α)) (av := (as.map (jx_V α)).toArray) hM (jB_blind O.2.2.2.2.1 as h) rfl rfl (by show d' + 1 ≤ _; exact hf) ?_ (pay_in hts (fun w hw => ⟨hwsG w hw, O.2.2.1 w (hwsG w hw)⟩)) List.mem_cons_self
                      (fun a' U hW => word_at hW (O.2.2.1 _ hmtZ.2.2.2.2.1) (hts _ hmtZ.2.2.2.2.1)) rfl (hl.1.trans hml.symm) hd ?_ (by rw [ec]; exact hc) (by rw [es]; exact hs) (fun U hU hW => ?_) hR.2.2 (fun U hU X => jinvk O V h1 h4 h6 h66 h7 hR U hU X) (fun v hv H1 locs1 hR1 => ?_) (fun a ha H1 locs1 hR1 => ?_)
                    · show 8 + (Z.2.2.1 + 11) + 64 * d' ≤ _
                      have := hmtZ.2.2.2.2.2.2.1
                      omega
                    · rw [jsum_map]
                      show 2 * 0 + _ ≤ 8
                      omega
                    · refine ⟨rfl, hKl, by rw [hU]; exact hR.size O.1 (by omega) (by omega), by rw [hU]; exact hR.2.1, va_K.moved hW.alike hK, O.2.2.2.2.1 s U hW (fun q hq => ?_) hSP⟩
                      rw [hU]
                      exact hR.2.2.2.1 q (by omega) (by omega)
                    · rw [ec, es]
                      have k := kr v hv H1 locs1 hR1
                      cases v with
                      | none => exact k
                      | some w => exact k
                    · rw [ec, es]
                      exact kt a ha H1 locs1 hR1
                  cases o1 with
                  | inl v =>
                    simp only at hr
                    obtain ⟨r1, r2, r3, r4⟩ := ih (d' + 1) M (pc + 3) lv (v.toList ++ r) hv3 o h' hkn hhs hr u1 (by omega)
                    refine ⟨r1, by omega, by omega, fun p e R s m args below meth c Q n0 t0 V hn0 ht0 hf hlo hc hs hF hFT ls H locs hl hR => ?_⟩
                    refine key p e R s m args below meth c Q n0 t0 V hn0 ht0 hf hlo (by omega) (by omega) ls H locs hl hR (fun v' hv H1 locs1 hR1 => ?_) (fun a ha => by cases ha)
                    cases hv
                    exact r4 p e R s m args below meth c Q n0 t0 V (by omega) (by omega) hf hlo hc hs hF hFT ls H1 locs1 hl hR1
                  | inr a =>
                    simp only at hr
                    cases h11 : M.2.2.2.2.2.2.2 with
                    | nil =>
                      simp only [h11] at hr
                      cases hr
                      refine ⟨u1, u2, u3, fun p e R s m args below meth c Q n0 t0 V hn0 ht0 hf hlo hc hs hF hFT ls H locs hl hR => ?_⟩
                      refine key p e R s m args below meth c Q n0 t0 V hn0 ht0 hf hlo hc hs ls H locs hl hR (fun v hv => by cases hv) (fun a' ha H1 locs1 hR1 => ?_)
                      cases ha
                      refine hFT a rfl pc (r.map (jx_V α)) ls H1 locs1 ?_ hR1
                      have V2 := V.2
                      rw [h11] at V2
                      exact List.map_eq_nil_iff.mp V2
                    | cons b hs0 =>
                      simp only [h11] at hr
                      cases h12 : jhand (b :: hs0) pc hv3 a with
                      | none => simp only [h12] at hr; cases hr
                      | some q =>
                        simp only [h12] at hr
                        obtain ⟨r1, r2, r3, r4⟩ := ih (d' + 1) M q lv [.ref a] hv3 o h' hkn hhs hr u1 (by omega)
                        refine ⟨r1, by omega, by omega, fun p e R s m args below meth c Q n0 t0 V hn0 ht0 hf hlo hc hs hF hFT ls H locs hl hR => ?_⟩
                        refine key p e R s m args below meth c Q n0 t0 V hn0 ht0 hf hlo (by omega) (by omega) ls H locs hl hR (fun v hv => by cases hv) (fun a' ha H1 locs1 hR1 => ?_)
                        cases ha
                        refine hCat p e R s m args below meth c Q M n0 pc a q _ ls H1 locs1 _ _ hv3 (hhs.resolve_left (by rw [h11]; intro z; cases z)) V (by rw [h11]; exact h12) hR1 ?_
                        exact r4 p e R s m args below meth c Q n0 t0 V (by omega) (by omega) hf hlo hc hs hF hFT ls H1 locs1 hl hR1
end JSnd
end
section
/-! the tables of the small machine for this claim, by program (wip/whole/gentab.py) -/
def jlk {β : Type} : List (Nat × β) → Nat → Option β
  | [], _ => none
  | q :: r, k => bif Nat.beq q.1 k then some q.2 else jlk r k
def jlk2 {β : Type} : List (Nat × List (Nat × β)) → Nat → Option β
  | [], _ => none
  | q :: r, k => bif Nat.blt k q.1 then jlk q.2 k else jlk2 r k
theorem jlk_mem {β : Type} {k : Nat} {v : β} : ∀ {l : List (Nat × β)}, jlk l k = some v → (k, v) ∈ l
  | [], h => by cases h
  | q :: r, h => by
    unfold jlk at h
    cases hq : Nat.beq q.1 k with
    | true =>
      rw [hq] at h
      have e : q.1 = k := Nat.eq_of_beq_eq_true hq
      have e2 : q.2 = v := Option.some.inj h
      rw [← e, ← e2]
      exact List.mem_cons_self
    | false =>
      rw [hq] at h
      exact List.mem_cons_of_mem _ (jlk_mem h)
theorem jlk2_mem {β : Type} {k : Nat} {v : β} : ∀ {l : List (Nat × List (Nat × β))}, jlk2 l k = some v → (k, v) ∈ l.flatMap (fun q => q.2)
  | [], h => by cases h
  | q :: r, h => by
    unfold jlk2 at h
    cases hq : Nat.blt k q.1 with
    | true =>
      rw [hq] at h
      exact List.mem_append_left _ (jlk_mem h)
    | false =>
      rw [hq] at h
      exact List.mem_append_right _ (jlk2_mem h)
def jd_f : List (Nat × List (Nat × ((Nat × Nat × Nat) × Nat))) := [(195, [(10, ((10, 0, 11), 2024)), (19, ((10, 1, 11), 2025)), (28, ((10, 2, 11), 2026)), (37, ((10, 3, 11), 2027)), (44, ((10, 4, 11), 2028)), (53, ((10, 5, 11), 2029)), (62, ((10, 6, 11), 2030)), (69, ((10, 7, 11), 2031)), (76, ((10, 8, 11), 2032)), (80, ((10, 9, 0), 2033)), (130, ((10, 10, 2), 2034)), (144, ((10, 11, 0), 2035))]),
  (3041, [(195, ((8, 2, 0), 1166)), (1016, ((0, 0, 11), 1074)), (1020, ((0, 1, 11), 1075)), (2009, ((1, 0, 11), 1106)), (2015, ((1, 1, 11), 1107)), (2019, ((1, 2, 0), 1108)), (3009, ((2, 0, 11), 1176)), (3015, ((2, 1, 11), 1177)), (3024, ((2, 2, 11), 1178)), (3028, ((2, 3, 11), 1179)), (3034, ((2, 4, 11), 1180)), (3038, ((2, 5, 11), 1181))]),
  (6032, [(3041, ((2, 6, 0), 1182)), (3134, ((8, 2, 0), 1168)), (3154, ((8, 0, 0), 1160)), (3161, ((8, 1, 0), 1163)), (5009, ((3, 0, 11), 1087)), (5015, ((3, 1, 11), 1088)), (5019, ((3, 3, 0), 1090)), (5051, ((3, 2, 0), 1089)), (6009, ((4, 0, 11), 1208)), (6015, ((4, 1, 11), 1209)), (6019, ((4, 2, 11), 1210)), (6023, ((4, 3, 11), 1211))]),
  (7036, [(6032, ((4, 4, 11), 1212)), (6036, ((4, 5, 11), 1213)), (6042, ((4, 6, 11), 1214)), (6046, ((4, 7, 11), 1215)), (6049, ((4, 8, 0), 1216)), (6170, ((8, 0, 0), 1158)), (6183, ((8, 2, 0), 1165)), (7009, ((5, 0, 11), 1124)), (7020, ((5, 1, 11), 1125)), (7024, ((5, 2, 11), 1126)), (7027, ((5, 3, 11), 1127)), (7030, ((5, 4, 11), 1128))]),
  (11028, [(7036, ((5, 5, 0), 1129)), (7054, ((8, 0, 0), 1159)), (7059, ((8, 1, 0), 1162)), (7062, ((8, 2, 0), 1167)), (8017, ((6, 0, 10), 1063)), (8021, ((6, 1, 1), 1064)), (8025, ((6, 2, 0), 1065)), (9009, ((7, 0, 11), 1040)), (9015, ((7, 1, 0), 1041)), (11009, ((9, 0, 11), 2006)), (11015, ((9, 1, 11), 2007)), (11019, ((9, 2, 11), 2008))]),
  (12031, [(11028, ((9, 3, 11), 2009)), (11035, ((9, 4, 11), 2010)), (11063, ((8, 2, 0), 1164)), (11067, ((8, 0, 0), 1157)), (11070, ((8, 1, 0), 1161)), (12007, ((11, 0, 11), 5054)), (12013, ((11, 1, 11), 5055)), (12016, ((11, 2, 11), 5056)), (12019, ((11, 3, 11), 5057)), (12022, ((11, 4, 11), 5058)), (12025, ((11, 5, 11), 5059)), (12028, ((11, 6, 11), 5060))]),
  (12069, [(12031, ((11, 9, 0), 5063)), (12035, ((11, 14, 11), 5068)), (12038, ((11, 15, 11), 5069)), (12042, ((11, 16, 11), 5070)), (12045, ((11, 17, 11), 5071)), (12048, ((11, 18, 11), 5072)), (12051, ((11, 19, 11), 5073)), (12054, ((11, 20, 11), 5074)), (12057, ((11, 21, 11), 5075)), (12060, ((11, 22, 11), 5076)), (12063, ((11, 23, 11), 5077)), (12066, ((11, 24, 11), 5078))]),
  (12105, [(12069, ((11, 41, 11), 5095)), (12072, ((11, 42, 11), 5096)), (12075, ((11, 43, 11), 5097)), (12078, ((11, 44, 11), 5098)), (12081, ((11, 45, 11), 5099)), (12084, ((11, 46, 11), 5100)), (12087, ((11, 47, 11), 5101)), (12090, ((11, 48, 11), 5102)), (12093, ((11, 49, 11), 5103)), (12096, ((11, 50, 11), 5104)), (12099, ((11, 51, 11), 5105)), (12102, ((11, 52, 11), 5106))]),
  (12153, [(12105, ((11, 53, 11), 5107)), (12108, ((11, 54, 11), 5108)), (12111, ((11, 55, 11), 5109)), (12114, ((11, 56, 11), 5110)), (12117, ((11, 57, 11), 5111)), (12120, ((11, 58, 11), 5112)), (12123, ((11, 59, 11), 5113)), (12126, ((11, 60, 11), 5114)), (12129, ((11, 61, 11), 5115)), (12132, ((11, 62, 11), 5116)), (12135, ((11, 11, 0), 5065)), (12146, ((11, 7, 0), 5061))]),
  (12231, [(12153, ((11, 10, 0), 5064)), (12171, ((11, 8, 0), 5062)), (12177, ((11, 38, 2), 5092)), (12181, ((11, 13, 0), 5067)), (12184, ((11, 12, 0), 5066)), (12190, ((11, 26, 0), 5080)), (12194, ((11, 27, 0), 5081)), (12196, ((11, 25, 0), 5079)), (12209, ((11, 28, 0), 5082)), (12219, ((11, 32, 0), 5086)), (12222, ((11, 30, 0), 5084)), (12228, ((11, 39, 2), 5093))]),
  (1000000000, [(12231, ((11, 36, 0), 5090)), (12234, ((11, 37, 0), 5091)), (12246, ((11, 40, 2), 5094)), (12263, ((11, 35, 0), 5089)), (12270, ((11, 29, 0), 5083)), (12289, ((11, 33, 0), 5087)), (12292, ((11, 34, 0), 5088)), (12317, ((11, 31, 0), 5085)), (12324, ((11, 63, 0), 5117))])]
def jd_n : List (Nat × List (Nat × ((Nat × List Value) × List Nat))) := [(6027, [(7, ((7, [.null, .int 0]), [1034, 1035, 1002])), (16, ((0, [.null, .null]), [1048, 1049, 1003])), (23, ((3, [.null, .null, .int 0, .int 0]), [1081, 1082, 1006])), (32, ((1, [.null, .null, .int 0]), [1100, 1101, 1007])), (41, ((5, [.null, .null, .null, .null, .null, .int 0]), [1116, 1117, 1008])), (48, ((2, [.null, .null, .null, .null, .null, .null, .int 0]), [1143, 1144, 1009])), (57, ((4, [.null, .null, .null, .null, .null, .null, .null, .null, .int 0]), [1198, 1199, 1011])), (66, ((9, [.null, .null, .null, .null, .null]), [1236, 1237, 1012])), (73, ((8, [.int 0, .int 0, .int 0]), [2022, 1152, 1010])), (1009, ((6, [.int 0, .null, .int 0]), [1054, 1055, 1004])), (3019, ((6, [.int 0, .null, .int 0]), [1149, 1055, 1004])), (3031, ((8, [.int 0, .int 0, .int 0]), [1151, 1152, 1010]))]),
  (1000000000, [(6027, ((6, [.int 0, .null, .int 0]), [1204, 1055, 1004])), (6039, ((8, [.int 0, .int 0, .int 0]), [1206, 1152, 1010])), (7015, ((6, [.int 0, .null, .int 0]), [1122, 1055, 1004])), (11023, ((6, [.int 0, .null, .int 0]), [2002, 1055, 1004])), (11032, ((8, [.int 0, .int 0, .int 0]), [2004, 1152, 1010])), (13008, ((10, [.null, .null, .null, .null, .null, .null, .null, .null, .null, .int 0, .int 0, .int 0]), [1026, 1027, 1001])), (13044, ((11, [.null, .null, .null, .null, .null, .null, .null, .int 0, .int 0, .int 0, .int 0, .int 0, .int 0, .int 0, .null, .null, .null, .null, .null, .null, .null, .null, .null, .null, .null, .int 0, .int 0, .int 0, .int 0, .int 0, .int 0, .int 0, .int 0, .int 0, .int 0, .int 0, .int 0, .int 0, .int 0, .int 0, .int 0, .null, .null, .null, .null, .null, .null, .null, .null, .null, .null, .null, .null, .null, .null, .null, .null, .null, .null, .null, .null, .null, .null, .int 0]), [5047, 5048, 1013]))])]
def jd_s : List (Nat × List (Nat × (Nat × Nat))) := [(6095, [(150, (1, 3160)), (169, (7, 4219)), (214, (2, 4171)), (220, (3, 4176)), (225, (6, 4178)), (3078, (1, 4096)), (3084, (8, 4097)), (3098, (9, 4132)), (3117, (7, 4094)), (3127, (3, 4071)), (6082, (1, 3167)), (6088, (2, 3168))]),
  (1000000000, [(6095, (4, 3198)), (6101, (8, 4099)), (6107, (5, 3204)), (6117, (9, 4135)), (6123, (7, 3222)), (6129, (3, 3178)), (6180, (6, 3220)), (6215, (10, 4160))])]
def jd_c : List (Nat × List (Nat × (Value × Nat))) := [(233, [(90, (.ref 11, 2152)), (101, (.ref 12, 2188)), (114, (.ref 13, 2210)), (125, (.ref 14, 3094)), (134, (.ref 15, 3106)), (142, (.ref 16, 3124)), (166, (.ref 20, 4218)), (175, (.ref 21, 4230)), (181, (.ref 22, 4239)), (186, (.ref 23, 5028)), (223, (.ref 17, 4177)), (230, (.ref 18, 4188))]),
  (1000000000, [(233, (.ref 19, 4204)), (6081, (.int 1000000, 3166)), (8028, (.int 1048576, 2235)), (12041, (.int 72000, 5053)), (12193, (.int 2147483647, 6066)), (12327, (.int 100000, 6183)), (12331, (.int 100041, 6188)), (12332, (.int 100044, 6189)), (13047, (.long 4294967295, 6198)), (15265, (.int 1431655765, 3087)), (15266, (.int 858993459, 3088)), (15267, (.int 252645135, 3089))])]
def jd_l : List (Nat × List (Nat × ((Nat × Nat × Nat × Nat) × List Nat))) := [(119, [(1, ((3, 0, 1, 0), [1031])), (9, ((1, 1, 1, 0), [1036, 1037])), (18, ((1, 2, 1, 0), [1050, 1051])), (25, ((1, 4, 3, 0), [1083, 1084])), (34, ((1, 5, 2, 0), [1102, 1103])), (43, ((1, 6, 2, 0), [1118, 1119])), (50, ((1, 7, 3, 0), [1145, 1146])), (59, ((1, 9, 5, 0), [1200, 1201])), (68, ((1, 10, 3, 0), [1238, 1239])), (75, ((4, 8, 1, 0), [2023, 1154])), (84, ((2, 21, 2, 0), [2107, 2108])), (95, ((0, 12, 1, 7), [2065, 2066, 2067])), (104, ((0, 22, 2, 7), [2195, 2196, 2197])), (108, ((0, 13, 1, 1), [2069, 2070, 2071])), (111, ((0, 24, 1, 7), [2206, 2207, 2208])), (116, ((0, 25, 1, 1), [2211, 2212, 2213]))]),
  (207, [(119, ((0, 27, 2, 3), [2219, 2220, 2221])), (123, ((0, 49, 1, 3), [3090, 3091, 3092])), (127, ((0, 50, 1, 1), [3095, 3096, 3097])), (136, ((0, 52, 2, 1), [3107, 3108, 3109])), (139, ((0, 54, 2, 3), [3120, 3121, 3122])), (147, ((0, 55, 1, 4), [3125, 3126, 3127])), (156, ((0, 63, 2, 4), [3162, 3163, 3164])), (160, ((0, 111, 2, 10), [4167, 4169, 20])), (172, ((2, 115, 1, 0), [4227, 4228])), (177, ((0, 116, 2, 10), [4231, 4233, 21])), (183, ((0, 118, 2, 9), [5000, 5001, 5002])), (188, ((0, 123, 2, 9), [5029, 5030, 5031])), (191, ((0, 72, 4, 5), [5040, 3211, 3212])), (198, ((0, 125, 2, 5), [5041, 5042, 5043])), (201, ((0, 14, 1, 4), [2073, 2074, 2075])), (204, ((0, 16, 1, 5), [2081, 2082, 2083]))]),
  (2033, [(207, ((0, 19, 1, 5), [2094, 2095, 2096])), (210, ((0, 117, 3, 0), [4235, 4236, 4237])), (217, ((0, 112, 1, 2), [4172, 4173, 4174])), (1003, ((3, 0, 1, 0), [1053])), (1013, ((1, 3, 2, 0), [1056, 1057])), (1023, ((0, 30, 4, 6), [2231, 2232, 2233])), (1027, ((2, 31, 1, 0), [3012, 3013])), (1031, ((2, 35, 1, 0), [3041, 3027])), (1035, ((0, 18, 3, 6), [3042, 2091, 2092])), (1039, ((0, 48, 2, 0), [3080, 3081, 3082])), (1042, ((2, 183, 1, 0), [3084, 3085])), (1047, ((2, 182, 2, 0), [4023, 3007])), (1052, ((0, 82, 2, 0), [4019, 4020, 4021])), (2003, ((3, 0, 1, 0), [1105])), (2023, ((0, 26, 2, 1), [2215, 2216, 2217])), (2027, ((2, 181, 2, 0), [4013, 1061]))]),
  (3101, [(2033, ((2, 31, 1, 0), [4014, 3013])), (2038, ((0, 81, 3, 0), [4015, 4016, 4017])), (3003, ((3, 0, 1, 0), [1148])), (3021, ((1, 3, 2, 0), [1150, 1057])), (3033, ((4, 8, 1, 0), [1153, 1154])), (3045, ((0, 57, 2, 6), [3141, 3134, 3135])), (3048, ((0, 15, 1, 6), [4069, 2078, 2079])), (3052, ((0, 18, 3, 6), [4072, 2091, 2092])), (3056, ((0, 61, 5, 6), [3197, 3152, 3153])), (3060, ((0, 82, 2, 0), [4055, 4020, 4021])), (3066, ((0, 90, 3, 0), [4056, 4057, 4058])), (3069, ((0, 84, 1, 5), [4064, 4029, 4030])), (3074, ((0, 92, 2, 2), [4065, 4067, 15])), (3087, ((0, 87, 1, 5), [4104, 4042, 4043])), (3090, ((0, 17, 2, 5), [4105, 2087, 2088])), (3094, ((0, 98, 2, 2), [4106, 4107, 4108]))]),
  (3170, [(3101, ((0, 99, 2, 5), [4110, 4111, 4112])), (3104, ((0, 100, 2, 5), [4114, 4115, 4116])), (3107, ((0, 68, 2, 0), [4118, 3190, 3191])), (3110, ((0, 69, 5, 2), [4119, 3194, 3195])), (3114, ((0, 101, 2, 5), [4120, 4121, 4122])), (3120, ((0, 103, 2, 5), [4128, 4129, 4130])), (3123, ((0, 65, 1, 2), [4070, 3175, 3176])), (3130, ((0, 72, 4, 5), [4073, 3211, 3212])), (3137, ((0, 93, 3, 5), [4074, 4075, 4076])), (3141, ((0, 94, 2, 5), [4078, 4079, 4080])), (3144, ((0, 78, 2, 5), [4082, 4001, 4002])), (3147, ((0, 77, 4, 5), [4083, 3237, 3238])), (3151, ((0, 95, 2, 2), [4084, 4086, 16])), (3157, ((0, 81, 3, 0), [4093, 4016, 4017])), (3164, ((0, 89, 5, 2), [4095, 4052, 4053])), (3167, ((0, 86, 1, 5), [4088, 4038, 4039]))]),
  (5077, [(3170, ((0, 96, 2, 5), [4089, 4090, 4091])), (5003, ((3, 0, 1, 0), [1086])), (5023, ((0, 28, 2, 3), [2223, 2225, 1])), (5027, ((0, 32, 2, 7), [3015, 3016, 3017])), (5032, ((2, 33, 1, 0), [3019, 3020])), (5038, ((0, 34, 2, 3), [3022, 3024, 2])), (5041, ((0, 41, 1, 3), [3051, 3053, 5])), (5045, ((0, 39, 2, 3), [3043, 3045, 4])), (5048, ((0, 42, 1, 3), [3056, 3058, 6])), (5054, ((0, 47, 2, 0), [3076, 3077, 3078])), (5057, ((0, 29, 2, 0), [2227, 2228, 2229])), (5060, ((2, 31, 1, 0), [3036, 3013])), (5063, ((0, 12, 1, 7), [3055, 2066, 2067])), (5067, ((0, 37, 1, 3), [3032, 3034, 3])), (5070, ((0, 43, 3, 0), [3060, 3061, 3062])), (5074, ((0, 44, 1, 3), [3064, 3066, 7]))]),
  (6091, [(5077, ((0, 46, 3, 0), [3072, 3073, 3074])), (5080, ((0, 45, 4, 0), [3068, 3069, 3070])), (5084, ((2, 35, 1, 0), [3026, 3027])), (5087, ((2, 36, 1, 0), [3029, 3030])), (5090, ((0, 38, 4, 0), [3037, 3038, 3039])), (5093, ((0, 40, 4, 0), [3047, 3048, 3049])), (6003, ((3, 0, 1, 0), [1203])), (6029, ((1, 3, 2, 0), [1205, 1057])), (6041, ((4, 8, 1, 0), [1207, 1154])), (6053, ((0, 15, 1, 6), [2077, 2078, 2079])), (6057, ((0, 56, 1, 5), [3129, 3130, 3131])), (6062, ((0, 58, 1, 2), [3137, 3138, 3139])), (6065, ((0, 57, 2, 6), [3142, 3134, 3135])), (6068, ((0, 59, 2, 5), [3143, 3144, 3145])), (6072, ((0, 62, 2, 0), [3155, 3156, 3157])), (6077, ((0, 61, 5, 6), [3159, 3152, 3153]))]),
  (6163, [(6091, ((0, 64, 1, 4), [3170, 3172, 8])), (6098, ((0, 91, 1, 2), [4060, 4061, 4062])), (6104, ((0, 97, 1, 2), [4100, 4101, 4102])), (6110, ((0, 87, 1, 5), [4041, 4042, 4043])), (6113, ((0, 98, 2, 2), [4134, 4107, 4108])), (6120, ((0, 104, 1, 4), [4136, 4138, 18])), (6126, ((0, 109, 1, 4), [4156, 4158, 19])), (6132, ((0, 65, 1, 2), [3174, 3175, 3176])), (6136, ((0, 18, 3, 6), [3180, 2091, 2092])), (6140, ((0, 66, 2, 0), [3181, 3182, 3183])), (6143, ((0, 67, 2, 0), [3185, 3186, 3187])), (6146, ((0, 68, 2, 0), [3189, 3190, 3191])), (6148, ((0, 69, 5, 2), [3193, 3194, 3195])), (6152, ((0, 70, 3, 5), [3200, 3201, 3202])), (6156, ((0, 71, 3, 4), [3206, 3208, 9])), (6160, ((0, 74, 3, 4), [3224, 3226, 10]))]),
  (6227, [(6163, ((0, 79, 3, 4), [4005, 4007, 12])), (6166, ((0, 72, 4, 5), [3210, 3211, 3212])), (6173, ((0, 48, 2, 0), [3218, 3081, 3082])), (6176, ((2, 36, 1, 0), [3219, 3030])), (6186, ((0, 75, 3, 4), [3228, 3230, 11])), (6189, ((0, 76, 4, 5), [3232, 3233, 3234])), (6193, ((0, 80, 3, 1), [4009, 4010, 4011])), (6197, ((0, 83, 4, 4), [4024, 4026, 13])), (6200, ((0, 88, 5, 4), [4045, 4047, 14])), (6203, ((0, 84, 1, 5), [4028, 4029, 4030])), (6206, ((0, 30, 4, 6), [4032, 2232, 2233])), (6209, ((0, 85, 1, 5), [4033, 4034, 4035])), (6212, ((0, 86, 1, 5), [4037, 4038, 4039])), (6218, ((0, 101, 2, 5), [4162, 4121, 4122])), (6221, ((0, 110, 4, 5), [4163, 4164, 4165])), (6224, ((0, 26, 2, 1), [4049, 2216, 2217]))]),
  (7079, [(6227, ((2, 31, 1, 0), [4050, 3013])), (6230, ((0, 89, 5, 2), [4051, 4052, 4053])), (6233, ((0, 105, 1, 2), [4140, 4141, 4142])), (6236, ((0, 106, 2, 2), [4144, 4145, 4146])), (6239, ((0, 107, 2, 5), [4148, 4149, 4150])), (6242, ((0, 108, 2, 5), [4152, 4153, 4154])), (7003, ((3, 0, 1, 0), [1121])), (7017, ((1, 3, 2, 0), [1123, 1057])), (7033, ((0, 57, 2, 6), [3133, 3134, 3135])), (7040, ((0, 15, 1, 6), [2085, 2078, 2079])), (7044, ((0, 60, 2, 0), [3147, 3148, 3149])), (7050, ((0, 61, 5, 6), [3151, 3152, 3153])), (7065, ((0, 73, 2, 0), [3214, 3215, 3216])), (7068, ((0, 18, 3, 6), [2090, 2091, 2092])), (7072, ((0, 30, 4, 6), [4004, 2232, 2233])), (7076, ((0, 77, 4, 5), [3236, 3237, 3238]))]),
  (11050, [(7079, ((0, 78, 2, 5), [4000, 4001, 4002])), (7082, ((0, 94, 2, 5), [5045, 4079, 4080])), (7085, ((0, 96, 2, 5), [5046, 4090, 4091])), (7088, ((0, 17, 2, 5), [2086, 2087, 2088])), (7092, ((0, 102, 2, 5), [4124, 4126, 17])), (8003, ((3, 0, 1, 0), [1059])), (8011, ((2, 181, 2, 0), [1060, 1061])), (8029, ((2, 184, 2, 0), [2236, 2237])), (9003, ((3, 0, 1, 0), [1039])), (10001, ((3, 0, 1, 0), [1156])), (11003, ((3, 0, 1, 0), [2001])), (11025, ((1, 3, 2, 0), [2003, 1057])), (11034, ((4, 8, 1, 0), [2005, 1154])), (11039, ((0, 57, 2, 6), [5004, 3134, 3135])), (11042, ((0, 119, 3, 9), [5005, 5007, 22])), (11046, ((0, 15, 1, 6), [5010, 2078, 2079]))]),
  (12167, [(11050, ((0, 120, 1, 9), [5011, 5013, 23])), (11053, ((0, 18, 3, 6), [5015, 2091, 2092])), (11057, ((0, 72, 4, 5), [5016, 3211, 3212])), (11073, ((0, 121, 3, 9), [5017, 5019, 24])), (11076, ((0, 48, 2, 0), [5027, 3081, 3082])), (11082, ((0, 82, 2, 0), [5021, 4020, 4021])), (11085, ((0, 122, 2, 9), [5022, 5024, 25])), (11088, ((0, 90, 3, 0), [5026, 4057, 4058])), (11091, ((0, 61, 5, 6), [5009, 3152, 3153])), (12001, ((3, 0, 1, 0), [5052])), (12138, ((2, 129, 3, 0), [6015, 6016])), (12142, ((0, 130, 2, 11), [6018, 6020, 26])), (12149, ((0, 131, 2, 11), [6022, 6024, 27])), (12156, ((0, 135, 1, 11), [6038, 6040, 30])), (12160, ((0, 136, 2, 11), [6042, 6044, 31])), (12164, ((0, 134, 2, 11), [6034, 6036, 29]))]),
  (12266, [(12167, ((0, 137, 1, 11), [6046, 6048, 32])), (12174, ((0, 133, 1, 11), [6030, 6032, 28])), (12187, ((0, 141, 1, 11), [6062, 6064, 34])), (12199, ((0, 143, 2, 11), [6071, 6073, 36])), (12202, ((0, 146, 2, 11), [6083, 6085, 39])), (12205, ((0, 147, 3, 11), [6087, 6089, 40])), (12212, ((0, 144, 6, 11), [6075, 6077, 37])), (12216, ((0, 145, 1, 11), [6079, 6081, 38])), (12225, ((0, 160, 3, 11), [6139, 6141, 53])), (12237, ((0, 157, 1, 11), [6127, 6129, 50])), (12240, ((0, 158, 2, 11), [6131, 6133, 51])), (12243, ((0, 159, 3, 11), [6135, 6137, 52])), (12249, ((0, 161, 4, 11), [6143, 6145, 54])), (12253, ((0, 154, 3, 11), [6115, 6117, 47])), (12256, ((0, 156, 1, 11), [6123, 6125, 49])), (12259, ((0, 152, 2, 11), [6107, 6109, 45]))]),
  (13007, [(12266, ((0, 162, 3, 11), [6147, 6149, 55])), (12273, ((0, 151, 3, 11), [6103, 6105, 44])), (12277, ((0, 140, 1, 11), [6058, 6060, 33])), (12280, ((0, 142, 3, 11), [6067, 6069, 35])), (12283, ((0, 155, 2, 11), [6119, 6121, 48])), (12286, ((0, 150, 3, 11), [6099, 6101, 43])), (12295, ((0, 153, 5, 11), [6111, 6113, 46])), (12299, ((0, 164, 3, 11), [6155, 6157, 57])), (12302, ((0, 165, 4, 11), [6159, 6161, 58])), (12305, ((0, 166, 4, 11), [6163, 6165, 59])), (12308, ((0, 167, 4, 11), [6167, 6169, 60])), (12311, ((0, 149, 1, 11), [6095, 6097, 42])), (12314, ((0, 163, 2, 11), [6151, 6153, 56])), (12320, ((0, 148, 2, 11), [6091, 6093, 41])), (12328, ((0, 171, 2, 11), [6184, 6186, 62])), (12333, ((0, 170, 2, 11), [6179, 6181, 61]))]),
  (13066, [(13007, ((0, 20, 2, 10), [2103, 2104, 2105])), (13017, ((0, 23, 1, 10), [2202, 2203, 2204])), (13021, ((0, 51, 2, 10), [3102, 3103, 3104])), (13025, ((0, 53, 1, 10), [3116, 3117, 3118])), (13032, ((0, 113, 1, 10), [4214, 4215, 4216])), (13035, ((0, 114, 3, 10), [4223, 4224, 4225])), (13039, ((0, 124, 2, 10), [5036, 5037, 5038])), (13043, ((1, 0, 1, 0), [1028, 1029])), (13046, ((1, 126, 1, 0), [5049, 5050])), (13049, ((2, 174, 3, 0), [2098, 2099])), (13054, ((0, 128, 2, 11), [6011, 6012, 6013])), (13055, ((0, 127, 1, 11), [6007, 6008, 6009])), (13058, ((2, 175, 2, 0), [2199, 2200])), (13061, ((0, 132, 1, 11), [6026, 6027, 6028])), (13062, ((2, 176, 2, 0), [3099, 3100])), (13065, ((0, 138, 2, 11), [6050, 6051, 6052]))]),
  (1000000000, [(13066, ((2, 177, 2, 0), [3111, 3112])), (13068, ((0, 139, 1, 11), [6054, 6055, 6056])), (13069, ((2, 178, 2, 0), [4211, 4212])), (13071, ((0, 168, 1, 11), [6171, 6172, 6173])), (13072, ((2, 179, 4, 0), [4220, 4221])), (13075, ((0, 169, 3, 11), [6175, 6176, 6177])), (13076, ((2, 180, 3, 0), [5033, 5034])), (13079, ((0, 172, 2, 11), [6190, 6191, 6192])), (13080, ((0, 11, 2, 10), [2061, 2062, 2063])), (13083, ((0, 173, 2, 11), [6194, 6195, 6196])), (16150, ((5, 0, 5, 0), [3009])), (16304, ((2, 182, 2, 0), [3006, 3007]))])]
def jd_x : List (Nat × (Nat × List Nat)) := [(88092, (12, [2110, 2153])), (99103, (13, [2179, 2189])), (164168, (15, [4195, 4205])), (228232, (14, [4179, 4189]))]
def je_0_init_0 : List (Nat × List (Nat × (Instr × Nat))) := [(19, [(0, (.aload_n 0, 1)), (1, (.invokespecial 1, 3)), (4, (.aload_n 0, 1)), (5, (.new 7, 3)), (8, (.dup, 1)), (9, (.invokespecial 9, 3)), (12, (.putfield 10, 3)), (15, (.aload_n 0, 1)), (16, (.new 16, 3))]),
  (36, [(19, (.dup, 1)), (20, (.invokespecial 18, 3)), (23, (.putfield 19, 3)), (26, (.aload_n 0, 1)), (27, (.new 23, 3)), (30, (.dup, 1)), (31, (.aload_n 0, 1)), (32, (.getfield 19, 3)), (35, (.aload_n 0, 1))]),
  (57, [(36, (.getfield 10, 3)), (39, (.invokespecial 25, 3)), (42, (.putfield 28, 3)), (45, (.aload_n 0, 1)), (46, (.new 32, 3)), (49, (.dup, 1)), (50, (.aload_n 0, 1)), (51, (.getfield 19, 3)), (54, (.invokespecial 34, 3))]),
  (76, [(57, (.putfield 37, 3)), (60, (.aload_n 0, 1)), (61, (.new 41, 3)), (64, (.dup, 1)), (65, (.aload_n 0, 1)), (66, (.getfield 19, 3)), (69, (.invokespecial 43, 3)), (72, (.putfield 44, 3)), (75, (.aload_n 0, 1))]),
  (95, [(76, (.new 48, 3)), (79, (.dup, 1)), (80, (.aload_n 0, 1)), (81, (.getfield 19, 3)), (84, (.aload_n 0, 1)), (85, (.getfield 44, 3)), (88, (.invokespecial 50, 3)), (91, (.putfield 53, 3)), (94, (.aload_n 0, 1))]),
  (112, [(95, (.new 57, 3)), (98, (.dup, 1)), (99, (.aload_n 0, 1)), (100, (.getfield 19, 3)), (103, (.aload_n 0, 1)), (104, (.getfield 37, 3)), (107, (.aload_n 0, 1)), (108, (.getfield 44, 3)), (111, (.aload_n 0, 1))]),
  (131, [(112, (.getfield 53, 3)), (115, (.invokespecial 59, 3)), (118, (.putfield 62, 3)), (121, (.aload_n 0, 1)), (122, (.new 66, 3)), (125, (.dup, 1)), (126, (.aload_n 0, 1)), (127, (.getfield 19, 3)), (130, (.aload_n 0, 1))]),
  (152, [(131, (.getfield 44, 3)), (134, (.invokespecial 68, 3)), (137, (.putfield 69, 3)), (140, (.aload_n 0, 1)), (141, (.new 73, 3)), (144, (.dup, 1)), (145, (.invokespecial 75, 3)), (148, (.putfield 76, 3)), (151, (.aload_n 0, 1))]),
  (1000000000, [(152, (.iconst (-1), 1)), (153, (.putfield 80, 3)), (156, (.return_, 1))])]
def je_9_init_1 : List (Nat × List (Nat × (Instr × Nat))) := [(12, [(0, (.aload_n 0, 1)), (1, (.invokespecial 3, 3)), (4, (.aload_n 0, 1)), (5, (.bipush 48, 2)), (7, (.newarray .char, 2)), (9, (.putfield 9, 3))]),
  (1000000000, [(12, (.return_, 1))])]
def je_1_init_2 : List (Nat × List (Nat × (Instr × Nat))) := [(11, [(0, (.aload_n 0, 1)), (1, (.invokespecial 3, 3)), (4, (.aload_n 0, 1)), (5, (.new 9, 3)), (8, (.dup, 1)), (9, (.bipush 9, 2))]),
  (23, [(11, (.invokespecial 13, 3)), (14, (.putfield 16, 3)), (17, (.aload_n 0, 1)), (18, (.new 9, 3)), (21, (.dup, 1)), (22, (.iconst 2, 1))]),
  (1000000000, [(23, (.invokespecial 13, 3)), (26, (.putfield 20, 3)), (29, (.return_, 1))])]
def je_8_init_3 : List (Nat × List (Nat × (Instr × Nat))) := [(10, [(0, (.aload_n 0, 1)), (1, (.invokespecial 3, 3)), (4, (.aload_n 0, 1)), (5, (.iload_n 1, 1)), (6, (.iconst 4, 1)), (7, (.invokestatic 11, 3))]),
  (21, [(10, (.putfield 17, 3)), (13, (.aload_n 0, 1)), (14, (.bipush 8, 2)), (16, (.aload_n 0, 1)), (17, (.getfield 17, 3)), (20, (.imul, 1))]),
  (1000000000, [(21, (.newarray .int, 2)), (23, (.putfield 21, 3)), (26, (.return_, 1))])]
def je_5_init_4 : List (Nat × List (Nat × (Instr × Nat))) := [(10, [(0, (.aload_n 0, 1)), (1, (.invokespecial 3, 3)), (4, (.aload_n 0, 1)), (5, (.aload_n 1, 1)), (6, (.putfield 9, 3)), (9, (.aload_n 0, 1))]),
  (1000000000, [(10, (.aload_n 2, 1)), (11, (.putfield 15, 3)), (14, (.return_, 1))])]
def je_2_init_5 : List (Nat × List (Nat × (Instr × Nat))) := [(10, [(0, (.aload_n 0, 1)), (1, (.invokespecial 3, 3)), (4, (.aload_n 0, 1)), (5, (.aload_n 1, 1)), (6, (.putfield 9, 3)), (9, (.aload_n 0, 1))]),
  (20, [(10, (.bipush 12, 2)), (12, (.newarray .int, 2)), (14, (.putfield 15, 3)), (17, (.iconst 0, 1)), (18, (.istore_n 2, 1)), (19, (.iload_n 2, 1))]),
  (31, [(20, (.bipush 12, 2)), (22, (.if_icmp .ge 18, 3)), (25, (.aload_n 0, 1)), (26, (.getfield 15, 3)), (29, (.iload_n 2, 1)), (30, (.iconst 1, 1))]),
  (1000000000, [(31, (.iload_n 2, 1)), (32, (.iadd, 1)), (33, (.iastore, 1)), (34, (.iinc 2 1, 3)), (37, (.goto (-18), 3)), (40, (.return_, 1))])]
def je_7_init_6 : List (Nat × List (Nat × (Instr × Nat))) := [(10, [(0, (.aload_n 0, 1)), (1, (.invokespecial 3, 3)), (4, (.aload_n 0, 1)), (5, (.aload_n 1, 1)), (6, (.putfield 9, 3)), (9, (.aload_n 0, 1))]),
  (22, [(10, (.new 15, 3)), (13, (.dup, 1)), (14, (.iconst 4, 1)), (15, (.invokespecial 17, 3)), (18, (.putfield 20, 3)), (21, (.aload_n 0, 1))]),
  (34, [(22, (.new 15, 3)), (25, (.dup, 1)), (26, (.iconst 3, 1)), (27, (.invokespecial 17, 3)), (30, (.putfield 24, 3)), (33, (.aload_n 0, 1))]),
  (46, [(34, (.new 15, 3)), (37, (.dup, 1)), (38, (.iconst 3, 1)), (39, (.invokespecial 17, 3)), (42, (.putfield 27, 3)), (45, (.aload_n 0, 1))]),
  (1000000000, [(46, (.new 15, 3)), (49, (.dup, 1)), (50, (.iconst 3, 1)), (51, (.invokespecial 17, 3)), (54, (.putfield 30, 3)), (57, (.return_, 1))])]
def je_3_init_7 : List (Nat × List (Nat × (Instr × Nat))) := [(10, [(0, (.aload_n 0, 1)), (1, (.invokespecial 3, 3)), (4, (.aload_n 0, 1)), (5, (.aload_n 1, 1)), (6, (.putfield 9, 3)), (9, (.aload_n 0, 1))]),
  (20, [(10, (.aload_n 2, 1)), (11, (.putfield 15, 3)), (14, (.aload_n 0, 1)), (15, (.new 19, 3)), (18, (.dup, 1)), (19, (.iconst 4, 1))]),
  (32, [(20, (.invokespecial 21, 3)), (23, (.putfield 24, 3)), (26, (.aload_n 0, 1)), (27, (.new 19, 3)), (30, (.dup, 1)), (31, (.iconst 1, 1))]),
  (46, [(32, (.invokespecial 21, 3)), (35, (.putfield 28, 3)), (38, (.aload_n 0, 1)), (39, (.new 31, 3)), (42, (.dup, 1)), (43, (.invokespecial 33, 3))]),
  (60, [(46, (.putfield 34, 3)), (49, (.aload_n 0, 1)), (50, (.new 31, 3)), (53, (.dup, 1)), (54, (.invokespecial 33, 3)), (57, (.putfield 38, 3))]),
  (1000000000, [(60, (.return_, 1))])]
def je_10_init_8 : List (Nat × List (Nat × (Instr × Nat))) := [(1000000000, [(0, (.aload_n 0, 1)), (1, (.invokespecial 1, 3)), (4, (.return_, 1))])]
def je_6_init_9 : List (Nat × List (Nat × (Instr × Nat))) := [(11, [(0, (.aload_n 0, 1)), (1, (.invokespecial 3, 3)), (4, (.aload_n 0, 1)), (5, (.aload_n 1, 1)), (6, (.putfield 9, 3)), (9, (.aload_n 0, 1)), (10, (.aload_n 2, 1))]),
  (25, [(11, (.putfield 15, 3)), (14, (.aload_n 0, 1)), (15, (.aload_n 3, 1)), (16, (.putfield 19, 3)), (19, (.aload_n 0, 1)), (20, (.aload 4, 2)), (22, (.putfield 23, 3))]),
  (38, [(25, (.aload_n 0, 1)), (26, (.new 27, 3)), (29, (.dup, 1)), (30, (.iconst 4, 1)), (31, (.invokespecial 29, 3)), (34, (.putfield 32, 3)), (37, (.aload_n 0, 1))]),
  (54, [(38, (.new 27, 3)), (41, (.dup, 1)), (42, (.bipush 9, 2)), (44, (.invokespecial 29, 3)), (47, (.putfield 36, 3)), (50, (.aload_n 0, 1)), (51, (.new 39, 3))]),
  (69, [(54, (.dup, 1)), (55, (.invokespecial 41, 3)), (58, (.putfield 42, 3)), (61, (.aload_n 0, 1)), (62, (.new 39, 3)), (65, (.dup, 1)), (66, (.invokespecial 41, 3))]),
  (1000000000, [(69, (.putfield 46, 3)), (72, (.aload_n 0, 1)), (73, (.iconst (-1), 1)), (74, (.putfield 49, 3)), (77, (.return_, 1))])]
def je_11_init_10 : List (Nat × List (Nat × (Instr × Nat))) := [(10, [(0, (.aload_n 0, 1)), (1, (.invokespecial 3, 3)), (4, (.aload_n 0, 1)), (5, (.aload_n 1, 1)), (6, (.putfield 9, 3)), (9, (.aload_n 0, 1))]),
  (22, [(10, (.aload_n 2, 1)), (11, (.putfield 15, 3)), (14, (.aload_n 0, 1)), (15, (.bipush 80, 2)), (17, (.newarray .char, 2)), (19, (.putfield 19, 3))]),
  (34, [(22, (.aload_n 0, 1)), (23, (.new 23, 3)), (26, (.dup, 1)), (27, (.iconst 3, 1)), (28, (.invokespecial 25, 3)), (31, (.putfield 28, 3))]),
  (1000000000, [(34, (.aload_n 0, 1)), (35, (.new 32, 3)), (38, (.dup, 1)), (39, (.invokespecial 34, 3)), (42, (.putfield 35, 3)), (45, (.return_, 1))])]
def je_0_count_11 : List (Nat × List (Nat × (Instr × Nat))) := [(56, [(0, (.iload_n 1, 1)), (1, (.tableswitch 137 0 6 #[43, 48, 56, 64, 80, 99, 118], 43)), (44, (.aload_n 0, 1)), (45, (.getfield 80, 3)), (48, (.ireturn, 1)), (49, (.aload_n 0, 1)), (50, (.getfield 10, 3)), (53, (.invokevirtual 95, 3))]),
  (72, [(56, (.ireturn, 1)), (57, (.aload_n 0, 1)), (58, (.getfield 37, 3)), (61, (.invokevirtual 108, 3)), (64, (.ireturn, 1)), (65, (.aload_n 0, 1)), (66, (.getfield 130, 3)), (69, (.ifCond .eq 10, 3))]),
  (88, [(72, (.aload_n 0, 1)), (73, (.getfield 144, 3)), (76, (.goto 4, 3)), (79, (.iconst 0, 1)), (80, (.ireturn, 1)), (81, (.aload_n 0, 1)), (82, (.getfield 130, 3)), (85, (.ifCond .eq 13, 3))]),
  (104, [(88, (.aload_n 0, 1)), (89, (.getfield 62, 3)), (92, (.invokevirtual 201, 3)), (95, (.goto 4, 3)), (98, (.iconst 0, 1)), (99, (.ireturn, 1)), (100, (.aload_n 0, 1)), (101, (.getfield 130, 3))]),
  (120, [(104, (.ifCond .eq 13, 3)), (107, (.aload_n 0, 1)), (108, (.getfield 44, 3)), (111, (.invokevirtual 204, 3)), (114, (.goto 4, 3)), (117, (.iconst 0, 1)), (118, (.ireturn, 1)), (119, (.aload_n 0, 1))]),
  (138, [(120, (.getfield 130, 3)), (123, (.ifCond .eq 13, 3)), (126, (.aload_n 0, 1)), (127, (.getfield 44, 3)), (130, (.invokevirtual 207, 3)), (133, (.goto 4, 3)), (136, (.iconst 0, 1)), (137, (.ireturn, 1))]),
  (1000000000, [(138, (.iconst (-1), 1)), (139, (.ireturn, 1))])]
def je_9_length_12 : List (Nat × List (Nat × (Instr × Nat))) := [(1000000000, [(0, (.aload_n 0, 1)), (1, (.getfield 15, 3)), (4, (.ireturn, 1))])]
def je_2_size_13 : List (Nat × List (Nat × (Instr × Nat))) := [(1000000000, [(0, (.aload_n 0, 1)), (1, (.getfield 19, 3)), (4, (.ireturn, 1))])]
def je_6_choicesLeft_14 : List (Nat × List (Nat × (Instr × Nat))) := [(1000000000, [(0, (.aload_n 0, 1)), (1, (.getfield 36, 3)), (4, (.invokevirtual 53, 3)), (7, (.ireturn, 1))])]
def je_8_rows_15 : List (Nat × List (Nat × (Instr × Nat))) := [(1000000000, [(0, (.aload_n 0, 1)), (1, (.getfield 25, 3)), (4, (.ireturn, 1))])]
def je_7_apartsWaiting_16 : List (Nat × List (Nat × (Instr × Nat))) := [(6, [(0, (.iconst 0, 1)), (1, (.istore_n 1, 1)), (2, (.iconst 0, 1)), (3, (.istore_n 2, 1)), (4, (.iload_n 2, 1)), (5, (.aload_n 0, 1))]),
  (18, [(6, (.getfield 27, 3)), (9, (.invokevirtual 40, 3)), (12, (.if_icmp .ge 25, 3)), (15, (.iload_n 1, 1)), (16, (.aload_n 0, 1)), (17, (.iload_n 2, 1))]),
  (30, [(18, (.invokevirtual 88, 3)), (21, (.ifCond .eq 7, 3)), (24, (.iconst 1, 1)), (25, (.goto 4, 3)), (28, (.iconst 0, 1)), (29, (.iadd, 1))]),
  (1000000000, [(30, (.istore_n 1, 1)), (31, (.iinc 2 1, 3)), (34, (.goto (-30), 3)), (37, (.iload_n 1, 1)), (38, (.ireturn, 1))])]
def je_7_isWaiting_17 : List (Nat × List (Nat × (Instr × Nat))) := [(10, [(0, (.aload_n 0, 1)), (1, (.getfield 27, 3)), (4, (.iload_n 1, 1)), (5, (.iconst 2, 1)), (6, (.invokevirtual 68, 3)), (9, (.iconst 1, 1))]),
  (1000000000, [(10, (.if_icmp .ne 7, 3)), (13, (.iconst 1, 1)), (14, (.goto 4, 3)), (17, (.iconst 0, 1)), (18, (.ireturn, 1))])]
def je_8_at_18 : List (Nat × List (Nat × (Instr × Nat))) := [(8, [(0, (.iload_n 1, 1)), (1, (.aload_n 0, 1)), (2, (.getfield 17, 3)), (5, (.imul, 1)), (6, (.iload_n 2, 1)), (7, (.iadd, 1))]),
  (18, [(8, (.istore_n 3, 1)), (9, (.iload_n 3, 1)), (10, (.ifCond .lt 21, 3)), (13, (.iload_n 3, 1)), (14, (.aload_n 0, 1)), (15, (.getfield 21, 3))]),
  (28, [(18, (.arraylength, 1)), (19, (.if_icmp .ge 12, 3)), (22, (.aload_n 0, 1)), (23, (.getfield 21, 3)), (26, (.iload_n 3, 1)), (27, (.iaload, 1))]),
  (1000000000, [(28, (.goto 4, 3)), (31, (.iconst 0, 1)), (32, (.ireturn, 1))])]
def je_7_variablesMade_19 : List (Nat × List (Nat × (Instr × Nat))) := [(1000000000, [(0, (.aload_n 0, 1)), (1, (.getfield 36, 3)), (4, (.ireturn, 1))])]
def je_0_type_20 : List (Nat × List (Nat × (Instr × Nat))) := [(14, [(0, (.iconst 0, 1)), (1, (.istore_n 3, 1)), (2, (.bipush 56, 2)), (4, (.istore 4, 2)), (6, (.iload 4, 2)), (8, (.ifCond .lt 59, 3)), (11, (.lload_n 1, 1)), (12, (.iload 4, 2))]),
  (33, [(14, (.invokestatic 84, 3)), (17, (.istore 5, 2)), (19, (.iload 5, 2)), (21, (.ifCond .eq 27, 3)), (24, (.iload 5, 2)), (26, (.bipush 33, 2)), (28, (.if_icmp .lt 10, 3)), (31, (.iload 5, 2))]),
  (49, [(33, (.bipush 126, 2)), (35, (.if_icmp .le 13, 3)), (38, (.new 88, 3)), (41, (.dup, 1)), (42, (.ldc 90, 2)), (44, (.invokespecial 92, 3)), (47, (.athrow, 1)), (48, (.iload_n 3, 1))]),
  (64, [(49, (.iload 5, 2)), (51, (.ifCond .ne 7, 3)), (54, (.iconst 0, 1)), (55, (.goto 4, 3)), (58, (.iconst 1, 1)), (59, (.iadd, 1)), (60, (.istore_n 3, 1)), (61, (.iinc 4 (-8), 3))]),
  (81, [(64, (.goto (-58), 3)), (67, (.aload_n 0, 1)), (68, (.getfield 10, 3)), (71, (.invokevirtual 95, 3)), (74, (.iload_n 3, 1)), (75, (.iadd, 1)), (76, (.bipush 48, 2)), (78, (.if_icmp .le 13, 3))]),
  (97, [(81, (.new 99, 3)), (84, (.dup, 1)), (85, (.ldc 101, 2)), (87, (.invokespecial 103, 3)), (90, (.athrow, 1)), (91, (.bipush 56, 2)), (93, (.istore 4, 2)), (95, (.iload 4, 2))]),
  (116, [(97, (.ifCond .lt 22, 3)), (100, (.aload_n 0, 1)), (101, (.getfield 10, 3)), (104, (.lload_n 1, 1)), (105, (.iload 4, 2)), (107, (.invokestatic 84, 3)), (110, (.invokevirtual 104, 3)), (113, (.iinc 4 (-8), 3))]),
  (1000000000, [(116, (.goto (-21), 3)), (119, (.aload_n 0, 1)), (120, (.getfield 10, 3)), (123, (.invokevirtual 95, 3)), (126, (.ireturn, 1))])]
def je_0_byteOf_21 : List (Nat × List (Nat × (Instr × Nat))) := [(8, [(0, (.lload_n 0, 1)), (1, (.iload_n 2, 1)), (2, (.lushr, 1)), (3, (.l2i, 1)), (4, (.sipush 255, 3)), (7, (.iand, 1))]),
  (1000000000, [(8, (.ireturn, 1))])]
def je_9_append_22 : List (Nat × List (Nat × (Instr × Nat))) := [(12, [(0, (.iload_n 1, 1)), (1, (.ifCond .eq 36, 3)), (4, (.aload_n 0, 1)), (5, (.getfield 15, 3)), (8, (.aload_n 0, 1)), (9, (.getfield 9, 3))]),
  (24, [(12, (.arraylength, 1)), (13, (.if_icmp .ge 24, 3)), (16, (.aload_n 0, 1)), (17, (.getfield 9, 3)), (20, (.aload_n 0, 1)), (21, (.getfield 15, 3))]),
  (32, [(24, (.iload_n 1, 1)), (25, (.i2c, 1)), (26, (.castore, 1)), (27, (.aload_n 0, 1)), (28, (.dup, 1)), (29, (.getfield 15, 3))]),
  (1000000000, [(32, (.iconst 1, 1)), (33, (.iadd, 1)), (34, (.putfield 15, 3)), (37, (.return_, 1))])]
def je_0_add_23 : List (Nat × List (Nat × (Instr × Nat))) := [(16, [(0, (.aload_n 0, 1)), (1, (.getfield 37, 3)), (4, (.invokevirtual 108, 3)), (7, (.bipush 12, 2)), (9, (.if_icmp .lt 20, 3)), (12, (.aload_n 0, 1)), (13, (.getfield 10, 3))]),
  (30, [(16, (.invokevirtual 111, 3)), (19, (.new 99, 3)), (22, (.dup, 1)), (23, (.ldc 114, 2)), (25, (.invokespecial 103, 3)), (28, (.athrow, 1)), (29, (.aload_n 0, 1))]),
  (45, [(30, (.getfield 28, 3)), (33, (.aload_n 0, 1)), (34, (.getfield 37, 3)), (37, (.invokevirtual 116, 3)), (40, (.invokevirtual 119, 3)), (43, (.istore_n 1, 1)), (44, (.aload_n 0, 1))]),
  (60, [(45, (.getfield 10, 3)), (48, (.invokevirtual 111, 3)), (51, (.iload_n 1, 1)), (52, (.ifCond .ne 24, 3)), (55, (.aload_n 0, 1)), (56, (.aload_n 0, 1)), (57, (.getfield 28, 3))]),
  (76, [(60, (.invokevirtual 123, 3)), (63, (.putfield 80, 3)), (66, (.new 88, 3)), (69, (.dup, 1)), (70, (.ldc 125, 2)), (72, (.invokespecial 92, 3)), (75, (.athrow, 1))]),
  (89, [(76, (.aload_n 0, 1)), (77, (.getfield 37, 3)), (80, (.invokevirtual 127, 3)), (83, (.aload_n 0, 1)), (84, (.iconst 0, 1)), (85, (.putfield 130, 3)), (88, (.aload_n 0, 1))]),
  (1000000000, [(89, (.getfield 37, 3)), (92, (.invokevirtual 108, 3)), (95, (.ireturn, 1))])]
def je_9_clear_24 : List (Nat × List (Nat × (Instr × Nat))) := [(1000000000, [(0, (.aload_n 0, 1)), (1, (.iconst 0, 1)), (2, (.putfield 15, 3)), (5, (.return_, 1))])]
def je_2_freePage_25 : List (Nat × List (Nat × (Instr × Nat))) := [(1000000000, [(0, (.aload_n 0, 1)), (1, (.aload_n 0, 1)), (2, (.getfield 19, 3)), (5, (.invokevirtual 23, 3)), (8, (.ireturn, 1))])]
def je_2_page_26 : List (Nat × List (Nat × (Instr × Nat))) := [(10, [(0, (.iload_n 1, 1)), (1, (.ifCond .lt 21, 3)), (4, (.iload_n 1, 1)), (5, (.aload_n 0, 1)), (6, (.getfield 15, 3)), (9, (.arraylength, 1))]),
  (22, [(10, (.if_icmp .ge 12, 3)), (13, (.aload_n 0, 1)), (14, (.getfield 15, 3)), (17, (.iload_n 1, 1)), (18, (.iaload, 1)), (19, (.goto 4, 3))]),
  (1000000000, [(22, (.iconst (-1), 1)), (23, (.ireturn, 1))])]
def je_5_readClause_27 : List (Nat × List (Nat × (Instr × Nat))) := [(13, [(0, (.aload_n 0, 1)), (1, (.iload_n 1, 1)), (2, (.invokevirtual 23, 3)), (5, (.aload_n 0, 1)), (6, (.getfield 15, 3)), (9, (.aload_n 0, 1)), (10, (.getfield 19, 3))]),
  (30, [(13, (.invokevirtual 27, 3)), (16, (.invokestatic 32, 3)), (19, (.ifCond .eq 15, 3)), (22, (.aload_n 0, 1)), (23, (.iconst 1, 1)), (24, (.invokevirtual 38, 3)), (27, (.ifCond .eq 7, 3))]),
  (41, [(30, (.iconst 1, 1)), (31, (.goto 4, 3)), (34, (.iconst 0, 1)), (35, (.istore_n 2, 1)), (36, (.iload_n 2, 1)), (37, (.ifCond .eq 32, 3)), (40, (.aload_n 0, 1))]),
  (57, [(41, (.invokevirtual 41, 3)), (44, (.ifCond .ne 25, 3)), (47, (.aload_n 0, 1)), (48, (.bipush 58, 2)), (50, (.invokevirtual 45, 3)), (53, (.ifCond .eq 14, 3)), (56, (.aload_n 0, 1))]),
  (70, [(57, (.invokevirtual 48, 3)), (60, (.ifCond .eq 7, 3)), (63, (.iconst 1, 1)), (64, (.goto 4, 3)), (67, (.iconst 0, 1)), (68, (.istore_n 2, 1)), (69, (.aload_n 0, 1))]),
  (1000000000, [(70, (.getfield 9, 3)), (73, (.aload_n 0, 1)), (74, (.getfield 51, 3)), (77, (.invokevirtual 54, 3)), (80, (.iload_n 2, 1)), (81, (.ireturn, 1))])]
def je_5_begin_28 : List (Nat × List (Nat × (Instr × Nat))) := [(10, [(0, (.aload_n 0, 1)), (1, (.iload_n 1, 1)), (2, (.putfield 51, 3)), (5, (.aload_n 0, 1)), (6, (.iconst 0, 1)), (7, (.putfield 19, 3))]),
  (1000000000, [(10, (.aload_n 0, 1)), (11, (.getfield 9, 3)), (14, (.aload_n 0, 1)), (15, (.getfield 51, 3)), (18, (.invokevirtual 57, 3)), (21, (.return_, 1))])]
def je_1_clearPage_29 : List (Nat × List (Nat × (Instr × Nat))) := [(10, [(0, (.aload_n 0, 1)), (1, (.getfield 20, 3)), (4, (.iload_n 1, 1)), (5, (.iconst 0, 1)), (6, (.iconst 0, 1)), (7, (.invokevirtual 23, 3))]),
  (20, [(10, (.aload_n 0, 1)), (11, (.getfield 20, 3)), (14, (.iload_n 1, 1)), (15, (.iconst 1, 1)), (16, (.iconst (-1), 1)), (17, (.invokevirtual 23, 3))]),
  (29, [(20, (.iconst 0, 1)), (21, (.istore_n 2, 1)), (22, (.iload_n 2, 1)), (23, (.bipush 48, 2)), (25, (.if_icmp .ge 24, 3)), (28, (.aload_n 0, 1))]),
  (39, [(29, (.getfield 16, 3)), (32, (.iload_n 1, 1)), (33, (.invokestatic 27, 3)), (36, (.iload_n 2, 1)), (37, (.iadd, 1)), (38, (.iconst 0, 1))]),
  (1000000000, [(39, (.iconst 0, 1)), (40, (.invokevirtual 23, 3)), (43, (.iinc 2 1, 3)), (46, (.goto (-24), 3)), (49, (.return_, 1))])]
def je_8_put_30 : List (Nat × List (Nat × (Instr × Nat))) := [(10, [(0, (.iload_n 1, 1)), (1, (.aload_n 0, 1)), (2, (.getfield 17, 3)), (5, (.imul, 1)), (6, (.iload_n 2, 1)), (7, (.iadd, 1)), (8, (.istore 4, 2))]),
  (25, [(10, (.iload 4, 2)), (12, (.ifCond .lt 10, 3)), (15, (.iload 4, 2)), (17, (.ldc 28, 2)), (19, (.if_icmp .lt 4, 3)), (22, (.return_, 1)), (23, (.iload 4, 2))]),
  (38, [(25, (.aload_n 0, 1)), (26, (.getfield 21, 3)), (29, (.arraylength, 1)), (30, (.if_icmp .lt 28, 3)), (33, (.aload_n 0, 1)), (34, (.aload_n 0, 1)), (35, (.getfield 21, 3))]),
  (48, [(38, (.iload 4, 2)), (40, (.iconst 1, 1)), (41, (.iadd, 1)), (42, (.iconst 2, 1)), (43, (.aload_n 0, 1)), (44, (.getfield 21, 3)), (47, (.arraylength, 1))]),
  (64, [(48, (.imul, 1)), (49, (.invokestatic 11, 3)), (52, (.invokestatic 29, 3)), (55, (.putfield 21, 3)), (58, (.aload_n 0, 1)), (59, (.getfield 21, 3)), (62, (.iload 4, 2))]),
  (1000000000, [(64, (.iload_n 3, 1)), (65, (.iastore, 1)), (66, (.return_, 1))])]
def je_1_firstNode_31 : List (Nat × List (Nat × (Instr × Nat))) := [(1000000000, [(0, (.iload_n 0, 1)), (1, (.bipush 48, 2)), (3, (.imul, 1)), (4, (.ireturn, 1))])]
def je_9_at_32 : List (Nat × List (Nat × (Instr × Nat))) := [(12, [(0, (.iload_n 1, 1)), (1, (.ifCond .lt 29, 3)), (4, (.iload_n 1, 1)), (5, (.aload_n 0, 1)), (6, (.getfield 15, 3)), (9, (.if_icmp .ge 21, 3))]),
  (22, [(12, (.iload_n 1, 1)), (13, (.aload_n 0, 1)), (14, (.getfield 9, 3)), (17, (.arraylength, 1)), (18, (.if_icmp .ge 12, 3)), (21, (.aload_n 0, 1))]),
  (1000000000, [(22, (.getfield 9, 3)), (25, (.iload_n 1, 1)), (26, (.caload, 1)), (27, (.goto 4, 3)), (30, (.iconst 0, 1)), (31, (.ireturn, 1))])]
def je_1_isSmall_33 : List (Nat × List (Nat × (Instr × Nat))) := [(12, [(0, (.iload_n 0, 1)), (1, (.bipush 97, 2)), (3, (.if_icmp .lt 13, 3)), (6, (.iload_n 0, 1)), (7, (.bipush 122, 2)), (9, (.if_icmp .gt 7, 3))]),
  (1000000000, [(12, (.iconst 1, 1)), (13, (.goto 4, 3)), (16, (.iconst 0, 1)), (17, (.ireturn, 1))])]
def je_5_readTerm_34 : List (Nat × List (Nat × (Instr × Nat))) := [(18, [(0, (.aload_n 0, 1)), (1, (.getfield 15, 3)), (4, (.aload_n 0, 1)), (5, (.getfield 19, 3)), (8, (.invokevirtual 27, 3)), (11, (.istore_n 2, 1)), (12, (.iload_n 2, 1)), (13, (.invokestatic 32, 3)), (16, (.istore_n 3, 1)), (17, (.iload_n 1, 1))]),
  (41, [(18, (.bipush 6, 2)), (20, (.if_icmp .gt 21, 3)), (23, (.iload_n 3, 1)), (24, (.ifCond .ne 19, 3)), (27, (.iload_n 2, 1)), (28, (.invokestatic 84, 3)), (31, (.ifCond .ne 12, 3)), (34, (.iload_n 2, 1)), (35, (.invokestatic 87, 3)), (38, (.ifCond .ne 5, 3))]),
  (59, [(41, (.iconst 0, 1)), (42, (.ireturn, 1)), (43, (.aload_n 0, 1)), (44, (.invokevirtual 67, 3)), (47, (.istore 4, 2)), (49, (.aload_n 0, 1)), (50, (.getfield 9, 3)), (53, (.aload_n 0, 1)), (54, (.getfield 51, 3)), (57, (.iload 4, 2))]),
  (77, [(59, (.iload_n 2, 1)), (60, (.invokevirtual 90, 3)), (63, (.aload_n 0, 1)), (64, (.dup, 1)), (65, (.getfield 19, 3)), (68, (.iconst 1, 1)), (69, (.iadd, 1)), (70, (.putfield 19, 3)), (73, (.iload_n 3, 1)), (74, (.ifCond .eq 18, 3))]),
  (95, [(77, (.iload_n 1, 1)), (78, (.bipush 6, 2)), (80, (.if_icmp .eq 12, 3)), (83, (.aload_n 0, 1)), (84, (.bipush 40, 2)), (86, (.invokevirtual 45, 3)), (89, (.ifCond .ne 5, 3)), (92, (.iconst 1, 1)), (93, (.ireturn, 1)), (94, (.iconst 0, 1))]),
  (115, [(95, (.istore 5, 2)), (97, (.iload 5, 2)), (99, (.iconst 3, 1)), (100, (.if_icmp .ge 64, 3)), (103, (.aload_n 0, 1)), (104, (.getfield 9, 3)), (107, (.iload 4, 2)), (109, (.iload 5, 2)), (111, (.aload_n 0, 1)), (112, (.invokevirtual 67, 3))]),
  (131, [(115, (.invokevirtual 93, 3)), (118, (.aload_n 0, 1)), (119, (.iload_n 1, 1)), (120, (.iconst 1, 1)), (121, (.iadd, 1)), (122, (.invokevirtual 38, 3)), (125, (.ifCond .ne 5, 3)), (128, (.iconst 0, 1)), (129, (.ireturn, 1)), (130, (.aload_n 0, 1))]),
  (150, [(131, (.bipush 41, 2)), (133, (.invokevirtual 45, 3)), (136, (.ifCond .eq 5, 3)), (139, (.iconst 1, 1)), (140, (.ireturn, 1)), (141, (.iload 5, 2)), (143, (.iconst 2, 1)), (144, (.if_icmp .eq 12, 3)), (147, (.aload_n 0, 1)), (148, (.bipush 44, 2))]),
  (1000000000, [(150, (.invokevirtual 45, 3)), (153, (.ifCond .ne 5, 3)), (156, (.iconst 0, 1)), (157, (.ireturn, 1)), (158, (.iinc 5 1, 3)), (161, (.goto (-64), 3)), (164, (.iconst 0, 1)), (165, (.ireturn, 1))])]
def je_1_isCapital_35 : List (Nat × List (Nat × (Instr × Nat))) := [(12, [(0, (.iload_n 0, 1)), (1, (.bipush 65, 2)), (3, (.if_icmp .lt 13, 3)), (6, (.iload_n 0, 1)), (7, (.bipush 90, 2)), (9, (.if_icmp .gt 7, 3))]),
  (1000000000, [(12, (.iconst 1, 1)), (13, (.goto 4, 3)), (16, (.iconst 0, 1)), (17, (.ireturn, 1))])]
def je_1_isDigit_36 : List (Nat × List (Nat × (Instr × Nat))) := [(12, [(0, (.iload_n 0, 1)), (1, (.bipush 48, 2)), (3, (.if_icmp .lt 13, 3)), (6, (.iload_n 0, 1)), (7, (.bipush 57, 2)), (9, (.if_icmp .gt 7, 3))]),
  (1000000000, [(12, (.iconst 1, 1)), (13, (.goto 4, 3)), (16, (.iconst 0, 1)), (17, (.ireturn, 1))])]
def je_5_node_37 : List (Nat × List (Nat × (Instr × Nat))) := [(12, [(0, (.aload_n 0, 1)), (1, (.getfield 51, 3)), (4, (.invokestatic 60, 3)), (7, (.aload_n 0, 1)), (8, (.getfield 19, 3)), (11, (.iadd, 1))]),
  (1000000000, [(12, (.ireturn, 1))])]
def je_1_noteTerm_38 : List (Nat × List (Nat × (Instr × Nat))) := [(11, [(0, (.aload_n 0, 1)), (1, (.getfield 16, 3)), (4, (.iload_n 2, 1)), (5, (.iconst 0, 1)), (6, (.iload_n 3, 1)), (7, (.invokevirtual 23, 3)), (10, (.aload_n 0, 1))]),
  (24, [(11, (.getfield 16, 3)), (14, (.iload_n 2, 1)), (15, (.iconst 1, 1)), (16, (.iconst 0, 1)), (17, (.invokevirtual 23, 3)), (20, (.aload_n 0, 1)), (21, (.getfield 16, 3))]),
  (38, [(24, (.iload_n 2, 1)), (25, (.bipush 8, 2)), (27, (.iconst (-1), 1)), (28, (.invokevirtual 23, 3)), (31, (.iload_n 3, 1)), (32, (.invokestatic 31, 3)), (35, (.ifCond .eq 28, 3))]),
  (49, [(38, (.aload_n 0, 1)), (39, (.getfield 20, 3)), (42, (.iload_n 1, 1)), (43, (.iconst 0, 1)), (44, (.aload_n 0, 1)), (45, (.getfield 20, 3)), (48, (.iload_n 1, 1))]),
  (59, [(49, (.iconst 0, 1)), (50, (.invokevirtual 35, 3)), (53, (.iconst 1, 1)), (54, (.iload_n 3, 1)), (55, (.bipush 65, 2)), (57, (.isub, 1)), (58, (.ishl, 1))]),
  (1000000000, [(59, (.ior, 1)), (60, (.invokevirtual 23, 3)), (63, (.return_, 1))])]
def je_5_readSign_39 : List (Nat × List (Nat × (Instr × Nat))) := [(12, [(0, (.aload_n 0, 1)), (1, (.getfield 15, 3)), (4, (.aload_n 0, 1)), (5, (.getfield 19, 3)), (8, (.invokevirtual 27, 3)), (11, (.iload_n 1, 1))]),
  (22, [(12, (.if_icmp .eq 5, 3)), (15, (.iconst 0, 1)), (16, (.ireturn, 1)), (17, (.aload_n 0, 1)), (18, (.dup, 1)), (19, (.getfield 19, 3))]),
  (1000000000, [(22, (.iconst 1, 1)), (23, (.iadd, 1)), (24, (.putfield 19, 3)), (27, (.iconst 1, 1)), (28, (.ireturn, 1))])]
def je_1_noteArgument_40 : List (Nat × List (Nat × (Instr × Nat))) := [(8, [(0, (.aload_n 0, 1)), (1, (.getfield 16, 3)), (4, (.iload_n 1, 1)), (5, (.iconst 2, 1)), (6, (.iload_n 2, 1)), (7, (.iadd, 1))]),
  (18, [(8, (.iload_n 3, 1)), (9, (.invokevirtual 23, 3)), (12, (.aload_n 0, 1)), (13, (.getfield 16, 3)), (16, (.iload_n 1, 1)), (17, (.iconst 1, 1))]),
  (1000000000, [(18, (.iload_n 2, 1)), (19, (.iconst 1, 1)), (20, (.iadd, 1)), (21, (.invokevirtual 23, 3)), (24, (.return_, 1))])]
def je_5_atEnd_41 : List (Nat × List (Nat × (Instr × Nat))) := [(14, [(0, (.aload_n 0, 1)), (1, (.getfield 19, 3)), (4, (.aload_n 0, 1)), (5, (.getfield 15, 3)), (8, (.invokevirtual 63, 3)), (11, (.if_icmp .lt 7, 3))]),
  (1000000000, [(14, (.iconst 1, 1)), (15, (.goto 4, 3)), (18, (.iconst 0, 1)), (19, (.ireturn, 1))])]
def je_5_readGoals_42 : List (Nat × List (Nat × (Instr × Nat))) := [(15, [(0, (.aload_n 0, 1)), (1, (.getfield 9, 3)), (4, (.aload_n 0, 1)), (5, (.getfield 51, 3)), (8, (.aload_n 0, 1)), (9, (.invokevirtual 67, 3)), (12, (.invokevirtual 70, 3))]),
  (27, [(15, (.iconst 0, 1)), (16, (.istore_n 1, 1)), (17, (.iload_n 1, 1)), (18, (.bipush 48, 2)), (20, (.if_icmp .ge 55, 3)), (23, (.aload_n 0, 1)), (24, (.invokevirtual 67, 3))]),
  (38, [(27, (.istore_n 2, 1)), (28, (.aload_n 0, 1)), (29, (.invokevirtual 74, 3)), (32, (.ifCond .ne 5, 3)), (35, (.iconst 0, 1)), (36, (.ireturn, 1)), (37, (.aload_n 0, 1))]),
  (52, [(38, (.invokevirtual 41, 3)), (41, (.ifCond .eq 5, 3)), (44, (.iconst 1, 1)), (45, (.ireturn, 1)), (46, (.aload_n 0, 1)), (47, (.bipush 44, 2)), (49, (.invokevirtual 45, 3))]),
  (63, [(52, (.ifCond .ne 5, 3)), (55, (.iconst 0, 1)), (56, (.ireturn, 1)), (57, (.aload_n 0, 1)), (58, (.getfield 9, 3)), (61, (.iload_n 2, 1)), (62, (.aload_n 0, 1))]),
  (1000000000, [(63, (.invokevirtual 67, 3)), (66, (.invokevirtual 77, 3)), (69, (.iinc 1 1, 3)), (72, (.goto (-55), 3)), (75, (.iconst 0, 1)), (76, (.ireturn, 1))])]
def je_1_noteFirstGoal_43 : List (Nat × List (Nat × (Instr × Nat))) := [(10, [(0, (.aload_n 0, 1)), (1, (.getfield 20, 3)), (4, (.iload_n 1, 1)), (5, (.iconst 1, 1)), (6, (.iload_n 2, 1)), (7, (.invokevirtual 23, 3))]),
  (1000000000, [(10, (.return_, 1))])]
def je_5_readGoal_44 : List (Nat × List (Nat × (Instr × Nat))) := [(20, [(0, (.aload_n 0, 1)), (1, (.invokevirtual 67, 3)), (4, (.istore_n 1, 1)), (5, (.aload_n 0, 1)), (6, (.getfield 15, 3)), (9, (.aload_n 0, 1)), (10, (.getfield 19, 3)), (13, (.invokevirtual 27, 3)), (16, (.istore_n 2, 1)), (17, (.aload_n 0, 1)), (18, (.bipush 33, 2))]),
  (40, [(20, (.invokevirtual 45, 3)), (23, (.ifCond .eq 16, 3)), (26, (.aload_n 0, 1)), (27, (.getfield 9, 3)), (30, (.iload_n 1, 1)), (31, (.bipush 33, 2)), (33, (.iconst (-1), 1)), (34, (.invokevirtual 80, 3)), (37, (.iconst 1, 1)), (38, (.ireturn, 1)), (39, (.aload_n 0, 1))]),
  (61, [(40, (.iconst 1, 1)), (41, (.invokevirtual 38, 3)), (44, (.ifCond .ne 5, 3)), (47, (.iconst 0, 1)), (48, (.ireturn, 1)), (49, (.aload_n 0, 1)), (50, (.getfield 15, 3)), (53, (.aload_n 0, 1)), (54, (.getfield 19, 3)), (57, (.invokevirtual 27, 3)), (60, (.istore_n 3, 1))]),
  (81, [(61, (.iload_n 3, 1)), (62, (.bipush 61, 2)), (64, (.if_icmp .eq 15, 3)), (67, (.iload_n 3, 1)), (68, (.bipush 126, 2)), (70, (.if_icmp .eq 9, 3)), (73, (.iload_n 3, 1)), (74, (.bipush 60, 2)), (76, (.if_icmp .ne 32, 3)), (79, (.aload_n 0, 1)), (80, (.dup, 1))]),
  (102, [(81, (.getfield 19, 3)), (84, (.iconst 1, 1)), (85, (.iadd, 1)), (86, (.putfield 19, 3)), (89, (.aload_n 0, 1)), (90, (.getfield 9, 3)), (93, (.iload_n 1, 1)), (94, (.iload_n 3, 1)), (95, (.aload_n 0, 1)), (96, (.invokevirtual 67, 3)), (99, (.invokevirtual 80, 3))]),
  (120, [(102, (.aload_n 0, 1)), (103, (.iconst 1, 1)), (104, (.invokevirtual 38, 3)), (107, (.ireturn, 1)), (108, (.iload_n 3, 1)), (109, (.bipush 63, 2)), (111, (.if_icmp .ne 71, 3)), (114, (.aload_n 0, 1)), (115, (.dup, 1)), (116, (.getfield 19, 3)), (119, (.iconst 1, 1))]),
  (141, [(120, (.iadd, 1)), (121, (.putfield 19, 3)), (124, (.aload_n 0, 1)), (125, (.getfield 9, 3)), (128, (.iload_n 1, 1)), (129, (.iload_n 3, 1)), (130, (.aload_n 0, 1)), (131, (.invokevirtual 67, 3)), (134, (.invokevirtual 80, 3)), (137, (.aload_n 0, 1)), (138, (.getfield 9, 3))]),
  (165, [(141, (.aload_n 0, 1)), (142, (.invokevirtual 67, 3)), (145, (.bipush 40, 2)), (147, (.iconst (-1), 1)), (148, (.invokevirtual 80, 3)), (151, (.aload_n 0, 1)), (152, (.getfield 15, 3)), (155, (.aload_n 0, 1)), (156, (.getfield 19, 3)), (159, (.invokevirtual 27, 3)), (162, (.invokestatic 32, 3))]),
  (186, [(165, (.ifCond .eq 15, 3)), (168, (.aload_n 0, 1)), (169, (.iconst 1, 1)), (170, (.invokevirtual 38, 3)), (173, (.ifCond .eq 7, 3)), (176, (.iconst 1, 1)), (177, (.goto 4, 3)), (180, (.iconst 0, 1)), (181, (.ireturn, 1)), (182, (.aload_n 0, 1)), (183, (.getfield 9, 3))]),
  (1000000000, [(186, (.iload_n 1, 1)), (187, (.bipush 40, 2)), (189, (.iconst (-1), 1)), (190, (.invokevirtual 80, 3)), (193, (.iload_n 2, 1)), (194, (.invokestatic 32, 3)), (197, (.ireturn, 1))])]
def je_1_noteGoal_45 : List (Nat × List (Nat × (Instr × Nat))) := [(10, [(0, (.aload_n 0, 1)), (1, (.getfield 16, 3)), (4, (.iload_n 1, 1)), (5, (.iconst 5, 1)), (6, (.iload_n 2, 1)), (7, (.invokevirtual 23, 3))]),
  (21, [(10, (.aload_n 0, 1)), (11, (.getfield 16, 3)), (14, (.iload_n 1, 1)), (15, (.bipush 6, 2)), (17, (.iload_n 3, 1)), (18, (.invokevirtual 23, 3))]),
  (32, [(21, (.aload_n 0, 1)), (22, (.getfield 16, 3)), (25, (.iload_n 1, 1)), (26, (.bipush 7, 2)), (28, (.iconst (-1), 1)), (29, (.invokevirtual 23, 3))]),
  (1000000000, [(32, (.return_, 1))])]
def je_1_noteFollower_46 : List (Nat × List (Nat × (Instr × Nat))) := [(11, [(0, (.aload_n 0, 1)), (1, (.getfield 16, 3)), (4, (.iload_n 1, 1)), (5, (.bipush 7, 2)), (7, (.iload_n 2, 1)), (8, (.invokevirtual 23, 3))]),
  (1000000000, [(11, (.return_, 1))])]
def je_1_rankVariables_47 : List (Nat × List (Nat × (Instr × Nat))) := [(11, [(0, (.aload_n 0, 1)), (1, (.getfield 20, 3)), (4, (.iload_n 1, 1)), (5, (.iconst 0, 1)), (6, (.invokevirtual 35, 3)), (9, (.istore_n 2, 1)), (10, (.iconst 0, 1))]),
  (23, [(11, (.istore_n 3, 1)), (12, (.iload_n 3, 1)), (13, (.bipush 48, 2)), (15, (.if_icmp .ge 58, 3)), (18, (.iload_n 1, 1)), (19, (.invokestatic 27, 3)), (22, (.iload_n 3, 1))]),
  (36, [(23, (.iadd, 1)), (24, (.istore 4, 2)), (26, (.aload_n 0, 1)), (27, (.iload 4, 2)), (29, (.invokevirtual 39, 3)), (32, (.istore 5, 2)), (34, (.iload 5, 2))]),
  (51, [(36, (.invokestatic 31, 3)), (39, (.ifCond .eq 28, 3)), (42, (.aload_n 0, 1)), (43, (.getfield 16, 3)), (46, (.iload 4, 2)), (48, (.bipush 8, 2)), (50, (.iload_n 2, 1))]),
  (60, [(51, (.iconst 1, 1)), (52, (.iload 5, 2)), (54, (.bipush 65, 2)), (56, (.isub, 1)), (57, (.ishl, 1)), (58, (.iconst 1, 1)), (59, (.isub, 1))]),
  (1000000000, [(60, (.iand, 1)), (61, (.invokestatic 42, 3)), (64, (.invokevirtual 23, 3)), (67, (.iinc 3 1, 3)), (70, (.goto (-58), 3)), (73, (.return_, 1))])]
def je_1_sign_48 : List (Nat × List (Nat × (Instr × Nat))) := [(1000000000, [(0, (.aload_n 0, 1)), (1, (.getfield 16, 3)), (4, (.iload_n 1, 1)), (5, (.iconst 0, 1)), (6, (.invokevirtual 35, 3)), (9, (.ireturn, 1))])]
def je_5_place_49 : List (Nat × List (Nat × (Instr × Nat))) := [(1000000000, [(0, (.aload_n 0, 1)), (1, (.getfield 19, 3)), (4, (.ireturn, 1))])]
def je_2_keepFreePage_50 : List (Nat × List (Nat × (Instr × Nat))) := [(12, [(0, (.aload_n 0, 1)), (1, (.getfield 19, 3)), (4, (.aload_n 0, 1)), (5, (.getfield 15, 3)), (8, (.arraylength, 1)), (9, (.if_icmp .ge 13, 3))]),
  (22, [(12, (.aload_n 0, 1)), (13, (.dup, 1)), (14, (.getfield 19, 3)), (17, (.iconst 1, 1)), (18, (.iadd, 1)), (19, (.putfield 19, 3))]),
  (1000000000, [(22, (.return_, 1))])]
def je_0_drop_51 : List (Nat × List (Nat × (Instr × Nat))) := [(12, [(0, (.iload_n 1, 1)), (1, (.ifCond .lt 14, 3)), (4, (.iload_n 1, 1)), (5, (.aload_n 0, 1)), (6, (.getfield 37, 3)), (9, (.invokevirtual 108, 3))]),
  (25, [(12, (.if_icmp .lt 13, 3)), (15, (.new 88, 3)), (18, (.dup, 1)), (19, (.ldc 134, 2)), (21, (.invokespecial 92, 3)), (24, (.athrow, 1))]),
  (35, [(25, (.aload_n 0, 1)), (26, (.getfield 37, 3)), (29, (.iload_n 1, 1)), (30, (.invokevirtual 136, 3)), (33, (.aload_n 0, 1)), (34, (.iconst 0, 1))]),
  (1000000000, [(35, (.putfield 130, 3)), (38, (.return_, 1))])]
def je_2_remove_52 : List (Nat × List (Nat × (Instr × Nat))) := [(13, [(0, (.iload_n 1, 1)), (1, (.ifCond .lt 11, 3)), (4, (.iload_n 1, 1)), (5, (.aload_n 0, 1)), (6, (.getfield 19, 3)), (9, (.if_icmp .lt 4, 3)), (12, (.return_, 1))]),
  (22, [(13, (.aload_n 0, 1)), (14, (.getfield 15, 3)), (17, (.iload_n 1, 1)), (18, (.iaload, 1)), (19, (.istore_n 2, 1)), (20, (.iload_n 1, 1)), (21, (.istore_n 3, 1))]),
  (33, [(22, (.iload_n 3, 1)), (23, (.iconst 1, 1)), (24, (.iadd, 1)), (25, (.aload_n 0, 1)), (26, (.getfield 19, 3)), (29, (.if_icmp .ge 23, 3)), (32, (.aload_n 0, 1))]),
  (44, [(33, (.getfield 15, 3)), (36, (.iload_n 3, 1)), (37, (.aload_n 0, 1)), (38, (.getfield 15, 3)), (41, (.iload_n 3, 1)), (42, (.iconst 1, 1)), (43, (.iadd, 1))]),
  (57, [(44, (.iaload, 1)), (45, (.iastore, 1)), (46, (.iinc 3 1, 3)), (49, (.goto (-27), 3)), (52, (.aload_n 0, 1)), (53, (.dup, 1)), (54, (.getfield 19, 3))]),
  (70, [(57, (.iconst 1, 1)), (58, (.isub, 1)), (59, (.putfield 19, 3)), (62, (.aload_n 0, 1)), (63, (.getfield 15, 3)), (66, (.aload_n 0, 1)), (67, (.getfield 19, 3))]),
  (1000000000, [(70, (.iload_n 2, 1)), (71, (.iastore, 1)), (72, (.return_, 1))])]
def je_0_ask_53 : List (Nat × List (Nat × (Instr × Nat))) := [(13, [(0, (.aload_n 0, 1)), (1, (.iconst 0, 1)), (2, (.putfield 130, 3)), (5, (.aload_n 0, 1)), (6, (.getfield 28, 3)), (9, (.iconst 0, 1)), (10, (.invokevirtual 139, 3))]),
  (26, [(13, (.istore_n 1, 1)), (14, (.aload_n 0, 1)), (15, (.getfield 10, 3)), (18, (.invokevirtual 111, 3)), (21, (.iload_n 1, 1)), (22, (.ifCond .ne 24, 3)), (25, (.aload_n 0, 1))]),
  (42, [(26, (.aload_n 0, 1)), (27, (.getfield 28, 3)), (30, (.invokevirtual 123, 3)), (33, (.putfield 80, 3)), (36, (.new 88, 3)), (39, (.dup, 1)), (40, (.ldc 142, 2))]),
  (55, [(42, (.invokespecial 92, 3)), (45, (.athrow, 1)), (46, (.aload_n 0, 1)), (47, (.iconst 0, 1)), (48, (.putfield 144, 3)), (51, (.aload_n 0, 1)), (52, (.getfield 62, 3))]),
  (72, [(55, (.invokevirtual 147, 3)), (58, (.aload_n 0, 1)), (59, (.aload_n 0, 1)), (60, (.getfield 62, 3)), (63, (.getstatic 150, 3)), (66, (.invokevirtual 156, 3)), (69, (.invokevirtual 160, 3))]),
  (1000000000, [(72, (.ireturn, 1))])]
def je_5_readQuestion_54 : List (Nat × List (Nat × (Instr × Nat))) := [(10, [(0, (.aload_n 0, 1)), (1, (.iload_n 1, 1)), (2, (.invokevirtual 23, 3)), (5, (.aload_n 0, 1)), (6, (.invokevirtual 48, 3)), (9, (.istore_n 2, 1))]),
  (22, [(10, (.aload_n 0, 1)), (11, (.getfield 9, 3)), (14, (.aload_n 0, 1)), (15, (.getfield 51, 3)), (18, (.invokevirtual 54, 3)), (21, (.iload_n 2, 1))]),
  (1000000000, [(22, (.ireturn, 1))])]
def je_6_begin_55 : List (Nat × List (Nat × (Instr × Nat))) := [(14, [(0, (.aload_n 0, 1)), (1, (.getfield 19, 3)), (4, (.invokevirtual 57, 3)), (7, (.aload_n 0, 1)), (8, (.getfield 23, 3)), (11, (.invokevirtual 62, 3))]),
  (26, [(14, (.aload_n 0, 1)), (15, (.getfield 32, 3)), (18, (.iconst 0, 1)), (19, (.invokevirtual 65, 3)), (22, (.aload_n 0, 1)), (23, (.getfield 36, 3))]),
  (38, [(26, (.iconst 0, 1)), (27, (.invokevirtual 65, 3)), (30, (.aload_n 0, 1)), (31, (.getfield 19, 3)), (34, (.iconst 0, 1)), (35, (.invokevirtual 68, 3))]),
  (48, [(38, (.istore_n 1, 1)), (39, (.aload_n 0, 1)), (40, (.aload_n 0, 1)), (41, (.getfield 32, 3)), (44, (.aload_n 0, 1)), (45, (.getfield 9, 3))]),
  (58, [(48, (.iconst 0, 1)), (49, (.invokevirtual 72, 3)), (52, (.iload_n 1, 1)), (53, (.iconst 0, 1)), (54, (.iconst (-1), 1)), (55, (.invokevirtual 77, 3))]),
  (1000000000, [(58, (.putfield 49, 3)), (61, (.return_, 1))])]
def je_7_clear_56 : List (Nat × List (Nat × (Instr × Nat))) := [(12, [(0, (.aload_n 0, 1)), (1, (.getfield 20, 3)), (4, (.iconst 0, 1)), (5, (.invokevirtual 33, 3)), (8, (.aload_n 0, 1)), (9, (.getfield 24, 3))]),
  (24, [(12, (.iconst 0, 1)), (13, (.invokevirtual 33, 3)), (16, (.aload_n 0, 1)), (17, (.getfield 27, 3)), (20, (.iconst 0, 1)), (21, (.invokevirtual 33, 3))]),
  (34, [(24, (.aload_n 0, 1)), (25, (.getfield 30, 3)), (28, (.iconst 0, 1)), (29, (.invokevirtual 33, 3)), (32, (.aload_n 0, 1)), (33, (.iconst 0, 1))]),
  (1000000000, [(34, (.putfield 36, 3)), (37, (.return_, 1))])]
def je_8_shrink_57 : List (Nat × List (Nat × (Instr × Nat))) := [(12, [(0, (.iload_n 1, 1)), (1, (.ifCond .lt 16, 3)), (4, (.iload_n 1, 1)), (5, (.aload_n 0, 1)), (6, (.getfield 25, 3)), (9, (.if_icmp .ge 8, 3))]),
  (1000000000, [(12, (.aload_n 0, 1)), (13, (.iload_n 1, 1)), (14, (.putfield 25, 3)), (17, (.return_, 1))])]
def je_3_clear_58 : List (Nat × List (Nat × (Instr × Nat))) := [(10, [(0, (.aload_n 0, 1)), (1, (.iconst 0, 1)), (2, (.putfield 41, 3)), (5, (.aload_n 0, 1)), (6, (.getfield 24, 3)), (9, (.iconst 0, 1))]),
  (1000000000, [(10, (.invokevirtual 45, 3)), (13, (.aload_n 0, 1)), (14, (.getfield 28, 3)), (17, (.iconst 0, 1)), (18, (.invokevirtual 45, 3)), (21, (.return_, 1))])]
def je_7_makeVariables_59 : List (Nat × List (Nat × (Instr × Nat))) := [(12, [(0, (.aload_n 0, 1)), (1, (.getfield 20, 3)), (4, (.invokevirtual 40, 3)), (7, (.istore_n 2, 1)), (8, (.aload_n 0, 1)), (9, (.getfield 9, 3))]),
  (22, [(12, (.iload_n 1, 1)), (13, (.invokevirtual 44, 3)), (16, (.istore_n 3, 1)), (17, (.iconst 0, 1)), (18, (.istore 4, 2)), (20, (.iload 4, 2))]),
  (32, [(22, (.iload_n 3, 1)), (23, (.if_icmp .ge 21, 3)), (26, (.aload_n 0, 1)), (27, (.getfield 20, 3)), (30, (.iconst (-1), 1)), (31, (.iconst (-1), 1))]),
  (44, [(32, (.iconst (-1), 1)), (33, (.iconst (-1), 1)), (34, (.invokevirtual 50, 3)), (37, (.pop, 1)), (38, (.iinc 4 1, 3)), (41, (.goto (-21), 3))]),
  (54, [(44, (.aload_n 0, 1)), (45, (.dup, 1)), (46, (.getfield 36, 3)), (49, (.iload_n 3, 1)), (50, (.iadd, 1)), (51, (.putfield 36, 3))]),
  (1000000000, [(54, (.iload_n 2, 1)), (55, (.ireturn, 1))])]
def je_1_variablesOf_60 : List (Nat × List (Nat × (Instr × Nat))) := [(12, [(0, (.aload_n 0, 1)), (1, (.getfield 20, 3)), (4, (.iload_n 1, 1)), (5, (.iconst 0, 1)), (6, (.invokevirtual 35, 3)), (9, (.invokestatic 42, 3))]),
  (1000000000, [(12, (.ireturn, 1))])]
def je_8_append_61 : List (Nat × List (Nat × (Instr × Nat))) := [(18, [(0, (.aload_n 0, 1)), (1, (.getfield 25, 3)), (4, (.aload_n 0, 1)), (5, (.getfield 17, 3)), (8, (.imul, 1)), (9, (.istore 5, 2)), (11, (.iload 5, 2)), (13, (.ifCond .lt 15, 3)), (16, (.iload 5, 2))]),
  (33, [(18, (.aload_n 0, 1)), (19, (.getfield 17, 3)), (22, (.iadd, 1)), (23, (.ldc 28, 2)), (25, (.if_icmp .le 5, 3)), (28, (.iconst (-1), 1)), (29, (.ireturn, 1)), (30, (.iload 5, 2)), (32, (.aload_n 0, 1))]),
  (50, [(33, (.getfield 17, 3)), (36, (.iadd, 1)), (37, (.aload_n 0, 1)), (38, (.getfield 21, 3)), (41, (.arraylength, 1)), (42, (.if_icmp .le 27, 3)), (45, (.aload_n 0, 1)), (46, (.aload_n 0, 1)), (47, (.getfield 21, 3))]),
  (66, [(50, (.iload 5, 2)), (52, (.aload_n 0, 1)), (53, (.getfield 17, 3)), (56, (.iadd, 1)), (57, (.aload_n 0, 1)), (58, (.getfield 21, 3)), (61, (.arraylength, 1)), (62, (.iadd, 1)), (63, (.invokestatic 29, 3))]),
  (83, [(66, (.putfield 21, 3)), (69, (.aload_n 0, 1)), (70, (.getfield 21, 3)), (73, (.iload 5, 2)), (75, (.iload_n 1, 1)), (76, (.iastore, 1)), (77, (.aload_n 0, 1)), (78, (.getfield 21, 3)), (81, (.iload 5, 2))]),
  (95, [(83, (.iconst 1, 1)), (84, (.iadd, 1)), (85, (.iload_n 2, 1)), (86, (.iastore, 1)), (87, (.aload_n 0, 1)), (88, (.getfield 21, 3)), (91, (.iload 5, 2)), (93, (.iconst 2, 1)), (94, (.iadd, 1))]),
  (108, [(95, (.iload_n 3, 1)), (96, (.iastore, 1)), (97, (.aload_n 0, 1)), (98, (.getfield 21, 3)), (101, (.iload 5, 2)), (103, (.iconst 3, 1)), (104, (.iadd, 1)), (105, (.iload 4, 2)), (107, (.iastore, 1))]),
  (123, [(108, (.aload_n 0, 1)), (109, (.dup, 1)), (110, (.getfield 25, 3)), (113, (.iconst 1, 1)), (114, (.iadd, 1)), (115, (.putfield 25, 3)), (118, (.aload_n 0, 1)), (119, (.getfield 25, 3)), (122, (.iconst 1, 1))]),
  (1000000000, [(123, (.isub, 1)), (124, (.ireturn, 1))])]
def je_1_firstGoal_62 : List (Nat × List (Nat × (Instr × Nat))) := [(1000000000, [(0, (.aload_n 0, 1)), (1, (.getfield 20, 3)), (4, (.iload_n 1, 1)), (5, (.iconst 1, 1)), (6, (.invokevirtual 35, 3)), (9, (.ireturn, 1))])]
def je_6_seek_63 : List (Nat × List (Nat × (Instr × Nat))) := [(14, [(0, (.aload_n 1, 1)), (1, (.astore_n 2, 1)), (2, (.iconst 0, 1)), (3, (.istore_n 3, 1)), (4, (.iload_n 3, 1)), (5, (.ldc 81, 2)), (7, (.if_icmp .ge 133, 3)), (10, (.aload_n 2, 1)), (11, (.getstatic 82, 3))]),
  (35, [(14, (.if_acmp .ne 25, 3)), (17, (.aload_n 0, 1)), (18, (.getfield 49, 3)), (21, (.iconst (-1), 1)), (22, (.if_icmp .ne 9, 3)), (25, (.getstatic 88, 3)), (28, (.goto 7, 3)), (31, (.aload_n 0, 1)), (32, (.invokevirtual 91, 3))]),
  (54, [(35, (.astore_n 2, 1)), (36, (.goto 98, 3)), (39, (.aload_n 2, 1)), (40, (.getstatic 95, 3)), (43, (.if_acmp .ne 14, 3)), (46, (.aload_n 0, 1)), (47, (.getfield 23, 3)), (50, (.invokevirtual 98, 3)), (53, (.astore_n 2, 1))]),
  (75, [(54, (.goto 80, 3)), (57, (.aload_n 2, 1)), (58, (.getstatic 101, 3)), (61, (.if_acmp .ne 14, 3)), (64, (.aload_n 0, 1)), (65, (.getfield 23, 3)), (68, (.invokevirtual 104, 3)), (71, (.astore_n 2, 1)), (72, (.goto 62, 3))]),
  (94, [(75, (.aload_n 2, 1)), (76, (.getstatic 107, 3)), (79, (.if_acmp .ne 23, 3)), (82, (.aload_n 0, 1)), (83, (.getfield 23, 3)), (86, (.aload_n 0, 1)), (87, (.getfield 19, 3)), (90, (.invokevirtual 110, 3)), (93, (.iconst 1, 1))]),
  (113, [(94, (.isub, 1)), (95, (.invokevirtual 113, 3)), (98, (.astore_n 2, 1)), (99, (.goto 35, 3)), (102, (.aload_n 2, 1)), (103, (.getstatic 117, 3)), (106, (.if_acmp .ne 11, 3)), (109, (.aload_n 0, 1)), (110, (.invokevirtual 120, 3))]),
  (132, [(113, (.astore_n 2, 1)), (114, (.goto 20, 3)), (117, (.aload_n 2, 1)), (118, (.getstatic 123, 3)), (121, (.if_acmp .ne 11, 3)), (124, (.aload_n 0, 1)), (125, (.invokevirtual 126, 3)), (128, (.astore_n 2, 1)), (129, (.goto 5, 3))]),
  (1000000000, [(132, (.aload_n 2, 1)), (133, (.areturn, 1)), (134, (.iinc 3 1, 3)), (137, (.goto (-133), 3)), (140, (.getstatic 129, 3)), (143, (.areturn, 1))])]
def je_6_doGoal_64 : List (Nat × List (Nat × (Instr × Nat))) := [(22, [(0, (.aload_n 0, 1)), (1, (.getfield 23, 3)), (4, (.invokevirtual 132, 3)), (7, (.ifCond .ne 7, 3)), (10, (.getstatic 129, 3)), (13, (.areturn, 1)), (14, (.aload_n 0, 1)), (15, (.getfield 32, 3)), (18, (.aload_n 0, 1)), (19, (.getfield 49, 3))]),
  (40, [(22, (.iconst 0, 1)), (23, (.invokevirtual 136, 3)), (26, (.istore_n 1, 1)), (27, (.aload_n 0, 1)), (28, (.getfield 32, 3)), (31, (.aload_n 0, 1)), (32, (.getfield 49, 3)), (35, (.iconst 1, 1)), (36, (.invokevirtual 136, 3)), (39, (.istore_n 2, 1))]),
  (58, [(40, (.aload_n 0, 1)), (41, (.getfield 32, 3)), (44, (.aload_n 0, 1)), (45, (.getfield 49, 3)), (48, (.iconst 2, 1)), (49, (.invokevirtual 136, 3)), (52, (.istore_n 3, 1)), (53, (.aload_n 0, 1)), (54, (.getfield 32, 3)), (57, (.aload_n 0, 1))]),
  (78, [(58, (.getfield 49, 3)), (61, (.iconst 3, 1)), (62, (.invokevirtual 136, 3)), (65, (.istore 4, 2)), (67, (.aload_n 0, 1)), (68, (.getfield 9, 3)), (71, (.iload_n 1, 1)), (72, (.invokevirtual 140, 3)), (75, (.istore 5, 2)), (77, (.aload_n 0, 1))]),
  (97, [(78, (.iload 5, 2)), (80, (.iconst (-1), 1)), (81, (.if_icmp .ne 8, 3)), (84, (.iload 4, 2)), (86, (.goto 16, 3)), (89, (.aload_n 0, 1)), (90, (.getfield 32, 3)), (93, (.iload 5, 2)), (95, (.iload_n 2, 1)), (96, (.iload_n 3, 1))]),
  (168, [(97, (.iload 4, 2)), (99, (.invokevirtual 77, 3)), (102, (.putfield 49, 3)), (105, (.aload_n 0, 1)), (106, (.getfield 9, 3)), (109, (.iload_n 1, 1)), (110, (.invokevirtual 143, 3)), (113, (.lookupswitch 112 #[(33, 51), (60, 98), (61, 63), (63, 105), (126, 85)], 51)), (164, (.aload_n 0, 1)), (165, (.getfield 36, 3))]),
  (186, [(168, (.iload_n 3, 1)), (169, (.invokevirtual 65, 3)), (172, (.getstatic 82, 3)), (175, (.areturn, 1)), (176, (.aload_n 0, 1)), (177, (.getfield 23, 3)), (180, (.iload_n 1, 1)), (181, (.iload_n 2, 1)), (182, (.aload_n 0, 1)), (183, (.getfield 9, 3))]),
  (204, [(186, (.iload_n 1, 1)), (187, (.invokevirtual 146, 3)), (190, (.iload_n 2, 1)), (191, (.invokevirtual 148, 3)), (194, (.getstatic 95, 3)), (197, (.areturn, 1)), (198, (.aload_n 0, 1)), (199, (.getfield 19, 3)), (202, (.iload_n 1, 1)), (203, (.iload_n 2, 1))]),
  (220, [(204, (.invokevirtual 152, 3)), (207, (.getstatic 107, 3)), (210, (.areturn, 1)), (211, (.aload_n 0, 1)), (212, (.iload_n 1, 1)), (213, (.iload_n 2, 1)), (214, (.invokevirtual 156, 3)), (217, (.areturn, 1)), (218, (.aload_n 0, 1)), (219, (.iload_n 1, 1))]),
  (1000000000, [(220, (.iload_n 2, 1)), (221, (.invokevirtual 160, 3)), (224, (.areturn, 1)), (225, (.aload_n 0, 1)), (226, (.iload_n 1, 1)), (227, (.iload_n 2, 1)), (228, (.invokevirtual 163, 3)), (231, (.areturn, 1))])]
def je_3_takeStep_65 : List (Nat × List (Nat × (Instr × Nat))) := [(12, [(0, (.aload_n 0, 1)), (1, (.getfield 41, 3)), (4, (.sipush 500, 3)), (7, (.if_icmp .lt 5, 3)), (10, (.iconst 0, 1)), (11, (.ireturn, 1))]),
  (22, [(12, (.aload_n 0, 1)), (13, (.dup, 1)), (14, (.getfield 41, 3)), (17, (.iconst 1, 1)), (18, (.iadd, 1)), (19, (.putfield 41, 3))]),
  (1000000000, [(22, (.iconst 1, 1)), (23, (.ireturn, 1))])]
def je_1_follower_66 : List (Nat × List (Nat × (Instr × Nat))) := [(1000000000, [(0, (.aload_n 0, 1)), (1, (.getfield 16, 3)), (4, (.iload_n 1, 1)), (5, (.bipush 7, 2)), (7, (.invokevirtual 35, 3)), (10, (.ireturn, 1))])]
def je_1_kind_67 : List (Nat × List (Nat × (Instr × Nat))) := [(1000000000, [(0, (.aload_n 0, 1)), (1, (.getfield 16, 3)), (4, (.iload_n 1, 1)), (5, (.iconst 5, 1)), (6, (.invokevirtual 35, 3)), (9, (.ireturn, 1))])]
def je_1_right_68 : List (Nat × List (Nat × (Instr × Nat))) := [(1000000000, [(0, (.aload_n 0, 1)), (1, (.getfield 16, 3)), (4, (.iload_n 1, 1)), (5, (.bipush 6, 2)), (7, (.invokevirtual 35, 3)), (10, (.ireturn, 1))])]
def je_3_pushPair_69 : List (Nat × List (Nat × (Instr × Nat))) := [(9, [(0, (.aload_n 0, 1)), (1, (.getfield 24, 3)), (4, (.iload_n 1, 1)), (5, (.iload_n 2, 1)), (6, (.iload_n 3, 1)), (7, (.iload 4, 2))]),
  (1000000000, [(9, (.invokevirtual 56, 3)), (12, (.pop, 1)), (13, (.return_, 1))])]
def je_7_letWait_70 : List (Nat × List (Nat × (Instr × Nat))) := [(8, [(0, (.aload_n 0, 1)), (1, (.getfield 27, 3)), (4, (.iload_n 1, 1)), (5, (.iload_n 2, 1)), (6, (.iconst 1, 1)), (7, (.iconst (-1), 1))]),
  (1000000000, [(8, (.invokevirtual 50, 3)), (11, (.pop, 1)), (12, (.return_, 1))])]
def je_6_doLess_71 : List (Nat × List (Nat × (Instr × Nat))) := [(13, [(0, (.aload_n 0, 1)), (1, (.getfield 19, 3)), (4, (.iload_n 1, 1)), (5, (.iload_n 2, 1)), (6, (.aload_n 0, 1)), (7, (.getfield 42, 3)), (10, (.invokevirtual 166, 3))]),
  (26, [(13, (.aload_n 0, 1)), (14, (.getfield 19, 3)), (17, (.aload_n 0, 1)), (18, (.getfield 9, 3)), (21, (.iload_n 1, 1)), (22, (.invokevirtual 146, 3)), (25, (.iload_n 2, 1))]),
  (41, [(26, (.aload_n 0, 1)), (27, (.getfield 46, 3)), (30, (.invokevirtual 166, 3)), (33, (.aload_n 0, 1)), (34, (.getfield 9, 3)), (37, (.aload_n 0, 1)), (38, (.getfield 42, 3))]),
  (56, [(41, (.getfield 170, 3)), (44, (.invokevirtual 173, 3)), (47, (.istore_n 3, 1)), (48, (.aload_n 0, 1)), (49, (.getfield 9, 3)), (52, (.aload_n 0, 1)), (53, (.getfield 46, 3))]),
  (73, [(56, (.getfield 170, 3)), (59, (.invokevirtual 173, 3)), (62, (.istore 4, 2)), (64, (.iload_n 3, 1)), (65, (.invokestatic 176, 3)), (68, (.ifCond .eq 11, 3)), (71, (.iload 4, 2))]),
  (89, [(73, (.invokestatic 176, 3)), (76, (.ifCond .ne 7, 3)), (79, (.getstatic 180, 3)), (82, (.areturn, 1)), (83, (.iload_n 3, 1)), (84, (.iload 4, 2)), (86, (.if_icmp .ge 9, 3))]),
  (1000000000, [(89, (.getstatic 82, 3)), (92, (.goto 6, 3)), (95, (.getstatic 123, 3)), (98, (.areturn, 1))])]
def je_7_find_72 : List (Nat × List (Nat × (Instr × Nat))) := [(12, [(0, (.aload_n 3, 1)), (1, (.iload_n 1, 1)), (2, (.putfield 54, 3)), (5, (.aload_n 3, 1)), (6, (.iload_n 2, 1)), (7, (.putfield 59, 3)), (10, (.aload_n 3, 1)), (11, (.iconst (-1), 1))]),
  (29, [(12, (.putfield 62, 3)), (15, (.aload_n 0, 1)), (16, (.getfield 9, 3)), (19, (.iload_n 1, 1)), (20, (.invokevirtual 65, 3)), (23, (.istore 4, 2)), (25, (.aload_n 0, 1)), (26, (.getfield 20, 3))]),
  (46, [(29, (.invokevirtual 40, 3)), (32, (.istore 5, 2)), (34, (.iload 5, 2)), (36, (.ifCond .lt 80, 3)), (39, (.iload 4, 2)), (41, (.iconst (-1), 1)), (42, (.if_icmp .eq 74, 3)), (45, (.aload_n 3, 1))]),
  (61, [(46, (.getfield 59, 3)), (49, (.iload 4, 2)), (51, (.iadd, 1)), (52, (.istore 6, 2)), (54, (.aload_n 0, 1)), (55, (.getfield 20, 3)), (58, (.iload 6, 2)), (60, (.iconst 0, 1))]),
  (78, [(61, (.invokevirtual 68, 3)), (64, (.istore 7, 2)), (66, (.iload 7, 2)), (68, (.iconst (-1), 1)), (69, (.if_icmp .ne 10, 3)), (72, (.aload_n 3, 1)), (73, (.iload 6, 2)), (75, (.putfield 62, 3))]),
  (92, [(78, (.return_, 1)), (79, (.aload_n 3, 1)), (80, (.iload 7, 2)), (82, (.putfield 54, 3)), (85, (.aload_n 3, 1)), (86, (.aload_n 0, 1)), (87, (.getfield 20, 3)), (90, (.iload 6, 2))]),
  (110, [(92, (.iconst 1, 1)), (93, (.invokevirtual 68, 3)), (96, (.putfield 59, 3)), (99, (.aload_n 0, 1)), (100, (.getfield 9, 3)), (103, (.iload 7, 2)), (105, (.invokevirtual 65, 3)), (108, (.istore 4, 2))]),
  (1000000000, [(110, (.iinc 5 (-1), 3)), (113, (.goto (-79), 3)), (116, (.return_, 1))])]
def je_1_rank_73 : List (Nat × List (Nat × (Instr × Nat))) := [(1000000000, [(0, (.aload_n 0, 1)), (1, (.getfield 16, 3)), (4, (.iload_n 1, 1)), (5, (.bipush 8, 2)), (7, (.invokevirtual 35, 3)), (10, (.ireturn, 1))])]
def je_6_doSleep_74 : List (Nat × List (Nat × (Instr × Nat))) := [(10, [(0, (.aload_n 0, 1)), (1, (.getfield 19, 3)), (4, (.iload_n 1, 1)), (5, (.iload_n 2, 1)), (6, (.aload_n 0, 1)), (7, (.getfield 42, 3))]),
  (24, [(10, (.invokevirtual 166, 3)), (13, (.aload_n 0, 1)), (14, (.getfield 42, 3)), (17, (.getfield 183, 3)), (20, (.iconst (-1), 1)), (21, (.if_icmp .ne 19, 3))]),
  (34, [(24, (.aload_n 0, 1)), (25, (.aload_n 0, 1)), (26, (.getfield 9, 3)), (29, (.iload_n 1, 1)), (30, (.invokevirtual 146, 3)), (33, (.iload_n 2, 1))]),
  (48, [(34, (.invokevirtual 186, 3)), (37, (.goto 26, 3)), (40, (.aload_n 0, 1)), (41, (.getfield 19, 3)), (44, (.aload_n 0, 1)), (45, (.getfield 9, 3))]),
  (60, [(48, (.iload_n 1, 1)), (49, (.invokevirtual 146, 3)), (52, (.iload_n 2, 1)), (53, (.aload_n 0, 1)), (54, (.getfield 42, 3)), (57, (.getfield 183, 3))]),
  (1000000000, [(60, (.invokevirtual 189, 3)), (63, (.getstatic 82, 3)), (66, (.areturn, 1))])]
def je_6_putInFront_75 : List (Nat × List (Nat × (Instr × Nat))) := [(8, [(0, (.aload_n 0, 1)), (1, (.aload_n 0, 1)), (2, (.getfield 32, 3)), (5, (.iload_n 1, 1)), (6, (.iload_n 2, 1)), (7, (.iconst 0, 1))]),
  (1000000000, [(8, (.aload_n 0, 1)), (9, (.getfield 49, 3)), (12, (.invokevirtual 77, 3)), (15, (.putfield 49, 3)), (18, (.return_, 1))])]
def je_7_putToSleep_76 : List (Nat × List (Nat × (Instr × Nat))) := [(8, [(0, (.aload_n 0, 1)), (1, (.getfield 24, 3)), (4, (.iload_n 1, 1)), (5, (.iload_n 2, 1)), (6, (.iconst (-1), 1)), (7, (.iconst (-1), 1))]),
  (19, [(8, (.invokevirtual 50, 3)), (11, (.istore 4, 2)), (13, (.aload_n 0, 1)), (14, (.iload_n 3, 1)), (15, (.iload 4, 2)), (17, (.iload 4, 2))]),
  (1000000000, [(19, (.invokevirtual 76, 3)), (22, (.return_, 1))])]
def je_7_join_77 : List (Nat × List (Nat × (Instr × Nat))) := [(11, [(0, (.iload_n 2, 1)), (1, (.iconst (-1), 1)), (2, (.if_icmp .ne 4, 3)), (5, (.return_, 1)), (6, (.aload_n 0, 1)), (7, (.iload_n 1, 1)), (8, (.invokevirtual 79, 3))]),
  (24, [(11, (.istore 4, 2)), (13, (.iload 4, 2)), (15, (.iconst (-1), 1)), (16, (.if_icmp .ne 16, 3)), (19, (.aload_n 0, 1)), (20, (.getfield 20, 3)), (23, (.iload_n 1, 1))]),
  (38, [(24, (.iconst 2, 1)), (25, (.iload_n 2, 1)), (26, (.invokevirtual 72, 3)), (29, (.goto 14, 3)), (32, (.aload_n 0, 1)), (33, (.getfield 24, 3)), (36, (.iload 4, 2))]),
  (49, [(38, (.iconst 2, 1)), (39, (.iload_n 2, 1)), (40, (.invokevirtual 72, 3)), (43, (.aload_n 0, 1)), (44, (.getfield 20, 3)), (47, (.iload_n 1, 1)), (48, (.iconst 3, 1))]),
  (61, [(49, (.iload_n 3, 1)), (50, (.invokevirtual 72, 3)), (53, (.aload_n 0, 1)), (54, (.getfield 30, 3)), (57, (.iconst 1, 1)), (58, (.iload_n 1, 1)), (59, (.iload 4, 2))]),
  (1000000000, [(61, (.iconst (-1), 1)), (62, (.invokevirtual 50, 3)), (65, (.pop, 1)), (66, (.return_, 1))])]
def je_7_lastSleeper_78 : List (Nat × List (Nat × (Instr × Nat))) := [(1000000000, [(0, (.aload_n 0, 1)), (1, (.getfield 20, 3)), (4, (.iload_n 1, 1)), (5, (.iconst 3, 1)), (6, (.invokevirtual 68, 3)), (9, (.ireturn, 1))])]
def je_6_doCall_79 : List (Nat × List (Nat × (Instr × Nat))) := [(11, [(0, (.aload_n 0, 1)), (1, (.getfield 15, 3)), (4, (.iconst 0, 1)), (5, (.iload_n 1, 1)), (6, (.invokevirtual 193, 3)), (9, (.istore_n 3, 1)), (10, (.iload_n 3, 1))]),
  (26, [(11, (.iconst (-1), 1)), (12, (.if_icmp .ne 7, 3)), (15, (.getstatic 123, 3)), (18, (.areturn, 1)), (19, (.aload_n 0, 1)), (20, (.getfield 36, 3)), (23, (.invokevirtual 53, 3))]),
  (36, [(26, (.istore 4, 2)), (28, (.aload_n 0, 1)), (29, (.getfield 15, 3)), (32, (.iload_n 3, 1)), (33, (.iconst 1, 1)), (34, (.iadd, 1)), (35, (.iload_n 1, 1))]),
  (49, [(36, (.invokevirtual 193, 3)), (39, (.istore 5, 2)), (41, (.iload 5, 2)), (43, (.iconst (-1), 1)), (44, (.if_icmp .eq 11, 3)), (47, (.aload_n 0, 1)), (48, (.iload_n 1, 1))]),
  (59, [(49, (.iload_n 2, 1)), (50, (.iload 5, 2)), (52, (.invokevirtual 197, 3)), (55, (.aload_n 0, 1)), (56, (.iload_n 3, 1)), (57, (.iload_n 1, 1)), (58, (.iload_n 2, 1))]),
  (1000000000, [(59, (.iload 4, 2)), (61, (.invokevirtual 200, 3)), (64, (.getstatic 95, 3)), (67, (.areturn, 1))])]
def je_2_find_80 : List (Nat × List (Nat × (Instr × Nat))) := [(8, [(0, (.iload_n 1, 1)), (1, (.iconst 0, 1)), (2, (.invokestatic 27, 3)), (5, (.istore_n 3, 1)), (6, (.iload_n 3, 1)), (7, (.aload_n 0, 1))]),
  (20, [(8, (.getfield 19, 3)), (11, (.if_icmp .ge 30, 3)), (14, (.aload_n 0, 1)), (15, (.getfield 9, 3)), (18, (.aload_n 0, 1)), (19, (.iload_n 3, 1))]),
  (34, [(20, (.invokevirtual 23, 3)), (23, (.invokestatic 33, 3)), (26, (.iload_n 2, 1)), (27, (.invokevirtual 38, 3)), (30, (.ifCond .eq 5, 3)), (33, (.iload_n 3, 1))]),
  (1000000000, [(34, (.ireturn, 1)), (35, (.iinc 3 1, 3)), (38, (.goto (-32), 3)), (41, (.iconst (-1), 1)), (42, (.ireturn, 1))])]
def je_1_alike_81 : List (Nat × List (Nat × (Instr × Nat))) := [(10, [(0, (.aload_n 0, 1)), (1, (.iload_n 1, 1)), (2, (.invokevirtual 39, 3)), (5, (.aload_n 0, 1)), (6, (.iload_n 2, 1)), (7, (.invokevirtual 39, 3))]),
  (20, [(10, (.if_icmp .ne 20, 3)), (13, (.aload_n 0, 1)), (14, (.iload_n 1, 1)), (15, (.invokevirtual 52, 3)), (18, (.aload_n 0, 1)), (19, (.iload_n 2, 1))]),
  (1000000000, [(20, (.invokevirtual 52, 3)), (23, (.if_icmp .ne 7, 3)), (26, (.iconst 1, 1)), (27, (.goto 4, 3)), (30, (.iconst 0, 1)), (31, (.ireturn, 1))])]
def je_1_arity_82 : List (Nat × List (Nat × (Instr × Nat))) := [(10, [(0, (.aload_n 0, 1)), (1, (.getfield 16, 3)), (4, (.iload_n 1, 1)), (5, (.iconst 1, 1)), (6, (.invokevirtual 35, 3)), (9, (.iconst 3, 1))]),
  (1000000000, [(10, (.invokestatic 47, 3)), (13, (.ireturn, 1))])]
def je_6_leaveChoice_83 : List (Nat × List (Nat × (Instr × Nat))) := [(14, [(0, (.aload_n 0, 1)), (1, (.getfield 36, 3)), (4, (.iload_n 1, 1)), (5, (.iload_n 2, 1)), (6, (.iload_n 3, 1)), (7, (.aload_n 0, 1)), (8, (.getfield 49, 3)), (11, (.invokevirtual 77, 3))]),
  (30, [(14, (.istore 4, 2)), (16, (.aload_n 0, 1)), (17, (.getfield 36, 3)), (20, (.iload 4, 2)), (22, (.iconst 4, 1)), (23, (.aload_n 0, 1)), (24, (.getfield 19, 3)), (27, (.invokevirtual 203, 3))]),
  (47, [(30, (.invokevirtual 206, 3)), (33, (.aload_n 0, 1)), (34, (.getfield 36, 3)), (37, (.iload 4, 2)), (39, (.iconst 5, 1)), (40, (.aload_n 0, 1)), (41, (.getfield 19, 3)), (44, (.invokevirtual 209, 3))]),
  (65, [(47, (.invokevirtual 206, 3)), (50, (.aload_n 0, 1)), (51, (.getfield 36, 3)), (54, (.iload 4, 2)), (56, (.bipush 6, 2)), (58, (.aload_n 0, 1)), (59, (.getfield 19, 3)), (62, (.invokevirtual 212, 3))]),
  (83, [(65, (.invokevirtual 206, 3)), (68, (.aload_n 0, 1)), (69, (.getfield 36, 3)), (72, (.iload 4, 2)), (74, (.bipush 7, 2)), (76, (.aload_n 0, 1)), (77, (.getfield 19, 3)), (80, (.invokevirtual 110, 3))]),
  (101, [(83, (.invokevirtual 206, 3)), (86, (.aload_n 0, 1)), (87, (.getfield 36, 3)), (90, (.iload 4, 2)), (92, (.bipush 8, 2)), (94, (.aload_n 0, 1)), (95, (.getfield 32, 3)), (98, (.invokevirtual 53, 3))]),
  (1000000000, [(101, (.invokevirtual 206, 3)), (104, (.return_, 1))])]
def je_7_changes_84 : List (Nat × List (Nat × (Instr × Nat))) := [(1000000000, [(0, (.aload_n 0, 1)), (1, (.getfield 30, 3)), (4, (.invokevirtual 40, 3)), (7, (.ireturn, 1))])]
def je_7_variables_85 : List (Nat × List (Nat × (Instr × Nat))) := [(1000000000, [(0, (.aload_n 0, 1)), (1, (.getfield 20, 3)), (4, (.invokevirtual 40, 3)), (7, (.ireturn, 1))])]
def je_7_sleepers_86 : List (Nat × List (Nat × (Instr × Nat))) := [(1000000000, [(0, (.aload_n 0, 1)), (1, (.getfield 24, 3)), (4, (.invokevirtual 40, 3)), (7, (.ireturn, 1))])]
def je_7_aparts_87 : List (Nat × List (Nat × (Instr × Nat))) := [(1000000000, [(0, (.aload_n 0, 1)), (1, (.getfield 27, 3)), (4, (.invokevirtual 40, 3)), (7, (.ireturn, 1))])]
def je_6_take_88 : List (Nat × List (Nat × (Instr × Nat))) := [(14, [(0, (.aload_n 0, 1)), (1, (.getfield 15, 3)), (4, (.iload_n 1, 1)), (5, (.invokevirtual 224, 3)), (8, (.istore 5, 2)), (10, (.aload_n 0, 1)), (11, (.getfield 19, 3))]),
  (30, [(14, (.iload 5, 2)), (16, (.invokevirtual 68, 3)), (19, (.istore 6, 2)), (21, (.aload_n 0, 1)), (22, (.getfield 9, 3)), (25, (.iload 5, 2)), (27, (.invokevirtual 72, 3))]),
  (43, [(30, (.istore 7, 2)), (32, (.iload 7, 2)), (34, (.iconst (-1), 1)), (35, (.if_icmp .eq 24, 3)), (38, (.aload_n 0, 1)), (39, (.aload_n 0, 1)), (40, (.getfield 32, 3))]),
  (59, [(43, (.iload 7, 2)), (45, (.iload 6, 2)), (47, (.iload 4, 2)), (49, (.aload_n 0, 1)), (50, (.getfield 49, 3)), (53, (.invokevirtual 77, 3)), (56, (.putfield 49, 3))]),
  (72, [(59, (.aload_n 0, 1)), (60, (.getfield 23, 3)), (63, (.iload 5, 2)), (65, (.invokestatic 227, 3)), (68, (.iload 6, 2)), (70, (.iload_n 2, 1)), (71, (.iload_n 3, 1))]),
  (1000000000, [(72, (.invokevirtual 230, 3)), (75, (.return_, 1))])]
def je_3_pushArguments_89 : List (Nat × List (Nat × (Instr × Nat))) := [(10, [(0, (.aload_n 0, 1)), (1, (.getfield 9, 3)), (4, (.iload_n 1, 1)), (5, (.invokevirtual 60, 3)), (8, (.iconst 1, 1)), (9, (.isub, 1))]),
  (22, [(10, (.istore 5, 2)), (12, (.iload 5, 2)), (14, (.ifCond .lt 40, 3)), (17, (.aload_n 0, 1)), (18, (.getfield 24, 3)), (21, (.aload_n 0, 1))]),
  (33, [(22, (.getfield 9, 3)), (25, (.iload_n 1, 1)), (26, (.iload 5, 2)), (28, (.invokevirtual 66, 3)), (31, (.iload_n 2, 1)), (32, (.aload_n 0, 1))]),
  (47, [(33, (.getfield 9, 3)), (36, (.iload_n 3, 1)), (37, (.iload 5, 2)), (39, (.invokevirtual 66, 3)), (42, (.iload 4, 2)), (44, (.invokevirtual 56, 3))]),
  (1000000000, [(47, (.pop, 1)), (48, (.iinc 5 (-1), 3)), (51, (.goto (-39), 3)), (54, (.return_, 1))])]
def je_1_argument_90 : List (Nat × List (Nat × (Instr × Nat))) := [(8, [(0, (.aload_n 0, 1)), (1, (.getfield 16, 3)), (4, (.iload_n 1, 1)), (5, (.iconst 2, 1)), (6, (.iload_n 2, 1)), (7, (.iadd, 1))]),
  (1000000000, [(8, (.invokevirtual 35, 3)), (11, (.ireturn, 1))])]
def je_3_makeSame_91 : List (Nat × List (Nat × (Instr × Nat))) := [(12, [(0, (.aload_n 0, 1)), (1, (.getfield 15, 3)), (4, (.invokevirtual 69, 3)), (7, (.istore_n 1, 1)), (8, (.aload_n 0, 1)), (9, (.getfield 28, 3))]),
  (22, [(12, (.iconst 0, 1)), (13, (.invokevirtual 45, 3)), (16, (.aload_n 0, 1)), (17, (.iconst 1, 1)), (18, (.invokevirtual 74, 3)), (21, (.astore_n 2, 1))]),
  (36, [(22, (.aload_n 2, 1)), (23, (.getstatic 78, 3)), (26, (.if_acmp .ne 18, 3)), (29, (.aload_n 0, 1)), (30, (.getfield 15, 3)), (33, (.invokevirtual 69, 3))]),
  (1000000000, [(36, (.iload_n 1, 1)), (37, (.if_icmp .le 7, 3)), (40, (.getstatic 84, 3)), (43, (.areturn, 1)), (44, (.aload_n 2, 1)), (45, (.areturn, 1))])]
def je_3_goThroughPairs_92 : List (Nat × List (Nat × (Instr × Nat))) := [(27, [(0, (.iconst 0, 1)), (1, (.istore_n 2, 1)), (2, (.iload_n 2, 1)), (3, (.sipush 500, 3)), (6, (.if_icmp .gt 352, 3)), (9, (.aload_n 0, 1)), (10, (.getfield 24, 3)), (13, (.invokevirtual 48, 3)), (16, (.ifCond .le 342, 3)), (19, (.aload_n 0, 1)), (20, (.invokevirtual 123, 3)), (23, (.ifCond .ne 15, 3)), (26, (.aload_n 0, 1))]),
  (52, [(27, (.getfield 24, 3)), (30, (.iconst 0, 1)), (31, (.invokevirtual 45, 3)), (34, (.getstatic 127, 3)), (37, (.areturn, 1)), (38, (.aload_n 0, 1)), (39, (.getfield 24, 3)), (42, (.invokevirtual 48, 3)), (45, (.iconst 1, 1)), (46, (.isub, 1)), (47, (.istore_n 3, 1)), (48, (.aload_n 0, 1)), (49, (.getfield 15, 3))]),
  (77, [(52, (.aload_n 0, 1)), (53, (.getfield 24, 3)), (56, (.iload_n 3, 1)), (57, (.iconst 0, 1)), (58, (.invokevirtual 52, 3)), (61, (.aload_n 0, 1)), (62, (.getfield 24, 3)), (65, (.iload_n 3, 1)), (66, (.iconst 1, 1)), (67, (.invokevirtual 52, 3)), (70, (.aload_n 0, 1)), (71, (.getfield 34, 3)), (74, (.invokevirtual 130, 3))]),
  (100, [(77, (.aload_n 0, 1)), (78, (.getfield 15, 3)), (81, (.aload_n 0, 1)), (82, (.getfield 24, 3)), (85, (.iload_n 3, 1)), (86, (.iconst 2, 1)), (87, (.invokevirtual 52, 3)), (90, (.aload_n 0, 1)), (91, (.getfield 24, 3)), (94, (.iload_n 3, 1)), (95, (.iconst 3, 1)), (96, (.invokevirtual 52, 3)), (99, (.aload_n 0, 1))]),
  (131, [(100, (.getfield 38, 3)), (103, (.invokevirtual 130, 3)), (106, (.aload_n 0, 1)), (107, (.getfield 24, 3)), (110, (.iload_n 3, 1)), (111, (.invokevirtual 45, 3)), (114, (.aload_n 0, 1)), (115, (.getfield 34, 3)), (118, (.getfield 134, 3)), (121, (.aload_n 0, 1)), (122, (.getfield 38, 3)), (125, (.getfield 134, 3)), (128, (.if_icmp .eq 145, 3))]),
  (160, [(131, (.aload_n 0, 1)), (132, (.getfield 34, 3)), (135, (.getfield 134, 3)), (138, (.aload_n 0, 1)), (139, (.getfield 38, 3)), (142, (.getfield 134, 3)), (145, (.if_icmp .le 7, 3)), (148, (.iconst 1, 1)), (149, (.goto 4, 3)), (152, (.iconst 0, 1)), (153, (.istore 4, 2)), (155, (.iload 4, 2)), (157, (.ifCond .eq 10, 3))]),
  (189, [(160, (.aload_n 0, 1)), (161, (.getfield 34, 3)), (164, (.goto 7, 3)), (167, (.aload_n 0, 1)), (168, (.getfield 38, 3)), (171, (.astore 5, 2)), (173, (.iload 4, 2)), (175, (.ifCond .eq 10, 3)), (178, (.aload_n 0, 1)), (179, (.getfield 38, 3)), (182, (.goto 7, 3)), (185, (.aload_n 0, 1)), (186, (.getfield 34, 3))]),
  (218, [(189, (.astore 6, 2)), (191, (.aload_n 0, 1)), (192, (.getfield 15, 3)), (195, (.aload 5, 2)), (197, (.getfield 134, 3)), (200, (.aload 6, 2)), (202, (.invokevirtual 137, 3)), (205, (.iload_n 1, 1)), (206, (.ifCond .eq 51, 3)), (209, (.aload 6, 2)), (211, (.getfield 134, 3)), (214, (.iconst (-1), 1)), (215, (.if_icmp .eq 42, 3))]),
  (248, [(218, (.aload_n 0, 1)), (219, (.getfield 15, 3)), (222, (.aload 6, 2)), (224, (.getfield 134, 3)), (227, (.aload_n 0, 1)), (228, (.getfield 15, 3)), (231, (.aload 5, 2)), (233, (.getfield 134, 3)), (236, (.invokevirtual 141, 3)), (239, (.aload_n 0, 1)), (240, (.getfield 15, 3)), (243, (.aload 5, 2)), (245, (.getfield 134, 3))]),
  (280, [(248, (.invokevirtual 144, 3)), (251, (.invokevirtual 147, 3)), (254, (.goto 16, 3)), (257, (.iload_n 1, 1)), (258, (.ifCond .eq 12, 3)), (261, (.aload_n 0, 1)), (262, (.aload 5, 2)), (264, (.getfield 134, 3)), (267, (.invokevirtual 151, 3)), (270, (.goto 82, 3)), (273, (.aload_n 0, 1)), (274, (.getfield 34, 3)), (277, (.getfield 134, 3))]),
  (309, [(280, (.iconst (-1), 1)), (281, (.if_icmp .ne 71, 3)), (284, (.aload_n 0, 1)), (285, (.getfield 9, 3)), (288, (.aload_n 0, 1)), (289, (.getfield 34, 3)), (292, (.getfield 154, 3)), (295, (.aload_n 0, 1)), (296, (.getfield 38, 3)), (299, (.getfield 154, 3)), (302, (.invokevirtual 157, 3)), (305, (.ifCond .ne 15, 3)), (308, (.aload_n 0, 1))]),
  (336, [(309, (.getfield 24, 3)), (312, (.iconst 0, 1)), (313, (.invokevirtual 45, 3)), (316, (.getstatic 117, 3)), (319, (.areturn, 1)), (320, (.aload_n 0, 1)), (321, (.aload_n 0, 1)), (322, (.getfield 34, 3)), (325, (.getfield 154, 3)), (328, (.aload_n 0, 1)), (329, (.getfield 34, 3)), (332, (.getfield 161, 3)), (335, (.aload_n 0, 1))]),
  (1000000000, [(336, (.getfield 38, 3)), (339, (.getfield 154, 3)), (342, (.aload_n 0, 1)), (343, (.getfield 38, 3)), (346, (.getfield 161, 3)), (349, (.invokevirtual 164, 3)), (352, (.iinc 2 1, 3)), (355, (.goto (-353), 3)), (358, (.getstatic 78, 3)), (361, (.areturn, 1))])]
def je_7_bind_93 : List (Nat × List (Nat × (Instr × Nat))) := [(10, [(0, (.aload_n 0, 1)), (1, (.getfield 20, 3)), (4, (.iload_n 1, 1)), (5, (.iconst 0, 1)), (6, (.aload_n 2, 1)), (7, (.getfield 54, 3))]),
  (20, [(10, (.invokevirtual 72, 3)), (13, (.aload_n 0, 1)), (14, (.getfield 20, 3)), (17, (.iload_n 1, 1)), (18, (.iconst 1, 1)), (19, (.aload_n 2, 1))]),
  (32, [(20, (.getfield 59, 3)), (23, (.invokevirtual 72, 3)), (26, (.aload_n 0, 1)), (27, (.getfield 30, 3)), (30, (.iconst 0, 1)), (31, (.iload_n 1, 1))]),
  (1000000000, [(32, (.iconst (-1), 1)), (33, (.iconst (-1), 1)), (34, (.invokevirtual 50, 3)), (37, (.pop, 1)), (38, (.return_, 1))])]
def je_7_firstSleeper_94 : List (Nat × List (Nat × (Instr × Nat))) := [(1000000000, [(0, (.aload_n 0, 1)), (1, (.getfield 20, 3)), (4, (.iload_n 1, 1)), (5, (.iconst 2, 1)), (6, (.invokevirtual 68, 3)), (9, (.ireturn, 1))])]
def je_3_wake_95 : List (Nat × List (Nat × (Instr × Nat))) := [(10, [(0, (.aload_n 0, 1)), (1, (.getfield 15, 3)), (4, (.iload_n 1, 1)), (5, (.invokevirtual 141, 3)), (8, (.istore_n 2, 1)), (9, (.iconst 0, 1))]),
  (22, [(10, (.istore_n 3, 1)), (11, (.iload_n 3, 1)), (12, (.aload_n 0, 1)), (13, (.getfield 15, 3)), (16, (.invokevirtual 167, 3)), (19, (.if_icmp .ge 35, 3))]),
  (32, [(22, (.iload_n 2, 1)), (23, (.iconst (-1), 1)), (24, (.if_icmp .eq 30, 3)), (27, (.aload_n 0, 1)), (28, (.getfield 28, 3)), (31, (.iload_n 2, 1))]),
  (40, [(32, (.iconst (-1), 1)), (33, (.iconst (-1), 1)), (34, (.iconst (-1), 1)), (35, (.invokevirtual 56, 3)), (38, (.pop, 1)), (39, (.aload_n 0, 1))]),
  (54, [(40, (.getfield 15, 3)), (43, (.iload_n 2, 1)), (44, (.invokevirtual 170, 3)), (47, (.istore_n 2, 1)), (48, (.iinc 3 1, 3)), (51, (.goto (-40), 3))]),
  (1000000000, [(54, (.return_, 1))])]
def je_7_sleeperBehind_96 : List (Nat × List (Nat × (Instr × Nat))) := [(1000000000, [(0, (.aload_n 0, 1)), (1, (.getfield 24, 3)), (4, (.iload_n 1, 1)), (5, (.iconst 2, 1)), (6, (.invokevirtual 68, 3)), (9, (.ireturn, 1))])]
def je_3_testAparts_97 : List (Nat × List (Nat × (Instr × Nat))) := [(10, [(0, (.iconst 0, 1)), (1, (.istore_n 1, 1)), (2, (.iload_n 1, 1)), (3, (.aload_n 0, 1)), (4, (.getfield 15, 3)), (7, (.invokevirtual 87, 3))]),
  (24, [(10, (.if_icmp .ge 41, 3)), (13, (.aload_n 0, 1)), (14, (.getfield 15, 3)), (17, (.iload_n 1, 1)), (18, (.invokevirtual 90, 3)), (21, (.ifCond .eq 11, 3))]),
  (36, [(24, (.aload_n 0, 1)), (25, (.iload_n 1, 1)), (26, (.invokevirtual 94, 3)), (29, (.goto 6, 3)), (32, (.getstatic 78, 3)), (35, (.astore_n 2, 1))]),
  (48, [(36, (.aload_n 2, 1)), (37, (.getstatic 78, 3)), (40, (.if_acmp .eq 5, 3)), (43, (.aload_n 2, 1)), (44, (.areturn, 1)), (45, (.iinc 1 1, 3))]),
  (1000000000, [(48, (.goto (-46), 3)), (51, (.getstatic 98, 3)), (54, (.areturn, 1))])]
def je_3_testApart_98 : List (Nat × List (Nat × (Instr × Nat))) := [(16, [(0, (.aload_n 0, 1)), (1, (.getfield 15, 3)), (4, (.invokevirtual 69, 3)), (7, (.istore_n 2, 1)), (8, (.aload_n 0, 1)), (9, (.getfield 15, 3)), (12, (.iload_n 1, 1)), (13, (.invokevirtual 101, 3))]),
  (29, [(16, (.istore_n 3, 1)), (17, (.aload_n 0, 1)), (18, (.getfield 15, 3)), (21, (.iload_n 1, 1)), (22, (.invokevirtual 104, 3)), (25, (.istore 4, 2)), (27, (.aload_n 0, 1)), (28, (.iload_n 3, 1))]),
  (45, [(29, (.iload 4, 2)), (31, (.aload_n 0, 1)), (32, (.getfield 9, 3)), (35, (.iload_n 3, 1)), (36, (.invokevirtual 107, 3)), (39, (.iload 4, 2)), (41, (.invokevirtual 110, 3)), (44, (.aload_n 0, 1))]),
  (62, [(45, (.iconst 0, 1)), (46, (.invokevirtual 74, 3)), (49, (.astore 5, 2)), (51, (.aload_n 0, 1)), (52, (.getfield 15, 3)), (55, (.invokevirtual 69, 3)), (58, (.iload_n 2, 1)), (59, (.if_icmp .le 7, 3))]),
  (77, [(62, (.iconst 1, 1)), (63, (.goto 4, 3)), (66, (.iconst 0, 1)), (67, (.istore 6, 2)), (69, (.aload_n 0, 1)), (70, (.getfield 15, 3)), (73, (.iload_n 2, 1)), (74, (.invokevirtual 114, 3))]),
  (96, [(77, (.aload 5, 2)), (79, (.getstatic 117, 3)), (82, (.if_acmp .ne 15, 3)), (85, (.aload_n 0, 1)), (86, (.getfield 15, 3)), (89, (.iload_n 1, 1)), (90, (.invokevirtual 120, 3)), (93, (.getstatic 78, 3))]),
  (116, [(96, (.areturn, 1)), (97, (.aload 5, 2)), (99, (.getstatic 78, 3)), (102, (.if_acmp .ne 14, 3)), (105, (.iload 6, 2)), (107, (.ifCond .ne 9, 3)), (110, (.getstatic 117, 3)), (113, (.goto 5, 3))]),
  (1000000000, [(116, (.aload 5, 2)), (118, (.areturn, 1))])]
def je_7_apartGoal_99 : List (Nat × List (Nat × (Instr × Nat))) := [(1000000000, [(0, (.aload_n 0, 1)), (1, (.getfield 27, 3)), (4, (.iload_n 1, 1)), (5, (.iconst 0, 1)), (6, (.invokevirtual 68, 3)), (9, (.ireturn, 1))])]
def je_7_apartEnv_100 : List (Nat × List (Nat × (Instr × Nat))) := [(1000000000, [(0, (.aload_n 0, 1)), (1, (.getfield 27, 3)), (4, (.iload_n 1, 1)), (5, (.iconst 1, 1)), (6, (.invokevirtual 68, 3)), (9, (.ireturn, 1))])]
def je_7_goBack_101 : List (Nat × List (Nat × (Instr × Nat))) := [(10, [(0, (.aload_n 0, 1)), (1, (.getfield 30, 3)), (4, (.invokevirtual 40, 3)), (7, (.iconst 1, 1)), (8, (.isub, 1)), (9, (.istore_n 2, 1))]),
  (20, [(10, (.iload_n 2, 1)), (11, (.iload_n 1, 1)), (12, (.if_icmp .lt 18, 3)), (15, (.iload_n 2, 1)), (16, (.ifCond .lt 14, 3)), (19, (.aload_n 0, 1))]),
  (34, [(20, (.iload_n 2, 1)), (21, (.invokevirtual 92, 3)), (24, (.iinc 2 (-1), 3)), (27, (.goto (-17), 3)), (30, (.aload_n 0, 1)), (31, (.getfield 30, 3))]),
  (1000000000, [(34, (.iload_n 1, 1)), (35, (.invokevirtual 33, 3)), (38, (.return_, 1))])]
def je_7_undo_102 : List (Nat × List (Nat × (Instr × Nat))) := [(14, [(0, (.aload_n 0, 1)), (1, (.getfield 30, 3)), (4, (.iload_n 1, 1)), (5, (.iconst 1, 1)), (6, (.invokevirtual 68, 3)), (9, (.istore_n 2, 1)), (10, (.aload_n 0, 1)), (11, (.getfield 30, 3))]),
  (28, [(14, (.iload_n 1, 1)), (15, (.iconst 0, 1)), (16, (.invokevirtual 68, 3)), (19, (.istore_n 3, 1)), (20, (.iload_n 3, 1)), (21, (.ifCond .ne 14, 3)), (24, (.aload_n 0, 1)), (25, (.getfield 20, 3))]),
  (40, [(28, (.iload_n 2, 1)), (29, (.iconst 0, 1)), (30, (.iconst (-1), 1)), (31, (.invokevirtual 72, 3)), (34, (.return_, 1)), (35, (.iload_n 3, 1)), (36, (.iconst 2, 1)), (37, (.if_icmp .ne 14, 3))]),
  (52, [(40, (.aload_n 0, 1)), (41, (.getfield 27, 3)), (44, (.iload_n 2, 1)), (45, (.iconst 2, 1)), (46, (.iconst 1, 1)), (47, (.invokevirtual 72, 3)), (50, (.return_, 1)), (51, (.aload_n 0, 1))]),
  (67, [(52, (.getfield 30, 3)), (55, (.iload_n 1, 1)), (56, (.iconst 2, 1)), (57, (.invokevirtual 68, 3)), (60, (.istore 4, 2)), (62, (.aload_n 0, 1)), (63, (.getfield 20, 3)), (66, (.iload_n 2, 1))]),
  (83, [(67, (.iconst 3, 1)), (68, (.iload 4, 2)), (70, (.invokevirtual 72, 3)), (73, (.iload 4, 2)), (75, (.iconst (-1), 1)), (76, (.if_icmp .ne 16, 3)), (79, (.aload_n 0, 1)), (80, (.getfield 20, 3))]),
  (98, [(83, (.iload_n 2, 1)), (84, (.iconst 2, 1)), (85, (.iconst (-1), 1)), (86, (.invokevirtual 72, 3)), (89, (.goto 14, 3)), (92, (.aload_n 0, 1)), (93, (.getfield 24, 3)), (96, (.iload 4, 2))]),
  (1000000000, [(98, (.iconst 2, 1)), (99, (.iconst (-1), 1)), (100, (.invokevirtual 72, 3)), (103, (.return_, 1))])]
def je_7_settle_103 : List (Nat × List (Nat × (Instr × Nat))) := [(10, [(0, (.aload_n 0, 1)), (1, (.getfield 27, 3)), (4, (.iload_n 1, 1)), (5, (.iconst 2, 1)), (6, (.iconst 0, 1)), (7, (.invokevirtual 72, 3))]),
  (18, [(10, (.aload_n 0, 1)), (11, (.getfield 30, 3)), (14, (.iconst 2, 1)), (15, (.iload_n 1, 1)), (16, (.iconst (-1), 1)), (17, (.iconst (-1), 1))]),
  (1000000000, [(18, (.invokevirtual 50, 3)), (21, (.pop, 1)), (22, (.return_, 1))])]
def je_6_putWokenInFront_104 : List (Nat × List (Nat × (Instr × Nat))) := [(10, [(0, (.aload_n 0, 1)), (1, (.getfield 23, 3)), (4, (.invokevirtual 233, 3)), (7, (.iconst 1, 1)), (8, (.isub, 1)), (9, (.istore_n 1, 1))]),
  (22, [(10, (.iload_n 1, 1)), (11, (.ifCond .lt 38, 3)), (14, (.aload_n 0, 1)), (15, (.getfield 23, 3)), (18, (.iload_n 1, 1)), (19, (.invokevirtual 236, 3))]),
  (32, [(22, (.istore_n 2, 1)), (23, (.aload_n 0, 1)), (24, (.aload_n 0, 1)), (25, (.getfield 19, 3)), (28, (.iload_n 2, 1)), (29, (.invokevirtual 239, 3))]),
  (46, [(32, (.aload_n 0, 1)), (33, (.getfield 19, 3)), (36, (.iload_n 2, 1)), (37, (.invokevirtual 242, 3)), (40, (.invokevirtual 186, 3)), (43, (.iinc 1 (-1), 3))]),
  (1000000000, [(46, (.goto (-36), 3)), (49, (.getstatic 82, 3)), (52, (.areturn, 1))])]
def je_3_wokenGoals_105 : List (Nat × List (Nat × (Instr × Nat))) := [(1000000000, [(0, (.aload_n 0, 1)), (1, (.getfield 28, 3)), (4, (.invokevirtual 48, 3)), (7, (.ireturn, 1))])]
def je_3_wokenGoal_106 : List (Nat × List (Nat × (Instr × Nat))) := [(1000000000, [(0, (.aload_n 0, 1)), (1, (.getfield 28, 3)), (4, (.iload_n 1, 1)), (5, (.iconst 0, 1)), (6, (.invokevirtual 52, 3)), (9, (.ireturn, 1))])]
def je_7_sleeperGoal_107 : List (Nat × List (Nat × (Instr × Nat))) := [(1000000000, [(0, (.aload_n 0, 1)), (1, (.getfield 24, 3)), (4, (.iload_n 1, 1)), (5, (.iconst 0, 1)), (6, (.invokevirtual 68, 3)), (9, (.ireturn, 1))])]
def je_7_sleeperEnv_108 : List (Nat × List (Nat × (Instr × Nat))) := [(1000000000, [(0, (.aload_n 0, 1)), (1, (.getfield 24, 3)), (4, (.iload_n 1, 1)), (5, (.iconst 1, 1)), (6, (.invokevirtual 68, 3)), (9, (.ireturn, 1))])]
def je_6_retry_109 : List (Nat × List (Nat × (Instr × Nat))) := [(18, [(0, (.aload_n 0, 1)), (1, (.getfield 36, 3)), (4, (.invokevirtual 53, 3)), (7, (.iconst 1, 1)), (8, (.isub, 1)), (9, (.istore_n 1, 1)), (10, (.iload_n 1, 1)), (11, (.ifCond .ge 7, 3)), (14, (.getstatic 215, 3)), (17, (.areturn, 1))]),
  (38, [(18, (.aload_n 0, 1)), (19, (.getfield 19, 3)), (22, (.aload_n 0, 1)), (23, (.getfield 36, 3)), (26, (.iload_n 1, 1)), (27, (.iconst 4, 1)), (28, (.invokevirtual 136, 3)), (31, (.invokevirtual 218, 3)), (34, (.aload_n 0, 1)), (35, (.getfield 19, 3))]),
  (57, [(38, (.aload_n 0, 1)), (39, (.getfield 36, 3)), (42, (.iload_n 1, 1)), (43, (.iconst 5, 1)), (44, (.invokevirtual 136, 3)), (47, (.aload_n 0, 1)), (48, (.getfield 36, 3)), (51, (.iload_n 1, 1)), (52, (.bipush 6, 2)), (54, (.invokevirtual 136, 3))]),
  (78, [(57, (.aload_n 0, 1)), (58, (.getfield 36, 3)), (61, (.iload_n 1, 1)), (62, (.bipush 7, 2)), (64, (.invokevirtual 136, 3)), (67, (.invokevirtual 221, 3)), (70, (.aload_n 0, 1)), (71, (.getfield 32, 3)), (74, (.aload_n 0, 1)), (75, (.getfield 36, 3))]),
  (97, [(78, (.iload_n 1, 1)), (79, (.bipush 8, 2)), (81, (.invokevirtual 136, 3)), (84, (.invokevirtual 65, 3)), (87, (.aload_n 0, 1)), (88, (.aload_n 0, 1)), (89, (.getfield 36, 3)), (92, (.iload_n 1, 1)), (93, (.iconst 3, 1)), (94, (.invokevirtual 136, 3))]),
  (115, [(97, (.putfield 49, 3)), (100, (.aload_n 0, 1)), (101, (.getfield 36, 3)), (104, (.iload_n 1, 1)), (105, (.iconst 0, 1)), (106, (.invokevirtual 136, 3)), (109, (.istore_n 2, 1)), (110, (.aload_n 0, 1)), (111, (.getfield 36, 3)), (114, (.iload_n 1, 1))]),
  (132, [(115, (.iconst 1, 1)), (116, (.invokevirtual 136, 3)), (119, (.istore_n 3, 1)), (120, (.aload_n 0, 1)), (121, (.getfield 36, 3)), (124, (.iload_n 1, 1)), (125, (.iconst 2, 1)), (126, (.invokevirtual 136, 3)), (129, (.istore 4, 2)), (131, (.aload_n 0, 1))]),
  (151, [(132, (.getfield 15, 3)), (135, (.iload 4, 2)), (137, (.iconst 1, 1)), (138, (.iadd, 1)), (139, (.iload_n 2, 1)), (140, (.invokevirtual 193, 3)), (143, (.istore 5, 2)), (145, (.iload 5, 2)), (147, (.iconst (-1), 1)), (148, (.if_icmp .ne 14, 3))]),
  (170, [(151, (.aload_n 0, 1)), (152, (.getfield 36, 3)), (155, (.iload_n 1, 1)), (156, (.invokevirtual 65, 3)), (159, (.goto 14, 3)), (162, (.aload_n 0, 1)), (163, (.getfield 36, 3)), (166, (.iload_n 1, 1)), (167, (.iconst 2, 1)), (168, (.iload 5, 2))]),
  (1000000000, [(170, (.invokevirtual 206, 3)), (173, (.aload_n 0, 1)), (174, (.iload 4, 2)), (176, (.iload_n 2, 1)), (177, (.iload_n 3, 1)), (178, (.iload_n 1, 1)), (179, (.invokevirtual 200, 3)), (182, (.getstatic 95, 3)), (185, (.areturn, 1))])]
def je_7_forget_110 : List (Nat × List (Nat × (Instr × Nat))) := [(12, [(0, (.aload_n 0, 1)), (1, (.getfield 20, 3)), (4, (.iload_n 1, 1)), (5, (.invokevirtual 33, 3)), (8, (.aload_n 0, 1)), (9, (.getfield 24, 3))]),
  (24, [(12, (.iload_n 2, 1)), (13, (.invokevirtual 33, 3)), (16, (.aload_n 0, 1)), (17, (.getfield 27, 3)), (20, (.iload_n 3, 1)), (21, (.invokevirtual 33, 3))]),
  (1000000000, [(24, (.return_, 1))])]
def je_0_conclude_111 : List (Nat × List (Nat × (Instr × Nat))) := [(13, [(0, (.aload_n 0, 1)), (1, (.aload_n 1, 1)), (2, (.getstatic 214, 3)), (5, (.if_acmp .ne 7, 3)), (8, (.iconst 1, 1)), (9, (.goto 4, 3)), (12, (.iconst 0, 1))]),
  (28, [(13, (.putfield 130, 3)), (16, (.aload_n 0, 1)), (17, (.getfield 130, 3)), (20, (.ifCond .eq 21, 3)), (23, (.aload_n 0, 1)), (24, (.dup, 1)), (25, (.getfield 144, 3))]),
  (41, [(28, (.iconst 1, 1)), (29, (.iadd, 1)), (30, (.putfield 144, 3)), (33, (.aload_n 0, 1)), (34, (.getfield 53, 3)), (37, (.invokevirtual 217, 3)), (40, (.ireturn, 1))]),
  (57, [(41, (.aload_n 1, 1)), (42, (.getstatic 220, 3)), (45, (.if_acmp .ne 13, 3)), (48, (.new 99, 3)), (51, (.dup, 1)), (52, (.ldc 223, 2)), (54, (.invokespecial 103, 3))]),
  (71, [(57, (.athrow, 1)), (58, (.aload_n 1, 1)), (59, (.getstatic 225, 3)), (62, (.if_acmp .ne 13, 3)), (65, (.new 228, 3)), (68, (.dup, 1)), (69, (.ldc 230, 2))]),
  (1000000000, [(71, (.invokespecial 232, 3)), (74, (.athrow, 1)), (75, (.new 164, 3)), (78, (.dup, 1)), (79, (.ldc 233, 2)), (81, (.invokespecial 168, 3)), (84, (.athrow, 1))])]
def je_3_stepsTaken_112 : List (Nat × List (Nat × (Instr × Nat))) := [(1000000000, [(0, (.aload_n 0, 1)), (1, (.getfield 41, 3)), (4, (.ireturn, 1))])]
def je_0_next_113 : List (Nat × List (Nat × (Instr × Nat))) := [(13, [(0, (.aload_n 0, 1)), (1, (.getfield 130, 3)), (4, (.ifCond .ne 13, 3)), (7, (.new 164, 3)), (10, (.dup, 1)), (11, (.ldc 166, 2))]),
  (25, [(13, (.invokespecial 168, 3)), (16, (.athrow, 1)), (17, (.aload_n 0, 1)), (18, (.aload_n 0, 1)), (19, (.getfield 62, 3)), (22, (.getstatic 169, 3))]),
  (1000000000, [(25, (.invokevirtual 156, 3)), (28, (.invokevirtual 160, 3)), (31, (.ireturn, 1))])]
def je_0_letter_114 : List (Nat × List (Nat × (Instr × Nat))) := [(16, [(0, (.iload_n 1, 1)), (1, (.invokestatic 172, 3)), (4, (.ifCond .ne 13, 3)), (7, (.new 88, 3)), (10, (.dup, 1)), (11, (.ldc 175, 2)), (13, (.invokespecial 92, 3))]),
  (25, [(16, (.athrow, 1)), (17, (.aload_n 0, 1)), (18, (.iload_n 1, 1)), (19, (.invokevirtual 177, 3)), (22, (.istore_n 3, 1)), (23, (.iload_n 3, 1)), (24, (.iconst (-1), 1))]),
  (39, [(25, (.if_icmp .ne 13, 3)), (28, (.new 164, 3)), (31, (.dup, 1)), (32, (.ldc 181, 2)), (34, (.invokespecial 168, 3)), (37, (.athrow, 1)), (38, (.aload_n 0, 1))]),
  (53, [(39, (.getfield 69, 3)), (42, (.iload_n 3, 1)), (43, (.invokevirtual 183, 3)), (46, (.istore 4, 2)), (48, (.iload_n 2, 1)), (49, (.iconst (-1), 1)), (50, (.if_icmp .ne 6, 3))]),
  (66, [(53, (.iload 4, 2)), (55, (.ireturn, 1)), (56, (.iload_n 2, 1)), (57, (.ifCond .lt 9, 3)), (60, (.iload_n 2, 1)), (61, (.iload 4, 2)), (63, (.if_icmp .lt 13, 3))]),
  (80, [(66, (.new 164, 3)), (69, (.dup, 1)), (70, (.ldc 186, 2)), (72, (.invokespecial 168, 3)), (75, (.athrow, 1)), (76, (.aload_n 0, 1)), (77, (.getfield 69, 3))]),
  (1000000000, [(80, (.iload_n 2, 1)), (81, (.invokevirtual 188, 3)), (84, (.ireturn, 1))])]
def je_0_isVariableName_115 : List (Nat × List (Nat × (Instr × Nat))) := [(11, [(0, (.iload_n 0, 1)), (1, (.ifCond .lt 13, 3)), (4, (.iload_n 0, 1)), (5, (.bipush 26, 2)), (7, (.if_icmp .ge 7, 3)), (10, (.iconst 1, 1))]),
  (1000000000, [(11, (.goto 4, 3)), (14, (.iconst 0, 1)), (15, (.ireturn, 1))])]
def je_0_questionNode_116 : List (Nat × List (Nat × (Instr × Nat))) := [(12, [(0, (.aload_n 0, 1)), (1, (.getfield 130, 3)), (4, (.ifCond .eq 18, 3)), (7, (.aload_n 0, 1)), (8, (.getfield 19, 3)), (11, (.iconst 0, 1))]),
  (23, [(12, (.bipush 65, 2)), (14, (.iload_n 1, 1)), (15, (.iadd, 1)), (16, (.invokevirtual 210, 3)), (19, (.goto 4, 3)), (22, (.iconst (-1), 1))]),
  (1000000000, [(23, (.ireturn, 1))])]
def je_1_nodeWithSign_117 : List (Nat × List (Nat × (Instr × Nat))) := [(9, [(0, (.iconst 0, 1)), (1, (.istore_n 3, 1)), (2, (.iload_n 3, 1)), (3, (.bipush 48, 2)), (5, (.if_icmp .ge 30, 3)), (8, (.aload_n 0, 1))]),
  (19, [(9, (.iload_n 1, 1)), (10, (.invokestatic 27, 3)), (13, (.iload_n 3, 1)), (14, (.iadd, 1)), (15, (.invokevirtual 39, 3)), (18, (.iload_n 2, 1))]),
  (29, [(19, (.if_icmp .ne 10, 3)), (22, (.iload_n 1, 1)), (23, (.invokestatic 27, 3)), (26, (.iload_n 3, 1)), (27, (.iadd, 1)), (28, (.ireturn, 1))]),
  (1000000000, [(29, (.iinc 3 1, 3)), (32, (.goto (-30), 3)), (35, (.iconst (-1), 1)), (36, (.ireturn, 1))])]
def je_11_write_118 : List (Nat × List (Nat × (Instr × Nat))) := [(10, [(0, (.aload_n 0, 1)), (1, (.getfield 28, 3)), (4, (.iconst 0, 1)), (5, (.invokevirtual 39, 3)), (8, (.aload_n 0, 1)), (9, (.iload_n 1, 1))]),
  (18, [(10, (.iconst 0, 1)), (11, (.invokevirtual 42, 3)), (14, (.iconst 0, 1)), (15, (.istore_n 2, 1)), (16, (.iload_n 2, 1)), (17, (.aload_n 0, 1))]),
  (32, [(18, (.getfield 19, 3)), (21, (.arraylength, 1)), (22, (.if_icmp .ge 30, 3)), (25, (.aload_n 0, 1)), (26, (.getfield 28, 3)), (29, (.invokevirtual 46, 3))]),
  (44, [(32, (.ifCond .le 20, 3)), (35, (.aload_n 0, 1)), (36, (.getfield 19, 3)), (39, (.iload_n 2, 1)), (40, (.aload_n 0, 1)), (41, (.invokevirtual 50, 3))]),
  (1000000000, [(44, (.i2c, 1)), (45, (.castore, 1)), (46, (.iinc 2 1, 3)), (49, (.goto (-33), 3)), (52, (.iload_n 2, 1)), (53, (.ireturn, 1))])]
def je_11_pushTerm_119 : List (Nat × List (Nat × (Instr × Nat))) := [(8, [(0, (.aload_n 0, 1)), (1, (.getfield 28, 3)), (4, (.iconst 0, 1)), (5, (.iload_n 1, 1)), (6, (.iload_n 2, 1)), (7, (.iconst (-1), 1))]),
  (1000000000, [(8, (.invokevirtual 91, 3)), (11, (.pop, 1)), (12, (.return_, 1))])]
def je_11_writeTop_120 : List (Nat × List (Nat × (Instr × Nat))) := [(14, [(0, (.aload_n 0, 1)), (1, (.getfield 28, 3)), (4, (.invokevirtual 46, 3)), (7, (.iconst 1, 1)), (8, (.isub, 1)), (9, (.istore_n 1, 1)), (10, (.aload_n 0, 1)), (11, (.getfield 28, 3))]),
  (26, [(14, (.iload_n 1, 1)), (15, (.iconst 0, 1)), (16, (.invokevirtual 53, 3)), (19, (.istore_n 2, 1)), (20, (.aload_n 0, 1)), (21, (.getfield 28, 3)), (24, (.iload_n 1, 1)), (25, (.iconst 1, 1))]),
  (41, [(26, (.invokevirtual 53, 3)), (29, (.istore_n 3, 1)), (30, (.aload_n 0, 1)), (31, (.getfield 28, 3)), (34, (.iload_n 1, 1)), (35, (.iconst 2, 1)), (36, (.invokevirtual 53, 3)), (39, (.istore 4, 2))]),
  (55, [(41, (.aload_n 0, 1)), (42, (.getfield 28, 3)), (45, (.iload_n 1, 1)), (46, (.invokevirtual 39, 3)), (49, (.iload_n 3, 1)), (50, (.iconst (-1), 1)), (51, (.if_icmp .ne 5, 3)), (54, (.iload_n 2, 1))]),
  (70, [(55, (.ireturn, 1)), (56, (.aload_n 0, 1)), (57, (.getfield 15, 3)), (60, (.iload_n 3, 1)), (61, (.iload 4, 2)), (63, (.aload_n 0, 1)), (64, (.getfield 35, 3)), (67, (.invokevirtual 57, 3))]),
  (85, [(70, (.aload_n 0, 1)), (71, (.getfield 35, 3)), (74, (.getfield 63, 3)), (77, (.iconst (-1), 1)), (78, (.if_icmp .eq 6, 3)), (81, (.bipush 95, 2)), (83, (.ireturn, 1)), (84, (.aload_n 0, 1))]),
  (103, [(85, (.aload_n 0, 1)), (86, (.getfield 35, 3)), (89, (.getfield 67, 3)), (92, (.aload_n 0, 1)), (93, (.getfield 35, 3)), (96, (.getfield 70, 3)), (99, (.invokevirtual 73, 3)), (102, (.aload_n 0, 1))]),
  (1000000000, [(103, (.getfield 9, 3)), (106, (.aload_n 0, 1)), (107, (.getfield 35, 3)), (110, (.getfield 67, 3)), (113, (.invokevirtual 76, 3)), (116, (.ireturn, 1))])]
def je_11_pushArguments_121 : List (Nat × List (Nat × (Instr × Nat))) := [(10, [(0, (.aload_n 0, 1)), (1, (.getfield 9, 3)), (4, (.iload_n 1, 1)), (5, (.invokevirtual 82, 3)), (8, (.istore_n 3, 1)), (9, (.iload_n 3, 1))]),
  (21, [(10, (.ifCond .le 9, 3)), (13, (.aload_n 0, 1)), (14, (.bipush 41, 2)), (16, (.invokevirtual 85, 3)), (19, (.iload_n 3, 1)), (20, (.iconst 1, 1))]),
  (31, [(21, (.isub, 1)), (22, (.istore 4, 2)), (24, (.iload 4, 2)), (26, (.ifCond .lt 40, 3)), (29, (.aload_n 0, 1)), (30, (.aload_n 0, 1))]),
  (44, [(31, (.getfield 9, 3)), (34, (.iload_n 1, 1)), (35, (.iload 4, 2)), (37, (.invokevirtual 88, 3)), (40, (.iload_n 2, 1)), (41, (.invokevirtual 42, 3))]),
  (57, [(44, (.aload_n 0, 1)), (45, (.iload 4, 2)), (47, (.ifCond .ne 8, 3)), (50, (.bipush 40, 2)), (52, (.goto 5, 3)), (55, (.bipush 44, 2))]),
  (1000000000, [(57, (.invokevirtual 85, 3)), (60, (.iinc 4 (-1), 3)), (63, (.goto (-39), 3)), (66, (.return_, 1))])]
def je_11_pushSign_122 : List (Nat × List (Nat × (Instr × Nat))) := [(8, [(0, (.aload_n 0, 1)), (1, (.getfield 28, 3)), (4, (.iload_n 1, 1)), (5, (.iconst (-1), 1)), (6, (.iconst (-1), 1)), (7, (.iconst (-1), 1))]),
  (1000000000, [(8, (.invokevirtual 91, 3)), (11, (.pop, 1)), (12, (.return_, 1))])]
def je_11_characterAt_123 : List (Nat × List (Nat × (Instr × Nat))) := [(10, [(0, (.iload_n 1, 1)), (1, (.ifCond .lt 21, 3)), (4, (.iload_n 1, 1)), (5, (.aload_n 0, 1)), (6, (.getfield 19, 3)), (9, (.arraylength, 1))]),
  (22, [(10, (.if_icmp .ge 12, 3)), (13, (.aload_n 0, 1)), (14, (.getfield 19, 3)), (17, (.iload_n 1, 1)), (18, (.caload, 1)), (19, (.goto 4, 3))]),
  (1000000000, [(22, (.iconst 0, 1)), (23, (.ireturn, 1))])]
def je_0_sleeping_124 : List (Nat × List (Nat × (Instr × Nat))) := [(16, [(0, (.iload_n 1, 1)), (1, (.invokestatic 172, 3)), (4, (.ifCond .ne 13, 3)), (7, (.new 88, 3)), (10, (.dup, 1)), (11, (.ldc 175, 2)), (13, (.invokespecial 92, 3))]),
  (25, [(16, (.athrow, 1)), (17, (.aload_n 0, 1)), (18, (.iload_n 1, 1)), (19, (.invokevirtual 177, 3)), (22, (.istore_n 2, 1)), (23, (.iload_n 2, 1)), (24, (.iconst (-1), 1))]),
  (36, [(25, (.if_icmp .ne 5, 3)), (28, (.iconst (-1), 1)), (29, (.ireturn, 1)), (30, (.aload_n 0, 1)), (31, (.getfield 44, 3)), (34, (.iload_n 2, 1)), (35, (.iconst 0, 1))]),
  (51, [(36, (.aload_n 0, 1)), (37, (.getfield 76, 3)), (40, (.invokevirtual 191, 3)), (43, (.aload_n 0, 1)), (44, (.getfield 76, 3)), (47, (.getfield 195, 3)), (50, (.iconst (-1), 1))]),
  (66, [(51, (.if_icmp .ne 7, 3)), (54, (.iconst 0, 1)), (55, (.goto 17, 3)), (58, (.aload_n 0, 1)), (59, (.getfield 44, 3)), (62, (.aload_n 0, 1)), (63, (.getfield 76, 3))]),
  (1000000000, [(66, (.getfield 195, 3)), (69, (.invokevirtual 198, 3)), (72, (.ireturn, 1))])]
def je_7_sleepersOn_125 : List (Nat × List (Nat × (Instr × Nat))) := [(8, [(0, (.iconst 0, 1)), (1, (.istore_n 2, 1)), (2, (.aload_n 0, 1)), (3, (.iload_n 1, 1)), (4, (.invokevirtual 82, 3)), (7, (.istore_n 3, 1))]),
  (20, [(8, (.iconst 0, 1)), (9, (.istore 4, 2)), (11, (.iload 4, 2)), (13, (.aload_n 0, 1)), (14, (.getfield 24, 3)), (17, (.invokevirtual 40, 3))]),
  (32, [(20, (.if_icmp .ge 23, 3)), (23, (.iload_n 3, 1)), (24, (.iconst (-1), 1)), (25, (.if_icmp .eq 18, 3)), (28, (.iinc 2 1, 3)), (31, (.aload_n 0, 1))]),
  (44, [(32, (.iload_n 3, 1)), (33, (.invokevirtual 85, 3)), (36, (.istore_n 3, 1)), (37, (.iinc 4 1, 3)), (40, (.goto (-29), 3)), (43, (.iload_n 2, 1))]),
  (1000000000, [(44, (.ireturn, 1))])]
def je_12_init_126 : List (Nat × List (Nat × (Instr × Nat))) := [(26, [(0, (.aload_n 0, 1)), (1, (.invokespecial 1, 3)), (4, (.aload_n 0, 1)), (5, (.bipush 48, 2)), (7, (.newarray .int, 2)), (9, (.putfield 7, 3)), (12, (.aload_n 0, 1)), (13, (.sipush 624, 3)), (16, (.newarray .int, 2)), (18, (.putfield 13, 3)), (21, (.aload_n 0, 1)), (22, (.bipush 12, 2)), (24, (.newarray .int, 2))]),
  (53, [(26, (.putfield 16, 3)), (29, (.aload_n 0, 1)), (30, (.bipush 8, 2)), (32, (.newarray .int, 2)), (34, (.putfield 19, 3)), (37, (.aload_n 0, 1)), (38, (.bipush 8, 2)), (40, (.newarray .int, 2)), (42, (.putfield 22, 3)), (45, (.aload_n 0, 1)), (46, (.bipush 26, 2)), (48, (.newarray .int, 2)), (50, (.putfield 25, 3))]),
  (79, [(53, (.aload_n 0, 1)), (54, (.bipush 26, 2)), (56, (.newarray .int, 2)), (58, (.putfield 28, 3)), (61, (.aload_n 0, 1)), (62, (.iconst (-1), 1)), (63, (.putfield 31, 3)), (66, (.aload_n 0, 1)), (67, (.sipush 24000, 3)), (70, (.newarray .int, 2)), (72, (.putfield 35, 3)), (75, (.aload_n 0, 1)), (76, (.sipush 24000, 3))]),
  (107, [(79, (.newarray .int, 2)), (81, (.putfield 38, 3)), (84, (.aload_n 0, 1)), (85, (.ldc 41, 2)), (87, (.newarray .int, 2)), (89, (.putfield 42, 3)), (92, (.aload_n 0, 1)), (93, (.sipush 13000, 3)), (96, (.newarray .int, 2)), (98, (.putfield 45, 3)), (101, (.aload_n 0, 1)), (102, (.sipush 13000, 3)), (105, (.newarray .int, 2))]),
  (137, [(107, (.putfield 48, 3)), (110, (.aload_n 0, 1)), (111, (.sipush 13000, 3)), (114, (.newarray .int, 2)), (116, (.putfield 51, 3)), (119, (.aload_n 0, 1)), (120, (.sipush 14000, 3)), (123, (.newarray .int, 2)), (125, (.putfield 54, 3)), (128, (.aload_n 0, 1)), (129, (.sipush 14000, 3)), (132, (.newarray .int, 2)), (134, (.putfield 57, 3))]),
  (165, [(137, (.aload_n 0, 1)), (138, (.sipush 14000, 3)), (141, (.newarray .int, 2)), (143, (.putfield 60, 3)), (146, (.aload_n 0, 1)), (147, (.sipush 14000, 3)), (150, (.newarray .int, 2)), (152, (.putfield 63, 3)), (155, (.aload_n 0, 1)), (156, (.sipush 14000, 3)), (159, (.newarray .int, 2)), (161, (.putfield 66, 3)), (164, (.aload_n 0, 1))]),
  (195, [(165, (.sipush 6000, 3)), (168, (.newarray .int, 2)), (170, (.putfield 69, 3)), (173, (.aload_n 0, 1)), (174, (.sipush 6000, 3)), (177, (.newarray .int, 2)), (179, (.putfield 72, 3)), (182, (.aload_n 0, 1)), (183, (.sipush 1200, 3)), (186, (.newarray .int, 2)), (188, (.putfield 75, 3)), (191, (.aload_n 0, 1)), (192, (.sipush 1200, 3))]),
  (224, [(195, (.newarray .int, 2)), (197, (.putfield 78, 3)), (200, (.aload_n 0, 1)), (201, (.sipush 600, 3)), (204, (.newarray .int, 2)), (206, (.putfield 81, 3)), (209, (.aload_n 0, 1)), (210, (.sipush 600, 3)), (213, (.newarray .int, 2)), (215, (.putfield 84, 3)), (218, (.aload_n 0, 1)), (219, (.sipush 600, 3)), (222, (.newarray .int, 2))]),
  (254, [(224, (.putfield 87, 3)), (227, (.aload_n 0, 1)), (228, (.sipush 2200, 3)), (231, (.newarray .int, 2)), (233, (.putfield 90, 3)), (236, (.aload_n 0, 1)), (237, (.sipush 2200, 3)), (240, (.newarray .int, 2)), (242, (.putfield 93, 3)), (245, (.aload_n 0, 1)), (246, (.sipush 600, 3)), (249, (.newarray .int, 2)), (251, (.putfield 96, 3))]),
  (282, [(254, (.aload_n 0, 1)), (255, (.sipush 1200, 3)), (258, (.newarray .int, 2)), (260, (.putfield 99, 3)), (263, (.aload_n 0, 1)), (264, (.sipush 600, 3)), (267, (.newarray .int, 2)), (269, (.putfield 102, 3)), (272, (.aload_n 0, 1)), (273, (.sipush 600, 3)), (276, (.newarray .int, 2)), (278, (.putfield 105, 3)), (281, (.aload_n 0, 1))]),
  (312, [(282, (.sipush 600, 3)), (285, (.newarray .int, 2)), (287, (.putfield 108, 3)), (290, (.aload_n 0, 1)), (291, (.sipush 600, 3)), (294, (.newarray .int, 2)), (296, (.putfield 111, 3)), (299, (.aload_n 0, 1)), (300, (.sipush 600, 3)), (303, (.newarray .int, 2)), (305, (.putfield 114, 3)), (308, (.aload_n 0, 1)), (309, (.sipush 600, 3))]),
  (341, [(312, (.newarray .int, 2)), (314, (.putfield 117, 3)), (317, (.aload_n 0, 1)), (318, (.sipush 600, 3)), (321, (.newarray .int, 2)), (323, (.putfield 120, 3)), (326, (.aload_n 0, 1)), (327, (.sipush 600, 3)), (330, (.newarray .int, 2)), (332, (.putfield 123, 3)), (335, (.aload_n 0, 1)), (336, (.sipush 600, 3)), (339, (.newarray .int, 2))]),
  (1000000000, [(341, (.putfield 126, 3)), (344, (.aload_n 0, 1)), (345, (.bipush 80, 2)), (347, (.newarray .int, 2)), (349, (.putfield 129, 3)), (352, (.aload_n 0, 1)), (353, (.sipush 800, 3)), (356, (.newarray .int, 2)), (358, (.putfield 132, 3)), (361, (.return_, 1))])]
def je_12_thrown_127 : List (Nat × List (Nat × (Instr × Nat))) := [(1000000000, [(0, (.aload_n 0, 1)), (1, (.getfield 135, 3)), (4, (.ireturn, 1))])]
def je_12_type_128 : List (Nat × List (Nat × (Instr × Nat))) := [(15, [(0, (.iconst 0, 1)), (1, (.istore_n 3, 1)), (2, (.iconst 1, 1)), (3, (.istore 4, 2)), (5, (.bipush 56, 2)), (7, (.istore 5, 2)), (9, (.iload 5, 2)), (11, (.ifCond .lt 48, 3)), (14, (.lload_n 1, 1))]),
  (33, [(15, (.iload 5, 2)), (17, (.lushr, 1)), (18, (.l2i, 1)), (19, (.sipush 255, 3)), (22, (.iand, 1)), (23, (.istore 6, 2)), (25, (.iload 6, 2)), (27, (.ifCond .eq 6, 3)), (30, (.iinc 3 1, 3))]),
  (53, [(33, (.iload 6, 2)), (35, (.ifCond .eq 18, 3)), (38, (.iload 6, 2)), (40, (.bipush 33, 2)), (42, (.bipush 126, 2)), (44, (.invokestatic 138, 3)), (47, (.ifCond .ne 6, 3)), (50, (.iconst 0, 1)), (51, (.istore 4, 2))]),
  (71, [(53, (.iinc 5 (-8), 3)), (56, (.goto (-47), 3)), (59, (.aload_n 0, 1)), (60, (.iload 4, 2)), (62, (.invokevirtual 142, 3)), (65, (.ifCond .eq 5, 3)), (68, (.iconst 0, 1)), (69, (.ireturn, 1)), (70, (.aload_n 0, 1))]),
  (87, [(71, (.getfield 146, 3)), (74, (.iload_n 3, 1)), (75, (.iadd, 1)), (76, (.bipush 48, 2)), (78, (.if_icmp .le 9, 3)), (81, (.aload_n 0, 1)), (82, (.iconst 2, 1)), (83, (.invokevirtual 149, 3)), (86, (.ireturn, 1))]),
  (104, [(87, (.bipush 56, 2)), (89, (.istore 5, 2)), (91, (.iload 5, 2)), (93, (.ifCond .lt 49, 3)), (96, (.lload_n 1, 1)), (97, (.iload 5, 2)), (99, (.lushr, 1)), (100, (.l2i, 1)), (101, (.sipush 255, 3))]),
  (123, [(104, (.iand, 1)), (105, (.istore 6, 2)), (107, (.iload 6, 2)), (109, (.ifCond .ne 6, 3)), (112, (.goto 24, 3)), (115, (.aload_n 0, 1)), (116, (.getfield 7, 3)), (119, (.aload_n 0, 1)), (120, (.getfield 146, 3))]),
  (139, [(123, (.iload 6, 2)), (125, (.iastore, 1)), (126, (.aload_n 0, 1)), (127, (.dup, 1)), (128, (.getfield 146, 3)), (131, (.iconst 1, 1)), (132, (.iadd, 1)), (133, (.putfield 146, 3)), (136, (.iinc 5 (-8), 3))]),
  (1000000000, [(139, (.goto (-48), 3)), (142, (.aload_n 0, 1)), (143, (.getfield 146, 3)), (146, (.ireturn, 1))])]
def je_12_in_129 : List (Nat × List (Nat × (Instr × Nat))) := [(10, [(0, (.iload_n 0, 1)), (1, (.iload_n 1, 1)), (2, (.if_icmp .lt 12, 3)), (5, (.iload_n 0, 1)), (6, (.iload_n 2, 1)), (7, (.if_icmp .gt 7, 3))]),
  (1000000000, [(10, (.iconst 1, 1)), (11, (.goto 4, 3)), (14, (.iconst 0, 1)), (15, (.ireturn, 1))])]
def je_12_bad_130 : List (Nat × List (Nat × (Instr × Nat))) := [(10, [(0, (.aload_n 0, 1)), (1, (.iload_n 1, 1)), (2, (.ifCond .eq 7, 3)), (5, (.iconst 0, 1)), (6, (.goto 4, 3)), (9, (.iconst 1, 1))]),
  (22, [(10, (.putfield 135, 3)), (13, (.iload_n 1, 1)), (14, (.ifCond .ne 7, 3)), (17, (.iconst 1, 1)), (18, (.goto 4, 3)), (21, (.iconst 0, 1))]),
  (1000000000, [(22, (.ireturn, 1))])]
def je_12_fail_131 : List (Nat × List (Nat × (Instr × Nat))) := [(1000000000, [(0, (.aload_n 0, 1)), (1, (.iload_n 1, 1)), (2, (.putfield 135, 3)), (5, (.iconst 0, 1)), (6, (.ireturn, 1))])]
def je_12_add_132 : List (Nat × List (Nat × (Instr × Nat))) := [(16, [(0, (.aload_n 0, 1)), (1, (.getfield 171, 3)), (4, (.bipush 12, 2)), (6, (.if_icmp .ne 14, 3)), (9, (.aload_n 0, 1)), (10, (.iconst 0, 1)), (11, (.putfield 146, 3)), (14, (.aload_n 0, 1)), (15, (.iconst 2, 1))]),
  (31, [(16, (.invokevirtual 149, 3)), (19, (.ireturn, 1)), (20, (.aload_n 0, 1)), (21, (.iconst 0, 1)), (22, (.putfield 153, 3)), (25, (.aload_n 0, 1)), (26, (.invokevirtual 174, 3)), (29, (.istore_n 1, 1)), (30, (.iload_n 1, 1))]),
  (46, [(31, (.ifCond .ne 11, 3)), (34, (.aload_n 0, 1)), (35, (.aload_n 0, 1)), (36, (.getfield 153, 3)), (39, (.putfield 31, 3)), (42, (.iconst 0, 1)), (43, (.istore_n 2, 1)), (44, (.iload_n 2, 1)), (45, (.aload_n 0, 1))]),
  (64, [(46, (.getfield 146, 3)), (49, (.if_icmp .ge 29, 3)), (52, (.aload_n 0, 1)), (53, (.getfield 13, 3)), (56, (.aload_n 0, 1)), (57, (.getfield 171, 3)), (60, (.bipush 48, 2)), (62, (.imul, 1)), (63, (.iload_n 2, 1))]),
  (79, [(64, (.iadd, 1)), (65, (.aload_n 0, 1)), (66, (.getfield 7, 3)), (69, (.iload_n 2, 1)), (70, (.iaload, 1)), (71, (.iastore, 1)), (72, (.iinc 2 1, 3)), (75, (.goto (-31), 3)), (78, (.aload_n 0, 1))]),
  (96, [(79, (.getfield 16, 3)), (82, (.aload_n 0, 1)), (83, (.getfield 171, 3)), (86, (.aload_n 0, 1)), (87, (.getfield 146, 3)), (90, (.iastore, 1)), (91, (.aload_n 0, 1)), (92, (.iconst 0, 1)), (93, (.putfield 146, 3))]),
  (111, [(96, (.aload_n 0, 1)), (97, (.iload_n 1, 1)), (98, (.invokevirtual 142, 3)), (101, (.ifCond .eq 5, 3)), (104, (.iconst 0, 1)), (105, (.ireturn, 1)), (106, (.aload_n 0, 1)), (107, (.iconst 0, 1)), (108, (.putfield 177, 3))]),
  (1000000000, [(111, (.aload_n 0, 1)), (112, (.dup, 1)), (113, (.getfield 171, 3)), (116, (.iconst 1, 1)), (117, (.iadd, 1)), (118, (.putfield 171, 3)), (121, (.aload_n 0, 1)), (122, (.getfield 171, 3)), (125, (.ireturn, 1))])]
def je_12_readClause_133 : List (Nat × List (Nat × (Instr × Nat))) := [(10, [(0, (.aload_n 0, 1)), (1, (.iconst 1, 1)), (2, (.invokevirtual 164, 3)), (5, (.ifCond .ne 5, 3)), (8, (.iconst 0, 1)), (9, (.ireturn, 1))]),
  (23, [(10, (.aload_n 0, 1)), (11, (.bipush 58, 2)), (13, (.invokevirtual 160, 3)), (16, (.ifCond .eq 10, 3)), (19, (.aload_n 0, 1)), (20, (.invokevirtual 167, 3))]),
  (37, [(23, (.goto 19, 3)), (26, (.aload_n 0, 1)), (27, (.getfield 153, 3)), (30, (.aload_n 0, 1)), (31, (.getfield 146, 3)), (34, (.if_icmp .ne 7, 3))]),
  (1000000000, [(37, (.iconst 1, 1)), (38, (.goto 4, 3)), (41, (.iconst 0, 1)), (42, (.ireturn, 1))])]
def je_12_readTerm_134 : List (Nat × List (Nat × (Instr × Nat))) := [(18, [(0, (.iconst 1, 1)), (1, (.istore_n 2, 1)), (2, (.iconst 1, 1)), (3, (.istore_n 3, 1)), (4, (.iload_n 2, 1)), (5, (.ifCond .le 194, 3)), (8, (.iload_n 3, 1)), (9, (.ifCond .eq 119, 3)), (12, (.aload_n 0, 1)), (13, (.invokevirtual 156, 3)), (16, (.istore 4, 2))]),
  (40, [(18, (.iload 4, 2)), (20, (.bipush 97, 2)), (22, (.bipush 122, 2)), (24, (.invokestatic 138, 3)), (27, (.istore 5, 2)), (29, (.iload 5, 2)), (31, (.ifCond .ne 38, 3)), (34, (.iload_n 1, 1)), (35, (.ifCond .eq 8, 3)), (38, (.iload_n 2, 1)), (39, (.iconst 1, 1))]),
  (67, [(40, (.if_icmp .eq 27, 3)), (43, (.iload 4, 2)), (45, (.bipush 65, 2)), (47, (.bipush 90, 2)), (49, (.invokestatic 138, 3)), (52, (.ifCond .ne 17, 3)), (55, (.iload 4, 2)), (57, (.bipush 48, 2)), (59, (.bipush 57, 2)), (61, (.invokestatic 138, 3)), (64, (.ifCond .ne 5, 3))]),
  (83, [(67, (.iconst 0, 1)), (68, (.ireturn, 1)), (69, (.aload_n 0, 1)), (70, (.dup, 1)), (71, (.getfield 153, 3)), (74, (.iconst 1, 1)), (75, (.iadd, 1)), (76, (.putfield 153, 3)), (79, (.iconst 0, 1)), (80, (.istore_n 3, 1)), (81, (.iload 5, 2))]),
  (104, [(83, (.ifCond .eq 42, 3)), (86, (.aload_n 0, 1)), (87, (.invokevirtual 156, 3)), (90, (.bipush 40, 2)), (92, (.if_icmp .ne 33, 3)), (95, (.iload_n 2, 1)), (96, (.bipush 6, 2)), (98, (.if_icmp .ne 5, 3)), (101, (.iconst 0, 1)), (102, (.ireturn, 1)), (103, (.aload_n 0, 1))]),
  (123, [(104, (.dup, 1)), (105, (.getfield 153, 3)), (108, (.iconst 1, 1)), (109, (.iadd, 1)), (110, (.putfield 153, 3)), (113, (.iinc 2 1, 3)), (116, (.aload_n 0, 1)), (117, (.getfield 22, 3)), (120, (.iload_n 2, 1)), (121, (.iconst 1, 1)), (122, (.iastore, 1))]),
  (142, [(123, (.iconst 1, 1)), (124, (.istore_n 3, 1)), (125, (.goto (-121), 3)), (128, (.iload_n 2, 1)), (129, (.iconst 1, 1)), (130, (.if_icmp .ne 8, 3)), (133, (.iconst 0, 1)), (134, (.istore_n 2, 1)), (135, (.goto (-131), 3)), (138, (.aload_n 0, 1)), (139, (.invokevirtual 156, 3))]),
  (162, [(142, (.bipush 44, 2)), (144, (.if_icmp .ne 38, 3)), (147, (.aload_n 0, 1)), (148, (.getfield 22, 3)), (151, (.iload_n 2, 1)), (152, (.iaload, 1)), (153, (.iconst 3, 1)), (154, (.if_icmp .ge 28, 3)), (157, (.aload_n 0, 1)), (158, (.dup, 1)), (159, (.getfield 153, 3))]),
  (177, [(162, (.iconst 1, 1)), (163, (.iadd, 1)), (164, (.putfield 153, 3)), (167, (.aload_n 0, 1)), (168, (.getfield 22, 3)), (171, (.iload_n 2, 1)), (172, (.dup2, 1)), (173, (.iaload, 1)), (174, (.iconst 1, 1)), (175, (.iadd, 1)), (176, (.iastore, 1))]),
  (199, [(177, (.iconst 1, 1)), (178, (.istore_n 3, 1)), (179, (.goto (-175), 3)), (182, (.aload_n 0, 1)), (183, (.bipush 41, 2)), (185, (.invokevirtual 160, 3)), (188, (.ifCond .eq 9, 3)), (191, (.iinc 2 (-1), 3)), (194, (.goto (-190), 3)), (197, (.iconst 0, 1)), (198, (.ireturn, 1))]),
  (1000000000, [(199, (.iconst 1, 1)), (200, (.ireturn, 1))])]
def je_12_look_135 : List (Nat × List (Nat × (Instr × Nat))) := [(12, [(0, (.aload_n 0, 1)), (1, (.getfield 153, 3)), (4, (.aload_n 0, 1)), (5, (.getfield 146, 3)), (8, (.if_icmp .ge 15, 3)), (11, (.aload_n 0, 1))]),
  (24, [(12, (.getfield 7, 3)), (15, (.aload_n 0, 1)), (16, (.getfield 153, 3)), (19, (.iaload, 1)), (20, (.goto 4, 3)), (23, (.iconst 0, 1))]),
  (1000000000, [(24, (.ireturn, 1))])]
def je_12_passes_136 : List (Nat × List (Nat × (Instr × Nat))) := [(10, [(0, (.aload_n 0, 1)), (1, (.invokevirtual 156, 3)), (4, (.iload_n 1, 1)), (5, (.if_icmp .eq 5, 3)), (8, (.iconst 0, 1)), (9, (.ireturn, 1))]),
  (20, [(10, (.aload_n 0, 1)), (11, (.dup, 1)), (12, (.getfield 153, 3)), (15, (.iconst 1, 1)), (16, (.iadd, 1)), (17, (.putfield 153, 3))]),
  (1000000000, [(20, (.iconst 1, 1)), (21, (.ireturn, 1))])]
def je_12_readGoals_137 : List (Nat × List (Nat × (Instr × Nat))) := [(20, [(0, (.aload_n 0, 1)), (1, (.bipush 33, 2)), (3, (.invokevirtual 160, 3)), (6, (.ifCond .eq 6, 3)), (9, (.goto 90, 3)), (12, (.aload_n 0, 1)), (13, (.invokevirtual 156, 3)), (16, (.bipush 97, 2)), (18, (.bipush 122, 2))]),
  (35, [(20, (.invokestatic 138, 3)), (23, (.istore_n 1, 1)), (24, (.aload_n 0, 1)), (25, (.iconst 0, 1)), (26, (.invokevirtual 164, 3)), (29, (.ifCond .ne 5, 3)), (32, (.iconst 0, 1)), (33, (.ireturn, 1)), (34, (.aload_n 0, 1))]),
  (52, [(35, (.invokevirtual 156, 3)), (38, (.istore_n 2, 1)), (39, (.iload_n 2, 1)), (40, (.bipush 61, 2)), (42, (.if_icmp .eq 21, 3)), (45, (.iload_n 2, 1)), (46, (.bipush 126, 2)), (48, (.if_icmp .eq 15, 3)), (51, (.iload_n 2, 1))]),
  (69, [(52, (.bipush 60, 2)), (54, (.if_icmp .eq 9, 3)), (57, (.iload_n 2, 1)), (58, (.bipush 63, 2)), (60, (.if_icmp .ne 33, 3)), (63, (.aload_n 0, 1)), (64, (.dup, 1)), (65, (.getfield 153, 3)), (68, (.iconst 1, 1))]),
  (85, [(69, (.iadd, 1)), (70, (.putfield 153, 3)), (73, (.aload_n 0, 1)), (74, (.iload_n 2, 1)), (75, (.bipush 63, 2)), (77, (.if_icmp .ne 7, 3)), (80, (.iconst 1, 1)), (81, (.goto 4, 3)), (84, (.iconst 0, 1))]),
  (100, [(85, (.invokevirtual 164, 3)), (88, (.ifCond .ne 11, 3)), (91, (.iconst 0, 1)), (92, (.ireturn, 1)), (93, (.iload_n 1, 1)), (94, (.ifCond .ne 5, 3)), (97, (.iconst 0, 1)), (98, (.ireturn, 1)), (99, (.aload_n 0, 1))]),
  (120, [(100, (.bipush 44, 2)), (102, (.invokevirtual 160, 3)), (105, (.ifCond .ne (-105), 3)), (108, (.aload_n 0, 1)), (109, (.getfield 153, 3)), (112, (.aload_n 0, 1)), (113, (.getfield 146, 3)), (116, (.if_icmp .ne 7, 3)), (119, (.iconst 1, 1))]),
  (1000000000, [(120, (.goto 4, 3)), (123, (.iconst 0, 1)), (124, (.ireturn, 1))])]
def je_12_drop_138 : List (Nat × List (Nat × (Instr × Nat))) := [(15, [(0, (.aload_n 0, 1)), (1, (.iload_n 1, 1)), (2, (.iconst 0, 1)), (3, (.aload_n 0, 1)), (4, (.getfield 171, 3)), (7, (.iconst 1, 1)), (8, (.isub, 1)), (9, (.invokestatic 138, 3)), (12, (.invokevirtual 142, 3))]),
  (30, [(15, (.ifCond .eq 4, 3)), (18, (.return_, 1)), (19, (.aload_n 0, 1)), (20, (.iconst 0, 1)), (21, (.putfield 177, 3)), (24, (.aload_n 0, 1)), (25, (.dup, 1)), (26, (.getfield 171, 3)), (29, (.iconst 1, 1))]),
  (45, [(30, (.isub, 1)), (31, (.putfield 171, 3)), (34, (.iload_n 1, 1)), (35, (.istore_n 2, 1)), (36, (.iload_n 2, 1)), (37, (.aload_n 0, 1)), (38, (.getfield 171, 3)), (41, (.if_icmp .ge 62, 3)), (44, (.aload_n 0, 1))]),
  (58, [(45, (.getfield 16, 3)), (48, (.iload_n 2, 1)), (49, (.aload_n 0, 1)), (50, (.getfield 16, 3)), (53, (.iload_n 2, 1)), (54, (.iconst 1, 1)), (55, (.iadd, 1)), (56, (.iaload, 1)), (57, (.iastore, 1))]),
  (73, [(58, (.iconst 0, 1)), (59, (.istore_n 3, 1)), (60, (.iload_n 3, 1)), (61, (.bipush 48, 2)), (63, (.if_icmp .ge 34, 3)), (66, (.aload_n 0, 1)), (67, (.getfield 13, 3)), (70, (.iload_n 2, 1)), (71, (.bipush 48, 2))]),
  (86, [(73, (.imul, 1)), (74, (.iload_n 3, 1)), (75, (.iadd, 1)), (76, (.aload_n 0, 1)), (77, (.getfield 13, 3)), (80, (.iload_n 2, 1)), (81, (.bipush 48, 2)), (83, (.imul, 1)), (84, (.bipush 48, 2))]),
  (103, [(86, (.iadd, 1)), (87, (.iload_n 3, 1)), (88, (.iadd, 1)), (89, (.iaload, 1)), (90, (.iastore, 1)), (91, (.iinc 3 1, 3)), (94, (.goto (-34), 3)), (97, (.iinc 2 1, 3)), (100, (.goto (-64), 3))]),
  (1000000000, [(103, (.return_, 1))])]
def je_12_ask_139 : List (Nat × List (Nat × (Instr × Nat))) := [(19, [(0, (.aload_n 0, 1)), (1, (.iconst 0, 1)), (2, (.putfield 153, 3)), (5, (.aload_n 0, 1)), (6, (.invokevirtual 167, 3)), (9, (.istore_n 1, 1)), (10, (.iload_n 1, 1)), (11, (.ifCond .ne 11, 3)), (14, (.aload_n 0, 1)), (15, (.aload_n 0, 1)), (16, (.getfield 153, 3))]),
  (38, [(19, (.putfield 31, 3)), (22, (.aload_n 0, 1)), (23, (.getfield 146, 3)), (26, (.istore_n 2, 1)), (27, (.aload_n 0, 1)), (28, (.iconst 0, 1)), (29, (.putfield 146, 3)), (32, (.aload_n 0, 1)), (33, (.iload_n 1, 1)), (34, (.putfield 177, 3)), (37, (.aload_n 0, 1))]),
  (53, [(38, (.iload_n 1, 1)), (39, (.invokevirtual 142, 3)), (42, (.ifCond .eq 5, 3)), (45, (.iconst 0, 1)), (46, (.ireturn, 1)), (47, (.aload_n 0, 1)), (48, (.aload_n 0, 1)), (49, (.aload_n 0, 1)), (50, (.aload_n 0, 1)), (51, (.aload_n 0, 1)), (52, (.aload_n 0, 1))]),
  (70, [(53, (.aload_n 0, 1)), (54, (.aload_n 0, 1)), (55, (.aload_n 0, 1)), (56, (.aload_n 0, 1)), (57, (.iconst 0, 1)), (58, (.dup_x1, 1)), (59, (.putfield 263, 3)), (62, (.dup_x1, 1)), (63, (.putfield 292, 3)), (66, (.dup_x1, 1)), (67, (.putfield 289, 3))]),
  (91, [(70, (.dup_x1, 1)), (71, (.putfield 219, 3)), (74, (.dup_x1, 1)), (75, (.putfield 317, 3)), (78, (.dup_x1, 1)), (79, (.putfield 222, 3)), (82, (.dup_x1, 1)), (83, (.putfield 209, 3)), (86, (.dup_x1, 1)), (87, (.putfield 194, 3)), (90, (.dup_x1, 1))]),
  (112, [(91, (.putfield 190, 3)), (94, (.putfield 196, 3)), (97, (.iconst 0, 1)), (98, (.istore_n 3, 1)), (99, (.iload_n 3, 1)), (100, (.iload_n 2, 1)), (101, (.if_icmp .ge 25, 3)), (104, (.aload_n 0, 1)), (105, (.getfield 13, 3)), (108, (.sipush 576, 3)), (111, (.iload_n 3, 1))]),
  (133, [(112, (.iadd, 1)), (113, (.aload_n 0, 1)), (114, (.getfield 7, 3)), (117, (.iload_n 3, 1)), (118, (.iaload, 1)), (119, (.iastore, 1)), (120, (.iinc 3 1, 3)), (123, (.goto (-24), 3)), (126, (.aload_n 0, 1)), (127, (.sipush 576, 3)), (130, (.putfield 184, 3))]),
  (151, [(133, (.aload_n 0, 1)), (134, (.sipush 576, 3)), (137, (.iload_n 2, 1)), (138, (.iadd, 1)), (139, (.putfield 181, 3)), (142, (.aload_n 0, 1)), (143, (.invokevirtual 277, 3)), (146, (.iconst 0, 1)), (147, (.istore_n 3, 1)), (148, (.iload_n 3, 1)), (149, (.bipush 26, 2))]),
  (172, [(151, (.if_icmp .ge 21, 3)), (154, (.aload_n 0, 1)), (155, (.getfield 28, 3)), (158, (.iload_n 3, 1)), (159, (.aload_n 0, 1)), (160, (.getfield 25, 3)), (163, (.iload_n 3, 1)), (164, (.iaload, 1)), (165, (.iastore, 1)), (166, (.iinc 3 1, 3)), (169, (.goto (-21), 3))]),
  (1000000000, [(172, (.aload_n 0, 1)), (173, (.aload_n 0, 1)), (174, (.iconst 0, 1)), (175, (.iconst (-1), 1)), (176, (.invokevirtual 280, 3)), (179, (.putfield 270, 3)), (182, (.aload_n 0, 1)), (183, (.iconst 0, 1)), (184, (.invokevirtual 320, 3)), (187, (.ireturn, 1))])]
def je_12_number_140 : List (Nat × List (Nat × (Instr × Nat))) := [(12, [(0, (.iconst 0, 1)), (1, (.istore_n 1, 1)), (2, (.iload_n 1, 1)), (3, (.bipush 26, 2)), (5, (.if_icmp .ge 67, 3)), (8, (.aload_n 0, 1)), (9, (.getfield 25, 3))]),
  (21, [(12, (.iload_n 1, 1)), (13, (.iconst (-1), 1)), (14, (.iastore, 1)), (15, (.aload_n 0, 1)), (16, (.getfield 184, 3)), (19, (.istore_n 2, 1)), (20, (.iload_n 2, 1))]),
  (34, [(21, (.aload_n 0, 1)), (22, (.getfield 181, 3)), (25, (.if_icmp .ge 41, 3)), (28, (.aload_n 0, 1)), (29, (.getfield 25, 3)), (32, (.iload_n 1, 1)), (33, (.iaload, 1))]),
  (46, [(34, (.ifCond .ge 32, 3)), (37, (.aload_n 0, 1)), (38, (.getfield 13, 3)), (41, (.iload_n 2, 1)), (42, (.iaload, 1)), (43, (.bipush 65, 2)), (45, (.iload_n 1, 1))]),
  (59, [(46, (.iadd, 1)), (47, (.if_icmp .ne 13, 3)), (50, (.aload_n 0, 1)), (51, (.getfield 25, 3)), (54, (.iload_n 1, 1)), (55, (.aload_n 0, 1)), (56, (.invokevirtual 187, 3))]),
  (1000000000, [(59, (.iastore, 1)), (60, (.iinc 2 1, 3)), (63, (.goto (-43), 3)), (66, (.iinc 1 1, 3)), (69, (.goto (-67), 3)), (72, (.return_, 1))])]
def je_12_born_141 : List (Nat × List (Nat × (Instr × Nat))) := [(10, [(0, (.aload_n 0, 1)), (1, (.getfield 190, 3)), (4, (.istore_n 1, 1)), (5, (.aload_n 0, 1)), (6, (.getfield 45, 3)), (9, (.iload_n 1, 1))]),
  (19, [(10, (.ldc 193, 2)), (12, (.iastore, 1)), (13, (.aload_n 0, 1)), (14, (.getfield 48, 3)), (17, (.iload_n 1, 1)), (18, (.iconst (-1), 1))]),
  (27, [(19, (.iastore, 1)), (20, (.aload_n 0, 1)), (21, (.getfield 51, 3)), (24, (.iload_n 1, 1)), (25, (.iconst (-1), 1)), (26, (.iastore, 1))]),
  (37, [(27, (.aload_n 0, 1)), (28, (.dup, 1)), (29, (.getfield 190, 3)), (32, (.iconst 1, 1)), (33, (.iadd, 1)), (34, (.putfield 190, 3))]),
  (47, [(37, (.aload_n 0, 1)), (38, (.dup, 1)), (39, (.getfield 194, 3)), (42, (.iconst 1, 1)), (43, (.iadd, 1)), (44, (.putfield 194, 3))]),
  (1000000000, [(47, (.iload_n 1, 1)), (48, (.ireturn, 1))])]
def je_12_buildGoals_142 : List (Nat × List (Nat × (Instr × Nat))) := [(18, [(0, (.iconst (-1), 1)), (1, (.istore_n 3, 1)), (2, (.iconst (-1), 1)), (3, (.istore 4, 2)), (5, (.aload_n 0, 1)), (6, (.getfield 184, 3)), (9, (.aload_n 0, 1)), (10, (.getfield 181, 3)), (13, (.if_icmp .ge 182, 3)), (16, (.aload_n 0, 1)), (17, (.aload_n 0, 1))]),
  (40, [(18, (.getfield 184, 3)), (21, (.invokevirtual 199, 3)), (24, (.bipush 33, 2)), (26, (.if_icmp .ne 27, 3)), (29, (.aload_n 0, 1)), (30, (.dup, 1)), (31, (.getfield 184, 3)), (34, (.iconst 1, 1)), (35, (.iadd, 1)), (36, (.putfield 184, 3)), (39, (.aload_n 0, 1))]),
  (59, [(40, (.iconst 0, 1)), (41, (.iconst 0, 1)), (42, (.iconst 0, 1)), (43, (.iload_n 1, 1)), (44, (.iload_n 2, 1)), (45, (.invokevirtual 212, 3)), (48, (.istore 5, 2)), (50, (.goto 108, 3)), (53, (.aload_n 0, 1)), (54, (.invokevirtual 216, 3)), (57, (.istore 6, 2))]),
  (82, [(59, (.aload_n 0, 1)), (60, (.aload_n 0, 1)), (61, (.getfield 184, 3)), (64, (.invokevirtual 199, 3)), (67, (.istore 7, 2)), (69, (.iload 7, 2)), (71, (.bipush 61, 2)), (73, (.if_icmp .ne 7, 3)), (76, (.iconst 2, 1)), (77, (.goto 37, 3)), (80, (.iload 7, 2))]),
  (106, [(82, (.bipush 126, 2)), (84, (.if_icmp .ne 7, 3)), (87, (.iconst 3, 1)), (88, (.goto 26, 3)), (91, (.iload 7, 2)), (93, (.bipush 60, 2)), (95, (.if_icmp .ne 7, 3)), (98, (.iconst 4, 1)), (99, (.goto 15, 3)), (102, (.iload 7, 2)), (104, (.bipush 63, 2))]),
  (127, [(106, (.if_icmp .ne 7, 3)), (109, (.iconst 5, 1)), (110, (.goto 4, 3)), (113, (.iconst 1, 1)), (114, (.istore 8, 2)), (116, (.iload 8, 2)), (118, (.iconst 1, 1)), (119, (.if_icmp .eq 13, 3)), (122, (.aload_n 0, 1)), (123, (.dup, 1)), (124, (.getfield 184, 3))]),
  (147, [(127, (.iconst 1, 1)), (128, (.iadd, 1)), (129, (.putfield 184, 3)), (132, (.aload_n 0, 1)), (133, (.iload 8, 2)), (135, (.iload 6, 2)), (137, (.iload 8, 2)), (139, (.iconst 1, 1)), (140, (.if_icmp .ne 7, 3)), (143, (.iconst 0, 1)), (144, (.goto 7, 3))]),
  (165, [(147, (.aload_n 0, 1)), (148, (.invokevirtual 216, 3)), (151, (.iload_n 1, 1)), (152, (.iload_n 2, 1)), (153, (.invokevirtual 212, 3)), (156, (.istore 5, 2)), (158, (.aload_n 0, 1)), (159, (.dup, 1)), (160, (.getfield 184, 3)), (163, (.iconst 1, 1)), (164, (.iadd, 1))]),
  (188, [(165, (.putfield 184, 3)), (168, (.iload 4, 2)), (170, (.ifCond .lt 15, 3)), (173, (.aload_n 0, 1)), (174, (.getfield 66, 3)), (177, (.iload 4, 2)), (179, (.iload 5, 2)), (181, (.iastore, 1)), (182, (.goto 6, 3)), (185, (.iload 5, 2)), (187, (.istore_n 3, 1))]),
  (1000000000, [(188, (.iload 5, 2)), (190, (.istore 4, 2)), (192, (.goto (-187), 3)), (195, (.iload_n 3, 1)), (196, (.ifCond .ge 7, 3)), (199, (.iload_n 2, 1)), (200, (.goto 4, 3)), (203, (.iload_n 3, 1)), (204, (.ireturn, 1))])]
def je_12_at_143 : List (Nat × List (Nat × (Instr × Nat))) := [(12, [(0, (.iload_n 1, 1)), (1, (.aload_n 0, 1)), (2, (.getfield 181, 3)), (5, (.if_icmp .ge 12, 3)), (8, (.aload_n 0, 1)), (9, (.getfield 13, 3))]),
  (1000000000, [(12, (.iload_n 1, 1)), (13, (.iaload, 1)), (14, (.goto 4, 3)), (17, (.iconst 0, 1)), (18, (.ireturn, 1))])]
def je_12_goal_144 : List (Nat × List (Nat × (Instr × Nat))) := [(11, [(0, (.aload_n 0, 1)), (1, (.getfield 54, 3)), (4, (.aload_n 0, 1)), (5, (.getfield 209, 3)), (8, (.iload_n 1, 1)), (9, (.iastore, 1)), (10, (.aload_n 0, 1))]),
  (24, [(11, (.getfield 57, 3)), (14, (.aload_n 0, 1)), (15, (.getfield 209, 3)), (18, (.iload_n 2, 1)), (19, (.iastore, 1)), (20, (.aload_n 0, 1)), (21, (.getfield 60, 3))]),
  (35, [(24, (.aload_n 0, 1)), (25, (.getfield 209, 3)), (28, (.iload_n 3, 1)), (29, (.iastore, 1)), (30, (.aload_n 0, 1)), (31, (.getfield 63, 3)), (34, (.aload_n 0, 1))]),
  (49, [(35, (.getfield 209, 3)), (38, (.iload 4, 2)), (40, (.iastore, 1)), (41, (.aload_n 0, 1)), (42, (.getfield 66, 3)), (45, (.aload_n 0, 1)), (46, (.getfield 209, 3))]),
  (59, [(49, (.iload 5, 2)), (51, (.iastore, 1)), (52, (.aload_n 0, 1)), (53, (.dup, 1)), (54, (.getfield 209, 3)), (57, (.iconst 1, 1)), (58, (.iadd, 1))]),
  (1000000000, [(59, (.putfield 209, 3)), (62, (.aload_n 0, 1)), (63, (.getfield 209, 3)), (66, (.iconst 1, 1)), (67, (.isub, 1)), (68, (.ireturn, 1))])]
def je_12_build_145 : List (Nat × List (Nat × (Instr × Nat))) := [(16, [(0, (.iconst 0, 1)), (1, (.istore_n 1, 1)), (2, (.aload_n 0, 1)), (3, (.aload_n 0, 1)), (4, (.getfield 184, 3)), (7, (.invokevirtual 199, 3)), (10, (.istore_n 2, 1)), (11, (.iload_n 2, 1)), (12, (.bipush 65, 2)), (14, (.bipush 90, 2))]),
  (33, [(16, (.invokestatic 138, 3)), (19, (.ifCond .eq 17, 3)), (22, (.iconst (-1), 1)), (23, (.aload_n 0, 1)), (24, (.getfield 25, 3)), (27, (.iload_n 2, 1)), (28, (.bipush 65, 2)), (30, (.isub, 1)), (31, (.iaload, 1)), (32, (.isub, 1))]),
  (49, [(33, (.goto 8, 3)), (36, (.aload_n 0, 1)), (37, (.iload_n 2, 1)), (38, (.invokevirtual 202, 3)), (41, (.istore_n 3, 1)), (42, (.aload_n 0, 1)), (43, (.dup, 1)), (44, (.getfield 184, 3)), (47, (.iconst 1, 1)), (48, (.iadd, 1))]),
  (67, [(49, (.putfield 184, 3)), (52, (.iload_n 1, 1)), (53, (.ifCond .le 9, 3)), (56, (.aload_n 0, 1)), (57, (.iload_n 1, 1)), (58, (.iload_n 3, 1)), (59, (.invokevirtual 205, 3)), (62, (.iload_n 3, 1)), (63, (.ifCond .lt 39, 3)), (66, (.aload_n 0, 1))]),
  (86, [(67, (.aload_n 0, 1)), (68, (.getfield 184, 3)), (71, (.invokevirtual 199, 3)), (74, (.bipush 40, 2)), (76, (.if_icmp .ne 26, 3)), (79, (.aload_n 0, 1)), (80, (.dup, 1)), (81, (.getfield 184, 3)), (84, (.iconst 1, 1)), (85, (.iadd, 1))]),
  (106, [(86, (.putfield 184, 3)), (89, (.iinc 1 1, 3)), (92, (.aload_n 0, 1)), (93, (.getfield 19, 3)), (96, (.iload_n 1, 1)), (97, (.iload_n 3, 1)), (98, (.iastore, 1)), (99, (.goto (-97), 3)), (102, (.iload_n 1, 1)), (103, (.ifCond .le 39, 3))]),
  (125, [(106, (.aload_n 0, 1)), (107, (.aload_n 0, 1)), (108, (.getfield 184, 3)), (111, (.invokevirtual 199, 3)), (114, (.bipush 41, 2)), (116, (.if_icmp .ne 26, 3)), (119, (.aload_n 0, 1)), (120, (.dup, 1)), (121, (.getfield 184, 3)), (124, (.iconst 1, 1))]),
  (143, [(125, (.iadd, 1)), (126, (.putfield 184, 3)), (129, (.aload_n 0, 1)), (130, (.getfield 19, 3)), (133, (.iload_n 1, 1)), (134, (.iaload, 1)), (135, (.istore_n 3, 1)), (136, (.iinc 1 (-1), 3)), (139, (.goto (-37), 3)), (142, (.iload_n 1, 1))]),
  (1000000000, [(143, (.ifCond .ne 5, 3)), (146, (.iload_n 3, 1)), (147, (.ireturn, 1)), (148, (.aload_n 0, 1)), (149, (.dup, 1)), (150, (.getfield 184, 3)), (153, (.iconst 1, 1)), (154, (.iadd, 1)), (155, (.putfield 184, 3)), (158, (.goto (-156), 3))])]
def je_12_cell_146 : List (Nat × List (Nat × (Instr × Nat))) := [(10, [(0, (.aload_n 0, 1)), (1, (.getfield 35, 3)), (4, (.aload_n 0, 1)), (5, (.getfield 196, 3)), (8, (.iload_n 1, 1)), (9, (.iastore, 1))]),
  (20, [(10, (.aload_n 0, 1)), (11, (.getfield 38, 3)), (14, (.aload_n 0, 1)), (15, (.getfield 196, 3)), (18, (.iconst 0, 1)), (19, (.iastore, 1))]),
  (30, [(20, (.aload_n 0, 1)), (21, (.dup, 1)), (22, (.getfield 196, 3)), (25, (.iconst 1, 1)), (26, (.iadd, 1)), (27, (.putfield 196, 3))]),
  (1000000000, [(30, (.aload_n 0, 1)), (31, (.getfield 196, 3)), (34, (.iconst 1, 1)), (35, (.isub, 1)), (36, (.ireturn, 1))])]
def je_12_hang_147 : List (Nat × List (Nat × (Instr × Nat))) := [(8, [(0, (.aload_n 0, 1)), (1, (.getfield 19, 3)), (4, (.iload_n 1, 1)), (5, (.iaload, 1)), (6, (.istore_n 3, 1)), (7, (.aload_n 0, 1))]),
  (18, [(8, (.getfield 42, 3)), (11, (.iload_n 3, 1)), (12, (.iconst 3, 1)), (13, (.imul, 1)), (14, (.aload_n 0, 1)), (15, (.getfield 38, 3))]),
  (24, [(18, (.iload_n 3, 1)), (19, (.iaload, 1)), (20, (.iadd, 1)), (21, (.iload_n 2, 1)), (22, (.iastore, 1)), (23, (.aload_n 0, 1))]),
  (32, [(24, (.getfield 38, 3)), (27, (.iload_n 3, 1)), (28, (.dup2, 1)), (29, (.iaload, 1)), (30, (.iconst 1, 1)), (31, (.iadd, 1))]),
  (1000000000, [(32, (.iastore, 1)), (33, (.return_, 1))])]
def je_12_seek_148 : List (Nat × List (Nat × (Instr × Nat))) := [(16, [(0, (.iload_n 1, 1)), (1, (.ifCond .eq 10, 3)), (4, (.aload_n 0, 1)), (5, (.invokevirtual 311, 3)), (8, (.ifCond .eq 7, 3)), (11, (.iconst 1, 1)), (12, (.goto 4, 3)), (15, (.iconst 0, 1))]),
  (32, [(16, (.istore_n 2, 1)), (17, (.iload_n 2, 1)), (18, (.ifCond .eq 61, 3)), (21, (.aload_n 0, 1)), (22, (.getfield 270, 3)), (25, (.ifCond .lt 54, 3)), (28, (.aload_n 0, 1)), (29, (.getfield 135, 3))]),
  (50, [(32, (.ifCond .ne 47, 3)), (35, (.aload_n 0, 1)), (36, (.invokevirtual 237, 3)), (39, (.ifCond .ne 6, 3)), (42, (.goto 37, 3)), (45, (.aload_n 0, 1)), (46, (.aload_n 0, 1)), (47, (.getfield 270, 3))]),
  (70, [(50, (.invokevirtual 314, 3)), (53, (.ifCond .ne 17, 3)), (56, (.aload_n 0, 1)), (57, (.getfield 135, 3)), (60, (.ifCond .ne 14, 3)), (63, (.aload_n 0, 1)), (64, (.invokevirtual 311, 3)), (67, (.ifCond .eq 7, 3))]),
  (86, [(70, (.iconst 1, 1)), (71, (.goto 4, 3)), (74, (.iconst 0, 1)), (75, (.istore_n 2, 1)), (76, (.goto (-59), 3)), (79, (.aload_n 0, 1)), (80, (.getfield 135, 3)), (83, (.ifCond .ne 12, 3))]),
  (102, [(86, (.iload_n 2, 1)), (87, (.ifCond .ne 8, 3)), (90, (.aload_n 0, 1)), (91, (.iconst 2, 1)), (92, (.putfield 135, 3)), (95, (.aload_n 0, 1)), (96, (.getfield 135, 3)), (99, (.ifCond .le 10, 3))]),
  (114, [(102, (.aload_n 0, 1)), (103, (.iconst 0, 1)), (104, (.putfield 177, 3)), (107, (.iconst 0, 1)), (108, (.ireturn, 1)), (109, (.aload_n 0, 1)), (110, (.dup, 1)), (111, (.getfield 317, 3))]),
  (1000000000, [(114, (.iconst 1, 1)), (115, (.iadd, 1)), (116, (.putfield 317, 3)), (119, (.aload_n 0, 1)), (120, (.getfield 222, 3)), (123, (.ireturn, 1))])]
def je_12_back_149 : List (Nat × List (Nat × (Instr × Nat))) := [(20, [(0, (.aload_n 0, 1)), (1, (.getfield 289, 3)), (4, (.ifCond .le 149, 3)), (7, (.aload_n 0, 1)), (8, (.getfield 135, 3)), (11, (.ifCond .ne 142, 3)), (14, (.aload_n 0, 1)), (15, (.getfield 289, 3)), (18, (.iconst 1, 1)), (19, (.isub, 1))]),
  (34, [(20, (.istore_n 1, 1)), (21, (.aload_n 0, 1)), (22, (.getfield 105, 3)), (25, (.iload_n 1, 1)), (26, (.iaload, 1)), (27, (.istore_n 2, 1)), (28, (.aload_n 0, 1)), (29, (.getfield 102, 3)), (32, (.iload_n 1, 1)), (33, (.iaload, 1))]),
  (47, [(34, (.istore_n 3, 1)), (35, (.aload_n 0, 1)), (36, (.iload_n 2, 1)), (37, (.iconst 1, 1)), (38, (.iadd, 1)), (39, (.iload_n 3, 1)), (40, (.invokevirtual 286, 3)), (43, (.istore 4, 2)), (45, (.aload_n 0, 1)), (46, (.aload_n 0, 1))]),
  (65, [(47, (.getfield 120, 3)), (50, (.iload_n 1, 1)), (51, (.iaload, 1)), (52, (.invokevirtual 259, 3)), (55, (.aload_n 0, 1)), (56, (.aload_n 0, 1)), (57, (.getfield 111, 3)), (60, (.iload_n 1, 1)), (61, (.iaload, 1)), (62, (.putfield 196, 3))]),
  (81, [(65, (.aload_n 0, 1)), (66, (.aload_n 0, 1)), (67, (.getfield 114, 3)), (70, (.iload_n 1, 1)), (71, (.iaload, 1)), (72, (.putfield 190, 3)), (75, (.aload_n 0, 1)), (76, (.aload_n 0, 1)), (77, (.getfield 117, 3)), (80, (.iload_n 1, 1))]),
  (97, [(81, (.iaload, 1)), (82, (.putfield 209, 3)), (85, (.aload_n 0, 1)), (86, (.aload_n 0, 1)), (87, (.getfield 123, 3)), (90, (.iload_n 1, 1)), (91, (.iaload, 1)), (92, (.putfield 292, 3)), (95, (.aload_n 0, 1)), (96, (.aload_n 0, 1))]),
  (115, [(97, (.getfield 126, 3)), (100, (.iload_n 1, 1)), (101, (.iaload, 1)), (102, (.putfield 263, 3)), (105, (.aload_n 0, 1)), (106, (.getfield 105, 3)), (109, (.iload_n 1, 1)), (110, (.iload 4, 2)), (112, (.iastore, 1)), (113, (.iload 4, 2))]),
  (133, [(115, (.aload_n 0, 1)), (116, (.getfield 171, 3)), (119, (.if_icmp .ne 13, 3)), (122, (.aload_n 0, 1)), (123, (.dup, 1)), (124, (.getfield 289, 3)), (127, (.iconst 1, 1)), (128, (.isub, 1)), (129, (.putfield 289, 3)), (132, (.aload_n 0, 1))]),
  (149, [(133, (.iload_n 2, 1)), (134, (.iload_n 3, 1)), (135, (.aload_n 0, 1)), (136, (.getfield 108, 3)), (139, (.iload_n 1, 1)), (140, (.iaload, 1)), (141, (.iload_n 1, 1)), (142, (.invokevirtual 295, 3)), (145, (.ifCond .eq 5, 3)), (148, (.iconst 1, 1))]),
  (1000000000, [(149, (.ireturn, 1)), (150, (.goto (-150), 3)), (153, (.iconst 0, 1)), (154, (.ireturn, 1))])]
def je_12_nextFit_150 : List (Nat × List (Nat × (Instr × Nat))) := [(10, [(0, (.iload_n 1, 1)), (1, (.istore_n 3, 1)), (2, (.iload_n 3, 1)), (3, (.aload_n 0, 1)), (4, (.getfield 171, 3)), (7, (.if_icmp .ge 18, 3))]),
  (22, [(10, (.aload_n 0, 1)), (11, (.iload_n 3, 1)), (12, (.iload_n 2, 1)), (13, (.invokevirtual 273, 3)), (16, (.ifCond .ne 9, 3)), (19, (.iinc 3 1, 3))]),
  (1000000000, [(22, (.goto (-20), 3)), (25, (.iload_n 3, 1)), (26, (.ireturn, 1))])]
def je_12_fits_151 : List (Nat × List (Nat × (Instr × Nat))) := [(14, [(0, (.aload_n 0, 1)), (1, (.getfield 13, 3)), (4, (.iload_n 1, 1)), (5, (.bipush 48, 2)), (7, (.imul, 1)), (8, (.iaload, 1)), (9, (.aload_n 0, 1)), (10, (.getfield 35, 3)), (13, (.iload_n 2, 1))]),
  (26, [(14, (.iaload, 1)), (15, (.if_icmp .eq 5, 3)), (18, (.iconst 0, 1)), (19, (.ireturn, 1)), (20, (.iconst 0, 1)), (21, (.istore_n 3, 1)), (22, (.iconst 0, 1)), (23, (.istore 4, 2)), (25, (.iconst 1, 1))]),
  (43, [(26, (.istore 5, 2)), (28, (.iload 5, 2)), (30, (.aload_n 0, 1)), (31, (.getfield 16, 3)), (34, (.iload_n 1, 1)), (35, (.iaload, 1)), (36, (.if_icmp .ge 93, 3)), (39, (.aload_n 0, 1)), (40, (.getfield 13, 3))]),
  (56, [(43, (.iload_n 1, 1)), (44, (.bipush 48, 2)), (46, (.imul, 1)), (47, (.iload 5, 2)), (49, (.iadd, 1)), (50, (.iaload, 1)), (51, (.istore 6, 2)), (53, (.iload 5, 2)), (55, (.iconst 1, 1))]),
  (79, [(56, (.if_icmp .ne 13, 3)), (59, (.iload 6, 2)), (61, (.bipush 40, 2)), (63, (.if_icmp .eq 6, 3)), (66, (.goto 63, 3)), (69, (.iload 6, 2)), (71, (.bipush 40, 2)), (73, (.if_icmp .ne 6, 3)), (76, (.iinc 3 1, 3))]),
  (98, [(79, (.iload 6, 2)), (81, (.bipush 40, 2)), (83, (.if_icmp .ne 8, 3)), (86, (.iload_n 3, 1)), (87, (.iconst 1, 1)), (88, (.if_icmp .eq 15, 3)), (91, (.iload 6, 2)), (93, (.bipush 44, 2)), (95, (.if_icmp .ne 11, 3))]),
  (117, [(98, (.iload_n 3, 1)), (99, (.iconst 1, 1)), (100, (.if_icmp .ne 6, 3)), (103, (.iinc 4 1, 3)), (106, (.iload 6, 2)), (108, (.bipush 41, 2)), (110, (.if_icmp .ne 6, 3)), (113, (.iinc 3 (-1), 3)), (116, (.iload_n 3, 1))]),
  (137, [(117, (.ifCond .ne 6, 3)), (120, (.goto 9, 3)), (123, (.iinc 5 1, 3)), (126, (.goto (-98), 3)), (129, (.iload 4, 2)), (131, (.aload_n 0, 1)), (132, (.getfield 38, 3)), (135, (.iload_n 2, 1)), (136, (.iaload, 1))]),
  (1000000000, [(137, (.if_icmp .ne 7, 3)), (140, (.iconst 1, 1)), (141, (.goto 4, 3)), (144, (.iconst 0, 1)), (145, (.ireturn, 1))])]
def je_12_undo_152 : List (Nat × List (Nat × (Instr × Nat))) := [(15, [(0, (.aload_n 0, 1)), (1, (.getfield 219, 3)), (4, (.iload_n 1, 1)), (5, (.if_icmp .le 115, 3)), (8, (.aload_n 0, 1)), (9, (.dup, 1)), (10, (.getfield 219, 3)), (13, (.iconst 1, 1)), (14, (.isub, 1))]),
  (30, [(15, (.putfield 219, 3)), (18, (.aload_n 0, 1)), (19, (.getfield 69, 3)), (22, (.aload_n 0, 1)), (23, (.getfield 219, 3)), (26, (.iaload, 1)), (27, (.iconst 5, 1)), (28, (.idiv, 1)), (29, (.istore_n 2, 1))]),
  (43, [(30, (.aload_n 0, 1)), (31, (.getfield 69, 3)), (34, (.aload_n 0, 1)), (35, (.getfield 219, 3)), (38, (.iaload, 1)), (39, (.iconst 5, 1)), (40, (.irem, 1)), (41, (.istore_n 3, 1)), (42, (.aload_n 0, 1))]),
  (61, [(43, (.getfield 72, 3)), (46, (.aload_n 0, 1)), (47, (.getfield 219, 3)), (50, (.iaload, 1)), (51, (.istore 4, 2)), (53, (.iload_n 3, 1)), (54, (.ifCond .ne 11, 3)), (57, (.aload_n 0, 1)), (58, (.getfield 45, 3))]),
  (75, [(61, (.iload_n 2, 1)), (62, (.iload 4, 2)), (64, (.iastore, 1)), (65, (.iload_n 3, 1)), (66, (.iconst 1, 1)), (67, (.if_icmp .ne 11, 3)), (70, (.aload_n 0, 1)), (71, (.getfield 48, 3)), (74, (.iload_n 2, 1))]),
  (90, [(75, (.iload 4, 2)), (77, (.iastore, 1)), (78, (.iload_n 3, 1)), (79, (.iconst 2, 1)), (80, (.if_icmp .ne 11, 3)), (83, (.aload_n 0, 1)), (84, (.getfield 51, 3)), (87, (.iload_n 2, 1)), (88, (.iload 4, 2))]),
  (104, [(90, (.iastore, 1)), (91, (.iload_n 3, 1)), (92, (.iconst 3, 1)), (93, (.if_icmp .ne 11, 3)), (96, (.aload_n 0, 1)), (97, (.getfield 78, 3)), (100, (.iload_n 2, 1)), (101, (.iload 4, 2)), (103, (.iastore, 1))]),
  (120, [(104, (.iload_n 3, 1)), (105, (.iconst 4, 1)), (106, (.if_icmp .ne 11, 3)), (109, (.aload_n 0, 1)), (110, (.getfield 87, 3)), (113, (.iload_n 2, 1)), (114, (.iload 4, 2)), (116, (.iastore, 1)), (117, (.goto (-117), 3))]),
  (1000000000, [(120, (.return_, 1))])]
def je_12_take_153 : List (Nat × List (Nat × (Instr × Nat))) := [(14, [(0, (.aload_n 0, 1)), (1, (.iload_n 1, 1)), (2, (.bipush 48, 2)), (4, (.imul, 1)), (5, (.putfield 184, 3)), (8, (.aload_n 0, 1)), (9, (.aload_n 0, 1)), (10, (.getfield 184, 3)), (13, (.aload_n 0, 1))]),
  (31, [(14, (.getfield 16, 3)), (17, (.iload_n 1, 1)), (18, (.iaload, 1)), (19, (.iadd, 1)), (20, (.putfield 181, 3)), (23, (.aload_n 0, 1)), (24, (.invokevirtual 277, 3)), (27, (.aload_n 0, 1)), (28, (.invokevirtual 216, 3))]),
  (49, [(31, (.istore 5, 2)), (33, (.iload_n 3, 1)), (34, (.istore 6, 2)), (36, (.aload_n 0, 1)), (37, (.aload_n 0, 1)), (38, (.getfield 184, 3)), (41, (.invokevirtual 199, 3)), (44, (.bipush 58, 2)), (46, (.if_icmp .ne 22, 3))]),
  (63, [(49, (.aload_n 0, 1)), (50, (.dup, 1)), (51, (.getfield 184, 3)), (54, (.iconst 1, 1)), (55, (.iadd, 1)), (56, (.putfield 184, 3)), (59, (.aload_n 0, 1)), (60, (.iload 4, 2)), (62, (.iload_n 3, 1))]),
  (80, [(63, (.invokevirtual 280, 3)), (66, (.istore 6, 2)), (68, (.aload_n 0, 1)), (69, (.iconst 0, 1)), (70, (.putfield 231, 3)), (73, (.aload_n 0, 1)), (74, (.getfield 38, 3)), (77, (.iload 5, 2)), (79, (.iaload, 1))]),
  (96, [(80, (.iconst 1, 1)), (81, (.isub, 1)), (82, (.istore 7, 2)), (84, (.iload 7, 2)), (86, (.ifCond .lt 36, 3)), (89, (.aload_n 0, 1)), (90, (.aload_n 0, 1)), (91, (.getfield 42, 3)), (94, (.iload 5, 2))]),
  (108, [(96, (.iconst 3, 1)), (97, (.imul, 1)), (98, (.iload 7, 2)), (100, (.iadd, 1)), (101, (.iaload, 1)), (102, (.aload_n 0, 1)), (103, (.getfield 42, 3)), (106, (.iload_n 2, 1)), (107, (.iconst 3, 1))]),
  (125, [(108, (.imul, 1)), (109, (.iload 7, 2)), (111, (.iadd, 1)), (112, (.iaload, 1)), (113, (.invokevirtual 253, 3)), (116, (.iinc 7 (-1), 3)), (119, (.goto (-35), 3)), (122, (.aload_n 0, 1)), (123, (.iload 6, 2))]),
  (1000000000, [(125, (.invokevirtual 283, 3)), (128, (.ireturn, 1))])]
def je_12_pair_154 : List (Nat × List (Nat × (Instr × Nat))) := [(10, [(0, (.aload_n 0, 1)), (1, (.getfield 90, 3)), (4, (.aload_n 0, 1)), (5, (.getfield 231, 3)), (8, (.iload_n 1, 1)), (9, (.iastore, 1))]),
  (20, [(10, (.aload_n 0, 1)), (11, (.getfield 93, 3)), (14, (.aload_n 0, 1)), (15, (.getfield 231, 3)), (18, (.iload_n 2, 1)), (19, (.iastore, 1))]),
  (30, [(20, (.aload_n 0, 1)), (21, (.dup, 1)), (22, (.getfield 231, 3)), (25, (.iconst 1, 1)), (26, (.iadd, 1)), (27, (.putfield 231, 3))]),
  (1000000000, [(30, (.return_, 1))])]
def je_12_unify_155 : List (Nat × List (Nat × (Instr × Nat))) := [(15, [(0, (.aload_n 0, 1)), (1, (.invokevirtual 256, 3)), (4, (.ifCond .ne 5, 3)), (7, (.iconst 0, 1)), (8, (.ireturn, 1)), (9, (.iconst 0, 1)), (10, (.istore_n 2, 1)), (11, (.iconst 0, 1)), (12, (.istore_n 3, 1)), (13, (.iload_n 3, 1)), (14, (.aload_n 0, 1))]),
  (38, [(15, (.getfield 234, 3)), (18, (.if_icmp .ge 50, 3)), (21, (.aload_n 0, 1)), (22, (.getfield 96, 3)), (25, (.iload_n 3, 1)), (26, (.iaload, 1)), (27, (.istore 4, 2)), (29, (.iload 4, 2)), (31, (.ifCond .lt 31, 3)), (34, (.aload_n 0, 1)), (35, (.getfield 99, 3))]),
  (57, [(38, (.iload_n 2, 1)), (39, (.aload_n 0, 1)), (40, (.getfield 75, 3)), (43, (.iload 4, 2)), (45, (.iaload, 1)), (46, (.iastore, 1)), (47, (.iinc 2 1, 3)), (50, (.aload_n 0, 1)), (51, (.getfield 78, 3)), (54, (.iload 4, 2)), (56, (.iaload, 1))]),
  (79, [(57, (.istore 4, 2)), (59, (.goto (-30), 3)), (62, (.iinc 3 1, 3)), (65, (.goto (-52), 3)), (68, (.aload_n 0, 1)), (69, (.getfield 228, 3)), (72, (.ifCond .eq 84, 3)), (75, (.iconst 0, 1)), (76, (.istore_n 3, 1)), (77, (.iload_n 3, 1)), (78, (.aload_n 0, 1))]),
  (100, [(79, (.getfield 263, 3)), (82, (.if_icmp .ge 74, 3)), (85, (.aload_n 0, 1)), (86, (.getfield 87, 3)), (89, (.iload_n 3, 1)), (90, (.iaload, 1)), (91, (.iconst 1, 1)), (92, (.if_icmp .ne 6, 3)), (95, (.goto 55, 3)), (98, (.aload_n 0, 1)), (99, (.aload_n 0, 1))]),
  (119, [(100, (.getfield 81, 3)), (103, (.iload_n 3, 1)), (104, (.iaload, 1)), (105, (.aload_n 0, 1)), (106, (.getfield 84, 3)), (109, (.iload_n 3, 1)), (110, (.iaload, 1)), (111, (.invokevirtual 266, 3)), (114, (.istore 4, 2)), (116, (.iload 4, 2)), (118, (.iconst 2, 1))]),
  (137, [(119, (.if_icmp .ne 5, 3)), (122, (.iconst 0, 1)), (123, (.ireturn, 1)), (124, (.iload 4, 2)), (126, (.iconst 1, 1)), (127, (.if_icmp .ne 6, 3)), (130, (.goto 20, 3)), (133, (.aload_n 0, 1)), (134, (.iload_n 3, 1)), (135, (.iconst 5, 1)), (136, (.imul, 1))]),
  (156, [(137, (.iconst 4, 1)), (138, (.iadd, 1)), (139, (.iconst 0, 1)), (140, (.invokevirtual 225, 3)), (143, (.aload_n 0, 1)), (144, (.getfield 87, 3)), (147, (.iload_n 3, 1)), (148, (.iconst 1, 1)), (149, (.iastore, 1)), (150, (.iinc 3 1, 3)), (153, (.goto (-76), 3))]),
  (171, [(156, (.iload_n 1, 1)), (157, (.istore_n 3, 1)), (158, (.iload_n 2, 1)), (159, (.iconst 1, 1)), (160, (.isub, 1)), (161, (.istore 4, 2)), (163, (.iload 4, 2)), (165, (.ifCond .lt 25, 3)), (168, (.aload_n 0, 1)), (169, (.iconst 1, 1)), (170, (.aload_n 0, 1))]),
  (191, [(171, (.getfield 99, 3)), (174, (.iload 4, 2)), (176, (.iaload, 1)), (177, (.iconst 0, 1)), (178, (.iconst 0, 1)), (179, (.iload_n 3, 1)), (180, (.invokevirtual 212, 3)), (183, (.istore_n 3, 1)), (184, (.iinc 4 (-1), 3)), (187, (.goto (-24), 3)), (190, (.aload_n 0, 1))]),
  (1000000000, [(191, (.iload_n 3, 1)), (192, (.putfield 270, 3)), (195, (.iconst 1, 1)), (196, (.ireturn, 1))])]
def je_12_same_156 : List (Nat × List (Nat × (Instr × Nat))) := [(26, [(0, (.aload_n 0, 1)), (1, (.iconst 0, 1)), (2, (.putfield 228, 3)), (5, (.aload_n 0, 1)), (6, (.iconst 0, 1)), (7, (.putfield 234, 3)), (10, (.aload_n 0, 1)), (11, (.getfield 231, 3)), (14, (.ifCond .le 305, 3)), (17, (.aload_n 0, 1)), (18, (.invokevirtual 237, 3)), (21, (.ifCond .ne 5, 3)), (24, (.iconst 0, 1)), (25, (.ireturn, 1))]),
  (50, [(26, (.aload_n 0, 1)), (27, (.dup, 1)), (28, (.getfield 231, 3)), (31, (.iconst 1, 1)), (32, (.isub, 1)), (33, (.putfield 231, 3)), (36, (.aload_n 0, 1)), (37, (.aload_n 0, 1)), (38, (.getfield 90, 3)), (41, (.aload_n 0, 1)), (42, (.getfield 231, 3)), (45, (.iaload, 1)), (46, (.invokevirtual 240, 3)), (49, (.istore_n 1, 1))]),
  (74, [(50, (.aload_n 0, 1)), (51, (.aload_n 0, 1)), (52, (.getfield 93, 3)), (55, (.aload_n 0, 1)), (56, (.getfield 231, 3)), (59, (.iaload, 1)), (60, (.invokevirtual 240, 3)), (63, (.istore_n 2, 1)), (64, (.iload_n 1, 1)), (65, (.ifCond .ge 93, 3)), (68, (.iload_n 2, 1)), (69, (.ifCond .ge 89, 3)), (72, (.iconst (-1), 1)), (73, (.iload_n 1, 1))]),
  (96, [(74, (.isub, 1)), (75, (.istore_n 3, 1)), (76, (.iconst (-1), 1)), (77, (.iload_n 2, 1)), (78, (.isub, 1)), (79, (.istore 4, 2)), (81, (.iload_n 3, 1)), (82, (.iload 4, 2)), (84, (.if_icmp .ge 7, 3)), (87, (.iload_n 3, 1)), (88, (.goto 5, 3)), (91, (.iload 4, 2)), (93, (.istore 5, 2)), (95, (.iload_n 3, 1))]),
  (124, [(96, (.iload 4, 2)), (98, (.if_icmp .ge 8, 3)), (101, (.iload 4, 2)), (103, (.goto 4, 3)), (106, (.iload_n 3, 1)), (107, (.istore 6, 2)), (109, (.iload_n 3, 1)), (110, (.iload 4, 2)), (112, (.if_icmp .ne 6, 3)), (115, (.goto (-105), 3)), (118, (.aload_n 0, 1)), (119, (.iload 6, 2)), (121, (.iconst (-1), 1)), (122, (.iload 5, 2))]),
  (151, [(124, (.isub, 1)), (125, (.invokevirtual 243, 3)), (128, (.aload_n 0, 1)), (129, (.getfield 246, 3)), (132, (.ifCond .ne 23, 3)), (135, (.aload_n 0, 1)), (136, (.iload 5, 2)), (138, (.aload_n 0, 1)), (139, (.getfield 48, 3)), (142, (.iload 6, 2)), (144, (.iaload, 1)), (145, (.aload_n 0, 1)), (146, (.getfield 51, 3)), (149, (.iload 6, 2))]),
  (177, [(151, (.iaload, 1)), (152, (.invokevirtual 249, 3)), (155, (.goto 161, 3)), (158, (.iload_n 1, 1)), (159, (.ifCond .lt 7, 3)), (162, (.iload_n 2, 1)), (163, (.ifCond .ge 78, 3)), (166, (.iload_n 1, 1)), (167, (.ifCond .ge 9, 3)), (170, (.iconst (-1), 1)), (171, (.iload_n 1, 1)), (172, (.isub, 1)), (173, (.goto 6, 3)), (176, (.iconst (-1), 1))]),
  (201, [(177, (.iload_n 2, 1)), (178, (.isub, 1)), (179, (.istore_n 3, 1)), (180, (.aload_n 0, 1)), (181, (.iload_n 3, 1)), (182, (.iload_n 1, 1)), (183, (.ifCond .ge 7, 3)), (186, (.iload_n 2, 1)), (187, (.goto 4, 3)), (190, (.iload_n 1, 1)), (191, (.invokevirtual 243, 3)), (194, (.aload_n 0, 1)), (195, (.getfield 246, 3)), (198, (.ifCond .ne (-188), 3))]),
  (227, [(201, (.aload_n 0, 1)), (202, (.getfield 48, 3)), (205, (.iload_n 3, 1)), (206, (.iaload, 1)), (207, (.ifCond .ge 6, 3)), (210, (.goto (-200), 3)), (213, (.aload_n 0, 1)), (214, (.getfield 96, 3)), (217, (.aload_n 0, 1)), (218, (.getfield 234, 3)), (221, (.aload_n 0, 1)), (222, (.getfield 48, 3)), (225, (.iload_n 3, 1)), (226, (.iaload, 1))]),
  (251, [(227, (.iastore, 1)), (228, (.aload_n 0, 1)), (229, (.dup, 1)), (230, (.getfield 234, 3)), (233, (.iconst 1, 1)), (234, (.iadd, 1)), (235, (.putfield 234, 3)), (238, (.goto 78, 3)), (241, (.aload_n 0, 1)), (242, (.getfield 35, 3)), (245, (.iload_n 1, 1)), (246, (.iaload, 1)), (247, (.aload_n 0, 1)), (248, (.getfield 35, 3))]),
  (273, [(251, (.iload_n 2, 1)), (252, (.iaload, 1)), (253, (.if_icmp .ne 18, 3)), (256, (.aload_n 0, 1)), (257, (.getfield 38, 3)), (260, (.iload_n 1, 1)), (261, (.iaload, 1)), (262, (.aload_n 0, 1)), (263, (.getfield 38, 3)), (266, (.iload_n 2, 1)), (267, (.iaload, 1)), (268, (.if_icmp .eq 5, 3)), (271, (.iconst 0, 1)), (272, (.ireturn, 1))]),
  (293, [(273, (.aload_n 0, 1)), (274, (.getfield 38, 3)), (277, (.iload_n 1, 1)), (278, (.iaload, 1)), (279, (.iconst 1, 1)), (280, (.isub, 1)), (281, (.istore_n 3, 1)), (282, (.iload_n 3, 1)), (283, (.ifCond .lt 33, 3)), (286, (.aload_n 0, 1)), (287, (.aload_n 0, 1)), (288, (.getfield 42, 3)), (291, (.iload_n 1, 1)), (292, (.iconst 3, 1))]),
  (313, [(293, (.imul, 1)), (294, (.iload_n 3, 1)), (295, (.iadd, 1)), (296, (.iaload, 1)), (297, (.aload_n 0, 1)), (298, (.getfield 42, 3)), (301, (.iload_n 2, 1)), (302, (.iconst 3, 1)), (303, (.imul, 1)), (304, (.iload_n 3, 1)), (305, (.iadd, 1)), (306, (.iaload, 1)), (307, (.invokevirtual 253, 3)), (310, (.iinc 3 (-1), 3))]),
  (1000000000, [(313, (.goto (-31), 3)), (316, (.goto (-306), 3)), (319, (.iconst 1, 1)), (320, (.ireturn, 1))])]
def je_12_step_157 : List (Nat × List (Nat × (Instr × Nat))) := [(12, [(0, (.aload_n 0, 1)), (1, (.getfield 222, 3)), (4, (.sipush 500, 3)), (7, (.if_icmp .ne 11, 3)), (10, (.aload_n 0, 1)), (11, (.iconst 3, 1))]),
  (24, [(12, (.putfield 135, 3)), (15, (.goto 13, 3)), (18, (.aload_n 0, 1)), (19, (.dup, 1)), (20, (.getfield 222, 3)), (23, (.iconst 1, 1))]),
  (36, [(24, (.iadd, 1)), (25, (.putfield 222, 3)), (28, (.aload_n 0, 1)), (29, (.getfield 135, 3)), (32, (.ifCond .ne 7, 3)), (35, (.iconst 1, 1))]),
  (1000000000, [(36, (.goto 4, 3)), (39, (.iconst 0, 1)), (40, (.ireturn, 1))])]
def je_12_value_158 : List (Nat × List (Nat × (Instr × Nat))) := [(10, [(0, (.iload_n 1, 1)), (1, (.istore_n 2, 1)), (2, (.iload_n 2, 1)), (3, (.ifCond .ge 28, 3)), (6, (.aload_n 0, 1)), (7, (.getfield 45, 3))]),
  (19, [(10, (.iconst (-1), 1)), (11, (.iload_n 2, 1)), (12, (.isub, 1)), (13, (.iaload, 1)), (14, (.ldc 193, 2)), (16, (.if_icmp .eq 15, 3))]),
  (27, [(19, (.aload_n 0, 1)), (20, (.getfield 45, 3)), (23, (.iconst (-1), 1)), (24, (.iload_n 2, 1)), (25, (.isub, 1)), (26, (.iaload, 1))]),
  (1000000000, [(27, (.istore_n 2, 1)), (28, (.goto (-26), 3)), (31, (.iload_n 2, 1)), (32, (.ireturn, 1))])]
def je_12_tie_159 : List (Nat × List (Nat × (Instr × Nat))) := [(9, [(0, (.aload_n 0, 1)), (1, (.iload_n 1, 1)), (2, (.iconst 5, 1)), (3, (.imul, 1)), (4, (.ldc 193, 2)), (6, (.invokevirtual 225, 3))]),
  (17, [(9, (.aload_n 0, 1)), (10, (.getfield 45, 3)), (13, (.iload_n 1, 1)), (14, (.iload_n 2, 1)), (15, (.iastore, 1)), (16, (.aload_n 0, 1))]),
  (1000000000, [(17, (.iconst 1, 1)), (18, (.putfield 228, 3)), (21, (.return_, 1))])]
def je_12_change_160 : List (Nat × List (Nat × (Instr × Nat))) := [(10, [(0, (.aload_n 0, 1)), (1, (.getfield 69, 3)), (4, (.aload_n 0, 1)), (5, (.getfield 219, 3)), (8, (.iload_n 1, 1)), (9, (.iastore, 1))]),
  (20, [(10, (.aload_n 0, 1)), (11, (.getfield 72, 3)), (14, (.aload_n 0, 1)), (15, (.getfield 219, 3)), (18, (.iload_n 2, 1)), (19, (.iastore, 1))]),
  (30, [(20, (.aload_n 0, 1)), (21, (.dup, 1)), (22, (.getfield 219, 3)), (25, (.iconst 1, 1)), (26, (.iadd, 1)), (27, (.putfield 219, 3))]),
  (1000000000, [(30, (.return_, 1))])]
def je_12_follow_161 : List (Nat × List (Nat × (Instr × Nat))) := [(11, [(0, (.iload_n 2, 1)), (1, (.ifCond .ge 4, 3)), (4, (.return_, 1)), (5, (.aload_n 0, 1)), (6, (.iload_n 1, 1)), (7, (.iconst 5, 1)), (8, (.imul, 1)), (9, (.iconst 1, 1)), (10, (.iadd, 1))]),
  (24, [(11, (.aload_n 0, 1)), (12, (.getfield 48, 3)), (15, (.iload_n 1, 1)), (16, (.iaload, 1)), (17, (.invokevirtual 225, 3)), (20, (.aload_n 0, 1)), (21, (.iload_n 1, 1)), (22, (.iconst 5, 1)), (23, (.imul, 1))]),
  (39, [(24, (.iconst 2, 1)), (25, (.iadd, 1)), (26, (.aload_n 0, 1)), (27, (.getfield 51, 3)), (30, (.iload_n 1, 1)), (31, (.iaload, 1)), (32, (.invokevirtual 225, 3)), (35, (.aload_n 0, 1)), (36, (.getfield 48, 3))]),
  (54, [(39, (.iload_n 1, 1)), (40, (.iaload, 1)), (41, (.ifCond .ge 13, 3)), (44, (.aload_n 0, 1)), (45, (.getfield 48, 3)), (48, (.iload_n 1, 1)), (49, (.iload_n 2, 1)), (50, (.iastore, 1)), (51, (.goto 40, 3))]),
  (65, [(54, (.aload_n 0, 1)), (55, (.aload_n 0, 1)), (56, (.getfield 51, 3)), (59, (.iload_n 1, 1)), (60, (.iaload, 1)), (61, (.iconst 5, 1)), (62, (.imul, 1)), (63, (.iconst 3, 1)), (64, (.iadd, 1))]),
  (80, [(65, (.aload_n 0, 1)), (66, (.getfield 78, 3)), (69, (.aload_n 0, 1)), (70, (.getfield 51, 3)), (73, (.iload_n 1, 1)), (74, (.iaload, 1)), (75, (.iaload, 1)), (76, (.invokevirtual 225, 3)), (79, (.aload_n 0, 1))]),
  (95, [(80, (.getfield 78, 3)), (83, (.aload_n 0, 1)), (84, (.getfield 51, 3)), (87, (.iload_n 1, 1)), (88, (.iaload, 1)), (89, (.iload_n 2, 1)), (90, (.iastore, 1)), (91, (.aload_n 0, 1)), (92, (.getfield 51, 3))]),
  (1000000000, [(95, (.iload_n 1, 1)), (96, (.iload_n 3, 1)), (97, (.iastore, 1)), (98, (.return_, 1))])]
def je_12_test_162 : List (Nat × List (Nat × (Instr × Nat))) := [(11, [(0, (.aload_n 0, 1)), (1, (.getfield 219, 3)), (4, (.istore_n 3, 1)), (5, (.aload_n 0, 1)), (6, (.iconst 1, 1)), (7, (.putfield 246, 3)), (10, (.aload_n 0, 1))]),
  (22, [(11, (.iconst 0, 1)), (12, (.putfield 231, 3)), (15, (.aload_n 0, 1)), (16, (.iload_n 1, 1)), (17, (.iload_n 2, 1)), (18, (.invokevirtual 253, 3)), (21, (.aload_n 0, 1))]),
  (35, [(22, (.invokevirtual 256, 3)), (25, (.istore 4, 2)), (27, (.aload_n 0, 1)), (28, (.getfield 228, 3)), (31, (.istore 5, 2)), (33, (.aload_n 0, 1)), (34, (.iconst 0, 1))]),
  (50, [(35, (.putfield 246, 3)), (38, (.aload_n 0, 1)), (39, (.iload_n 3, 1)), (40, (.invokevirtual 259, 3)), (43, (.aload_n 0, 1)), (44, (.getfield 135, 3)), (47, (.ifCond .le 5, 3))]),
  (63, [(50, (.iconst 2, 1)), (51, (.ireturn, 1)), (52, (.iload 4, 2)), (54, (.ifCond .ne 7, 3)), (57, (.iconst 0, 1)), (58, (.goto 13, 3)), (61, (.iload 5, 2))]),
  (1000000000, [(63, (.ifCond .eq 7, 3)), (66, (.iconst 1, 1)), (67, (.goto 4, 3)), (70, (.iconst 2, 1)), (71, (.ireturn, 1))])]
def je_12_perform_163 : List (Nat × List (Nat × (Instr × Nat))) := [(13, [(0, (.aload_n 0, 1)), (1, (.getfield 66, 3)), (4, (.iload_n 1, 1)), (5, (.iaload, 1)), (6, (.istore_n 2, 1)), (7, (.aload_n 0, 1)), (8, (.getfield 57, 3)), (11, (.iload_n 1, 1)), (12, (.iaload, 1))]),
  (27, [(13, (.istore_n 3, 1)), (14, (.aload_n 0, 1)), (15, (.getfield 60, 3)), (18, (.iload_n 1, 1)), (19, (.iaload, 1)), (20, (.istore 4, 2)), (22, (.aload_n 0, 1)), (23, (.getfield 54, 3)), (26, (.iload_n 1, 1))]),
  (77, [(27, (.iaload, 1)), (28, (.tableswitch 109 0 4 #[36, 66, 73, 91, 100], 36)), (64, (.aload_n 0, 1)), (65, (.getfield 289, 3)), (68, (.aload_n 0, 1)), (69, (.getfield 63, 3)), (72, (.iload_n 1, 1)), (73, (.iaload, 1)), (74, (.if_icmp .le 13, 3))]),
  (92, [(77, (.aload_n 0, 1)), (78, (.aload_n 0, 1)), (79, (.getfield 63, 3)), (82, (.iload_n 1, 1)), (83, (.iaload, 1)), (84, (.putfield 289, 3)), (87, (.aload_n 0, 1)), (88, (.iload_n 2, 1)), (89, (.putfield 270, 3))]),
  (103, [(92, (.iconst 1, 1)), (93, (.ireturn, 1)), (94, (.aload_n 0, 1)), (95, (.iload_n 3, 1)), (96, (.iload_n 2, 1)), (97, (.invokevirtual 299, 3)), (100, (.ireturn, 1)), (101, (.aload_n 0, 1)), (102, (.iconst 0, 1))]),
  (119, [(103, (.putfield 231, 3)), (106, (.aload_n 0, 1)), (107, (.iload_n 3, 1)), (108, (.iload 4, 2)), (110, (.invokevirtual 253, 3)), (113, (.aload_n 0, 1)), (114, (.iload_n 2, 1)), (115, (.invokevirtual 283, 3)), (118, (.ireturn, 1))]),
  (132, [(119, (.aload_n 0, 1)), (120, (.iload_n 3, 1)), (121, (.iload 4, 2)), (123, (.iload_n 2, 1)), (124, (.invokevirtual 302, 3)), (127, (.ireturn, 1)), (128, (.aload_n 0, 1)), (129, (.iload_n 3, 1)), (130, (.iload 4, 2))]),
  (1000000000, [(132, (.iload_n 2, 1)), (133, (.invokevirtual 305, 3)), (136, (.ireturn, 1)), (137, (.aload_n 0, 1)), (138, (.iload_n 3, 1)), (139, (.iload 4, 2)), (141, (.iload_n 2, 1)), (142, (.invokevirtual 308, 3)), (145, (.ireturn, 1))])]
def je_12_call_164 : List (Nat × List (Nat × (Instr × Nat))) := [(15, [(0, (.aload_n 0, 1)), (1, (.iconst 0, 1)), (2, (.iload_n 1, 1)), (3, (.invokevirtual 286, 3)), (6, (.istore_n 3, 1)), (7, (.aload_n 0, 1)), (8, (.getfield 289, 3)), (11, (.istore 4, 2)), (13, (.iload_n 3, 1)), (14, (.aload_n 0, 1))]),
  (31, [(15, (.getfield 171, 3)), (18, (.if_icmp .ne 5, 3)), (21, (.iconst 0, 1)), (22, (.ireturn, 1)), (23, (.aload_n 0, 1)), (24, (.iload_n 3, 1)), (25, (.iconst 1, 1)), (26, (.iadd, 1)), (27, (.iload_n 1, 1)), (28, (.invokevirtual 286, 3))]),
  (51, [(31, (.istore 5, 2)), (33, (.iload 5, 2)), (35, (.aload_n 0, 1)), (36, (.getfield 171, 3)), (39, (.if_icmp .ge 122, 3)), (42, (.aload_n 0, 1)), (43, (.getfield 102, 3)), (46, (.aload_n 0, 1)), (47, (.getfield 289, 3)), (50, (.iload_n 1, 1))]),
  (68, [(51, (.iastore, 1)), (52, (.aload_n 0, 1)), (53, (.getfield 105, 3)), (56, (.aload_n 0, 1)), (57, (.getfield 289, 3)), (60, (.iload 5, 2)), (62, (.iastore, 1)), (63, (.aload_n 0, 1)), (64, (.getfield 108, 3)), (67, (.aload_n 0, 1))]),
  (86, [(68, (.getfield 289, 3)), (71, (.iload_n 2, 1)), (72, (.iastore, 1)), (73, (.aload_n 0, 1)), (74, (.getfield 111, 3)), (77, (.aload_n 0, 1)), (78, (.getfield 289, 3)), (81, (.aload_n 0, 1)), (82, (.getfield 196, 3)), (85, (.iastore, 1))]),
  (104, [(86, (.aload_n 0, 1)), (87, (.getfield 114, 3)), (90, (.aload_n 0, 1)), (91, (.getfield 289, 3)), (94, (.aload_n 0, 1)), (95, (.getfield 190, 3)), (98, (.iastore, 1)), (99, (.aload_n 0, 1)), (100, (.getfield 117, 3)), (103, (.aload_n 0, 1))]),
  (124, [(104, (.getfield 289, 3)), (107, (.aload_n 0, 1)), (108, (.getfield 209, 3)), (111, (.iastore, 1)), (112, (.aload_n 0, 1)), (113, (.getfield 120, 3)), (116, (.aload_n 0, 1)), (117, (.getfield 289, 3)), (120, (.aload_n 0, 1)), (121, (.getfield 219, 3))]),
  (142, [(124, (.iastore, 1)), (125, (.aload_n 0, 1)), (126, (.getfield 123, 3)), (129, (.aload_n 0, 1)), (130, (.getfield 289, 3)), (133, (.aload_n 0, 1)), (134, (.getfield 292, 3)), (137, (.iastore, 1)), (138, (.aload_n 0, 1)), (139, (.getfield 126, 3))]),
  (158, [(142, (.aload_n 0, 1)), (143, (.getfield 289, 3)), (146, (.aload_n 0, 1)), (147, (.getfield 263, 3)), (150, (.iastore, 1)), (151, (.aload_n 0, 1)), (152, (.dup, 1)), (153, (.getfield 289, 3)), (156, (.iconst 1, 1)), (157, (.iadd, 1))]),
  (1000000000, [(158, (.putfield 289, 3)), (161, (.aload_n 0, 1)), (162, (.iload_n 3, 1)), (163, (.iload_n 1, 1)), (164, (.iload_n 2, 1)), (165, (.iload 4, 2)), (167, (.invokevirtual 295, 3)), (170, (.ireturn, 1))])]
def je_12_apart_165 : List (Nat × List (Nat × (Instr × Nat))) := [(11, [(0, (.aload_n 0, 1)), (1, (.iload_n 1, 1)), (2, (.iload_n 2, 1)), (3, (.invokevirtual 266, 3)), (6, (.istore 4, 2)), (8, (.iload 4, 2)), (10, (.iconst 2, 1))]),
  (23, [(11, (.if_icmp .ne 5, 3)), (14, (.iconst 0, 1)), (15, (.ireturn, 1)), (16, (.aload_n 0, 1)), (17, (.iload_n 3, 1)), (18, (.putfield 270, 3)), (21, (.iload 4, 2))]),
  (36, [(23, (.ifCond .ne 5, 3)), (26, (.iconst 1, 1)), (27, (.ireturn, 1)), (28, (.aload_n 0, 1)), (29, (.getfield 81, 3)), (32, (.aload_n 0, 1)), (33, (.getfield 263, 3))]),
  (47, [(36, (.iload_n 1, 1)), (37, (.iastore, 1)), (38, (.aload_n 0, 1)), (39, (.getfield 84, 3)), (42, (.aload_n 0, 1)), (43, (.getfield 263, 3)), (46, (.iload_n 2, 1))]),
  (58, [(47, (.iastore, 1)), (48, (.aload_n 0, 1)), (49, (.getfield 87, 3)), (52, (.aload_n 0, 1)), (53, (.getfield 263, 3)), (56, (.iconst 0, 1)), (57, (.iastore, 1))]),
  (69, [(58, (.aload_n 0, 1)), (59, (.dup, 1)), (60, (.getfield 263, 3)), (63, (.iconst 1, 1)), (64, (.iadd, 1)), (65, (.putfield 263, 3)), (68, (.iconst 1, 1))]),
  (1000000000, [(69, (.ireturn, 1))])]
def je_12_less_166 : List (Nat × List (Nat × (Instr × Nat))) := [(14, [(0, (.aload_n 0, 1)), (1, (.iload_n 1, 1)), (2, (.invokevirtual 240, 3)), (5, (.istore 4, 2)), (7, (.aload_n 0, 1)), (8, (.iload_n 2, 1)), (9, (.invokevirtual 240, 3)), (12, (.istore 5, 2))]),
  (30, [(14, (.aload_n 0, 1)), (15, (.iload_n 3, 1)), (16, (.putfield 270, 3)), (19, (.iload 4, 2)), (21, (.ifCond .lt 42, 3)), (24, (.iload 5, 2)), (26, (.ifCond .lt 37, 3)), (29, (.aload_n 0, 1))]),
  (47, [(30, (.getfield 35, 3)), (33, (.iload 4, 2)), (35, (.iaload, 1)), (36, (.bipush 48, 2)), (38, (.bipush 57, 2)), (40, (.invokestatic 138, 3)), (43, (.ifCond .eq 20, 3)), (46, (.aload_n 0, 1))]),
  (64, [(47, (.getfield 35, 3)), (50, (.iload 5, 2)), (52, (.iaload, 1)), (53, (.bipush 48, 2)), (55, (.bipush 57, 2)), (57, (.invokestatic 138, 3)), (60, (.ifCond .ne 10, 3)), (63, (.aload_n 0, 1))]),
  (77, [(64, (.iconst 4, 1)), (65, (.putfield 135, 3)), (68, (.iconst 0, 1)), (69, (.ireturn, 1)), (70, (.aload_n 0, 1)), (71, (.getfield 35, 3)), (74, (.iload 4, 2)), (76, (.iaload, 1))]),
  (92, [(77, (.aload_n 0, 1)), (78, (.getfield 35, 3)), (81, (.iload 5, 2)), (83, (.iaload, 1)), (84, (.if_icmp .ge 7, 3)), (87, (.iconst 1, 1)), (88, (.goto 4, 3)), (91, (.iconst 0, 1))]),
  (1000000000, [(92, (.ireturn, 1))])]
def je_12_sleep_167 : List (Nat × List (Nat × (Instr × Nat))) := [(14, [(0, (.aload_n 0, 1)), (1, (.iload_n 1, 1)), (2, (.invokevirtual 240, 3)), (5, (.istore 4, 2)), (7, (.aload_n 0, 1)), (8, (.iload_n 3, 1)), (9, (.putfield 270, 3)), (12, (.iload 4, 2))]),
  (24, [(14, (.ifCond .lt 19, 3)), (17, (.aload_n 0, 1)), (18, (.aload_n 0, 1)), (19, (.iconst 1, 1)), (20, (.iload_n 2, 1)), (21, (.iconst 0, 1)), (22, (.iconst 0, 1)), (23, (.iload_n 3, 1))]),
  (42, [(24, (.invokevirtual 212, 3)), (27, (.putfield 270, 3)), (30, (.goto 53, 3)), (33, (.aload_n 0, 1)), (34, (.getfield 75, 3)), (37, (.aload_n 0, 1)), (38, (.getfield 292, 3)), (41, (.iload_n 2, 1))]),
  (54, [(42, (.iastore, 1)), (43, (.aload_n 0, 1)), (44, (.getfield 78, 3)), (47, (.aload_n 0, 1)), (48, (.getfield 292, 3)), (51, (.iconst (-1), 1)), (52, (.iastore, 1)), (53, (.aload_n 0, 1))]),
  (67, [(54, (.dup, 1)), (55, (.getfield 292, 3)), (58, (.iconst 1, 1)), (59, (.iadd, 1)), (60, (.putfield 292, 3)), (63, (.aload_n 0, 1)), (64, (.iconst (-1), 1)), (65, (.iload 4, 2))]),
  (79, [(67, (.isub, 1)), (68, (.aload_n 0, 1)), (69, (.getfield 292, 3)), (72, (.iconst 1, 1)), (73, (.isub, 1)), (74, (.aload_n 0, 1)), (75, (.getfield 292, 3)), (78, (.iconst 1, 1))]),
  (1000000000, [(79, (.isub, 1)), (80, (.invokevirtual 249, 3)), (83, (.iconst 1, 1)), (84, (.ireturn, 1))])]
def je_12_next_168 : List (Nat × List (Nat × (Instr × Nat))) := [(12, [(0, (.aload_n 0, 1)), (1, (.iconst 0, 1)), (2, (.putfield 135, 3)), (5, (.aload_n 0, 1)), (6, (.getfield 177, 3)), (9, (.ifCond .ne 9, 3))]),
  (20, [(12, (.aload_n 0, 1)), (13, (.iconst 1, 1)), (14, (.invokevirtual 149, 3)), (17, (.ireturn, 1)), (18, (.aload_n 0, 1)), (19, (.iconst 1, 1))]),
  (32, [(20, (.invokevirtual 320, 3)), (23, (.istore_n 1, 1)), (24, (.aload_n 0, 1)), (25, (.getfield 135, 3)), (28, (.ifCond .le 13, 3)), (31, (.aload_n 0, 1))]),
  (42, [(32, (.dup, 1)), (33, (.getfield 135, 3)), (36, (.iconst 1, 1)), (37, (.isub, 1)), (38, (.putfield 135, 3)), (41, (.iload_n 1, 1))]),
  (1000000000, [(42, (.ireturn, 1))])]
def je_12_letter_169 : List (Nat × List (Nat × (Instr × Nat))) := [(15, [(0, (.aload_n 0, 1)), (1, (.iload_n 1, 1)), (2, (.iconst 0, 1)), (3, (.bipush 25, 2)), (5, (.invokestatic 138, 3)), (8, (.invokevirtual 142, 3)), (11, (.ifCond .eq 5, 3)), (14, (.iconst 0, 1))]),
  (29, [(15, (.ireturn, 1)), (16, (.aload_n 0, 1)), (17, (.getfield 177, 3)), (20, (.ifCond .eq 12, 3)), (23, (.aload_n 0, 1)), (24, (.getfield 28, 3)), (27, (.iload_n 1, 1)), (28, (.iaload, 1))]),
  (41, [(29, (.ifCond .ge 9, 3)), (32, (.aload_n 0, 1)), (33, (.iconst 2, 1)), (34, (.invokevirtual 149, 3)), (37, (.ireturn, 1)), (38, (.aload_n 0, 1)), (39, (.iconst (-1), 1)), (40, (.aload_n 0, 1))]),
  (55, [(41, (.getfield 28, 3)), (44, (.iload_n 1, 1)), (45, (.iaload, 1)), (46, (.isub, 1)), (47, (.invokevirtual 333, 3)), (50, (.iload_n 2, 1)), (51, (.iconst (-1), 1)), (52, (.if_icmp .ne 8, 3))]),
  (67, [(55, (.aload_n 0, 1)), (56, (.getfield 324, 3)), (59, (.ireturn, 1)), (60, (.iload_n 2, 1)), (61, (.iconst 0, 1)), (62, (.aload_n 0, 1)), (63, (.getfield 324, 3)), (66, (.iconst 1, 1))]),
  (83, [(67, (.isub, 1)), (68, (.invokestatic 138, 3)), (71, (.ifCond .eq 12, 3)), (74, (.aload_n 0, 1)), (75, (.getfield 129, 3)), (78, (.iload_n 2, 1)), (79, (.iaload, 1)), (80, (.goto 8, 3))]),
  (1000000000, [(83, (.aload_n 0, 1)), (84, (.iconst 2, 1)), (85, (.invokevirtual 149, 3)), (88, (.ireturn, 1))])]
def je_12_write_170 : List (Nat × List (Nat × (Instr × Nat))) := [(14, [(0, (.iconst 1, 1)), (1, (.istore_n 2, 1)), (2, (.aload_n 0, 1)), (3, (.iconst 0, 1)), (4, (.putfield 324, 3)), (7, (.aload_n 0, 1)), (8, (.getfield 132, 3)), (11, (.iconst 0, 1)), (12, (.iload_n 1, 1)), (13, (.iastore, 1))]),
  (35, [(14, (.iload_n 2, 1)), (15, (.ifCond .le 164, 3)), (18, (.aload_n 0, 1)), (19, (.getfield 324, 3)), (22, (.bipush 80, 2)), (24, (.if_icmp .ge 155, 3)), (27, (.iinc 2 (-1), 3)), (30, (.aload_n 0, 1)), (31, (.getfield 132, 3)), (34, (.iload_n 2, 1))]),
  (53, [(35, (.iaload, 1)), (36, (.istore_n 3, 1)), (37, (.iload_n 3, 1)), (38, (.ldc_w 327, 3)), (41, (.if_icmp .lt 15, 3)), (44, (.aload_n 0, 1)), (45, (.iload_n 3, 1)), (46, (.ldc_w 327, 3)), (49, (.isub, 1)), (50, (.invokevirtual 328, 3))]),
  (72, [(53, (.goto (-39), 3)), (56, (.aload_n 0, 1)), (57, (.iload_n 3, 1)), (58, (.invokevirtual 240, 3)), (61, (.istore_n 3, 1)), (62, (.aload_n 0, 1)), (63, (.iload_n 3, 1)), (64, (.ifCond .ge 8, 3)), (67, (.bipush 95, 2)), (69, (.goto 9, 3))]),
  (90, [(72, (.aload_n 0, 1)), (73, (.getfield 35, 3)), (76, (.iload_n 3, 1)), (77, (.iaload, 1)), (78, (.invokevirtual 328, 3)), (81, (.iload_n 3, 1)), (82, (.ifCond .lt (-68), 3)), (85, (.aload_n 0, 1)), (86, (.getfield 38, 3)), (89, (.iload_n 3, 1))]),
  (111, [(90, (.iaload, 1)), (91, (.ifCond .ne 6, 3)), (94, (.goto (-80), 3)), (97, (.aload_n 0, 1)), (98, (.bipush 40, 2)), (100, (.invokevirtual 328, 3)), (103, (.aload_n 0, 1)), (104, (.getfield 132, 3)), (107, (.iload_n 2, 1)), (108, (.ldc_w 331, 3))]),
  (127, [(111, (.iastore, 1)), (112, (.iinc 2 1, 3)), (115, (.aload_n 0, 1)), (116, (.getfield 38, 3)), (119, (.iload_n 3, 1)), (120, (.iaload, 1)), (121, (.iconst 1, 1)), (122, (.isub, 1)), (123, (.istore 4, 2)), (125, (.iload 4, 2))]),
  (144, [(127, (.ifCond .lt 49, 3)), (130, (.aload_n 0, 1)), (131, (.getfield 132, 3)), (134, (.iload_n 2, 1)), (135, (.aload_n 0, 1)), (136, (.getfield 42, 3)), (139, (.iload_n 3, 1)), (140, (.iconst 3, 1)), (141, (.imul, 1)), (142, (.iload 4, 2))]),
  (163, [(144, (.iadd, 1)), (145, (.iaload, 1)), (146, (.iastore, 1)), (147, (.iinc 2 1, 3)), (150, (.iload 4, 2)), (152, (.ifCond .ne 6, 3)), (155, (.goto 15, 3)), (158, (.aload_n 0, 1)), (159, (.getfield 132, 3)), (162, (.iload_n 2, 1))]),
  (1000000000, [(163, (.ldc_w 332, 3)), (166, (.iastore, 1)), (167, (.iinc 2 1, 3)), (170, (.iinc 4 (-1), 3)), (173, (.goto (-48), 3)), (176, (.goto (-162), 3)), (179, (.return_, 1))])]
def je_12_put_171 : List (Nat × List (Nat × (Instr × Nat))) := [(11, [(0, (.aload_n 0, 1)), (1, (.getfield 324, 3)), (4, (.bipush 80, 2)), (6, (.if_icmp .ne 4, 3)), (9, (.return_, 1)), (10, (.aload_n 0, 1))]),
  (21, [(11, (.getfield 129, 3)), (14, (.aload_n 0, 1)), (15, (.getfield 324, 3)), (18, (.iload_n 1, 1)), (19, (.iastore, 1)), (20, (.aload_n 0, 1))]),
  (1000000000, [(21, (.dup, 1)), (22, (.getfield 324, 3)), (25, (.iconst 1, 1)), (26, (.iadd, 1)), (27, (.putfield 324, 3)), (30, (.return_, 1))])]
def je_12_sleeping_172 : List (Nat × List (Nat × (Instr × Nat))) := [(15, [(0, (.aload_n 0, 1)), (1, (.iload_n 1, 1)), (2, (.iconst 0, 1)), (3, (.bipush 25, 2)), (5, (.invokestatic 138, 3)), (8, (.invokevirtual 142, 3)), (11, (.ifCond .eq 5, 3)), (14, (.iconst 0, 1))]),
  (29, [(15, (.ireturn, 1)), (16, (.aload_n 0, 1)), (17, (.getfield 177, 3)), (20, (.ifCond .eq 12, 3)), (23, (.aload_n 0, 1)), (24, (.getfield 28, 3)), (27, (.iload_n 1, 1)), (28, (.iaload, 1))]),
  (41, [(29, (.ifCond .ge 5, 3)), (32, (.iconst (-1), 1)), (33, (.ireturn, 1)), (34, (.aload_n 0, 1)), (35, (.iconst (-1), 1)), (36, (.aload_n 0, 1)), (37, (.getfield 28, 3)), (40, (.iload_n 1, 1))]),
  (53, [(41, (.iaload, 1)), (42, (.isub, 1)), (43, (.invokevirtual 240, 3)), (46, (.istore_n 2, 1)), (47, (.iconst 0, 1)), (48, (.istore_n 3, 1)), (49, (.iload_n 2, 1)), (50, (.ifCond .ge 14, 3))]),
  (65, [(53, (.aload_n 0, 1)), (54, (.getfield 48, 3)), (57, (.iconst (-1), 1)), (58, (.iload_n 2, 1)), (59, (.isub, 1)), (60, (.iaload, 1)), (61, (.goto 4, 3)), (64, (.iconst (-1), 1))]),
  (82, [(65, (.istore 4, 2)), (67, (.iload 4, 2)), (69, (.ifCond .lt 18, 3)), (72, (.iinc 3 1, 3)), (75, (.aload_n 0, 1)), (76, (.getfield 78, 3)), (79, (.iload 4, 2)), (81, (.iaload, 1))]),
  (1000000000, [(82, (.istore 4, 2)), (84, (.goto (-17), 3)), (87, (.iload_n 3, 1)), (88, (.ireturn, 1))])]
def je_12_count_173 : List (Nat × List (Nat × (Instr × Nat))) := [(11, [(0, (.aload_n 0, 1)), (1, (.iconst 0, 1)), (2, (.putfield 135, 3)), (5, (.iconst 0, 1)), (6, (.istore_n 2, 1)), (7, (.iconst 0, 1)), (8, (.istore_n 3, 1)), (9, (.iload_n 3, 1)), (10, (.aload_n 0, 1))]),
  (32, [(11, (.getfield 263, 3)), (14, (.if_icmp .ge 21, 3)), (17, (.aload_n 0, 1)), (18, (.getfield 87, 3)), (21, (.iload_n 3, 1)), (22, (.iaload, 1)), (23, (.ifCond .ne 6, 3)), (26, (.iinc 2 1, 3)), (29, (.iinc 3 1, 3))]),
  (49, [(32, (.goto (-23), 3)), (35, (.iload_n 1, 1)), (36, (.ifCond .ne 8, 3)), (39, (.aload_n 0, 1)), (40, (.getfield 31, 3)), (43, (.ireturn, 1)), (44, (.iload_n 1, 1)), (45, (.iconst 1, 1)), (46, (.if_icmp .ne 8, 3))]),
  (64, [(49, (.aload_n 0, 1)), (50, (.getfield 146, 3)), (53, (.ireturn, 1)), (54, (.iload_n 1, 1)), (55, (.iconst 2, 1)), (56, (.if_icmp .ne 8, 3)), (59, (.aload_n 0, 1)), (60, (.getfield 171, 3)), (63, (.ireturn, 1))]),
  (80, [(64, (.iload_n 1, 1)), (65, (.iconst 3, 1)), (66, (.bipush 6, 2)), (68, (.invokestatic 138, 3)), (71, (.ifCond .ne 5, 3)), (74, (.iconst (-1), 1)), (75, (.ireturn, 1)), (76, (.aload_n 0, 1)), (77, (.getfield 177, 3))]),
  (97, [(80, (.ifCond .ne 5, 3)), (83, (.iconst 0, 1)), (84, (.ireturn, 1)), (85, (.iload_n 1, 1)), (86, (.iconst 3, 1)), (87, (.if_icmp .ne 10, 3)), (90, (.aload_n 0, 1)), (91, (.getfield 317, 3)), (94, (.goto 28, 3))]),
  (114, [(97, (.iload_n 1, 1)), (98, (.iconst 4, 1)), (99, (.if_icmp .ne 10, 3)), (102, (.aload_n 0, 1)), (103, (.getfield 289, 3)), (106, (.goto 16, 3)), (109, (.iload_n 1, 1)), (110, (.iconst 5, 1)), (111, (.if_icmp .ne 7, 3))]),
  (1000000000, [(114, (.iload_n 2, 1)), (115, (.goto 7, 3)), (118, (.aload_n 0, 1)), (119, (.getfield 194, 3)), (122, (.ireturn, 1))])]
def je_13_type_174 : List (Nat × List (Nat × (Instr × Nat))) := [(8, [(0, (.aload_n 3, 1)), (1, (.iconst 0, 1)), (2, (.aload_n 0, 1)), (3, (.lload_n 1, 1)), (4, (.invokevirtual 7, 3)), (7, (.i2l, 1))]),
  (18, [(8, (.lastore, 1)), (9, (.goto 11, 3)), (12, (.astore 4, 2)), (14, (.iconst 1, 1)), (15, (.ireturn, 1)), (16, (.astore 4, 2))]),
  (1000000000, [(18, (.iconst 2, 1)), (19, (.ireturn, 1)), (20, (.iconst 0, 1)), (21, (.ireturn, 1))])]
def je_13_add_175 : List (Nat × List (Nat × (Instr × Nat))) := [(8, [(0, (.aload_n 1, 1)), (1, (.iconst 0, 1)), (2, (.aload_n 0, 1)), (3, (.invokevirtual 17, 3)), (6, (.i2l, 1)), (7, (.lastore, 1))]),
  (16, [(8, (.goto 9, 3)), (11, (.astore_n 2, 1)), (12, (.iconst 1, 1)), (13, (.ireturn, 1)), (14, (.astore_n 2, 1)), (15, (.iconst 2, 1))]),
  (1000000000, [(16, (.ireturn, 1)), (17, (.iconst 0, 1)), (18, (.ireturn, 1))])]
def je_13_drop_176 : List (Nat × List (Nat × (Instr × Nat))) := [(10, [(0, (.aload_n 0, 1)), (1, (.iload_n 1, 1)), (2, (.invokevirtual 21, 3)), (5, (.goto 6, 3)), (8, (.astore_n 2, 1)), (9, (.iconst 1, 1))]),
  (1000000000, [(10, (.ireturn, 1)), (11, (.iconst 0, 1)), (12, (.ireturn, 1))])]
def je_13_ask_177 : List (Nat × List (Nat × (Instr × Nat))) := [(8, [(0, (.aload_n 1, 1)), (1, (.iconst 0, 1)), (2, (.aload_n 0, 1)), (3, (.invokevirtual 25, 3)), (6, (.i2l, 1)), (7, (.lastore, 1))]),
  (16, [(8, (.goto 15, 3)), (11, (.astore_n 2, 1)), (12, (.iconst 1, 1)), (13, (.ireturn, 1)), (14, (.astore_n 2, 1)), (15, (.iconst 2, 1))]),
  (22, [(16, (.ireturn, 1)), (17, (.astore_n 2, 1)), (18, (.iconst 3, 1)), (19, (.ireturn, 1)), (20, (.astore_n 2, 1)), (21, (.iconst 4, 1))]),
  (1000000000, [(22, (.ireturn, 1)), (23, (.iconst 0, 1)), (24, (.ireturn, 1))])]
def je_13_next_178 : List (Nat × List (Nat × (Instr × Nat))) := [(8, [(0, (.aload_n 1, 1)), (1, (.iconst 0, 1)), (2, (.aload_n 0, 1)), (3, (.invokevirtual 32, 3)), (6, (.i2l, 1)), (7, (.lastore, 1))]),
  (16, [(8, (.goto 12, 3)), (11, (.astore_n 2, 1)), (12, (.iconst 1, 1)), (13, (.ireturn, 1)), (14, (.astore_n 2, 1)), (15, (.iconst 2, 1))]),
  (1000000000, [(16, (.ireturn, 1)), (17, (.astore_n 2, 1)), (18, (.iconst 3, 1)), (19, (.ireturn, 1)), (20, (.iconst 0, 1)), (21, (.ireturn, 1))])]
def je_13_letter_179 : List (Nat × List (Nat × (Instr × Nat))) := [(8, [(0, (.aload_n 3, 1)), (1, (.iconst 0, 1)), (2, (.aload_n 0, 1)), (3, (.iload_n 1, 1)), (4, (.iload_n 2, 1)), (5, (.invokevirtual 35, 3))]),
  (17, [(8, (.i2l, 1)), (9, (.lastore, 1)), (10, (.goto 11, 3)), (13, (.astore 4, 2)), (15, (.iconst 1, 1)), (16, (.ireturn, 1))]),
  (1000000000, [(17, (.astore 4, 2)), (19, (.iconst 2, 1)), (20, (.ireturn, 1)), (21, (.iconst 0, 1)), (22, (.ireturn, 1))])]
def je_13_sleeping_180 : List (Nat × List (Nat × (Instr × Nat))) := [(8, [(0, (.aload_n 2, 1)), (1, (.iconst 0, 1)), (2, (.aload_n 0, 1)), (3, (.iload_n 1, 1)), (4, (.invokevirtual 39, 3)), (7, (.i2l, 1))]),
  (16, [(8, (.lastore, 1)), (9, (.goto 6, 3)), (12, (.astore_n 3, 1)), (13, (.iconst 1, 1)), (14, (.ireturn, 1)), (15, (.iconst 0, 1))]),
  (1000000000, [(16, (.ireturn, 1))])]
def je_14_max_181 : List (Nat × List (Nat × (Instr × Nat))) := [(10, [(0, (.iload_n 0, 1)), (1, (.iload_n 1, 1)), (2, (.if_icmp .lt 7, 3)), (5, (.iload_n 0, 1)), (6, (.goto 4, 3)), (9, (.iload_n 1, 1))]),
  (1000000000, [(10, (.ireturn, 1))])]
def je_14_min_182 : List (Nat × List (Nat × (Instr × Nat))) := [(10, [(0, (.iload_n 0, 1)), (1, (.iload_n 1, 1)), (2, (.if_icmp .gt 7, 3)), (5, (.iload_n 0, 1)), (6, (.goto 4, 3)), (9, (.iload_n 1, 1))]),
  (1000000000, [(10, (.ireturn, 1))])]
def je_15_bitCount_183 : List (Nat × List (Nat × (Instr × Nat))) := [(9, [(0, (.iload_n 0, 1)), (1, (.iload_n 0, 1)), (2, (.iconst 1, 1)), (3, (.iushr, 1)), (4, (.ldc_w 265, 3)), (7, (.iand, 1)), (8, (.isub, 1))]),
  (18, [(9, (.istore_n 0, 1)), (10, (.iload_n 0, 1)), (11, (.ldc_w 266, 3)), (14, (.iand, 1)), (15, (.iload_n 0, 1)), (16, (.iconst 2, 1)), (17, (.iushr, 1))]),
  (27, [(18, (.ldc_w 266, 3)), (21, (.iand, 1)), (22, (.iadd, 1)), (23, (.istore_n 0, 1)), (24, (.iload_n 0, 1)), (25, (.iload_n 0, 1)), (26, (.iconst 4, 1))]),
  (36, [(27, (.iushr, 1)), (28, (.iadd, 1)), (29, (.ldc_w 267, 3)), (32, (.iand, 1)), (33, (.istore_n 0, 1)), (34, (.iload_n 0, 1)), (35, (.iload_n 0, 1))]),
  (45, [(36, (.bipush 8, 2)), (38, (.iushr, 1)), (39, (.iadd, 1)), (40, (.istore_n 0, 1)), (41, (.iload_n 0, 1)), (42, (.iload_n 0, 1)), (43, (.bipush 16, 2))]),
  (1000000000, [(45, (.iushr, 1)), (46, (.iadd, 1)), (47, (.istore_n 0, 1)), (48, (.iload_n 0, 1)), (49, (.bipush 63, 2)), (51, (.iand, 1)), (52, (.ireturn, 1))])]
def je_16_copyOf_184 : List (Nat × List (Nat × (Instr × Nat))) := [(10, [(0, (.iload_n 1, 1)), (1, (.aload_n 0, 1)), (2, (.arraylength, 1)), (3, (.if_icmp .ne 11, 3)), (6, (.aload_n 0, 1)), (7, (.invokevirtual 316, 3))]),
  (19, [(10, (.checkcast 317, 3)), (13, (.areturn, 1)), (14, (.iload_n 1, 1)), (15, (.newarray .int, 2)), (17, (.astore_n 2, 1)), (18, (.aload_n 0, 1))]),
  (25, [(19, (.iconst 0, 1)), (20, (.aload_n 2, 1)), (21, (.iconst 0, 1)), (22, (.aload_n 0, 1)), (23, (.arraylength, 1)), (24, (.iload_n 1, 1))]),
  (1000000000, [(25, (.invokestatic 304, 3)), (28, (.invokestatic 150, 3)), (31, (.aload_n 2, 1)), (32, (.areturn, 1))])]
def je_law : List (Nat × List (Nat × (Instr × Nat))) := [(29, [(0, (.new 8, 3)), (3, (.dup, 1)), (4, (.invokespecial 43, 3)), (7, (.astore_n 1, 1)), (8, (.new 44, 3)), (11, (.dup, 1)), (12, (.invokespecial 46, 3)), (15, (.astore_n 2, 1)), (16, (.iconst 1, 1)), (17, (.newarray .long, 2)), (19, (.astore_n 3, 1)), (20, (.iconst 0, 1)), (21, (.istore 4, 2)), (23, (.iload 4, 2)), (25, (.aload_n 0, 1)), (26, (.arraylength, 1)), (27, (.iconst 3, 1)), (28, (.isub, 1))]),
  (98, [(29, (.if_icmp .gt 466, 3)), (32, (.aload_n 0, 1)), (33, (.iload 4, 2)), (35, (.iaload, 1)), (36, (.bipush 7, 2)), (38, (.iand, 1)), (39, (.tableswitch 450 0 7 #[45, 133, 177, 213, 257, 301, 369, 425], 45)), (84, (.aload_n 1, 1)), (85, (.aload_n 0, 1)), (86, (.iload 4, 2)), (88, (.iconst 1, 1)), (89, (.iadd, 1)), (90, (.iaload, 1)), (91, (.i2l, 1)), (92, (.bipush 32, 2)), (94, (.lshl, 1)), (95, (.aload_n 0, 1)), (96, (.iload 4, 2))]),
  (123, [(98, (.iconst 2, 1)), (99, (.iadd, 1)), (100, (.iaload, 1)), (101, (.i2l, 1)), (102, (.ldc2_w 47, 3)), (105, (.land, 1)), (106, (.lor, 1)), (107, (.aload_n 3, 1)), (108, (.invokestatic 49, 3)), (111, (.istore 5, 2)), (113, (.aload_n 2, 1)), (114, (.aload_n 0, 1)), (115, (.iload 4, 2)), (117, (.iconst 1, 1)), (118, (.iadd, 1)), (119, (.iaload, 1)), (120, (.i2l, 1)), (121, (.bipush 32, 2))]),
  (152, [(123, (.lshl, 1)), (124, (.aload_n 0, 1)), (125, (.iload 4, 2)), (127, (.iconst 2, 1)), (128, (.iadd, 1)), (129, (.iaload, 1)), (130, (.i2l, 1)), (131, (.ldc2_w 47, 3)), (134, (.land, 1)), (135, (.lor, 1)), (136, (.invokevirtual 54, 3)), (139, (.istore 6, 2)), (141, (.aload_n 2, 1)), (142, (.invokevirtual 55, 3)), (145, (.iload 5, 2)), (147, (.if_icmp .eq 5, 3)), (150, (.iconst 0, 1)), (151, (.ireturn, 1))]),
  (183, [(152, (.iload 5, 2)), (154, (.ifCond .ne 15, 3)), (157, (.aload_n 3, 1)), (158, (.iconst 0, 1)), (159, (.laload, 1)), (160, (.iload 6, 2)), (162, (.i2l, 1)), (163, (.lcmp, 1)), (164, (.ifCond .eq 5, 3)), (167, (.iconst 0, 1)), (168, (.ireturn, 1)), (169, (.goto 320, 3)), (172, (.aload_n 1, 1)), (173, (.aload_n 3, 1)), (174, (.invokestatic 58, 3)), (177, (.istore 5, 2)), (179, (.aload_n 2, 1)), (180, (.invokevirtual 61, 3))]),
  (213, [(183, (.istore 6, 2)), (185, (.aload_n 2, 1)), (186, (.invokevirtual 55, 3)), (189, (.iload 5, 2)), (191, (.if_icmp .eq 5, 3)), (194, (.iconst 0, 1)), (195, (.ireturn, 1)), (196, (.iload 5, 2)), (198, (.ifCond .ne 15, 3)), (201, (.aload_n 3, 1)), (202, (.iconst 0, 1)), (203, (.laload, 1)), (204, (.iload 6, 2)), (206, (.i2l, 1)), (207, (.lcmp, 1)), (208, (.ifCond .eq 5, 3)), (211, (.iconst 0, 1)), (212, (.ireturn, 1))]),
  (242, [(213, (.goto 276, 3)), (216, (.aload_n 1, 1)), (217, (.aload_n 0, 1)), (218, (.iload 4, 2)), (220, (.iconst 1, 1)), (221, (.iadd, 1)), (222, (.iaload, 1)), (223, (.invokestatic 62, 3)), (226, (.istore 5, 2)), (228, (.aload_n 2, 1)), (229, (.aload_n 0, 1)), (230, (.iload 4, 2)), (232, (.iconst 1, 1)), (233, (.iadd, 1)), (234, (.iaload, 1)), (235, (.invokevirtual 65, 3)), (238, (.aload_n 2, 1)), (239, (.invokevirtual 55, 3))]),
  (276, [(242, (.iload 5, 2)), (244, (.if_icmp .eq 5, 3)), (247, (.iconst 0, 1)), (248, (.ireturn, 1)), (249, (.goto 240, 3)), (252, (.aload_n 1, 1)), (253, (.aload_n 3, 1)), (254, (.invokestatic 66, 3)), (257, (.istore 5, 2)), (259, (.aload_n 2, 1)), (260, (.invokevirtual 68, 3)), (263, (.istore 6, 2)), (265, (.aload_n 2, 1)), (266, (.invokevirtual 55, 3)), (269, (.iload 5, 2)), (271, (.if_icmp .eq 5, 3)), (274, (.iconst 0, 1)), (275, (.ireturn, 1))]),
  (307, [(276, (.iload 5, 2)), (278, (.ifCond .ne 15, 3)), (281, (.aload_n 3, 1)), (282, (.iconst 0, 1)), (283, (.laload, 1)), (284, (.iload 6, 2)), (286, (.i2l, 1)), (287, (.lcmp, 1)), (288, (.ifCond .eq 5, 3)), (291, (.iconst 0, 1)), (292, (.ireturn, 1)), (293, (.goto 196, 3)), (296, (.aload_n 1, 1)), (297, (.aload_n 3, 1)), (298, (.invokestatic 69, 3)), (301, (.istore 5, 2)), (303, (.aload_n 2, 1)), (304, (.invokevirtual 71, 3))]),
  (337, [(307, (.istore 6, 2)), (309, (.aload_n 2, 1)), (310, (.invokevirtual 55, 3)), (313, (.iload 5, 2)), (315, (.if_icmp .eq 5, 3)), (318, (.iconst 0, 1)), (319, (.ireturn, 1)), (320, (.iload 5, 2)), (322, (.ifCond .ne 15, 3)), (325, (.aload_n 3, 1)), (326, (.iconst 0, 1)), (327, (.laload, 1)), (328, (.iload 6, 2)), (330, (.i2l, 1)), (331, (.lcmp, 1)), (332, (.ifCond .eq 5, 3)), (335, (.iconst 0, 1)), (336, (.ireturn, 1))]),
  (363, [(337, (.goto 152, 3)), (340, (.aload_n 1, 1)), (341, (.aload_n 0, 1)), (342, (.iload 4, 2)), (344, (.iconst 1, 1)), (345, (.iadd, 1)), (346, (.iaload, 1)), (347, (.aload_n 0, 1)), (348, (.iload 4, 2)), (350, (.iconst 2, 1)), (351, (.iadd, 1)), (352, (.iaload, 1)), (353, (.aload_n 3, 1)), (354, (.invokestatic 72, 3)), (357, (.istore 5, 2)), (359, (.aload_n 2, 1)), (360, (.aload_n 0, 1)), (361, (.iload 4, 2))]),
  (393, [(363, (.iconst 1, 1)), (364, (.iadd, 1)), (365, (.iaload, 1)), (366, (.aload_n 0, 1)), (367, (.iload 4, 2)), (369, (.iconst 2, 1)), (370, (.iadd, 1)), (371, (.iaload, 1)), (372, (.invokevirtual 75, 3)), (375, (.istore 6, 2)), (377, (.aload_n 2, 1)), (378, (.invokevirtual 55, 3)), (381, (.iload 5, 2)), (383, (.if_icmp .eq 5, 3)), (386, (.iconst 0, 1)), (387, (.ireturn, 1)), (388, (.iload 5, 2)), (390, (.ifCond .ne 15, 3))]),
  (419, [(393, (.aload_n 3, 1)), (394, (.iconst 0, 1)), (395, (.laload, 1)), (396, (.iload 6, 2)), (398, (.i2l, 1)), (399, (.lcmp, 1)), (400, (.ifCond .eq 5, 3)), (403, (.iconst 0, 1)), (404, (.ireturn, 1)), (405, (.goto 84, 3)), (408, (.aload_n 1, 1)), (409, (.aload_n 0, 1)), (410, (.iload 4, 2)), (412, (.iconst 1, 1)), (413, (.iadd, 1)), (414, (.iaload, 1)), (415, (.aload_n 3, 1)), (416, (.invokestatic 76, 3))]),
  (450, [(419, (.istore 5, 2)), (421, (.aload_n 2, 1)), (422, (.aload_n 0, 1)), (423, (.iload 4, 2)), (425, (.iconst 1, 1)), (426, (.iadd, 1)), (427, (.iaload, 1)), (428, (.invokevirtual 79, 3)), (431, (.istore 6, 2)), (433, (.aload_n 2, 1)), (434, (.invokevirtual 55, 3)), (437, (.iload 5, 2)), (439, (.if_icmp .eq 5, 3)), (442, (.iconst 0, 1)), (443, (.ireturn, 1)), (444, (.iload 5, 2)), (446, (.ifCond .ne 15, 3)), (449, (.aload_n 3, 1))]),
  (476, [(450, (.iconst 0, 1)), (451, (.laload, 1)), (452, (.iload 6, 2)), (454, (.i2l, 1)), (455, (.lcmp, 1)), (456, (.ifCond .eq 5, 3)), (459, (.iconst 0, 1)), (460, (.ireturn, 1)), (461, (.goto 28, 3)), (464, (.aload_n 1, 1)), (465, (.aload_n 0, 1)), (466, (.iload 4, 2)), (468, (.iconst 1, 1)), (469, (.iadd, 1)), (470, (.iaload, 1)), (471, (.invokevirtual 80, 3)), (474, (.aload_n 2, 1)), (475, (.aload_n 0, 1))]),
  (1000000000, [(476, (.iload 4, 2)), (478, (.iconst 1, 1)), (479, (.iadd, 1)), (480, (.iaload, 1)), (481, (.invokevirtual 83, 3)), (484, (.if_icmp .eq 5, 3)), (487, (.iconst 0, 1)), (488, (.ireturn, 1)), (489, (.iinc 4 3, 3)), (492, (.goto (-469), 3)), (495, (.iconst 1, 1)), (496, (.ireturn, 1))])]
def jm_0_init_0 : jM := (⟨"GoalDesk", "<init>", "()V"⟩, prog_1_method_1_code, 1, none, 0, true, jlk2 je_0_init_0, [])
def jm_9_init_1 : jM := (⟨"GoalDesk$Text", "<init>", "()V"⟩, prog_10_method_1_code, 1, none, 9, true, jlk2 je_9_init_1, [])
def jm_1_init_2 : jM := (⟨"GoalDesk$Book", "<init>", "()V"⟩, prog_2_method_1_code, 1, none, 1, true, jlk2 je_1_init_2, [])
def jm_8_init_3 : jM := (⟨"GoalDesk$Table", "<init>", "(I)V"⟩, prog_9_method_1_code, 2, none, 8, true, jlk2 je_8_init_3, [])
def jm_5_init_4 : jM := (⟨"GoalDesk$Reader", "<init>", "(LGoalDesk$Book;LGoalDesk$Text;)V"⟩, prog_6_method_1_code, 3, none, 5, true, jlk2 je_5_init_4, [])
def jm_2_init_5 : jM := (⟨"GoalDesk$Clauses", "<init>", "(LGoalDesk$Book;)V"⟩, prog_3_method_1_code, 3, none, 2, true, jlk2 je_2_init_5, [])
def jm_7_init_6 : jM := (⟨"GoalDesk$Store", "<init>", "(LGoalDesk$Book;)V"⟩, prog_8_method_1_code, 2, none, 7, true, jlk2 je_7_init_6, [])
def jm_3_init_7 : jM := (⟨"GoalDesk$Matcher", "<init>", "(LGoalDesk$Book;LGoalDesk$Store;)V"⟩, prog_4_method_1_code, 3, none, 3, true, jlk2 je_3_init_7, [])
def jm_10_init_8 : jM := (⟨"GoalDesk$Value", "<init>", "()V"⟩, prog_11_method_1_code, 1, none, 10, true, jlk2 je_10_init_8, [])
def jm_6_init_9 : jM := (⟨"GoalDesk$Search", "<init>", "(LGoalDesk$Book;LGoalDesk$Clauses;LGoalDesk$Store;LGoalDesk$Matcher;)V"⟩, prog_7_method_1_code, 5, none, 6, true, jlk2 je_6_init_9, [])
def jm_11_init_10 : jM := (⟨"GoalDesk$Writer", "<init>", "(LGoalDesk$Book;LGoalDesk$Store;)V"⟩, prog_12_method_1_code, 3, none, 11, true, jlk2 je_11_init_10, [])
def jm_0_count_11 : jM := (⟨"GoalDesk", "count", "(I)I"⟩, prog_1_method_9_code, 2, some FieldType.int, 0, false, jlk2 je_0_count_11, [])
def jm_9_length_12 : jM := (⟨"GoalDesk$Text", "length", "()I"⟩, prog_10_method_2_code, 1, some FieldType.int, 9, false, jlk2 je_9_length_12, [])
def jm_2_size_13 : jM := (⟨"GoalDesk$Clauses", "size", "()I"⟩, prog_3_method_2_code, 1, some FieldType.int, 2, false, jlk2 je_2_size_13, [])
def jm_6_choicesLeft_14 : jM := (⟨"GoalDesk$Search", "choicesLeft", "()I"⟩, prog_7_method_2_code, 1, some FieldType.int, 6, false, jlk2 je_6_choicesLeft_14, [])
def jm_8_rows_15 : jM := (⟨"GoalDesk$Table", "rows", "()I"⟩, prog_9_method_2_code, 1, some FieldType.int, 8, false, jlk2 je_8_rows_15, [])
def jm_7_apartsWaiting_16 : jM := (⟨"GoalDesk$Store", "apartsWaiting", "()I"⟩, prog_8_method_24_code, 3, some FieldType.int, 7, false, jlk2 je_7_apartsWaiting_16, [])
def jm_7_isWaiting_17 : jM := (⟨"GoalDesk$Store", "isWaiting", "(I)Z"⟩, prog_8_method_20_code, 2, some FieldType.boolean, 7, false, jlk2 je_7_isWaiting_17, [])
def jm_8_at_18 : jM := (⟨"GoalDesk$Table", "at", "(II)I"⟩, prog_9_method_3_code, 4, some FieldType.int, 8, false, jlk2 je_8_at_18, [])
def jm_7_variablesMade_19 : jM := (⟨"GoalDesk$Store", "variablesMade", "()I"⟩, prog_8_method_3_code, 1, some FieldType.int, 7, false, jlk2 je_7_variablesMade_19, [])
def jm_0_type_20 : jM := (⟨"GoalDesk", "type", "(J)I"⟩, prog_1_method_2_code, 6, some FieldType.int, 0, false, jlk2 je_0_type_20, [])
def jm_0_byteOf_21 : jM := (⟨"GoalDesk", "byteOf", "(JI)I"⟩, prog_1_method_10_code, 3, some FieldType.int, 0, false, jlk2 je_0_byteOf_21, [])
def jm_9_append_22 : jM := (⟨"GoalDesk$Text", "append", "(I)V"⟩, prog_10_method_4_code, 2, none, 9, false, jlk2 je_9_append_22, [])
def jm_0_add_23 : jM := (⟨"GoalDesk", "add", "()I"⟩, prog_1_method_3_code, 2, some FieldType.int, 0, false, jlk2 je_0_add_23, [])
def jm_9_clear_24 : jM := (⟨"GoalDesk$Text", "clear", "()V"⟩, prog_10_method_5_code, 1, none, 9, false, jlk2 je_9_clear_24, [])
def jm_2_freePage_25 : jM := (⟨"GoalDesk$Clauses", "freePage", "()I"⟩, prog_3_method_4_code, 1, some FieldType.int, 2, false, jlk2 je_2_freePage_25, [])
def jm_2_page_26 : jM := (⟨"GoalDesk$Clauses", "page", "(I)I"⟩, prog_3_method_3_code, 2, some FieldType.int, 2, false, jlk2 je_2_page_26, [])
def jm_5_readClause_27 : jM := (⟨"GoalDesk$Reader", "readClause", "(I)Z"⟩, prog_6_method_3_code, 3, some FieldType.boolean, 5, false, jlk2 je_5_readClause_27, [])
def jm_5_begin_28 : jM := (⟨"GoalDesk$Reader", "begin", "(I)V"⟩, prog_6_method_5_code, 2, none, 5, false, jlk2 je_5_begin_28, [])
def jm_1_clearPage_29 : jM := (⟨"GoalDesk$Book", "clearPage", "(I)V"⟩, prog_2_method_6_code, 3, none, 1, false, jlk2 je_1_clearPage_29, [])
def jm_8_put_30 : jM := (⟨"GoalDesk$Table", "put", "(III)V"⟩, prog_9_method_4_code, 5, none, 8, false, jlk2 je_8_put_30, [])
def jm_1_firstNode_31 : jM := (⟨"GoalDesk$Book", "firstNode", "(I)I"⟩, prog_2_method_2_code, 1, some FieldType.int, 1, false, jlk2 je_1_firstNode_31, [])
def jm_9_at_32 : jM := (⟨"GoalDesk$Text", "at", "(I)I"⟩, prog_10_method_3_code, 2, some FieldType.int, 9, false, jlk2 je_9_at_32, [])
def jm_1_isSmall_33 : jM := (⟨"GoalDesk$Book", "isSmall", "(I)Z"⟩, prog_2_method_5_code, 1, some FieldType.boolean, 1, false, jlk2 je_1_isSmall_33, [])
def jm_5_readTerm_34 : jM := (⟨"GoalDesk$Reader", "readTerm", "(I)Z"⟩, prog_6_method_11_code, 6, some FieldType.boolean, 5, false, jlk2 je_5_readTerm_34, [])
def jm_1_isCapital_35 : jM := (⟨"GoalDesk$Book", "isCapital", "(I)Z"⟩, prog_2_method_3_code, 1, some FieldType.boolean, 1, false, jlk2 je_1_isCapital_35, [])
def jm_1_isDigit_36 : jM := (⟨"GoalDesk$Book", "isDigit", "(I)Z"⟩, prog_2_method_4_code, 1, some FieldType.boolean, 1, false, jlk2 je_1_isDigit_36, [])
def jm_5_node_37 : jM := (⟨"GoalDesk$Reader", "node", "()I"⟩, prog_6_method_6_code, 1, some FieldType.int, 5, false, jlk2 je_5_node_37, [])
def jm_1_noteTerm_38 : jM := (⟨"GoalDesk$Book", "noteTerm", "(III)V"⟩, prog_2_method_7_code, 4, none, 1, false, jlk2 je_1_noteTerm_38, [])
def jm_5_readSign_39 : jM := (⟨"GoalDesk$Reader", "readSign", "(I)Z"⟩, prog_6_method_8_code, 2, some FieldType.boolean, 5, false, jlk2 je_5_readSign_39, [])
def jm_1_noteArgument_40 : jM := (⟨"GoalDesk$Book", "noteArgument", "(III)V"⟩, prog_2_method_8_code, 4, none, 1, false, jlk2 je_1_noteArgument_40, [])
def jm_5_atEnd_41 : jM := (⟨"GoalDesk$Reader", "atEnd", "()Z"⟩, prog_6_method_7_code, 1, some FieldType.boolean, 5, false, jlk2 je_5_atEnd_41, [])
def jm_5_readGoals_42 : jM := (⟨"GoalDesk$Reader", "readGoals", "()Z"⟩, prog_6_method_9_code, 3, some FieldType.boolean, 5, false, jlk2 je_5_readGoals_42, [])
def jm_1_noteFirstGoal_43 : jM := (⟨"GoalDesk$Book", "noteFirstGoal", "(II)V"⟩, prog_2_method_11_code, 3, none, 1, false, jlk2 je_1_noteFirstGoal_43, [])
def jm_5_readGoal_44 : jM := (⟨"GoalDesk$Reader", "readGoal", "()Z"⟩, prog_6_method_10_code, 4, some FieldType.boolean, 5, false, jlk2 je_5_readGoal_44, [])
def jm_1_noteGoal_45 : jM := (⟨"GoalDesk$Book", "noteGoal", "(III)V"⟩, prog_2_method_9_code, 4, none, 1, false, jlk2 je_1_noteGoal_45, [])
def jm_1_noteFollower_46 : jM := (⟨"GoalDesk$Book", "noteFollower", "(II)V"⟩, prog_2_method_10_code, 3, none, 1, false, jlk2 je_1_noteFollower_46, [])
def jm_1_rankVariables_47 : jM := (⟨"GoalDesk$Book", "rankVariables", "(I)V"⟩, prog_2_method_12_code, 6, none, 1, false, jlk2 je_1_rankVariables_47, [])
def jm_1_sign_48 : jM := (⟨"GoalDesk$Book", "sign", "(I)I"⟩, prog_2_method_13_code, 2, some FieldType.int, 1, false, jlk2 je_1_sign_48, [])
def jm_5_place_49 : jM := (⟨"GoalDesk$Reader", "place", "()I"⟩, prog_6_method_2_code, 1, some FieldType.int, 5, false, jlk2 je_5_place_49, [])
def jm_2_keepFreePage_50 : jM := (⟨"GoalDesk$Clauses", "keepFreePage", "()V"⟩, prog_3_method_5_code, 1, none, 2, false, jlk2 je_2_keepFreePage_50, [])
def jm_0_drop_51 : jM := (⟨"GoalDesk", "drop", "(I)V"⟩, prog_1_method_4_code, 2, none, 0, false, jlk2 je_0_drop_51, [])
def jm_2_remove_52 : jM := (⟨"GoalDesk$Clauses", "remove", "(I)V"⟩, prog_3_method_6_code, 4, none, 2, false, jlk2 je_2_remove_52, [])
def jm_0_ask_53 : jM := (⟨"GoalDesk", "ask", "()I"⟩, prog_1_method_5_code, 2, some FieldType.int, 0, false, jlk2 je_0_ask_53, [])
def jm_5_readQuestion_54 : jM := (⟨"GoalDesk$Reader", "readQuestion", "(I)Z"⟩, prog_6_method_4_code, 3, some FieldType.boolean, 5, false, jlk2 je_5_readQuestion_54, [])
def jm_6_begin_55 : jM := (⟨"GoalDesk$Search", "begin", "()V"⟩, prog_7_method_3_code, 2, none, 6, false, jlk2 je_6_begin_55, [])
def jm_7_clear_56 : jM := (⟨"GoalDesk$Store", "clear", "()V"⟩, prog_8_method_2_code, 1, none, 7, false, jlk2 je_7_clear_56, [])
def jm_8_shrink_57 : jM := (⟨"GoalDesk$Table", "shrink", "(I)V"⟩, prog_9_method_6_code, 2, none, 8, false, jlk2 je_8_shrink_57, [])
def jm_3_clear_58 : jM := (⟨"GoalDesk$Matcher", "clear", "()V"⟩, prog_4_method_2_code, 1, none, 3, false, jlk2 je_3_clear_58, [])
def jm_7_makeVariables_59 : jM := (⟨"GoalDesk$Store", "makeVariables", "(I)I"⟩, prog_8_method_8_code, 5, some FieldType.int, 7, false, jlk2 je_7_makeVariables_59, [])
def jm_1_variablesOf_60 : jM := (⟨"GoalDesk$Book", "variablesOf", "(I)I"⟩, prog_2_method_20_code, 2, some FieldType.int, 1, false, jlk2 je_1_variablesOf_60, [])
def jm_8_append_61 : jM := (⟨"GoalDesk$Table", "append", "(IIII)I"⟩, prog_9_method_5_code, 6, some FieldType.int, 8, false, jlk2 je_8_append_61, [])
def jm_1_firstGoal_62 : jM := (⟨"GoalDesk$Book", "firstGoal", "(I)I"⟩, prog_2_method_19_code, 2, some FieldType.int, 1, false, jlk2 je_1_firstGoal_62, [])
def jm_6_seek_63 : jM := (⟨"GoalDesk$Search", "seek", "(LGoalDesk$Outcome;)LGoalDesk$Outcome;"⟩, prog_7_method_4_code, 4, some (FieldType.object "GoalDesk$Outcome"), 6, false, jlk2 je_6_seek_63, [])
def jm_6_doGoal_64 : jM := (⟨"GoalDesk$Search", "doGoal", "()LGoalDesk$Outcome;"⟩, prog_7_method_5_code, 6, some (FieldType.object "GoalDesk$Outcome"), 6, false, jlk2 je_6_doGoal_64, [])
def jm_3_takeStep_65 : jM := (⟨"GoalDesk$Matcher", "takeStep", "()Z"⟩, prog_4_method_4_code, 1, some FieldType.boolean, 3, false, jlk2 je_3_takeStep_65, [])
def jm_1_follower_66 : jM := (⟨"GoalDesk$Book", "follower", "(I)I"⟩, prog_2_method_18_code, 2, some FieldType.int, 1, false, jlk2 je_1_follower_66, [])
def jm_1_kind_67 : jM := (⟨"GoalDesk$Book", "kind", "(I)I"⟩, prog_2_method_16_code, 2, some FieldType.int, 1, false, jlk2 je_1_kind_67, [])
def jm_1_right_68 : jM := (⟨"GoalDesk$Book", "right", "(I)I"⟩, prog_2_method_17_code, 2, some FieldType.int, 1, false, jlk2 je_1_right_68, [])
def jm_3_pushPair_69 : jM := (⟨"GoalDesk$Matcher", "pushPair", "(IIII)V"⟩, prog_4_method_7_code, 5, none, 3, false, jlk2 je_3_pushPair_69, [])
def jm_7_letWait_70 : jM := (⟨"GoalDesk$Store", "letWait", "(II)V"⟩, prog_8_method_19_code, 3, none, 7, false, jlk2 je_7_letWait_70, [])
def jm_6_doLess_71 : jM := (⟨"GoalDesk$Search", "doLess", "(II)LGoalDesk$Outcome;"⟩, prog_7_method_6_code, 5, some (FieldType.object "GoalDesk$Outcome"), 6, false, jlk2 je_6_doLess_71, [])
def jm_7_find_72 : jM := (⟨"GoalDesk$Store", "find", "(IILGoalDesk$Value;)V"⟩, prog_8_method_9_code, 8, none, 7, false, jlk2 je_7_find_72, [])
def jm_1_rank_73 : jM := (⟨"GoalDesk$Book", "rank", "(I)I"⟩, prog_2_method_21_code, 2, some FieldType.int, 1, false, jlk2 je_1_rank_73, [])
def jm_6_doSleep_74 : jM := (⟨"GoalDesk$Search", "doSleep", "(II)LGoalDesk$Outcome;"⟩, prog_7_method_7_code, 3, some (FieldType.object "GoalDesk$Outcome"), 6, false, jlk2 je_6_doSleep_74, [])
def jm_6_putInFront_75 : jM := (⟨"GoalDesk$Search", "putInFront", "(II)V"⟩, prog_7_method_13_code, 3, none, 6, false, jlk2 je_6_putInFront_75, [])
def jm_7_putToSleep_76 : jM := (⟨"GoalDesk$Store", "putToSleep", "(III)V"⟩, prog_8_method_11_code, 5, none, 7, false, jlk2 je_7_putToSleep_76, [])
def jm_7_join_77 : jM := (⟨"GoalDesk$Store", "join", "(III)V"⟩, prog_8_method_12_code, 5, none, 7, false, jlk2 je_7_join_77, [])
def jm_7_lastSleeper_78 : jM := (⟨"GoalDesk$Store", "lastSleeper", "(I)I"⟩, prog_8_method_14_code, 2, some FieldType.int, 7, false, jlk2 je_7_lastSleeper_78, [])
def jm_6_doCall_79 : jM := (⟨"GoalDesk$Search", "doCall", "(II)LGoalDesk$Outcome;"⟩, prog_7_method_8_code, 6, some (FieldType.object "GoalDesk$Outcome"), 6, false, jlk2 je_6_doCall_79, [])
def jm_2_find_80 : jM := (⟨"GoalDesk$Clauses", "find", "(II)I"⟩, prog_3_method_7_code, 4, some FieldType.int, 2, false, jlk2 je_2_find_80, [])
def jm_1_alike_81 : jM := (⟨"GoalDesk$Book", "alike", "(II)Z"⟩, prog_2_method_22_code, 3, some FieldType.boolean, 1, false, jlk2 je_1_alike_81, [])
def jm_1_arity_82 : jM := (⟨"GoalDesk$Book", "arity", "(I)I"⟩, prog_2_method_14_code, 2, some FieldType.int, 1, false, jlk2 je_1_arity_82, [])
def jm_6_leaveChoice_83 : jM := (⟨"GoalDesk$Search", "leaveChoice", "(III)V"⟩, prog_7_method_9_code, 5, none, 6, false, jlk2 je_6_leaveChoice_83, [])
def jm_7_changes_84 : jM := (⟨"GoalDesk$Store", "changes", "()I"⟩, prog_8_method_7_code, 1, some FieldType.int, 7, false, jlk2 je_7_changes_84, [])
def jm_7_variables_85 : jM := (⟨"GoalDesk$Store", "variables", "()I"⟩, prog_8_method_4_code, 1, some FieldType.int, 7, false, jlk2 je_7_variables_85, [])
def jm_7_sleepers_86 : jM := (⟨"GoalDesk$Store", "sleepers", "()I"⟩, prog_8_method_5_code, 1, some FieldType.int, 7, false, jlk2 je_7_sleepers_86, [])
def jm_7_aparts_87 : jM := (⟨"GoalDesk$Store", "aparts", "()I"⟩, prog_8_method_6_code, 1, some FieldType.int, 7, false, jlk2 je_7_aparts_87, [])
def jm_6_take_88 : jM := (⟨"GoalDesk$Search", "take", "(IIII)V"⟩, prog_7_method_11_code, 8, none, 6, false, jlk2 je_6_take_88, [])
def jm_3_pushArguments_89 : jM := (⟨"GoalDesk$Matcher", "pushArguments", "(IIII)V"⟩, prog_4_method_8_code, 6, none, 3, false, jlk2 je_3_pushArguments_89, [])
def jm_1_argument_90 : jM := (⟨"GoalDesk$Book", "argument", "(II)I"⟩, prog_2_method_15_code, 3, some FieldType.int, 1, false, jlk2 je_1_argument_90, [])
def jm_3_makeSame_91 : jM := (⟨"GoalDesk$Matcher", "makeSame", "()LGoalDesk$Outcome;"⟩, prog_4_method_9_code, 3, some (FieldType.object "GoalDesk$Outcome"), 3, false, jlk2 je_3_makeSame_91, [])
def jm_3_goThroughPairs_92 : jM := (⟨"GoalDesk$Matcher", "goThroughPairs", "(Z)LGoalDesk$Outcome;"⟩, prog_4_method_12_code, 7, some (FieldType.object "GoalDesk$Outcome"), 3, false, jlk2 je_3_goThroughPairs_92, [])
def jm_7_bind_93 : jM := (⟨"GoalDesk$Store", "bind", "(ILGoalDesk$Value;)V"⟩, prog_8_method_10_code, 3, none, 7, false, jlk2 je_7_bind_93, [])
def jm_7_firstSleeper_94 : jM := (⟨"GoalDesk$Store", "firstSleeper", "(I)I"⟩, prog_8_method_13_code, 2, some FieldType.int, 7, false, jlk2 je_7_firstSleeper_94, [])
def jm_3_wake_95 : jM := (⟨"GoalDesk$Matcher", "wake", "(I)V"⟩, prog_4_method_13_code, 4, none, 3, false, jlk2 je_3_wake_95, [])
def jm_7_sleeperBehind_96 : jM := (⟨"GoalDesk$Store", "sleeperBehind", "(I)I"⟩, prog_8_method_15_code, 2, some FieldType.int, 7, false, jlk2 je_7_sleeperBehind_96, [])
def jm_3_testAparts_97 : jM := (⟨"GoalDesk$Matcher", "testAparts", "()LGoalDesk$Outcome;"⟩, prog_4_method_10_code, 3, some (FieldType.object "GoalDesk$Outcome"), 3, false, jlk2 je_3_testAparts_97, [])
def jm_3_testApart_98 : jM := (⟨"GoalDesk$Matcher", "testApart", "(I)LGoalDesk$Outcome;"⟩, prog_4_method_11_code, 7, some (FieldType.object "GoalDesk$Outcome"), 3, false, jlk2 je_3_testApart_98, [])
def jm_7_apartGoal_99 : jM := (⟨"GoalDesk$Store", "apartGoal", "(I)I"⟩, prog_8_method_21_code, 2, some FieldType.int, 7, false, jlk2 je_7_apartGoal_99, [])
def jm_7_apartEnv_100 : jM := (⟨"GoalDesk$Store", "apartEnv", "(I)I"⟩, prog_8_method_22_code, 2, some FieldType.int, 7, false, jlk2 je_7_apartEnv_100, [])
def jm_7_goBack_101 : jM := (⟨"GoalDesk$Store", "goBack", "(I)V"⟩, prog_8_method_25_code, 3, none, 7, false, jlk2 je_7_goBack_101, [])
def jm_7_undo_102 : jM := (⟨"GoalDesk$Store", "undo", "(I)V"⟩, prog_8_method_27_code, 5, none, 7, false, jlk2 je_7_undo_102, [])
def jm_7_settle_103 : jM := (⟨"GoalDesk$Store", "settle", "(I)V"⟩, prog_8_method_23_code, 2, none, 7, false, jlk2 je_7_settle_103, [])
def jm_6_putWokenInFront_104 : jM := (⟨"GoalDesk$Search", "putWokenInFront", "()LGoalDesk$Outcome;"⟩, prog_7_method_12_code, 3, some (FieldType.object "GoalDesk$Outcome"), 6, false, jlk2 je_6_putWokenInFront_104, [])
def jm_3_wokenGoals_105 : jM := (⟨"GoalDesk$Matcher", "wokenGoals", "()I"⟩, prog_4_method_5_code, 1, some FieldType.int, 3, false, jlk2 je_3_wokenGoals_105, [])
def jm_3_wokenGoal_106 : jM := (⟨"GoalDesk$Matcher", "wokenGoal", "(I)I"⟩, prog_4_method_6_code, 2, some FieldType.int, 3, false, jlk2 je_3_wokenGoal_106, [])
def jm_7_sleeperGoal_107 : jM := (⟨"GoalDesk$Store", "sleeperGoal", "(I)I"⟩, prog_8_method_16_code, 2, some FieldType.int, 7, false, jlk2 je_7_sleeperGoal_107, [])
def jm_7_sleeperEnv_108 : jM := (⟨"GoalDesk$Store", "sleeperEnv", "(I)I"⟩, prog_8_method_17_code, 2, some FieldType.int, 7, false, jlk2 je_7_sleeperEnv_108, [])
def jm_6_retry_109 : jM := (⟨"GoalDesk$Search", "retry", "()LGoalDesk$Outcome;"⟩, prog_7_method_10_code, 6, some (FieldType.object "GoalDesk$Outcome"), 6, false, jlk2 je_6_retry_109, [])
def jm_7_forget_110 : jM := (⟨"GoalDesk$Store", "forget", "(III)V"⟩, prog_8_method_26_code, 4, none, 7, false, jlk2 je_7_forget_110, [])
def jm_0_conclude_111 : jM := (⟨"GoalDesk", "conclude", "(LGoalDesk$Outcome;)I"⟩, prog_1_method_13_code, 2, some FieldType.int, 0, false, jlk2 je_0_conclude_111, [])
def jm_3_stepsTaken_112 : jM := (⟨"GoalDesk$Matcher", "stepsTaken", "()I"⟩, prog_4_method_3_code, 1, some FieldType.int, 3, false, jlk2 je_3_stepsTaken_112, [])
def jm_0_next_113 : jM := (⟨"GoalDesk", "next", "()I"⟩, prog_1_method_6_code, 1, some FieldType.int, 0, false, jlk2 je_0_next_113, [])
def jm_0_letter_114 : jM := (⟨"GoalDesk", "letter", "(II)I"⟩, prog_1_method_7_code, 5, some FieldType.int, 0, false, jlk2 je_0_letter_114, [])
def jm_0_isVariableName_115 : jM := (⟨"GoalDesk", "isVariableName", "(I)Z"⟩, prog_1_method_11_code, 1, some FieldType.boolean, 0, false, jlk2 je_0_isVariableName_115, [])
def jm_0_questionNode_116 : jM := (⟨"GoalDesk", "questionNode", "(I)I"⟩, prog_1_method_12_code, 2, some FieldType.int, 0, false, jlk2 je_0_questionNode_116, [])
def jm_1_nodeWithSign_117 : jM := (⟨"GoalDesk$Book", "nodeWithSign", "(II)I"⟩, prog_2_method_23_code, 4, some FieldType.int, 1, false, jlk2 je_1_nodeWithSign_117, [])
def jm_11_write_118 : jM := (⟨"GoalDesk$Writer", "write", "(I)I"⟩, prog_12_method_3_code, 3, some FieldType.int, 11, false, jlk2 je_11_write_118, [])
def jm_11_pushTerm_119 : jM := (⟨"GoalDesk$Writer", "pushTerm", "(II)V"⟩, prog_12_method_6_code, 3, none, 11, false, jlk2 je_11_pushTerm_119, [])
def jm_11_writeTop_120 : jM := (⟨"GoalDesk$Writer", "writeTop", "()I"⟩, prog_12_method_4_code, 5, some FieldType.int, 11, false, jlk2 je_11_writeTop_120, [])
def jm_11_pushArguments_121 : jM := (⟨"GoalDesk$Writer", "pushArguments", "(II)V"⟩, prog_12_method_5_code, 5, none, 11, false, jlk2 je_11_pushArguments_121, [])
def jm_11_pushSign_122 : jM := (⟨"GoalDesk$Writer", "pushSign", "(I)V"⟩, prog_12_method_7_code, 2, none, 11, false, jlk2 je_11_pushSign_122, [])
def jm_11_characterAt_123 : jM := (⟨"GoalDesk$Writer", "characterAt", "(I)I"⟩, prog_12_method_2_code, 2, some FieldType.int, 11, false, jlk2 je_11_characterAt_123, [])
def jm_0_sleeping_124 : jM := (⟨"GoalDesk", "sleeping", "(I)I"⟩, prog_1_method_8_code, 3, some FieldType.int, 0, false, jlk2 je_0_sleeping_124, [])
def jm_7_sleepersOn_125 : jM := (⟨"GoalDesk$Store", "sleepersOn", "(I)I"⟩, prog_8_method_18_code, 5, some FieldType.int, 7, false, jlk2 je_7_sleepersOn_125, [])
def jm_12_init_126 : jM := (⟨"GoalDeskModel", "<init>", "()V"⟩, prog_14_method_1_code, 1, none, 12, true, jlk2 je_12_init_126, [])
def jm_12_thrown_127 : jM := (⟨"GoalDeskModel", "thrown", "()I"⟩, prog_14_method_2_code, 1, some FieldType.int, 12, false, jlk2 je_12_thrown_127, [])
def jm_12_type_128 : jM := (⟨"GoalDeskModel", "type", "(J)I"⟩, prog_14_method_6_code, 7, some FieldType.int, 12, false, jlk2 je_12_type_128, [])
def jm_12_in_129 : jM := (⟨"GoalDeskModel", "in", "(III)Z"⟩, prog_14_method_3_code, 3, some FieldType.boolean, 12, false, jlk2 je_12_in_129, [])
def jm_12_bad_130 : jM := (⟨"GoalDeskModel", "bad", "(Z)Z"⟩, prog_14_method_4_code, 2, some FieldType.boolean, 12, false, jlk2 je_12_bad_130, [])
def jm_12_fail_131 : jM := (⟨"GoalDeskModel", "fail", "(I)I"⟩, prog_14_method_5_code, 2, some FieldType.int, 12, false, jlk2 je_12_fail_131, [])
def jm_12_add_132 : jM := (⟨"GoalDeskModel", "add", "()I"⟩, prog_14_method_12_code, 3, some FieldType.int, 12, false, jlk2 je_12_add_132, [])
def jm_12_readClause_133 : jM := (⟨"GoalDeskModel", "readClause", "()Z"⟩, prog_14_method_11_code, 1, some FieldType.boolean, 12, false, jlk2 je_12_readClause_133, [])
def jm_12_readTerm_134 : jM := (⟨"GoalDeskModel", "readTerm", "(Z)Z"⟩, prog_14_method_9_code, 6, some FieldType.boolean, 12, false, jlk2 je_12_readTerm_134, [])
def jm_12_look_135 : jM := (⟨"GoalDeskModel", "look", "()I"⟩, prog_14_method_7_code, 1, some FieldType.int, 12, false, jlk2 je_12_look_135, [])
def jm_12_passes_136 : jM := (⟨"GoalDeskModel", "passes", "(I)Z"⟩, prog_14_method_8_code, 2, some FieldType.boolean, 12, false, jlk2 je_12_passes_136, [])
def jm_12_readGoals_137 : jM := (⟨"GoalDeskModel", "readGoals", "()Z"⟩, prog_14_method_10_code, 3, some FieldType.boolean, 12, false, jlk2 je_12_readGoals_137, [])
def jm_12_drop_138 : jM := (⟨"GoalDeskModel", "drop", "(I)V"⟩, prog_14_method_13_code, 4, none, 12, false, jlk2 je_12_drop_138, [])
def jm_12_ask_139 : jM := (⟨"GoalDeskModel", "ask", "()I"⟩, prog_14_method_42_code, 4, some FieldType.int, 12, false, jlk2 je_12_ask_139, [])
def jm_12_number_140 : jM := (⟨"GoalDeskModel", "number", "()V"⟩, prog_14_method_15_code, 3, none, 12, false, jlk2 je_12_number_140, [])
def jm_12_born_141 : jM := (⟨"GoalDeskModel", "born", "()I"⟩, prog_14_method_16_code, 2, some FieldType.int, 12, false, jlk2 je_12_born_141, [])
def jm_12_buildGoals_142 : jM := (⟨"GoalDeskModel", "buildGoals", "(II)I"⟩, prog_14_method_21_code, 9, some FieldType.int, 12, false, jlk2 je_12_buildGoals_142, [])
def jm_12_at_143 : jM := (⟨"GoalDeskModel", "at", "(I)I"⟩, prog_14_method_14_code, 2, some FieldType.int, 12, false, jlk2 je_12_at_143, [])
def jm_12_goal_144 : jM := (⟨"GoalDeskModel", "goal", "(IIIII)I"⟩, prog_14_method_20_code, 6, some FieldType.int, 12, false, jlk2 je_12_goal_144, [])
def jm_12_build_145 : jM := (⟨"GoalDeskModel", "build", "()I"⟩, prog_14_method_18_code, 4, some FieldType.int, 12, false, jlk2 je_12_build_145, [])
def jm_12_cell_146 : jM := (⟨"GoalDeskModel", "cell", "(I)I"⟩, prog_14_method_17_code, 2, some FieldType.int, 12, false, jlk2 je_12_cell_146, [])
def jm_12_hang_147 : jM := (⟨"GoalDeskModel", "hang", "(II)V"⟩, prog_14_method_19_code, 4, none, 12, false, jlk2 je_12_hang_147, [])
def jm_12_seek_148 : jM := (⟨"GoalDeskModel", "seek", "(Z)I"⟩, prog_14_method_41_code, 3, some FieldType.int, 12, false, jlk2 je_12_seek_148, [])
def jm_12_back_149 : jM := (⟨"GoalDeskModel", "back", "()Z"⟩, prog_14_method_36_code, 5, some FieldType.boolean, 12, false, jlk2 je_12_back_149, [])
def jm_12_nextFit_150 : jM := (⟨"GoalDeskModel", "nextFit", "(II)I"⟩, prog_14_method_33_code, 4, some FieldType.int, 12, false, jlk2 je_12_nextFit_150, [])
def jm_12_fits_151 : jM := (⟨"GoalDeskModel", "fits", "(II)Z"⟩, prog_14_method_32_code, 7, some FieldType.boolean, 12, false, jlk2 je_12_fits_151, [])
def jm_12_undo_152 : jM := (⟨"GoalDeskModel", "undo", "(I)V"⟩, prog_14_method_23_code, 5, none, 12, false, jlk2 je_12_undo_152, [])
def jm_12_take_153 : jM := (⟨"GoalDeskModel", "take", "(IIII)Z"⟩, prog_14_method_34_code, 8, some FieldType.boolean, 12, false, jlk2 je_12_take_153, [])
def jm_12_pair_154 : jM := (⟨"GoalDeskModel", "pair", "(II)V"⟩, prog_14_method_28_code, 3, none, 12, false, jlk2 je_12_pair_154, [])
def jm_12_unify_155 : jM := (⟨"GoalDeskModel", "unify", "(I)Z"⟩, prog_14_method_31_code, 5, some FieldType.boolean, 12, false, jlk2 je_12_unify_155, [])
def jm_12_same_156 : jM := (⟨"GoalDeskModel", "same", "()Z"⟩, prog_14_method_29_code, 7, some FieldType.boolean, 12, false, jlk2 je_12_same_156, [])
def jm_12_step_157 : jM := (⟨"GoalDeskModel", "step", "()Z"⟩, prog_14_method_25_code, 1, some FieldType.boolean, 12, false, jlk2 je_12_step_157, [])
def jm_12_value_158 : jM := (⟨"GoalDeskModel", "value", "(I)I"⟩, prog_14_method_24_code, 3, some FieldType.int, 12, false, jlk2 je_12_value_158, [])
def jm_12_tie_159 : jM := (⟨"GoalDeskModel", "tie", "(II)V"⟩, prog_14_method_26_code, 3, none, 12, false, jlk2 je_12_tie_159, [])
def jm_12_change_160 : jM := (⟨"GoalDeskModel", "change", "(II)V"⟩, prog_14_method_22_code, 3, none, 12, false, jlk2 je_12_change_160, [])
def jm_12_follow_161 : jM := (⟨"GoalDeskModel", "follow", "(III)V"⟩, prog_14_method_27_code, 4, none, 12, false, jlk2 je_12_follow_161, [])
def jm_12_test_162 : jM := (⟨"GoalDeskModel", "test", "(II)I"⟩, prog_14_method_30_code, 6, some FieldType.int, 12, false, jlk2 je_12_test_162, [])
def jm_12_perform_163 : jM := (⟨"GoalDeskModel", "perform", "(I)Z"⟩, prog_14_method_40_code, 5, some FieldType.boolean, 12, false, jlk2 je_12_perform_163, [])
def jm_12_call_164 : jM := (⟨"GoalDeskModel", "call", "(II)Z"⟩, prog_14_method_35_code, 6, some FieldType.boolean, 12, false, jlk2 je_12_call_164, [])
def jm_12_apart_165 : jM := (⟨"GoalDeskModel", "apart", "(III)Z"⟩, prog_14_method_37_code, 5, some FieldType.boolean, 12, false, jlk2 je_12_apart_165, [])
def jm_12_less_166 : jM := (⟨"GoalDeskModel", "less", "(III)Z"⟩, prog_14_method_38_code, 6, some FieldType.boolean, 12, false, jlk2 je_12_less_166, [])
def jm_12_sleep_167 : jM := (⟨"GoalDeskModel", "sleep", "(III)Z"⟩, prog_14_method_39_code, 5, some FieldType.boolean, 12, false, jlk2 je_12_sleep_167, [])
def jm_12_next_168 : jM := (⟨"GoalDeskModel", "next", "()I"⟩, prog_14_method_43_code, 2, some FieldType.int, 12, false, jlk2 je_12_next_168, [])
def jm_12_letter_169 : jM := (⟨"GoalDeskModel", "letter", "(II)I"⟩, prog_14_method_46_code, 3, some FieldType.int, 12, false, jlk2 je_12_letter_169, [])
def jm_12_write_170 : jM := (⟨"GoalDeskModel", "write", "(I)V"⟩, prog_14_method_45_code, 5, none, 12, false, jlk2 je_12_write_170, [])
def jm_12_put_171 : jM := (⟨"GoalDeskModel", "put", "(I)V"⟩, prog_14_method_44_code, 2, none, 12, false, jlk2 je_12_put_171, [])
def jm_12_sleeping_172 : jM := (⟨"GoalDeskModel", "sleeping", "(I)I"⟩, prog_14_method_47_code, 5, some FieldType.int, 12, false, jlk2 je_12_sleeping_172, [])
def jm_12_count_173 : jM := (⟨"GoalDeskModel", "count", "(I)I"⟩, prog_14_method_48_code, 4, some FieldType.int, 12, false, jlk2 je_12_count_173, [])
def jm_13_type_174 : jM := (⟨"GoalDeskLaw", "type", "(LGoalDesk;J[J)I"⟩, method_3_code, 5, some FieldType.int, 13, false, jlk2 je_13_type_174, [((0, 9, 12, 13), [12]), ((0, 9, 16, 15), [13])])
def jm_13_add_175 : jM := (⟨"GoalDeskLaw", "add", "(LGoalDesk;[J)I"⟩, method_4_code, 3, some FieldType.int, 13, false, jlk2 je_13_add_175, [((0, 8, 11, 13), [12]), ((0, 8, 14, 15), [13])])
def jm_13_drop_176 : jM := (⟨"GoalDeskLaw", "drop", "(LGoalDesk;I)I"⟩, method_5_code, 3, some FieldType.int, 13, false, jlk2 je_13_drop_176, [((0, 5, 8, 13), [12])])
def jm_13_ask_177 : jM := (⟨"GoalDeskLaw", "ask", "(LGoalDesk;[J)I"⟩, method_6_code, 3, some FieldType.int, 13, false, jlk2 je_13_ask_177, [((0, 8, 11, 13), [12]), ((0, 8, 14, 28), [15]), ((0, 8, 17, 15), [13]), ((0, 8, 20, 30), [14])])
def jm_13_next_178 : jM := (⟨"GoalDeskLaw", "next", "(LGoalDesk;[J)I"⟩, method_7_code, 3, some FieldType.int, 13, false, jlk2 je_13_next_178, [((0, 8, 11, 28), [15]), ((0, 8, 14, 15), [13]), ((0, 8, 17, 30), [14])])
def jm_13_letter_179 : jM := (⟨"GoalDeskLaw", "letter", "(LGoalDesk;II[J)I"⟩, method_8_code, 5, some FieldType.int, 13, false, jlk2 je_13_letter_179, [((0, 10, 13, 13), [12]), ((0, 10, 17, 28), [15])])
def jm_13_sleeping_180 : jM := (⟨"GoalDeskLaw", "sleeping", "(LGoalDesk;I[J)I"⟩, method_9_code, 4, some FieldType.int, 13, false, jlk2 je_13_sleeping_180, [((0, 9, 12, 13), [12])])
def jm_14_max_181 : jM := (⟨"java/lang/Math", "max", "(II)I"⟩, prog_21_method_65_code, 2, some FieldType.int, 14, false, jlk2 je_14_max_181, [])
def jm_14_min_182 : jM := (⟨"java/lang/Math", "min", "(II)I"⟩, prog_21_method_69_code, 2, some FieldType.int, 14, false, jlk2 je_14_min_182, [])
def jm_15_bitCount_183 : jM := (⟨"java/lang/Integer", "bitCount", "(I)I"⟩, prog_20_method_49_code, 1, some FieldType.int, 15, false, jlk2 je_15_bitCount_183, [])
def jm_16_copyOf_184 : jM := (⟨"java/util/Arrays", "copyOf", "([II)[I"⟩, prog_27_method_123_code, 3, some (FieldType.array FieldType.int), 16, false, jlk2 je_16_copyOf_184, [])
def jm_law : jM := (x, code, maxLocals, ret, 13, false, jlk2 je_law, [])
def jd_m : List (Nat × List (Nat × (jM × List Nat))) := [(14, [(0, (jm_0_init_0, [1030, 1001])), (1, (jm_9_init_1, [1038, 1002])), (2, (jm_1_init_2, [1052, 1003])), (3, (jm_8_init_3, [1058, 1004])), (4, (jm_5_init_4, [1085, 1006])), (5, (jm_2_init_5, [1104, 1007])), (6, (jm_7_init_6, [1120, 1008])), (7, (jm_3_init_7, [1147, 1009])), (8, (jm_10_init_8, [1155, 1010])), (9, (jm_6_init_9, [1202, 1011])), (10, (jm_11_init_10, [2000, 1012])), (11, (jm_0_count_11, [2064, 1001])), (12, (jm_9_length_12, [2068, 1002])), (13, (jm_2_size_13, [2072, 1007]))]),
  (28, [(14, (jm_6_choicesLeft_14, [2076, 1011])), (15, (jm_8_rows_15, [2080, 1004])), (16, (jm_7_apartsWaiting_16, [2084, 1008])), (17, (jm_7_isWaiting_17, [2089, 1008])), (18, (jm_8_at_18, [2093, 1004])), (19, (jm_7_variablesMade_19, [2097, 1008])), (20, (jm_0_type_20, [2106, 1001])), (21, (jm_0_byteOf_21, [2109, 1001])), (22, (jm_9_append_22, [2198, 1002])), (23, (jm_0_add_23, [2205, 1001])), (24, (jm_9_clear_24, [2209, 1002])), (25, (jm_2_freePage_25, [2214, 1007])), (26, (jm_2_page_26, [2218, 1007])), (27, (jm_5_readClause_27, [2222, 1006]))]),
  (42, [(28, (jm_5_begin_28, [2226, 1006])), (29, (jm_1_clearPage_29, [2230, 1003])), (30, (jm_8_put_30, [2234, 1004])), (31, (jm_1_firstNode_31, [3014, 1003])), (32, (jm_9_at_32, [3018, 1002])), (33, (jm_1_isSmall_33, [3021, 1003])), (34, (jm_5_readTerm_34, [3025, 1006])), (35, (jm_1_isCapital_35, [3028, 1003])), (36, (jm_1_isDigit_36, [3031, 1003])), (37, (jm_5_node_37, [3035, 1006])), (38, (jm_1_noteTerm_38, [3040, 1003])), (39, (jm_5_readSign_39, [3046, 1006])), (40, (jm_1_noteArgument_40, [3050, 1003])), (41, (jm_5_atEnd_41, [3054, 1006]))]),
  (56, [(42, (jm_5_readGoals_42, [3059, 1006])), (43, (jm_1_noteFirstGoal_43, [3063, 1003])), (44, (jm_5_readGoal_44, [3067, 1006])), (45, (jm_1_noteGoal_45, [3071, 1003])), (46, (jm_1_noteFollower_46, [3075, 1003])), (47, (jm_1_rankVariables_47, [3079, 1003])), (48, (jm_1_sign_48, [3083, 1003])), (49, (jm_5_place_49, [3093, 1006])), (50, (jm_2_keepFreePage_50, [3098, 1007])), (51, (jm_0_drop_51, [3105, 1001])), (52, (jm_2_remove_52, [3110, 1007])), (53, (jm_0_ask_53, [3119, 1001])), (54, (jm_5_readQuestion_54, [3123, 1006])), (55, (jm_6_begin_55, [3128, 1011]))]),
  (70, [(56, (jm_7_clear_56, [3132, 1008])), (57, (jm_8_shrink_57, [3136, 1004])), (58, (jm_3_clear_58, [3140, 1009])), (59, (jm_7_makeVariables_59, [3146, 1008])), (60, (jm_1_variablesOf_60, [3150, 1003])), (61, (jm_8_append_61, [3154, 1004])), (62, (jm_1_firstGoal_62, [3158, 1003])), (63, (jm_6_seek_63, [3165, 1011])), (64, (jm_6_doGoal_64, [3173, 1011])), (65, (jm_3_takeStep_65, [3177, 1009])), (66, (jm_1_follower_66, [3184, 1003])), (67, (jm_1_kind_67, [3188, 1003])), (68, (jm_1_right_68, [3192, 1003])), (69, (jm_3_pushPair_69, [3196, 1009]))]),
  (84, [(70, (jm_7_letWait_70, [3203, 1008])), (71, (jm_6_doLess_71, [3209, 1011])), (72, (jm_7_find_72, [3213, 1008])), (73, (jm_1_rank_73, [3217, 1003])), (74, (jm_6_doSleep_74, [3227, 1011])), (75, (jm_6_putInFront_75, [3231, 1011])), (76, (jm_7_putToSleep_76, [3235, 1008])), (77, (jm_7_join_77, [3239, 1008])), (78, (jm_7_lastSleeper_78, [4003, 1008])), (79, (jm_6_doCall_79, [4008, 1011])), (80, (jm_2_find_80, [4012, 1007])), (81, (jm_1_alike_81, [4018, 1003])), (82, (jm_1_arity_82, [4022, 1003])), (83, (jm_6_leaveChoice_83, [4027, 1011]))]),
  (98, [(84, (jm_7_changes_84, [4031, 1008])), (85, (jm_7_variables_85, [4036, 1008])), (86, (jm_7_sleepers_86, [4040, 1008])), (87, (jm_7_aparts_87, [4044, 1008])), (88, (jm_6_take_88, [4048, 1011])), (89, (jm_3_pushArguments_89, [4054, 1009])), (90, (jm_1_argument_90, [4059, 1003])), (91, (jm_3_makeSame_91, [4063, 1009])), (92, (jm_3_goThroughPairs_92, [4068, 1009])), (93, (jm_7_bind_93, [4077, 1008])), (94, (jm_7_firstSleeper_94, [4081, 1008])), (95, (jm_3_wake_95, [4087, 1009])), (96, (jm_7_sleeperBehind_96, [4092, 1008])), (97, (jm_3_testAparts_97, [4103, 1009]))]),
  (112, [(98, (jm_3_testApart_98, [4109, 1009])), (99, (jm_7_apartGoal_99, [4113, 1008])), (100, (jm_7_apartEnv_100, [4117, 1008])), (101, (jm_7_goBack_101, [4123, 1008])), (102, (jm_7_undo_102, [4127, 1008])), (103, (jm_7_settle_103, [4131, 1008])), (104, (jm_6_putWokenInFront_104, [4139, 1011])), (105, (jm_3_wokenGoals_105, [4143, 1009])), (106, (jm_3_wokenGoal_106, [4147, 1009])), (107, (jm_7_sleeperGoal_107, [4151, 1008])), (108, (jm_7_sleeperEnv_108, [4155, 1008])), (109, (jm_6_retry_109, [4159, 1011])), (110, (jm_7_forget_110, [4166, 1008])), (111, (jm_0_conclude_111, [4170, 1001]))]),
  (126, [(112, (jm_3_stepsTaken_112, [4175, 1009])), (113, (jm_0_next_113, [4217, 1001])), (114, (jm_0_letter_114, [4226, 1001])), (115, (jm_0_isVariableName_115, [4229, 1001])), (116, (jm_0_questionNode_116, [4234, 1001])), (117, (jm_1_nodeWithSign_117, [4238, 1003])), (118, (jm_11_write_118, [5003, 1012])), (119, (jm_11_pushTerm_119, [5008, 1012])), (120, (jm_11_writeTop_120, [5014, 1012])), (121, (jm_11_pushArguments_121, [5020, 1012])), (122, (jm_11_pushSign_122, [5025, 1012])), (123, (jm_11_characterAt_123, [5032, 1012])), (124, (jm_0_sleeping_124, [5039, 1001])), (125, (jm_7_sleepersOn_125, [5044, 1008]))]),
  (140, [(126, (jm_12_init_126, [5051, 1013])), (127, (jm_12_thrown_127, [6010, 1013])), (128, (jm_12_type_128, [6014, 1013])), (129, (jm_12_in_129, [6017, 1013])), (130, (jm_12_bad_130, [6021, 1013])), (131, (jm_12_fail_131, [6025, 1013])), (132, (jm_12_add_132, [6029, 1013])), (133, (jm_12_readClause_133, [6033, 1013])), (134, (jm_12_readTerm_134, [6037, 1013])), (135, (jm_12_look_135, [6041, 1013])), (136, (jm_12_passes_136, [6045, 1013])), (137, (jm_12_readGoals_137, [6049, 1013])), (138, (jm_12_drop_138, [6053, 1013])), (139, (jm_12_ask_139, [6057, 1013]))]),
  (154, [(140, (jm_12_number_140, [6061, 1013])), (141, (jm_12_born_141, [6065, 1013])), (142, (jm_12_buildGoals_142, [6070, 1013])), (143, (jm_12_at_143, [6074, 1013])), (144, (jm_12_goal_144, [6078, 1013])), (145, (jm_12_build_145, [6082, 1013])), (146, (jm_12_cell_146, [6086, 1013])), (147, (jm_12_hang_147, [6090, 1013])), (148, (jm_12_seek_148, [6094, 1013])), (149, (jm_12_back_149, [6098, 1013])), (150, (jm_12_nextFit_150, [6102, 1013])), (151, (jm_12_fits_151, [6106, 1013])), (152, (jm_12_undo_152, [6110, 1013])), (153, (jm_12_take_153, [6114, 1013]))]),
  (168, [(154, (jm_12_pair_154, [6118, 1013])), (155, (jm_12_unify_155, [6122, 1013])), (156, (jm_12_same_156, [6126, 1013])), (157, (jm_12_step_157, [6130, 1013])), (158, (jm_12_value_158, [6134, 1013])), (159, (jm_12_tie_159, [6138, 1013])), (160, (jm_12_change_160, [6142, 1013])), (161, (jm_12_follow_161, [6146, 1013])), (162, (jm_12_test_162, [6150, 1013])), (163, (jm_12_perform_163, [6154, 1013])), (164, (jm_12_call_164, [6158, 1013])), (165, (jm_12_apart_165, [6162, 1013])), (166, (jm_12_less_166, [6166, 1013])), (167, (jm_12_sleep_167, [6170, 1013]))]),
  (182, [(168, (jm_12_next_168, [6174, 1013])), (169, (jm_12_letter_169, [6178, 1013])), (170, (jm_12_write_170, [6182, 1013])), (171, (jm_12_put_171, [6187, 1013])), (172, (jm_12_sleeping_172, [6193, 1013])), (173, (jm_12_count_173, [6197, 1013])), (174, (jm_13_type_174, [2100, 1000])), (175, (jm_13_add_175, [2201, 1000])), (176, (jm_13_drop_176, [3101, 1000])), (177, (jm_13_ask_177, [3113, 1000])), (178, (jm_13_next_178, [4213, 1000])), (179, (jm_13_letter_179, [4222, 1000])), (180, (jm_13_sleeping_180, [5035, 1000])), (181, (jm_14_max_181, [1062, 1005]))]),
  (1000000000, [(182, (jm_14_min_182, [3008, 1005])), (183, (jm_15_bitCount_183, [3086, 1021])), (184, (jm_16_copyOf_184, [2238, 1019]))])]
def jt_m (z : Nat) : Option jM := (jlk2 jd_m z).map (fun q => q.1)
def jT0 : jT := ((fun c i => bif Nat.blt i 1000 then (jlk2 jd_f (c * 1000 + i)).map (fun q => q.1) else none, fun c i => bif Nat.blt i 1000 then (jlk2 jd_n (c * 1000 + i)).map (fun q => q.1) else none, fun c i => bif Nat.blt i 1000 then (jlk2 jd_s (c * 1000 + i)).map (fun q => .ref q.1) else none, fun c i => bif Nat.blt i 1000 then (jlk2 jd_c (c * 1000 + i)).map (fun q => q.1) else none), fun c i => bif Nat.blt i 1000 then (jlk2 jd_l (c * 1000 + i)).map (fun q => q.1) else none, jt_m, fun c i j => bif Nat.beq c 0 then (bif Nat.blt j 1000 then (jlk jd_x (i * 1000 + j)).map (fun q => q.1) else none) else none)
def jfl_0 : List (String × String × String × Bool) := [("GoalDesk$Book", "nodes", "LGoalDesk$Table;", true), ("GoalDesk$Book", "pages", "LGoalDesk$Table;", true)]
def jfl_1 : List (String × String × String × Bool) := [("GoalDesk$Clauses", "book", "LGoalDesk$Book;", true), ("GoalDesk$Clauses", "pages", "[I", true), ("GoalDesk$Clauses", "size", "I", false)]
def jfl_2 : List (String × String × String × Bool) := [("GoalDesk$Matcher", "book", "LGoalDesk$Book;", true), ("GoalDesk$Matcher", "store", "LGoalDesk$Store;", true), ("GoalDesk$Matcher", "pairs", "LGoalDesk$Table;", true), ("GoalDesk$Matcher", "woken", "LGoalDesk$Table;", true), ("GoalDesk$Matcher", "first", "LGoalDesk$Value;", true), ("GoalDesk$Matcher", "second", "LGoalDesk$Value;", true), ("GoalDesk$Matcher", "steps", "I", false)]
def jfl_3 : List (String × String × String × Bool) := [("GoalDesk$Reader", "book", "LGoalDesk$Book;", true), ("GoalDesk$Reader", "text", "LGoalDesk$Text;", true), ("GoalDesk$Reader", "page", "I", false), ("GoalDesk$Reader", "at", "I", false)]
def jfl_4 : List (String × String × String × Bool) := [("GoalDesk$Search", "book", "LGoalDesk$Book;", true), ("GoalDesk$Search", "clauses", "LGoalDesk$Clauses;", true), ("GoalDesk$Search", "store", "LGoalDesk$Store;", true), ("GoalDesk$Search", "matcher", "LGoalDesk$Matcher;", true), ("GoalDesk$Search", "cells", "LGoalDesk$Table;", true), ("GoalDesk$Search", "choices", "LGoalDesk$Table;", true), ("GoalDesk$Search", "left", "LGoalDesk$Value;", true), ("GoalDesk$Search", "right", "LGoalDesk$Value;", true), ("GoalDesk$Search", "toDo", "I", false)]
def jfl_5 : List (String × String × String × Bool) := [("GoalDesk$Store", "book", "LGoalDesk$Book;", true), ("GoalDesk$Store", "variables", "LGoalDesk$Table;", true), ("GoalDesk$Store", "sleepers", "LGoalDesk$Table;", true), ("GoalDesk$Store", "aparts", "LGoalDesk$Table;", true), ("GoalDesk$Store", "trail", "LGoalDesk$Table;", true), ("GoalDesk$Store", "made", "I", false)]
def jfl_6 : List (String × String × String × Bool) := [("GoalDesk$Table", "width", "I", true), ("GoalDesk$Table", "items", "[I", false), ("GoalDesk$Table", "rows", "I", false)]
def jfl_7 : List (String × String × String × Bool) := [("GoalDesk$Text", "characters", "[C", true), ("GoalDesk$Text", "length", "I", false)]
def jfl_8 : List (String × String × String × Bool) := [("GoalDesk$Value", "node", "I", false), ("GoalDesk$Value", "env", "I", false), ("GoalDesk$Value", "variable", "I", false)]
def jfl_9 : List (String × String × String × Bool) := [("GoalDesk$Writer", "book", "LGoalDesk$Book;", true), ("GoalDesk$Writer", "store", "LGoalDesk$Store;", true), ("GoalDesk$Writer", "written", "[C", true), ("GoalDesk$Writer", "pending", "LGoalDesk$Table;", true), ("GoalDesk$Writer", "value", "LGoalDesk$Value;", true)]
def jfl_10 : List (String × String × String × Bool) := [("GoalDesk", "text", "LGoalDesk$Text;", true), ("GoalDesk", "book", "LGoalDesk$Book;", true), ("GoalDesk", "reader", "LGoalDesk$Reader;", true), ("GoalDesk", "clauses", "LGoalDesk$Clauses;", true), ("GoalDesk", "store", "LGoalDesk$Store;", true), ("GoalDesk", "matcher", "LGoalDesk$Matcher;", true), ("GoalDesk", "search", "LGoalDesk$Search;", true), ("GoalDesk", "writer", "LGoalDesk$Writer;", true), ("GoalDesk", "value", "LGoalDesk$Value;", true), ("GoalDesk", "place", "I", false), ("GoalDesk", "asked", "Z", false), ("GoalDesk", "answers", "I", false)]
def jfl_11 : List (String × String × String × Bool) := [("GoalDeskModel", "text", "[I", true), ("GoalDeskModel", "clause", "[I", true), ("GoalDeskModel", "clauseSize", "[I", true), ("GoalDeskModel", "open", "[I", true), ("GoalDeskModel", "many", "[I", true), ("GoalDeskModel", "map", "[I", true), ("GoalDeskModel", "question", "[I", true), ("GoalDeskModel", "size", "I", false), ("GoalDeskModel", "clauses", "I", false), ("GoalDeskModel", "place", "I", false), ("GoalDeskModel", "pos", "I", false), ("GoalDeskModel", "thrown", "I", false), ("GoalDeskModel", "source", "I", false), ("GoalDeskModel", "sourceEnd", "I", false), ("GoalDeskModel", "sign", "[I", true), ("GoalDeskModel", "count", "[I", true), ("GoalDeskModel", "argument", "[I", true), ("GoalDeskModel", "bind", "[I", true), ("GoalDeskModel", "head", "[I", true), ("GoalDeskModel", "tail", "[I", true), ("GoalDeskModel", "kind", "[I", true), ("GoalDeskModel", "left", "[I", true), ("GoalDeskModel", "right", "[I", true), ("GoalDeskModel", "barrier", "[I", true), ("GoalDeskModel", "next", "[I", true), ("GoalDeskModel", "cells", "I", false), ("GoalDeskModel", "variables", "I", false), ("GoalDeskModel", "born", "I", false), ("GoalDeskModel", "goals", "I", false), ("GoalDeskModel", "todo", "I", false), ("GoalDeskModel", "steps", "I", false), ("GoalDeskModel", "answers", "I", false), ("GoalDeskModel", "trail", "I", false), ("GoalDeskModel", "choices", "I", false), ("GoalDeskModel", "sleepers", "I", false), ("GoalDeskModel", "aparts", "I", false), ("GoalDeskModel", "pairs", "I", false), ("GoalDeskModel", "wokenCount", "I", false), ("GoalDeskModel", "asked", "Z", false), ("GoalDeskModel", "bound", "Z", false), ("GoalDeskModel", "trying", "Z", false), ("GoalDeskModel", "trailAt", "[I", true), ("GoalDeskModel", "trailOld", "[I", true), ("GoalDeskModel", "sleepGoal", "[I", true), ("GoalDeskModel", "sleepNext", "[I", true), ("GoalDeskModel", "apartLeft", "[I", true), ("GoalDeskModel", "apartRight", "[I", true), ("GoalDeskModel", "apartGone", "[I", true), ("GoalDeskModel", "pairLeft", "[I", true), ("GoalDeskModel", "pairRight", "[I", true), ("GoalDeskModel", "woken", "[I", true), ("GoalDeskModel", "order", "[I", true), ("GoalDeskModel", "cCall", "[I", true), ("GoalDeskModel", "cClause", "[I", true), ("GoalDeskModel", "cTodo", "[I", true), ("GoalDeskModel", "cCells", "[I", true), ("GoalDeskModel", "cVariables", "[I", true), ("GoalDeskModel", "cGoals", "[I", true), ("GoalDeskModel", "cTrail", "[I", true), ("GoalDeskModel", "cSleepers", "[I", true), ("GoalDeskModel", "cAparts", "[I", true), ("GoalDeskModel", "written", "[I", true), ("GoalDeskModel", "pile", "[I", true), ("GoalDeskModel", "writtenSize", "I", false)]
def jU (l : List (String × String × String × Bool)) : u_T := fun k => l.getD k ("", "", "", false)
def cl0 : List vw_C := [("GoalDesk$Book", jU jfl_0, 2), ("GoalDesk$Clauses", jU jfl_1, 3), ("GoalDesk$Matcher", jU jfl_2, 7), ("GoalDesk$Reader", jU jfl_3, 4), ("GoalDesk$Search", jU jfl_4, 9), ("GoalDesk$Store", jU jfl_5, 6), ("GoalDesk$Table", jU jfl_6, 3), ("GoalDesk$Text", jU jfl_7, 2), ("GoalDesk$Value", jU jfl_8, 3), ("GoalDesk$Writer", jU jfl_9, 5), ("GoalDesk", jU jfl_10, 12), ("GoalDeskModel", jU jfl_11, 64), ("java/lang/IllegalArgumentException", jU [], 0), ("java/lang/IllegalStateException", jU [], 0), ("java/lang/UnsupportedOperationException", jU [], 0), ("java/util/NoSuchElementException", jU [], 0)]
def jown (c : Nat) : String := (["GoalDesk", "GoalDesk$Book", "GoalDesk$Clauses", "GoalDesk$Matcher", "GoalDesk$Outcome", "GoalDesk$Reader", "GoalDesk$Search", "GoalDesk$Store", "GoalDesk$Table", "GoalDesk$Text", "GoalDesk$Value", "GoalDesk$Writer", "GoalDeskModel", "GoalDeskLaw", "java/lang/Math", "java/lang/Integer", "java/util/Arrays"] : List String).getD c ""
abbrev jK0 : Nat := 24
end
section
/-! the heap: scalars s (by 100 * address + slot), arrays A (by address), the tables' arrays it, B and what has been made: B from 106 on, n cells -/
def hpre (L : Nat) (xs : Nat → Int32) (ow : Int64) (s : Nat → Int32) (A : Nat → Nat → Int32) (it : Nat → Nat) (B : Nat → jC) : jH :=
  [.inl (.int, L, .inl xs),
   .inr (98, []),
   .inr (98, []),
   .inr (98, []),
   .inr (98, []),
   .inr (98, []),
   .inr (98, []),
   .inr (98, []),
   .inr (98, []),
   .inr (98, []),
   .inr (98, []),
   .inr (99, []),
   .inr (99, []),
   .inr (99, []),
   .inr (99, []),
   .inr (99, []),
   .inr (99, []),
   .inr (99, []),
   .inr (99, []),
   .inr (99, []),
   .inr (99, []),
   .inr (99, []),
   .inr (99, []),
   .inr (99, []),
   .inr (10, [.ref 25, .ref 27, .ref 32, .ref 33, .ref 35, .ref 44, .ref 51, .ref 58, .ref 63, .int (s 2409), .int (s 2410), .int (s 2411)]),
   .inr (7, [.ref 26, .int (s 2501)]),
   .inl (.char, 48, .inl (A 26)),
   .inr (0, [.ref 28, .ref 30]),
   .inr (6, [.int 9, .ref (it 28), .int (s 2802)]),
   B 29,
   .inr (6, [.int 4, .ref (it 30), .int (s 3002)]),
   B 31,
   .inr (3, [.ref 27, .ref 25, .int (s 3202), .int (s 3203)]),
   .inr (1, [.ref 27, .ref 34, .int (s 3302)]),
   .inl (.int, 12, .inl (A 34)),
   .inr (5, [.ref 27, .ref 36, .ref 38, .ref 40, .ref 42, .int (s 3505)]),
   .inr (6, [.int 4, .ref (it 36), .int (s 3602)]),
   B 37,
   .inr (6, [.int 4, .ref (it 38), .int (s 3802)]),
   B 39,
   .inr (6, [.int 4, .ref (it 40), .int (s 4002)]),
   B 41,
   .inr (6, [.int 4, .ref (it 42), .int (s 4202)]),
   B 43,
   .inr (2, [.ref 27, .ref 35, .ref 45, .ref 47, .ref 49, .ref 50, .int (s 4406)]),
   .inr (6, [.int 4, .ref (it 45), .int (s 4502)]),
   B 46,
   .inr (6, [.int 4, .ref (it 47), .int (s 4702)]),
   B 48,
   .inr (8, [.int (s 4900), .int (s 4901), .int (s 4902)]),
   .inr (8, [.int (s 5000), .int (s 5001), .int (s 5002)]),
   .inr (4, [.ref 27, .ref 33, .ref 35, .ref 44, .ref 52, .ref 54, .ref 56, .ref 57, .int (s 5108)]),
   .inr (6, [.int 4, .ref (it 52), .int (s 5202)]),
   B 53,
   .inr (6, [.int 9, .ref (it 54), .int (s 5402)]),
   B 55,
   .inr (8, [.int (s 5600), .int (s 5601), .int (s 5602)]),
   .inr (8, [.int (s 5700), .int (s 5701), .int (s 5702)]),
   .inr (9, [.ref 27, .ref 35, .ref 59, .ref 60, .ref 62]),
   .inl (.char, 80, .inl (A 59)),
   .inr (6, [.int 4, .ref (it 60), .int (s 6002)]),
   B 61,
   .inr (8, [.int (s 6200), .int (s 6201), .int (s 6202)]),
   .inr (8, [.int (s 6300), .int (s 6301), .int (s 6302)]),
   .inr (11, [.ref 65, .ref 66, .ref 67, .ref 68, .ref 69, .ref 70, .ref 71, .int (s 6407), .int (s 6408), .int (s 6409), .int (s 6410), .int (s 6411), .int (s 6412), .int (s 6413), .ref 72, .ref 73, .ref 74, .ref 75, .ref 76, .ref 77, .ref 78, .ref 79, .ref 80, .ref 81, .ref 82, .int (s 6425), .int (s 6426), .int (s 6427), .int (s 6428), .int (s 6429), .int (s 6430), .int (s 6431), .int (s 6432), .int (s 6433), .int (s 6434), .int (s 6435), .int (s 6436), .int (s 6437), .int (s 6438), .int (s 6439), .int (s 6440), .ref 83, .ref 84, .ref 85, .ref 86, .ref 87, .ref 88, .ref 89, .ref 90, .ref 91, .ref 92, .ref 93, .ref 94, .ref 95, .ref 96, .ref 97, .ref 98, .ref 99, .ref 100, .ref 101, .ref 102, .ref 103, .ref 104, .int (s 6463)]),
   .inl (.int, 48, .inl (A 65)),
   .inl (.int, 624, .inl (A 66)),
   .inl (.int, 12, .inl (A 67)),
   .inl (.int, 8, .inl (A 68)),
   .inl (.int, 8, .inl (A 69)),
   .inl (.int, 26, .inl (A 70)),
   .inl (.int, 26, .inl (A 71)),
   .inl (.int, 24000, .inl (A 72)),
   .inl (.int, 24000, .inl (A 73)),
   .inl (.int, 72000, .inl (A 74)),
   .inl (.int, 13000, .inl (A 75)),
   .inl (.int, 13000, .inl (A 76)),
   .inl (.int, 13000, .inl (A 77)),
   .inl (.int, 14000, .inl (A 78)),
   .inl (.int, 14000, .inl (A 79)),
   .inl (.int, 14000, .inl (A 80)),
   .inl (.int, 14000, .inl (A 81)),
   .inl (.int, 14000, .inl (A 82)),
   .inl (.int, 6000, .inl (A 83)),
   .inl (.int, 6000, .inl (A 84)),
   .inl (.int, 1200, .inl (A 85)),
   .inl (.int, 1200, .inl (A 86)),
   .inl (.int, 600, .inl (A 87)),
   .inl (.int, 600, .inl (A 88)),
   .inl (.int, 600, .inl (A 89)),
   .inl (.int, 2200, .inl (A 90)),
   .inl (.int, 2200, .inl (A 91)),
   .inl (.int, 600, .inl (A 92)),
   .inl (.int, 1200, .inl (A 93)),
   .inl (.int, 600, .inl (A 94)),
   .inl (.int, 600, .inl (A 95)),
   .inl (.int, 600, .inl (A 96)),
   .inl (.int, 600, .inl (A 97)),
   .inl (.int, 600, .inl (A 98)),
   .inl (.int, 600, .inl (A 99)),
   .inl (.int, 600, .inl (A 100)),
   .inl (.int, 600, .inl (A 101)),
   .inl (.int, 600, .inl (A 102)),
   .inl (.int, 80, .inl (A 103)),
   .inl (.int, 800, .inl (A 104)),
   .inl (.long, 1, .inr (.inl (fun _ => ow)))]
def htl (B : Nat → jC) (n : Nat) : jH := (List.range n).map (fun i => B (106 + i))
def hp (L : Nat) (xs : Nat → Int32) (ow : Int64) (s : Nat → Int32) (A : Nat → Nat → Int32) (it : Nat → Nat) (B : Nat → jC) (n : Nat) : jH := hpre L xs ow s A it B ++ htl B n
end
section
/-! the tables agree with the claim's words: by program -/
def TB0 : List Jvm.Cond := lw_tbl.filter goodWord
def jw (p : Nat) : Option Jvm.Cond := (match p / 1000 with
  | 0 => k2_sels lw_privs
  | 1 => tables_1_1
  | 2 => tables_1_2
  | 3 => tables_1_3
  | 4 => tables_1_4
  | 5 => tables_1_5
  | _ => tables_1_6)[p % 1000]?
theorem jw_mem {p : Nat} {w : Jvm.Cond} (h : jw p = some w) : w ∈ lw_tbl := by
  unfold jw at h
  have hm := List.mem_of_getElem? h
  unfold lw_tbl tables_1
  simp only [List.mem_append]
  split at hm <;> simp [hm]
def jIn (p : Nat) (w : Jvm.Cond) : Bool := decide (jw p = some w) && goodWord w
theorem jIn_ok {p : Nat} {w : Jvm.Cond} (h : jIn p w = true) : w ∈ TB0 := by
  unfold jIn at h
  rw [Bool.and_eq_true, decide_eq_true_eq] at h
  exact List.mem_filter.mpr ⟨jw_mem h.1, h.2⟩
def jkind (kd : Nat) (d : String) : Bool := match parseFieldDescriptor d with
  | some .int => kd == 0
  | some (.object _) => kd == 1
  | some (.array _) => kd == 1
  | some .boolean => kd == 2
  | some .long => kd == 3
  | _ => false
def jcF (e : Nat × ((Nat × Nat × Nat) × Nat)) : Bool := match cl0[e.2.1.1]? with
  | none => false
  | some (_, T, N) => decide (e.2.1.2.1 < N) && (jIn e.2.2 (.fieldLink (jown (e.1 / 1000)) (e.1 % 1000) (T e.2.1.2.1).1 (T e.2.1.2.1).2.1 (T e.2.1.2.1).2.2.1) || (decide (e.2.1.2.2 < 10) && decide (jw e.2.2 = some (Jvm.Cond.fieldLinkNest (jown (e.1 / 1000)) (e.1 % 1000) (T e.2.1.2.1).1 (T e.2.1.2.1).2.1 (T e.2.1.2.1).2.2.1 "GoalDesk")))) &&
      (if e.2.1.2.2 < 10 then (T e.2.1.2.1).2.2.2 == false else ((T e.2.1.2.1).2.2.2 && (T e.2.1.2.1).1 == jown (e.1 / 1000))) && jkind (e.2.1.2.2 % 10) (T e.2.1.2.1).2.2.1
set_option maxRecDepth 20000 in
theorem jcF_ok : (jd_f.flatMap (fun q => q.2)).all jcF = true := by decide +kernel
end
section
def jdecOK (M : jM) : Prop := ∀ pc i len, M.2.2.2.2.2.2.1 pc = some (i, len) → decode M.2.1 pc = .ok (i, len)
theorem jdec_of {b : ByteArray} {d : List (Nat × List (Nat × (Instr × Nat)))} (h : ∀ q ∈ d.flatMap (fun q => q.2), decode b q.1 = .ok q.2) {pc : Nat} {i : Instr} {len : Nat} (hq : jlk2 d pc = some (i, len)) : decode b pc = .ok (i, len) := h (pc, (i, len)) (jlk2_mem hq)
set_option maxRecDepth 20000 in
theorem jdd_0_init_0 : jdecOK jm_0_init_0 := fun _ _ _ h => jdec_of (b := prog_1_method_1_code) (d := je_0_init_0) (by decide +kernel) h
set_option maxRecDepth 20000 in
theorem jdd_9_init_1 : jdecOK jm_9_init_1 := fun _ _ _ h => jdec_of (b := prog_10_method_1_code) (d := je_9_init_1) (by decide +kernel) h
set_option maxRecDepth 20000 in
theorem jdd_1_init_2 : jdecOK jm_1_init_2 := fun _ _ _ h => jdec_of (b := prog_2_method_1_code) (d := je_1_init_2) (by decide +kernel) h
set_option maxRecDepth 20000 in
theorem jdd_8_init_3 : jdecOK jm_8_init_3 := fun _ _ _ h => jdec_of (b := prog_9_method_1_code) (d := je_8_init_3) (by decide +kernel) h
set_option maxRecDepth 20000 in
theorem jdd_5_init_4 : jdecOK jm_5_init_4 := fun _ _ _ h => jdec_of (b := prog_6_method_1_code) (d := je_5_init_4) (by decide +kernel) h
set_option maxRecDepth 20000 in
theorem jdd_2_init_5 : jdecOK jm_2_init_5 := fun _ _ _ h => jdec_of (b := prog_3_method_1_code) (d := je_2_init_5) (by decide +kernel) h
set_option maxRecDepth 20000 in
theorem jdd_7_init_6 : jdecOK jm_7_init_6 := fun _ _ _ h => jdec_of (b := prog_8_method_1_code) (d := je_7_init_6) (by decide +kernel) h
set_option maxRecDepth 20000 in
theorem jdd_3_init_7 : jdecOK jm_3_init_7 := fun _ _ _ h => jdec_of (b := prog_4_method_1_code) (d := je_3_init_7) (by decide +kernel) h
set_option maxRecDepth 20000 in
theorem jdd_10_init_8 : jdecOK jm_10_init_8 := fun _ _ _ h => jdec_of (b := prog_11_method_1_code) (d := je_10_init_8) (by decide +kernel) h
set_option maxRecDepth 20000 in
theorem jdd_6_init_9 : jdecOK jm_6_init_9 := fun _ _ _ h => jdec_of (b := prog_7_method_1_code) (d := je_6_init_9) (by decide +kernel) h
set_option maxRecDepth 20000 in
theorem jdd_11_init_10 : jdecOK jm_11_init_10 := fun _ _ _ h => jdec_of (b := prog_12_method_1_code) (d := je_11_init_10) (by decide +kernel) h
set_option maxRecDepth 20000 in
theorem jdd_0_count_11 : jdecOK jm_0_count_11 := fun _ _ _ h => jdec_of (b := prog_1_method_9_code) (d := je_0_count_11) (by decide +kernel) h
set_option maxRecDepth 20000 in
theorem jdd_9_length_12 : jdecOK jm_9_length_12 := fun _ _ _ h => jdec_of (b := prog_10_method_2_code) (d := je_9_length_12) (by decide +kernel) h
set_option maxRecDepth 20000 in
theorem jdd_2_size_13 : jdecOK jm_2_size_13 := fun _ _ _ h => jdec_of (b := prog_3_method_2_code) (d := je_2_size_13) (by decide +kernel) h
set_option maxRecDepth 20000 in
theorem jdd_6_choicesLeft_14 : jdecOK jm_6_choicesLeft_14 := fun _ _ _ h => jdec_of (b := prog_7_method_2_code) (d := je_6_choicesLeft_14) (by decide +kernel) h
set_option maxRecDepth 20000 in
theorem jdd_8_rows_15 : jdecOK jm_8_rows_15 := fun _ _ _ h => jdec_of (b := prog_9_method_2_code) (d := je_8_rows_15) (by decide +kernel) h
set_option maxRecDepth 20000 in
theorem jdd_7_apartsWaiting_16 : jdecOK jm_7_apartsWaiting_16 := fun _ _ _ h => jdec_of (b := prog_8_method_24_code) (d := je_7_apartsWaiting_16) (by decide +kernel) h
set_option maxRecDepth 20000 in
theorem jdd_7_isWaiting_17 : jdecOK jm_7_isWaiting_17 := fun _ _ _ h => jdec_of (b := prog_8_method_20_code) (d := je_7_isWaiting_17) (by decide +kernel) h
set_option maxRecDepth 20000 in
theorem jdd_8_at_18 : jdecOK jm_8_at_18 := fun _ _ _ h => jdec_of (b := prog_9_method_3_code) (d := je_8_at_18) (by decide +kernel) h
set_option maxRecDepth 20000 in
theorem jdd_7_variablesMade_19 : jdecOK jm_7_variablesMade_19 := fun _ _ _ h => jdec_of (b := prog_8_method_3_code) (d := je_7_variablesMade_19) (by decide +kernel) h
set_option maxRecDepth 20000 in
theorem jdd_0_type_20 : jdecOK jm_0_type_20 := fun _ _ _ h => jdec_of (b := prog_1_method_2_code) (d := je_0_type_20) (by decide +kernel) h
set_option maxRecDepth 20000 in
theorem jdd_0_byteOf_21 : jdecOK jm_0_byteOf_21 := fun _ _ _ h => jdec_of (b := prog_1_method_10_code) (d := je_0_byteOf_21) (by decide +kernel) h
set_option maxRecDepth 20000 in
theorem jdd_9_append_22 : jdecOK jm_9_append_22 := fun _ _ _ h => jdec_of (b := prog_10_method_4_code) (d := je_9_append_22) (by decide +kernel) h
set_option maxRecDepth 20000 in
theorem jdd_0_add_23 : jdecOK jm_0_add_23 := fun _ _ _ h => jdec_of (b := prog_1_method_3_code) (d := je_0_add_23) (by decide +kernel) h
set_option maxRecDepth 20000 in
theorem jdd_9_clear_24 : jdecOK jm_9_clear_24 := fun _ _ _ h => jdec_of (b := prog_10_method_5_code) (d := je_9_clear_24) (by decide +kernel) h
set_option maxRecDepth 20000 in
theorem jdd_2_freePage_25 : jdecOK jm_2_freePage_25 := fun _ _ _ h => jdec_of (b := prog_3_method_4_code) (d := je_2_freePage_25) (by decide +kernel) h
set_option maxRecDepth 20000 in
theorem jdd_2_page_26 : jdecOK jm_2_page_26 := fun _ _ _ h => jdec_of (b := prog_3_method_3_code) (d := je_2_page_26) (by decide +kernel) h
set_option maxRecDepth 20000 in
theorem jdd_5_readClause_27 : jdecOK jm_5_readClause_27 := fun _ _ _ h => jdec_of (b := prog_6_method_3_code) (d := je_5_readClause_27) (by decide +kernel) h
set_option maxRecDepth 20000 in
theorem jdd_5_begin_28 : jdecOK jm_5_begin_28 := fun _ _ _ h => jdec_of (b := prog_6_method_5_code) (d := je_5_begin_28) (by decide +kernel) h
set_option maxRecDepth 20000 in
theorem jdd_1_clearPage_29 : jdecOK jm_1_clearPage_29 := fun _ _ _ h => jdec_of (b := prog_2_method_6_code) (d := je_1_clearPage_29) (by decide +kernel) h
set_option maxRecDepth 20000 in
theorem jdd_8_put_30 : jdecOK jm_8_put_30 := fun _ _ _ h => jdec_of (b := prog_9_method_4_code) (d := je_8_put_30) (by decide +kernel) h
set_option maxRecDepth 20000 in
theorem jdd_1_firstNode_31 : jdecOK jm_1_firstNode_31 := fun _ _ _ h => jdec_of (b := prog_2_method_2_code) (d := je_1_firstNode_31) (by decide +kernel) h
set_option maxRecDepth 20000 in
theorem jdd_9_at_32 : jdecOK jm_9_at_32 := fun _ _ _ h => jdec_of (b := prog_10_method_3_code) (d := je_9_at_32) (by decide +kernel) h
set_option maxRecDepth 20000 in
theorem jdd_1_isSmall_33 : jdecOK jm_1_isSmall_33 := fun _ _ _ h => jdec_of (b := prog_2_method_5_code) (d := je_1_isSmall_33) (by decide +kernel) h
set_option maxRecDepth 20000 in
theorem jdd_5_readTerm_34 : jdecOK jm_5_readTerm_34 := fun _ _ _ h => jdec_of (b := prog_6_method_11_code) (d := je_5_readTerm_34) (by decide +kernel) h
set_option maxRecDepth 20000 in
theorem jdd_1_isCapital_35 : jdecOK jm_1_isCapital_35 := fun _ _ _ h => jdec_of (b := prog_2_method_3_code) (d := je_1_isCapital_35) (by decide +kernel) h
set_option maxRecDepth 20000 in
theorem jdd_1_isDigit_36 : jdecOK jm_1_isDigit_36 := fun _ _ _ h => jdec_of (b := prog_2_method_4_code) (d := je_1_isDigit_36) (by decide +kernel) h
set_option maxRecDepth 20000 in
theorem jdd_5_node_37 : jdecOK jm_5_node_37 := fun _ _ _ h => jdec_of (b := prog_6_method_6_code) (d := je_5_node_37) (by decide +kernel) h
set_option maxRecDepth 20000 in
theorem jdd_1_noteTerm_38 : jdecOK jm_1_noteTerm_38 := fun _ _ _ h => jdec_of (b := prog_2_method_7_code) (d := je_1_noteTerm_38) (by decide +kernel) h
set_option maxRecDepth 20000 in
theorem jdd_5_readSign_39 : jdecOK jm_5_readSign_39 := fun _ _ _ h => jdec_of (b := prog_6_method_8_code) (d := je_5_readSign_39) (by decide +kernel) h
set_option maxRecDepth 20000 in
theorem jdd_1_noteArgument_40 : jdecOK jm_1_noteArgument_40 := fun _ _ _ h => jdec_of (b := prog_2_method_8_code) (d := je_1_noteArgument_40) (by decide +kernel) h
set_option maxRecDepth 20000 in
theorem jdd_5_atEnd_41 : jdecOK jm_5_atEnd_41 := fun _ _ _ h => jdec_of (b := prog_6_method_7_code) (d := je_5_atEnd_41) (by decide +kernel) h
set_option maxRecDepth 20000 in
theorem jdd_5_readGoals_42 : jdecOK jm_5_readGoals_42 := fun _ _ _ h => jdec_of (b := prog_6_method_9_code) (d := je_5_readGoals_42) (by decide +kernel) h
set_option maxRecDepth 20000 in
theorem jdd_1_noteFirstGoal_43 : jdecOK jm_1_noteFirstGoal_43 := fun _ _ _ h => jdec_of (b := prog_2_method_11_code) (d := je_1_noteFirstGoal_43) (by decide +kernel) h
set_option maxRecDepth 20000 in
theorem jdd_5_readGoal_44 : jdecOK jm_5_readGoal_44 := fun _ _ _ h => jdec_of (b := prog_6_method_10_code) (d := je_5_readGoal_44) (by decide +kernel) h
set_option maxRecDepth 20000 in
theorem jdd_1_noteGoal_45 : jdecOK jm_1_noteGoal_45 := fun _ _ _ h => jdec_of (b := prog_2_method_9_code) (d := je_1_noteGoal_45) (by decide +kernel) h
set_option maxRecDepth 20000 in
theorem jdd_1_noteFollower_46 : jdecOK jm_1_noteFollower_46 := fun _ _ _ h => jdec_of (b := prog_2_method_10_code) (d := je_1_noteFollower_46) (by decide +kernel) h
set_option maxRecDepth 20000 in
theorem jdd_1_rankVariables_47 : jdecOK jm_1_rankVariables_47 := fun _ _ _ h => jdec_of (b := prog_2_method_12_code) (d := je_1_rankVariables_47) (by decide +kernel) h
set_option maxRecDepth 20000 in
theorem jdd_1_sign_48 : jdecOK jm_1_sign_48 := fun _ _ _ h => jdec_of (b := prog_2_method_13_code) (d := je_1_sign_48) (by decide +kernel) h
set_option maxRecDepth 20000 in
theorem jdd_5_place_49 : jdecOK jm_5_place_49 := fun _ _ _ h => jdec_of (b := prog_6_method_2_code) (d := je_5_place_49) (by decide +kernel) h
set_option maxRecDepth 20000 in
theorem jdd_2_keepFreePage_50 : jdecOK jm_2_keepFreePage_50 := fun _ _ _ h => jdec_of (b := prog_3_method_5_code) (d := je_2_keepFreePage_50) (by decide +kernel) h
set_option maxRecDepth 20000 in
theorem jdd_0_drop_51 : jdecOK jm_0_drop_51 := fun _ _ _ h => jdec_of (b := prog_1_method_4_code) (d := je_0_drop_51) (by decide +kernel) h
set_option maxRecDepth 20000 in
theorem jdd_2_remove_52 : jdecOK jm_2_remove_52 := fun _ _ _ h => jdec_of (b := prog_3_method_6_code) (d := je_2_remove_52) (by decide +kernel) h
set_option maxRecDepth 20000 in
theorem jdd_0_ask_53 : jdecOK jm_0_ask_53 := fun _ _ _ h => jdec_of (b := prog_1_method_5_code) (d := je_0_ask_53) (by decide +kernel) h
set_option maxRecDepth 20000 in
theorem jdd_5_readQuestion_54 : jdecOK jm_5_readQuestion_54 := fun _ _ _ h => jdec_of (b := prog_6_method_4_code) (d := je_5_readQuestion_54) (by decide +kernel) h
set_option maxRecDepth 20000 in
theorem jdd_6_begin_55 : jdecOK jm_6_begin_55 := fun _ _ _ h => jdec_of (b := prog_7_method_3_code) (d := je_6_begin_55) (by decide +kernel) h
set_option maxRecDepth 20000 in
theorem jdd_7_clear_56 : jdecOK jm_7_clear_56 := fun _ _ _ h => jdec_of (b := prog_8_method_2_code) (d := je_7_clear_56) (by decide +kernel) h
set_option maxRecDepth 20000 in
theorem jdd_8_shrink_57 : jdecOK jm_8_shrink_57 := fun _ _ _ h => jdec_of (b := prog_9_method_6_code) (d := je_8_shrink_57) (by decide +kernel) h
set_option maxRecDepth 20000 in
theorem jdd_3_clear_58 : jdecOK jm_3_clear_58 := fun _ _ _ h => jdec_of (b := prog_4_method_2_code) (d := je_3_clear_58) (by decide +kernel) h
set_option maxRecDepth 20000 in
theorem jdd_7_makeVariables_59 : jdecOK jm_7_makeVariables_59 := fun _ _ _ h => jdec_of (b := prog_8_method_8_code) (d := je_7_makeVariables_59) (by decide +kernel) h
end
section
set_option maxRecDepth 20000 in
theorem jdd_1_variablesOf_60 : jdecOK jm_1_variablesOf_60 := fun _ _ _ h => jdec_of (b := prog_2_method_20_code) (d := je_1_variablesOf_60) (by decide +kernel) h
set_option maxRecDepth 20000 in
theorem jdd_8_append_61 : jdecOK jm_8_append_61 := fun _ _ _ h => jdec_of (b := prog_9_method_5_code) (d := je_8_append_61) (by decide +kernel) h
set_option maxRecDepth 20000 in
theorem jdd_1_firstGoal_62 : jdecOK jm_1_firstGoal_62 := fun _ _ _ h => jdec_of (b := prog_2_method_19_code) (d := je_1_firstGoal_62) (by decide +kernel) h
set_option maxRecDepth 20000 in
theorem jdd_6_seek_63 : jdecOK jm_6_seek_63 := fun _ _ _ h => jdec_of (b := prog_7_method_4_code) (d := je_6_seek_63) (by decide +kernel) h
set_option maxRecDepth 20000 in
theorem jdd_6_doGoal_64 : jdecOK jm_6_doGoal_64 := fun _ _ _ h => jdec_of (b := prog_7_method_5_code) (d := je_6_doGoal_64) (by decide +kernel) h
set_option maxRecDepth 20000 in
theorem jdd_3_takeStep_65 : jdecOK jm_3_takeStep_65 := fun _ _ _ h => jdec_of (b := prog_4_method_4_code) (d := je_3_takeStep_65) (by decide +kernel) h
set_option maxRecDepth 20000 in
theorem jdd_1_follower_66 : jdecOK jm_1_follower_66 := fun _ _ _ h => jdec_of (b := prog_2_method_18_code) (d := je_1_follower_66) (by decide +kernel) h
set_option maxRecDepth 20000 in
theorem jdd_1_kind_67 : jdecOK jm_1_kind_67 := fun _ _ _ h => jdec_of (b := prog_2_method_16_code) (d := je_1_kind_67) (by decide +kernel) h
set_option maxRecDepth 20000 in
theorem jdd_1_right_68 : jdecOK jm_1_right_68 := fun _ _ _ h => jdec_of (b := prog_2_method_17_code) (d := je_1_right_68) (by decide +kernel) h
set_option maxRecDepth 20000 in
theorem jdd_3_pushPair_69 : jdecOK jm_3_pushPair_69 := fun _ _ _ h => jdec_of (b := prog_4_method_7_code) (d := je_3_pushPair_69) (by decide +kernel) h
set_option maxRecDepth 20000 in
theorem jdd_7_letWait_70 : jdecOK jm_7_letWait_70 := fun _ _ _ h => jdec_of (b := prog_8_method_19_code) (d := je_7_letWait_70) (by decide +kernel) h
set_option maxRecDepth 20000 in
theorem jdd_6_doLess_71 : jdecOK jm_6_doLess_71 := fun _ _ _ h => jdec_of (b := prog_7_method_6_code) (d := je_6_doLess_71) (by decide +kernel) h
set_option maxRecDepth 20000 in
theorem jdd_7_find_72 : jdecOK jm_7_find_72 := fun _ _ _ h => jdec_of (b := prog_8_method_9_code) (d := je_7_find_72) (by decide +kernel) h
set_option maxRecDepth 20000 in
theorem jdd_1_rank_73 : jdecOK jm_1_rank_73 := fun _ _ _ h => jdec_of (b := prog_2_method_21_code) (d := je_1_rank_73) (by decide +kernel) h
set_option maxRecDepth 20000 in
theorem jdd_6_doSleep_74 : jdecOK jm_6_doSleep_74 := fun _ _ _ h => jdec_of (b := prog_7_method_7_code) (d := je_6_doSleep_74) (by decide +kernel) h
set_option maxRecDepth 20000 in
theorem jdd_6_putInFront_75 : jdecOK jm_6_putInFront_75 := fun _ _ _ h => jdec_of (b := prog_7_method_13_code) (d := je_6_putInFront_75) (by decide +kernel) h
set_option maxRecDepth 20000 in
theorem jdd_7_putToSleep_76 : jdecOK jm_7_putToSleep_76 := fun _ _ _ h => jdec_of (b := prog_8_method_11_code) (d := je_7_putToSleep_76) (by decide +kernel) h
set_option maxRecDepth 20000 in
theorem jdd_7_join_77 : jdecOK jm_7_join_77 := fun _ _ _ h => jdec_of (b := prog_8_method_12_code) (d := je_7_join_77) (by decide +kernel) h
set_option maxRecDepth 20000 in
theorem jdd_7_lastSleeper_78 : jdecOK jm_7_lastSleeper_78 := fun _ _ _ h => jdec_of (b := prog_8_method_14_code) (d := je_7_lastSleeper_78) (by decide +kernel) h
set_option maxRecDepth 20000 in
theorem jdd_6_doCall_79 : jdecOK jm_6_doCall_79 := fun _ _ _ h => jdec_of (b := prog_7_method_8_code) (d := je_6_doCall_79) (by decide +kernel) h
set_option maxRecDepth 20000 in
theorem jdd_2_find_80 : jdecOK jm_2_find_80 := fun _ _ _ h => jdec_of (b := prog_3_method_7_code) (d := je_2_find_80) (by decide +kernel) h
set_option maxRecDepth 20000 in
theorem jdd_1_alike_81 : jdecOK jm_1_alike_81 := fun _ _ _ h => jdec_of (b := prog_2_method_22_code) (d := je_1_alike_81) (by decide +kernel) h
set_option maxRecDepth 20000 in
theorem jdd_1_arity_82 : jdecOK jm_1_arity_82 := fun _ _ _ h => jdec_of (b := prog_2_method_14_code) (d := je_1_arity_82) (by decide +kernel) h
set_option maxRecDepth 20000 in
theorem jdd_6_leaveChoice_83 : jdecOK jm_6_leaveChoice_83 := fun _ _ _ h => jdec_of (b := prog_7_method_9_code) (d := je_6_leaveChoice_83) (by decide +kernel) h
set_option maxRecDepth 20000 in
theorem jdd_7_changes_84 : jdecOK jm_7_changes_84 := fun _ _ _ h => jdec_of (b := prog_8_method_7_code) (d := je_7_changes_84) (by decide +kernel) h
set_option maxRecDepth 20000 in
theorem jdd_7_variables_85 : jdecOK jm_7_variables_85 := fun _ _ _ h => jdec_of (b := prog_8_method_4_code) (d := je_7_variables_85) (by decide +kernel) h
set_option maxRecDepth 20000 in
theorem jdd_7_sleepers_86 : jdecOK jm_7_sleepers_86 := fun _ _ _ h => jdec_of (b := prog_8_method_5_code) (d := je_7_sleepers_86) (by decide +kernel) h
set_option maxRecDepth 20000 in
theorem jdd_7_aparts_87 : jdecOK jm_7_aparts_87 := fun _ _ _ h => jdec_of (b := prog_8_method_6_code) (d := je_7_aparts_87) (by decide +kernel) h
set_option maxRecDepth 20000 in
theorem jdd_6_take_88 : jdecOK jm_6_take_88 := fun _ _ _ h => jdec_of (b := prog_7_method_11_code) (d := je_6_take_88) (by decide +kernel) h
set_option maxRecDepth 20000 in
theorem jdd_3_pushArguments_89 : jdecOK jm_3_pushArguments_89 := fun _ _ _ h => jdec_of (b := prog_4_method_8_code) (d := je_3_pushArguments_89) (by decide +kernel) h
set_option maxRecDepth 20000 in
theorem jdd_1_argument_90 : jdecOK jm_1_argument_90 := fun _ _ _ h => jdec_of (b := prog_2_method_15_code) (d := je_1_argument_90) (by decide +kernel) h
set_option maxRecDepth 20000 in
theorem jdd_3_makeSame_91 : jdecOK jm_3_makeSame_91 := fun _ _ _ h => jdec_of (b := prog_4_method_9_code) (d := je_3_makeSame_91) (by decide +kernel) h
set_option maxRecDepth 20000 in
theorem jdd_3_goThroughPairs_92 : jdecOK jm_3_goThroughPairs_92 := fun _ _ _ h => jdec_of (b := prog_4_method_12_code) (d := je_3_goThroughPairs_92) (by decide +kernel) h
set_option maxRecDepth 20000 in
theorem jdd_7_bind_93 : jdecOK jm_7_bind_93 := fun _ _ _ h => jdec_of (b := prog_8_method_10_code) (d := je_7_bind_93) (by decide +kernel) h
set_option maxRecDepth 20000 in
theorem jdd_7_firstSleeper_94 : jdecOK jm_7_firstSleeper_94 := fun _ _ _ h => jdec_of (b := prog_8_method_13_code) (d := je_7_firstSleeper_94) (by decide +kernel) h
set_option maxRecDepth 20000 in
theorem jdd_3_wake_95 : jdecOK jm_3_wake_95 := fun _ _ _ h => jdec_of (b := prog_4_method_13_code) (d := je_3_wake_95) (by decide +kernel) h
set_option maxRecDepth 20000 in
theorem jdd_7_sleeperBehind_96 : jdecOK jm_7_sleeperBehind_96 := fun _ _ _ h => jdec_of (b := prog_8_method_15_code) (d := je_7_sleeperBehind_96) (by decide +kernel) h
set_option maxRecDepth 20000 in
theorem jdd_3_testAparts_97 : jdecOK jm_3_testAparts_97 := fun _ _ _ h => jdec_of (b := prog_4_method_10_code) (d := je_3_testAparts_97) (by decide +kernel) h
set_option maxRecDepth 20000 in
theorem jdd_3_testApart_98 : jdecOK jm_3_testApart_98 := fun _ _ _ h => jdec_of (b := prog_4_method_11_code) (d := je_3_testApart_98) (by decide +kernel) h
set_option maxRecDepth 20000 in
theorem jdd_7_apartGoal_99 : jdecOK jm_7_apartGoal_99 := fun _ _ _ h => jdec_of (b := prog_8_method_21_code) (d := je_7_apartGoal_99) (by decide +kernel) h
set_option maxRecDepth 20000 in
theorem jdd_7_apartEnv_100 : jdecOK jm_7_apartEnv_100 := fun _ _ _ h => jdec_of (b := prog_8_method_22_code) (d := je_7_apartEnv_100) (by decide +kernel) h
set_option maxRecDepth 20000 in
theorem jdd_7_goBack_101 : jdecOK jm_7_goBack_101 := fun _ _ _ h => jdec_of (b := prog_8_method_25_code) (d := je_7_goBack_101) (by decide +kernel) h
set_option maxRecDepth 20000 in
theorem jdd_7_undo_102 : jdecOK jm_7_undo_102 := fun _ _ _ h => jdec_of (b := prog_8_method_27_code) (d := je_7_undo_102) (by decide +kernel) h
set_option maxRecDepth 20000 in
theorem jdd_7_settle_103 : jdecOK jm_7_settle_103 := fun _ _ _ h => jdec_of (b := prog_8_method_23_code) (d := je_7_settle_103) (by decide +kernel) h
set_option maxRecDepth 20000 in
theorem jdd_6_putWokenInFront_104 : jdecOK jm_6_putWokenInFront_104 := fun _ _ _ h => jdec_of (b := prog_7_method_12_code) (d := je_6_putWokenInFront_104) (by decide +kernel) h
set_option maxRecDepth 20000 in
theorem jdd_3_wokenGoals_105 : jdecOK jm_3_wokenGoals_105 := fun _ _ _ h => jdec_of (b := prog_4_method_5_code) (d := je_3_wokenGoals_105) (by decide +kernel) h
set_option maxRecDepth 20000 in
theorem jdd_3_wokenGoal_106 : jdecOK jm_3_wokenGoal_106 := fun _ _ _ h => jdec_of (b := prog_4_method_6_code) (d := je_3_wokenGoal_106) (by decide +kernel) h
set_option maxRecDepth 20000 in
theorem jdd_7_sleeperGoal_107 : jdecOK jm_7_sleeperGoal_107 := fun _ _ _ h => jdec_of (b := prog_8_method_16_code) (d := je_7_sleeperGoal_107) (by decide +kernel) h
set_option maxRecDepth 20000 in
theorem jdd_7_sleeperEnv_108 : jdecOK jm_7_sleeperEnv_108 := fun _ _ _ h => jdec_of (b := prog_8_method_17_code) (d := je_7_sleeperEnv_108) (by decide +kernel) h
set_option maxRecDepth 20000 in
theorem jdd_6_retry_109 : jdecOK jm_6_retry_109 := fun _ _ _ h => jdec_of (b := prog_7_method_10_code) (d := je_6_retry_109) (by decide +kernel) h
set_option maxRecDepth 20000 in
theorem jdd_7_forget_110 : jdecOK jm_7_forget_110 := fun _ _ _ h => jdec_of (b := prog_8_method_26_code) (d := je_7_forget_110) (by decide +kernel) h
set_option maxRecDepth 20000 in
theorem jdd_0_conclude_111 : jdecOK jm_0_conclude_111 := fun _ _ _ h => jdec_of (b := prog_1_method_13_code) (d := je_0_conclude_111) (by decide +kernel) h
set_option maxRecDepth 20000 in
theorem jdd_3_stepsTaken_112 : jdecOK jm_3_stepsTaken_112 := fun _ _ _ h => jdec_of (b := prog_4_method_3_code) (d := je_3_stepsTaken_112) (by decide +kernel) h
set_option maxRecDepth 20000 in
theorem jdd_0_next_113 : jdecOK jm_0_next_113 := fun _ _ _ h => jdec_of (b := prog_1_method_6_code) (d := je_0_next_113) (by decide +kernel) h
set_option maxRecDepth 20000 in
theorem jdd_0_letter_114 : jdecOK jm_0_letter_114 := fun _ _ _ h => jdec_of (b := prog_1_method_7_code) (d := je_0_letter_114) (by decide +kernel) h
set_option maxRecDepth 20000 in
theorem jdd_0_isVariableName_115 : jdecOK jm_0_isVariableName_115 := fun _ _ _ h => jdec_of (b := prog_1_method_11_code) (d := je_0_isVariableName_115) (by decide +kernel) h
set_option maxRecDepth 20000 in
theorem jdd_0_questionNode_116 : jdecOK jm_0_questionNode_116 := fun _ _ _ h => jdec_of (b := prog_1_method_12_code) (d := je_0_questionNode_116) (by decide +kernel) h
set_option maxRecDepth 20000 in
theorem jdd_1_nodeWithSign_117 : jdecOK jm_1_nodeWithSign_117 := fun _ _ _ h => jdec_of (b := prog_2_method_23_code) (d := je_1_nodeWithSign_117) (by decide +kernel) h
set_option maxRecDepth 20000 in
theorem jdd_11_write_118 : jdecOK jm_11_write_118 := fun _ _ _ h => jdec_of (b := prog_12_method_3_code) (d := je_11_write_118) (by decide +kernel) h
set_option maxRecDepth 20000 in
theorem jdd_11_pushTerm_119 : jdecOK jm_11_pushTerm_119 := fun _ _ _ h => jdec_of (b := prog_12_method_6_code) (d := je_11_pushTerm_119) (by decide +kernel) h
end
section
set_option maxRecDepth 20000 in
theorem jdd_11_writeTop_120 : jdecOK jm_11_writeTop_120 := fun _ _ _ h => jdec_of (b := prog_12_method_4_code) (d := je_11_writeTop_120) (by decide +kernel) h
set_option maxRecDepth 20000 in
theorem jdd_11_pushArguments_121 : jdecOK jm_11_pushArguments_121 := fun _ _ _ h => jdec_of (b := prog_12_method_5_code) (d := je_11_pushArguments_121) (by decide +kernel) h
set_option maxRecDepth 20000 in
theorem jdd_11_pushSign_122 : jdecOK jm_11_pushSign_122 := fun _ _ _ h => jdec_of (b := prog_12_method_7_code) (d := je_11_pushSign_122) (by decide +kernel) h
set_option maxRecDepth 20000 in
theorem jdd_11_characterAt_123 : jdecOK jm_11_characterAt_123 := fun _ _ _ h => jdec_of (b := prog_12_method_2_code) (d := je_11_characterAt_123) (by decide +kernel) h
set_option maxRecDepth 20000 in
theorem jdd_0_sleeping_124 : jdecOK jm_0_sleeping_124 := fun _ _ _ h => jdec_of (b := prog_1_method_8_code) (d := je_0_sleeping_124) (by decide +kernel) h
set_option maxRecDepth 20000 in
theorem jdd_7_sleepersOn_125 : jdecOK jm_7_sleepersOn_125 := fun _ _ _ h => jdec_of (b := prog_8_method_18_code) (d := je_7_sleepersOn_125) (by decide +kernel) h
set_option maxRecDepth 20000 in
theorem jdd_12_init_126 : jdecOK jm_12_init_126 := fun _ _ _ h => jdec_of (b := prog_14_method_1_code) (d := je_12_init_126) (by decide +kernel) h
set_option maxRecDepth 20000 in
theorem jdd_12_thrown_127 : jdecOK jm_12_thrown_127 := fun _ _ _ h => jdec_of (b := prog_14_method_2_code) (d := je_12_thrown_127) (by decide +kernel) h
set_option maxRecDepth 20000 in
theorem jdd_12_type_128 : jdecOK jm_12_type_128 := fun _ _ _ h => jdec_of (b := prog_14_method_6_code) (d := je_12_type_128) (by decide +kernel) h
set_option maxRecDepth 20000 in
theorem jdd_12_in_129 : jdecOK jm_12_in_129 := fun _ _ _ h => jdec_of (b := prog_14_method_3_code) (d := je_12_in_129) (by decide +kernel) h
set_option maxRecDepth 20000 in
theorem jdd_12_bad_130 : jdecOK jm_12_bad_130 := fun _ _ _ h => jdec_of (b := prog_14_method_4_code) (d := je_12_bad_130) (by decide +kernel) h
set_option maxRecDepth 20000 in
theorem jdd_12_fail_131 : jdecOK jm_12_fail_131 := fun _ _ _ h => jdec_of (b := prog_14_method_5_code) (d := je_12_fail_131) (by decide +kernel) h
set_option maxRecDepth 20000 in
theorem jdd_12_add_132 : jdecOK jm_12_add_132 := fun _ _ _ h => jdec_of (b := prog_14_method_12_code) (d := je_12_add_132) (by decide +kernel) h
set_option maxRecDepth 20000 in
theorem jdd_12_readClause_133 : jdecOK jm_12_readClause_133 := fun _ _ _ h => jdec_of (b := prog_14_method_11_code) (d := je_12_readClause_133) (by decide +kernel) h
set_option maxRecDepth 20000 in
theorem jdd_12_readTerm_134 : jdecOK jm_12_readTerm_134 := fun _ _ _ h => jdec_of (b := prog_14_method_9_code) (d := je_12_readTerm_134) (by decide +kernel) h
set_option maxRecDepth 20000 in
theorem jdd_12_look_135 : jdecOK jm_12_look_135 := fun _ _ _ h => jdec_of (b := prog_14_method_7_code) (d := je_12_look_135) (by decide +kernel) h
set_option maxRecDepth 20000 in
theorem jdd_12_passes_136 : jdecOK jm_12_passes_136 := fun _ _ _ h => jdec_of (b := prog_14_method_8_code) (d := je_12_passes_136) (by decide +kernel) h
set_option maxRecDepth 20000 in
theorem jdd_12_readGoals_137 : jdecOK jm_12_readGoals_137 := fun _ _ _ h => jdec_of (b := prog_14_method_10_code) (d := je_12_readGoals_137) (by decide +kernel) h
set_option maxRecDepth 20000 in
theorem jdd_12_drop_138 : jdecOK jm_12_drop_138 := fun _ _ _ h => jdec_of (b := prog_14_method_13_code) (d := je_12_drop_138) (by decide +kernel) h
set_option maxRecDepth 20000 in
theorem jdd_12_ask_139 : jdecOK jm_12_ask_139 := fun _ _ _ h => jdec_of (b := prog_14_method_42_code) (d := je_12_ask_139) (by decide +kernel) h
set_option maxRecDepth 20000 in
theorem jdd_12_number_140 : jdecOK jm_12_number_140 := fun _ _ _ h => jdec_of (b := prog_14_method_15_code) (d := je_12_number_140) (by decide +kernel) h
set_option maxRecDepth 20000 in
theorem jdd_12_born_141 : jdecOK jm_12_born_141 := fun _ _ _ h => jdec_of (b := prog_14_method_16_code) (d := je_12_born_141) (by decide +kernel) h
set_option maxRecDepth 20000 in
theorem jdd_12_buildGoals_142 : jdecOK jm_12_buildGoals_142 := fun _ _ _ h => jdec_of (b := prog_14_method_21_code) (d := je_12_buildGoals_142) (by decide +kernel) h
set_option maxRecDepth 20000 in
theorem jdd_12_at_143 : jdecOK jm_12_at_143 := fun _ _ _ h => jdec_of (b := prog_14_method_14_code) (d := je_12_at_143) (by decide +kernel) h
set_option maxRecDepth 20000 in
theorem jdd_12_goal_144 : jdecOK jm_12_goal_144 := fun _ _ _ h => jdec_of (b := prog_14_method_20_code) (d := je_12_goal_144) (by decide +kernel) h
set_option maxRecDepth 20000 in
theorem jdd_12_build_145 : jdecOK jm_12_build_145 := fun _ _ _ h => jdec_of (b := prog_14_method_18_code) (d := je_12_build_145) (by decide +kernel) h
set_option maxRecDepth 20000 in
theorem jdd_12_cell_146 : jdecOK jm_12_cell_146 := fun _ _ _ h => jdec_of (b := prog_14_method_17_code) (d := je_12_cell_146) (by decide +kernel) h
set_option maxRecDepth 20000 in
theorem jdd_12_hang_147 : jdecOK jm_12_hang_147 := fun _ _ _ h => jdec_of (b := prog_14_method_19_code) (d := je_12_hang_147) (by decide +kernel) h
set_option maxRecDepth 20000 in
theorem jdd_12_seek_148 : jdecOK jm_12_seek_148 := fun _ _ _ h => jdec_of (b := prog_14_method_41_code) (d := je_12_seek_148) (by decide +kernel) h
set_option maxRecDepth 20000 in
theorem jdd_12_back_149 : jdecOK jm_12_back_149 := fun _ _ _ h => jdec_of (b := prog_14_method_36_code) (d := je_12_back_149) (by decide +kernel) h
set_option maxRecDepth 20000 in
theorem jdd_12_nextFit_150 : jdecOK jm_12_nextFit_150 := fun _ _ _ h => jdec_of (b := prog_14_method_33_code) (d := je_12_nextFit_150) (by decide +kernel) h
set_option maxRecDepth 20000 in
theorem jdd_12_fits_151 : jdecOK jm_12_fits_151 := fun _ _ _ h => jdec_of (b := prog_14_method_32_code) (d := je_12_fits_151) (by decide +kernel) h
set_option maxRecDepth 20000 in
theorem jdd_12_undo_152 : jdecOK jm_12_undo_152 := fun _ _ _ h => jdec_of (b := prog_14_method_23_code) (d := je_12_undo_152) (by decide +kernel) h
set_option maxRecDepth 20000 in
theorem jdd_12_take_153 : jdecOK jm_12_take_153 := fun _ _ _ h => jdec_of (b := prog_14_method_34_code) (d := je_12_take_153) (by decide +kernel) h
set_option maxRecDepth 20000 in
theorem jdd_12_pair_154 : jdecOK jm_12_pair_154 := fun _ _ _ h => jdec_of (b := prog_14_method_28_code) (d := je_12_pair_154) (by decide +kernel) h
set_option maxRecDepth 20000 in
theorem jdd_12_unify_155 : jdecOK jm_12_unify_155 := fun _ _ _ h => jdec_of (b := prog_14_method_31_code) (d := je_12_unify_155) (by decide +kernel) h
set_option maxRecDepth 20000 in
theorem jdd_12_same_156 : jdecOK jm_12_same_156 := fun _ _ _ h => jdec_of (b := prog_14_method_29_code) (d := je_12_same_156) (by decide +kernel) h
set_option maxRecDepth 20000 in
theorem jdd_12_step_157 : jdecOK jm_12_step_157 := fun _ _ _ h => jdec_of (b := prog_14_method_25_code) (d := je_12_step_157) (by decide +kernel) h
set_option maxRecDepth 20000 in
theorem jdd_12_value_158 : jdecOK jm_12_value_158 := fun _ _ _ h => jdec_of (b := prog_14_method_24_code) (d := je_12_value_158) (by decide +kernel) h
set_option maxRecDepth 20000 in
theorem jdd_12_tie_159 : jdecOK jm_12_tie_159 := fun _ _ _ h => jdec_of (b := prog_14_method_26_code) (d := je_12_tie_159) (by decide +kernel) h
set_option maxRecDepth 20000 in
theorem jdd_12_change_160 : jdecOK jm_12_change_160 := fun _ _ _ h => jdec_of (b := prog_14_method_22_code) (d := je_12_change_160) (by decide +kernel) h
set_option maxRecDepth 20000 in
theorem jdd_12_follow_161 : jdecOK jm_12_follow_161 := fun _ _ _ h => jdec_of (b := prog_14_method_27_code) (d := je_12_follow_161) (by decide +kernel) h
set_option maxRecDepth 20000 in
theorem jdd_12_test_162 : jdecOK jm_12_test_162 := fun _ _ _ h => jdec_of (b := prog_14_method_30_code) (d := je_12_test_162) (by decide +kernel) h
set_option maxRecDepth 20000 in
theorem jdd_12_perform_163 : jdecOK jm_12_perform_163 := fun _ _ _ h => jdec_of (b := prog_14_method_40_code) (d := je_12_perform_163) (by decide +kernel) h
set_option maxRecDepth 20000 in
theorem jdd_12_call_164 : jdecOK jm_12_call_164 := fun _ _ _ h => jdec_of (b := prog_14_method_35_code) (d := je_12_call_164) (by decide +kernel) h
set_option maxRecDepth 20000 in
theorem jdd_12_apart_165 : jdecOK jm_12_apart_165 := fun _ _ _ h => jdec_of (b := prog_14_method_37_code) (d := je_12_apart_165) (by decide +kernel) h
set_option maxRecDepth 20000 in
theorem jdd_12_less_166 : jdecOK jm_12_less_166 := fun _ _ _ h => jdec_of (b := prog_14_method_38_code) (d := je_12_less_166) (by decide +kernel) h
set_option maxRecDepth 20000 in
theorem jdd_12_sleep_167 : jdecOK jm_12_sleep_167 := fun _ _ _ h => jdec_of (b := prog_14_method_39_code) (d := je_12_sleep_167) (by decide +kernel) h
set_option maxRecDepth 20000 in
theorem jdd_12_next_168 : jdecOK jm_12_next_168 := fun _ _ _ h => jdec_of (b := prog_14_method_43_code) (d := je_12_next_168) (by decide +kernel) h
set_option maxRecDepth 20000 in
theorem jdd_12_letter_169 : jdecOK jm_12_letter_169 := fun _ _ _ h => jdec_of (b := prog_14_method_46_code) (d := je_12_letter_169) (by decide +kernel) h
set_option maxRecDepth 20000 in
theorem jdd_12_write_170 : jdecOK jm_12_write_170 := fun _ _ _ h => jdec_of (b := prog_14_method_45_code) (d := je_12_write_170) (by decide +kernel) h
set_option maxRecDepth 20000 in
theorem jdd_12_put_171 : jdecOK jm_12_put_171 := fun _ _ _ h => jdec_of (b := prog_14_method_44_code) (d := je_12_put_171) (by decide +kernel) h
set_option maxRecDepth 20000 in
theorem jdd_12_sleeping_172 : jdecOK jm_12_sleeping_172 := fun _ _ _ h => jdec_of (b := prog_14_method_47_code) (d := je_12_sleeping_172) (by decide +kernel) h
set_option maxRecDepth 20000 in
theorem jdd_12_count_173 : jdecOK jm_12_count_173 := fun _ _ _ h => jdec_of (b := prog_14_method_48_code) (d := je_12_count_173) (by decide +kernel) h
set_option maxRecDepth 20000 in
theorem jdd_13_type_174 : jdecOK jm_13_type_174 := fun _ _ _ h => jdec_of (b := method_3_code) (d := je_13_type_174) (by decide +kernel) h
set_option maxRecDepth 20000 in
theorem jdd_13_add_175 : jdecOK jm_13_add_175 := fun _ _ _ h => jdec_of (b := method_4_code) (d := je_13_add_175) (by decide +kernel) h
set_option maxRecDepth 20000 in
theorem jdd_13_drop_176 : jdecOK jm_13_drop_176 := fun _ _ _ h => jdec_of (b := method_5_code) (d := je_13_drop_176) (by decide +kernel) h
set_option maxRecDepth 20000 in
theorem jdd_13_ask_177 : jdecOK jm_13_ask_177 := fun _ _ _ h => jdec_of (b := method_6_code) (d := je_13_ask_177) (by decide +kernel) h
set_option maxRecDepth 20000 in
theorem jdd_13_next_178 : jdecOK jm_13_next_178 := fun _ _ _ h => jdec_of (b := method_7_code) (d := je_13_next_178) (by decide +kernel) h
set_option maxRecDepth 20000 in
theorem jdd_13_letter_179 : jdecOK jm_13_letter_179 := fun _ _ _ h => jdec_of (b := method_8_code) (d := je_13_letter_179) (by decide +kernel) h
set_option maxRecDepth 20000 in
theorem jdd_13_sleeping_180 : jdecOK jm_13_sleeping_180 := fun _ _ _ h => jdec_of (b := method_9_code) (d := je_13_sleeping_180) (by decide +kernel) h
set_option maxRecDepth 20000 in
theorem jdd_14_max_181 : jdecOK jm_14_max_181 := fun _ _ _ h => jdec_of (b := prog_21_method_65_code) (d := je_14_max_181) (by decide +kernel) h
set_option maxRecDepth 20000 in
theorem jdd_14_min_182 : jdecOK jm_14_min_182 := fun _ _ _ h => jdec_of (b := prog_21_method_69_code) (d := je_14_min_182) (by decide +kernel) h
set_option maxRecDepth 20000 in
theorem jdd_15_bitCount_183 : jdecOK jm_15_bitCount_183 := fun _ _ _ h => jdec_of (b := prog_20_method_49_code) (d := je_15_bitCount_183) (by decide +kernel) h
set_option maxRecDepth 20000 in
theorem jdd_16_copyOf_184 : jdecOK jm_16_copyOf_184 := fun _ _ _ h => jdec_of (b := prog_27_method_123_code) (d := je_16_copyOf_184) (by decide +kernel) h
set_option maxRecDepth 20000 in
theorem jdd_law : jdecOK jm_law := fun _ _ _ h => jdec_of (b := code) (d := je_law) (by decide +kernel) h
theorem jdc_0 : ∀ e ∈ (jd_m.getD 0 (0, [])).2, jdecOK e.2.1 := List.forall_mem_cons.mpr ⟨jdd_0_init_0, List.forall_mem_cons.mpr ⟨jdd_9_init_1, List.forall_mem_cons.mpr ⟨jdd_1_init_2, List.forall_mem_cons.mpr ⟨jdd_8_init_3, List.forall_mem_cons.mpr ⟨jdd_5_init_4, List.forall_mem_cons.mpr ⟨jdd_2_init_5, List.forall_mem_cons.mpr ⟨jdd_7_init_6, List.forall_mem_cons.mpr ⟨jdd_3_init_7, List.forall_mem_cons.mpr ⟨jdd_10_init_8, List.forall_mem_cons.mpr ⟨jdd_6_init_9, List.forall_mem_cons.mpr ⟨jdd_11_init_10, List.forall_mem_cons.mpr ⟨jdd_0_count_11, List.forall_mem_cons.mpr ⟨jdd_9_length_12, List.forall_mem_cons.mpr ⟨jdd_2_size_13, fun _ h => absurd h List.not_mem_nil⟩⟩⟩⟩⟩⟩⟩⟩⟩⟩⟩⟩⟩⟩
theorem jdc_1 : ∀ e ∈ (jd_m.getD 1 (0, [])).2, jdecOK e.2.1 := List.forall_mem_cons.mpr ⟨jdd_6_choicesLeft_14, List.forall_mem_cons.mpr ⟨jdd_8_rows_15, List.forall_mem_cons.mpr ⟨jdd_7_apartsWaiting_16, List.forall_mem_cons.mpr ⟨jdd_7_isWaiting_17, List.forall_mem_cons.mpr ⟨jdd_8_at_18, List.forall_mem_cons.mpr ⟨jdd_7_variablesMade_19, List.forall_mem_cons.mpr ⟨jdd_0_type_20, List.forall_mem_cons.mpr ⟨jdd_0_byteOf_21, List.forall_mem_cons.mpr ⟨jdd_9_append_22, List.forall_mem_cons.mpr ⟨jdd_0_add_23, List.forall_mem_cons.mpr ⟨jdd_9_clear_24, List.forall_mem_cons.mpr ⟨jdd_2_freePage_25, List.forall_mem_cons.mpr ⟨jdd_2_page_26, List.forall_mem_cons.mpr ⟨jdd_5_readClause_27, fun _ h => absurd h List.not_mem_nil⟩⟩⟩⟩⟩⟩⟩⟩⟩⟩⟩⟩⟩⟩
theorem jdc_2 : ∀ e ∈ (jd_m.getD 2 (0, [])).2, jdecOK e.2.1 := List.forall_mem_cons.mpr ⟨jdd_5_begin_28, List.forall_mem_cons.mpr ⟨jdd_1_clearPage_29, List.forall_mem_cons.mpr ⟨jdd_8_put_30, List.forall_mem_cons.mpr ⟨jdd_1_firstNode_31, List.forall_mem_cons.mpr ⟨jdd_9_at_32, List.forall_mem_cons.mpr ⟨jdd_1_isSmall_33, List.forall_mem_cons.mpr ⟨jdd_5_readTerm_34, List.forall_mem_cons.mpr ⟨jdd_1_isCapital_35, List.forall_mem_cons.mpr ⟨jdd_1_isDigit_36, List.forall_mem_cons.mpr ⟨jdd_5_node_37, List.forall_mem_cons.mpr ⟨jdd_1_noteTerm_38, List.forall_mem_cons.mpr ⟨jdd_5_readSign_39, List.forall_mem_cons.mpr ⟨jdd_1_noteArgument_40, List.forall_mem_cons.mpr ⟨jdd_5_atEnd_41, fun _ h => absurd h List.not_mem_nil⟩⟩⟩⟩⟩⟩⟩⟩⟩⟩⟩⟩⟩⟩
theorem jdc_3 : ∀ e ∈ (jd_m.getD 3 (0, [])).2, jdecOK e.2.1 := List.forall_mem_cons.mpr ⟨jdd_5_readGoals_42, List.forall_mem_cons.mpr ⟨jdd_1_noteFirstGoal_43, List.forall_mem_cons.mpr ⟨jdd_5_readGoal_44, List.forall_mem_cons.mpr ⟨jdd_1_noteGoal_45, List.forall_mem_cons.mpr ⟨jdd_1_noteFollower_46, List.forall_mem_cons.mpr ⟨jdd_1_rankVariables_47, List.forall_mem_cons.mpr ⟨jdd_1_sign_48, List.forall_mem_cons.mpr ⟨jdd_5_place_49, List.forall_mem_cons.mpr ⟨jdd_2_keepFreePage_50, List.forall_mem_cons.mpr ⟨jdd_0_drop_51, List.forall_mem_cons.mpr ⟨jdd_2_remove_52, List.forall_mem_cons.mpr ⟨jdd_0_ask_53, List.forall_mem_cons.mpr ⟨jdd_5_readQuestion_54, List.forall_mem_cons.mpr ⟨jdd_6_begin_55, fun _ h => absurd h List.not_mem_nil⟩⟩⟩⟩⟩⟩⟩⟩⟩⟩⟩⟩⟩⟩
theorem jdc_4 : ∀ e ∈ (jd_m.getD 4 (0, [])).2, jdecOK e.2.1 := List.forall_mem_cons.mpr ⟨jdd_7_clear_56, List.forall_mem_cons.mpr ⟨jdd_8_shrink_57, List.forall_mem_cons.mpr ⟨jdd_3_clear_58, List.forall_mem_cons.mpr ⟨jdd_7_makeVariables_59, List.forall_mem_cons.mpr ⟨jdd_1_variablesOf_60, List.forall_mem_cons.mpr ⟨jdd_8_append_61, List.forall_mem_cons.mpr ⟨jdd_1_firstGoal_62, List.forall_mem_cons.mpr ⟨jdd_6_seek_63, List.forall_mem_cons.mpr ⟨jdd_6_doGoal_64, List.forall_mem_cons.mpr ⟨jdd_3_takeStep_65, List.forall_mem_cons.mpr ⟨jdd_1_follower_66, List.forall_mem_cons.mpr ⟨jdd_1_kind_67, List.forall_mem_cons.mpr ⟨jdd_1_right_68, List.forall_mem_cons.mpr ⟨jdd_3_pushPair_69, fun _ h => absurd h List.not_mem_nil⟩⟩⟩⟩⟩⟩⟩⟩⟩⟩⟩⟩⟩⟩
theorem jdc_5 : ∀ e ∈ (jd_m.getD 5 (0, [])).2, jdecOK e.2.1 := List.forall_mem_cons.mpr ⟨jdd_7_letWait_70, List.forall_mem_cons.mpr ⟨jdd_6_doLess_71, List.forall_mem_cons.mpr ⟨jdd_7_find_72, List.forall_mem_cons.mpr ⟨jdd_1_rank_73, List.forall_mem_cons.mpr ⟨jdd_6_doSleep_74, List.forall_mem_cons.mpr ⟨jdd_6_putInFront_75, List.forall_mem_cons.mpr ⟨jdd_7_putToSleep_76, List.forall_mem_cons.mpr ⟨jdd_7_join_77, List.forall_mem_cons.mpr ⟨jdd_7_lastSleeper_78, List.forall_mem_cons.mpr ⟨jdd_6_doCall_79, List.forall_mem_cons.mpr ⟨jdd_2_find_80, List.forall_mem_cons.mpr ⟨jdd_1_alike_81, List.forall_mem_cons.mpr ⟨jdd_1_arity_82, List.forall_mem_cons.mpr ⟨jdd_6_leaveChoice_83, fun _ h => absurd h List.not_mem_nil⟩⟩⟩⟩⟩⟩⟩⟩⟩⟩⟩⟩⟩⟩
theorem jdc_6 : ∀ e ∈ (jd_m.getD 6 (0, [])).2, jdecOK e.2.1 := List.forall_mem_cons.mpr ⟨jdd_7_changes_84, List.forall_mem_cons.mpr ⟨jdd_7_variables_85, List.forall_mem_cons.mpr ⟨jdd_7_sleepers_86, List.forall_mem_cons.mpr ⟨jdd_7_aparts_87, List.forall_mem_cons.mpr ⟨jdd_6_take_88, List.forall_mem_cons.mpr ⟨jdd_3_pushArguments_89, List.forall_mem_cons.mpr ⟨jdd_1_argument_90, List.forall_mem_cons.mpr ⟨jdd_3_makeSame_91, List.forall_mem_cons.mpr ⟨jdd_3_goThroughPairs_92, List.forall_mem_cons.mpr ⟨jdd_7_bind_93, List.forall_mem_cons.mpr ⟨jdd_7_firstSleeper_94, List.forall_mem_cons.mpr ⟨jdd_3_wake_95, List.forall_mem_cons.mpr ⟨jdd_7_sleeperBehind_96, List.forall_mem_cons.mpr ⟨jdd_3_testAparts_97, fun _ h => absurd h List.not_mem_nil⟩⟩⟩⟩⟩⟩⟩⟩⟩⟩⟩⟩⟩⟩
theorem jdc_7 : ∀ e ∈ (jd_m.getD 7 (0, [])).2, jdecOK e.2.1 := List.forall_mem_cons.mpr ⟨jdd_3_testApart_98, List.forall_mem_cons.mpr ⟨jdd_7_apartGoal_99, List.forall_mem_cons.mpr ⟨jdd_7_apartEnv_100, List.forall_mem_cons.mpr ⟨jdd_7_goBack_101, List.forall_mem_cons.mpr ⟨jdd_7_undo_102, List.forall_mem_cons.mpr ⟨jdd_7_settle_103, List.forall_mem_cons.mpr ⟨jdd_6_putWokenInFront_104, List.forall_mem_cons.mpr ⟨jdd_3_wokenGoals_105, List.forall_mem_cons.mpr ⟨jdd_3_wokenGoal_106, List.forall_mem_cons.mpr ⟨jdd_7_sleeperGoal_107, List.forall_mem_cons.mpr ⟨jdd_7_sleeperEnv_108, List.forall_mem_cons.mpr ⟨jdd_6_retry_109, List.forall_mem_cons.mpr ⟨jdd_7_forget_110, List.forall_mem_cons.mpr ⟨jdd_0_conclude_111, fun _ h => absurd h List.not_mem_nil⟩⟩⟩⟩⟩⟩⟩⟩⟩⟩⟩⟩⟩⟩
theorem jdc_8 : ∀ e ∈ (jd_m.getD 8 (0, [])).2, jdecOK e.2.1 := List.forall_mem_cons.mpr ⟨jdd_3_stepsTaken_112, List.forall_mem_cons.mpr ⟨jdd_0_next_113, List.forall_mem_cons.mpr ⟨jdd_0_letter_114, List.forall_mem_cons.mpr ⟨jdd_0_isVariableName_115, List.forall_mem_cons.mpr ⟨jdd_0_questionNode_116, List.forall_mem_cons.mpr ⟨jdd_1_nodeWithSign_117, List.forall_mem_cons.mpr ⟨jdd_11_write_118, List.forall_mem_cons.mpr ⟨jdd_11_pushTerm_119, List.forall_mem_cons.mpr ⟨jdd_11_writeTop_120, List.forall_mem_cons.mpr ⟨jdd_11_pushArguments_121, List.forall_mem_cons.mpr ⟨jdd_11_pushSign_122, List.forall_mem_cons.mpr ⟨jdd_11_characterAt_123, List.forall_mem_cons.mpr ⟨jdd_0_sleeping_124, List.forall_mem_cons.mpr ⟨jdd_7_sleepersOn_125, fun _ h => absurd h List.not_mem_nil⟩⟩⟩⟩⟩⟩⟩⟩⟩⟩⟩⟩⟩⟩
theorem jdc_9 : ∀ e ∈ (jd_m.getD 9 (0, [])).2, jdecOK e.2.1 := List.forall_mem_cons.mpr ⟨jdd_12_init_126, List.forall_mem_cons.mpr ⟨jdd_12_thrown_127, List.forall_mem_cons.mpr ⟨jdd_12_type_128, List.forall_mem_cons.mpr ⟨jdd_12_in_129, List.forall_mem_cons.mpr ⟨jdd_12_bad_130, List.forall_mem_cons.mpr ⟨jdd_12_fail_131, List.forall_mem_cons.mpr ⟨jdd_12_add_132, List.forall_mem_cons.mpr ⟨jdd_12_readClause_133, List.forall_mem_cons.mpr ⟨jdd_12_readTerm_134, List.forall_mem_cons.mpr ⟨jdd_12_look_135, List.forall_mem_cons.mpr ⟨jdd_12_passes_136, List.forall_mem_cons.mpr ⟨jdd_12_readGoals_137, List.forall_mem_cons.mpr ⟨jdd_12_drop_138, List.forall_mem_cons.mpr ⟨jdd_12_ask_139, fun _ h => absurd h List.not_mem_nil⟩⟩⟩⟩⟩⟩⟩⟩⟩⟩⟩⟩⟩⟩
theorem jdc_10 : ∀ e ∈ (jd_m.getD 10 (0, [])).2, jdecOK e.2.1 := List.forall_mem_cons.mpr ⟨jdd_12_number_140, List.forall_mem_cons.mpr ⟨jdd_12_born_141, List.forall_mem_cons.mpr ⟨jdd_12_buildGoals_142, List.forall_mem_cons.mpr ⟨jdd_12_at_143, List.forall_mem_cons.mpr ⟨jdd_12_goal_144, List.forall_mem_cons.mpr ⟨jdd_12_build_145, List.forall_mem_cons.mpr ⟨jdd_12_cell_146, List.forall_mem_cons.mpr ⟨jdd_12_hang_147, List.forall_mem_cons.mpr ⟨jdd_12_seek_148, List.forall_mem_cons.mpr ⟨jdd_12_back_149, List.forall_mem_cons.mpr ⟨jdd_12_nextFit_150, List.forall_mem_cons.mpr ⟨jdd_12_fits_151, List.forall_mem_cons.mpr ⟨jdd_12_undo_152, List.forall_mem_cons.mpr ⟨jdd_12_take_153, fun _ h => absurd h List.not_mem_nil⟩⟩⟩⟩⟩⟩⟩⟩⟩⟩⟩⟩⟩⟩
theorem jdc_11 : ∀ e ∈ (jd_m.getD 11 (0, [])).2, jdecOK e.2.1 := List.forall_mem_cons.mpr ⟨jdd_12_pair_154, List.forall_mem_cons.mpr ⟨jdd_12_unify_155, List.forall_mem_cons.mpr ⟨jdd_12_same_156, List.forall_mem_cons.mpr ⟨jdd_12_step_157, List.forall_mem_cons.mpr ⟨jdd_12_value_158, List.forall_mem_cons.mpr ⟨jdd_12_tie_159, List.forall_mem_cons.mpr ⟨jdd_12_change_160, List.forall_mem_cons.mpr ⟨jdd_12_follow_161, List.forall_mem_cons.mpr ⟨jdd_12_test_162, List.forall_mem_cons.mpr ⟨jdd_12_perform_163, List.forall_mem_cons.mpr ⟨jdd_12_call_164, List.forall_mem_cons.mpr ⟨jdd_12_apart_165, List.forall_mem_cons.mpr ⟨jdd_12_less_166, List.forall_mem_cons.mpr ⟨jdd_12_sleep_167, fun _ h => absurd h List.not_mem_nil⟩⟩⟩⟩⟩⟩⟩⟩⟩⟩⟩⟩⟩⟩
theorem jdc_12 : ∀ e ∈ (jd_m.getD 12 (0, [])).2, jdecOK e.2.1 := List.forall_mem_cons.mpr ⟨jdd_12_next_168, List.forall_mem_cons.mpr ⟨jdd_12_letter_169, List.forall_mem_cons.mpr ⟨jdd_12_write_170, List.forall_mem_cons.mpr ⟨jdd_12_put_171, List.forall_mem_cons.mpr ⟨jdd_12_sleeping_172, List.forall_mem_cons.mpr ⟨jdd_12_count_173, List.forall_mem_cons.mpr ⟨jdd_13_type_174, List.forall_mem_cons.mpr ⟨jdd_13_add_175, List.forall_mem_cons.mpr ⟨jdd_13_drop_176, List.forall_mem_cons.mpr ⟨jdd_13_ask_177, List.forall_mem_cons.mpr ⟨jdd_13_next_178, List.forall_mem_cons.mpr ⟨jdd_13_letter_179, List.forall_mem_cons.mpr ⟨jdd_13_sleeping_180, List.forall_mem_cons.mpr ⟨jdd_14_max_181, fun _ h => absurd h List.not_mem_nil⟩⟩⟩⟩⟩⟩⟩⟩⟩⟩⟩⟩⟩⟩
theorem jdc_13 : ∀ e ∈ (jd_m.getD 13 (0, [])).2, jdecOK e.2.1 := List.forall_mem_cons.mpr ⟨jdd_14_min_182, List.forall_mem_cons.mpr ⟨jdd_15_bitCount_183, List.forall_mem_cons.mpr ⟨jdd_16_copyOf_184, fun _ h => absurd h List.not_mem_nil⟩⟩⟩
theorem jdec_all : ∀ q ∈ jd_m, ∀ e ∈ q.2, jdecOK e.2.1 := List.forall_mem_cons.mpr ⟨jdc_0, List.forall_mem_cons.mpr ⟨jdc_1, List.forall_mem_cons.mpr ⟨jdc_2, List.forall_mem_cons.mpr ⟨jdc_3, List.forall_mem_cons.mpr ⟨jdc_4, List.forall_mem_cons.mpr ⟨jdc_5, List.forall_mem_cons.mpr ⟨jdc_6, List.forall_mem_cons.mpr ⟨jdc_7, List.forall_mem_cons.mpr ⟨jdc_8, List.forall_mem_cons.mpr ⟨jdc_9, List.forall_mem_cons.mpr ⟨jdc_10, List.forall_mem_cons.mpr ⟨jdc_11, List.forall_mem_cons.mpr ⟨jdc_12, List.forall_mem_cons.mpr ⟨jdc_13, fun _ h => absurd h List.not_mem_nil⟩⟩⟩⟩⟩⟩⟩⟩⟩⟩⟩⟩⟩⟩
theorem jdec_mt {z : Nat} {M : jM} (h : jt_m z = some M) : jdecOK M := by
  unfold jt_m at h
  obtain ⟨q, hq, rfl⟩ := Option.map_eq_some_iff.mp h
  obtain ⟨c, hc, hm⟩ := List.mem_flatMap.mp (jlk2_mem hq)
  exact jdec_all c hc _ hm
end
section
def jd_w : List (List Nat) := [[1076, 1078], [1109, 1111, 1113], [1183, 1185, 1187, 1189, 1191, 1193, 1195], [1091, 1093, 1095, 1097], [1217, 1219, 1221, 1223, 1225, 1227, 1229, 1231, 1233], [1130, 1132, 1134, 1136, 1138, 1140], [1066, 1068, 1070], [1042, 1044], [1169, 1171, 1173], [2011, 2013, 2015, 2017, 2019], [2036, 2038, 2040, 2042, 2044, 2046, 2048, 2050, 2052, 2054, 2056, 2058], [5118, 5120, 5122, 5124, 5126, 5128, 5130, 5132, 5134, 5136, 5138, 5140, 5142, 5144, 5146, 5148, 5150, 5152, 5154, 5156, 5158, 5160, 5162, 5164, 5166, 5168, 5170, 5172, 5174, 5176, 5178, 5180, 5182, 5184, 5186, 5188, 5190, 5192, 5194, 5196, 5198, 5200, 5202, 5204, 5206, 5208, 5210, 5212, 5214, 5216, 5218, 5220, 5222, 5224, 5226, 5228, 5230, 5232, 5234, 5236, 5238, 6000, 6002, 6004]]
def jty (T : u_T) (j : Nat) : FieldType := (parseFieldDescriptor (T j).2.2.1).getD .int
def jcC (q : vw_C) (ps : List Nat) : Bool := (List.range q.2.2).all (fun k => jIn (ps.getD k 0) (u_lay q.1 q.2.1 k) && decide (parseFieldDescriptor (q.2.1 k).2.2.1 = some (jty q.2.1 k))) &&
  (List.range q.2.2).all (fun a => (List.range q.2.2).all (fun b => decide (a = b) || decide ((q.2.1 a).2.1 ≠ (q.2.1 b).2.1)))
def jcCl : Bool := (List.range cl0.length).all (fun ci => match cl0[ci]? with
  | some q => jcC q (jd_w.getD ci [])
  | none => true)
set_option maxRecDepth 20000 in
theorem jcCl_ok : jcCl = true := by decide +kernel
theorem jcls {ci : Nat} {q : vw_C} (h : cl0[ci]? = some q) : (∀ w ∈ u_ws q.1 q.2.1 q.2.2, w ∈ TB0) ∧ (∀ j, j < q.2.2 → parseFieldDescriptor (q.2.1 j).2.2.1 = some (jty q.2.1 j)) ∧ (∀ a, a < q.2.2 → ∀ b, b < q.2.2 → a ≠ b → (q.2.1 a).2.1 ≠ (q.2.1 b).2.1) := by
  have hc := jcCl_ok
  unfold jcCl at hc
  have h1 := List.all_eq_true.mp hc ci (List.mem_range.mpr (List.getElem?_eq_some_iff.mp h).1)
  rw [h] at h1
  unfold jcC at h1
  rw [Bool.and_eq_true] at h1
  obtain ⟨h2, h3⟩ := h1
  refine ⟨fun w hw => ?_, fun j hj => ?_, fun a ha b hb hab => ?_⟩
  · obtain ⟨k, hk, rfl⟩ := List.mem_map.mp hw
    have h4 := List.all_eq_true.mp h2 k hk
    rw [Bool.and_eq_true] at h4
    exact jIn_ok h4.1
  · have h4 := List.all_eq_true.mp h2 j (List.mem_range.mpr hj)
    rw [Bool.and_eq_true, decide_eq_true_eq] at h4
    exact h4.2
  · have h4 := List.all_eq_true.mp (List.all_eq_true.mp h3 a (List.mem_range.mpr ha)) b (List.mem_range.mpr hb)
    rw [Bool.or_eq_true, decide_eq_true_eq, decide_eq_true_eq] at h4
    exact h4.resolve_left hab
def jd_i : List (Nat × Nat) := [(1049, 2), (1101, 3), (1144, 7), (1082, 4), (1199, 9), (1117, 6), (1055, 3), (1035, 2), (1152, 3), (1237, 5), (1027, 12), (5048, 64), (2111, 6), (2180, 6), (4180, 6), (4196, 6)]
def jcI : Bool := (List.range cl0.length).all (fun ci => match cl0[ci]? with
  | some q => jIn (jd_i.getD ci (0, 0)).1 (.instantiable q.1 (jd_i.getD ci (0, 0)).2)
  | none => true)
set_option maxRecDepth 20000 in
theorem jcI_ok : jcI = true := by decide +kernel
def jcN (e : Nat × ((Nat × List Value) × List Nat)) : Bool := match cl0[e.2.1.1]? with
  | none => false
  | some (C, T, N) => decide (e.2.1.2.length = N) && jIn (e.2.2.getD 0 0) (.classLink (jown (e.1 / 1000)) (e.1 % 1000) C) && jIn (e.2.2.getD 1 0) (.instantiable C N) && jIn (e.2.2.getD 2 0) (.initialized C) &&
      (List.range N).all (fun j => decide (defaultValue (jty T j) = vp_V e.2.1.2 j)) && e.2.1.2.all (fun v => match v with
        | .ref _ => false
        | _ => true)
set_option maxRecDepth 20000 in
theorem jcN_ok : (jd_n.flatMap (fun q => q.2)).all jcN = true := by decide +kernel
def jnm : List String := ["DONE", "ANSWER", "TOO_MANY_STEPS", "PAIRS", "NEW_APART", "NO_DIGITS", "FAILED", "TESTS", "WOKEN", "NO_ANSWER"]
def jcS (e : Nat × (Nat × Nat)) : Bool := decide (1 ≤ e.2.1) && decide (e.2.1 ≤ 10) && jIn e.2.2 (.fieldLink (jown (e.1 / 1000)) (e.1 % 1000) "GoalDesk$Outcome" (jnm.getD (e.2.1 - 1) "") "LGoalDesk$Outcome;")
set_option maxRecDepth 20000 in
theorem jcS_ok : (jd_s.flatMap (fun q => q.2)).all jcS = true := by decide +kernel
/-- the texts: class, entry, text -/
def jstr : List (String × Nat × String) := [("GoalDesk", 90, "a byte is not 33 .. 126"), ("GoalDesk", 101, "the text would be too long"), ("GoalDesk", 114, "12 clauses are there"), ("GoalDesk", 125, "the text is no clause"), ("GoalDesk", 134, "there is no such clause"), ("GoalDesk", 142, "the text is no question"), ("GoalDesk", 223, "500 steps were taken"), ("GoalDesk", 230, "only digits can be less"), ("GoalDesk", 233, "there is no further answer"), ("GoalDesk", 166, "nothing is asked"), ("GoalDesk", 175, "the variable is not 0 .. 25"), ("GoalDesk", 181, "there is no such variable"), ("GoalDesk", 186, "there is no such character")]
def jcC2 (e : Nat × (Value × Nat)) : Bool := match e.2.1 with
  | .int x => jIn e.2.2 (.constant (jown (e.1 / 1000)) (e.1 % 1000) x)
  | .long x => jIn e.2.2 (.constantLong (jown (e.1 / 1000)) (e.1 % 1000) x)
  | .ref a => decide (11 ≤ a) && decide (a < 24) && decide ((jstr.getD (a - 11) ("", 0, "")).1 = jown (e.1 / 1000)) && decide ((jstr.getD (a - 11) ("", 0, "")).2.1 = e.1 % 1000)
  | _ => false
set_option maxRecDepth 20000 in
theorem jcC2_ok : (jd_c.flatMap (fun q => q.2)).all jcC2 = true := by decide +kernel
def jcL0 (k : Nat) (ps : List Nat) (z n ci : Nat) : Bool := match jt_m z, cl0[ci]? with
    | some Z, some q => decide (q.1 = Z.1.cls) && jIn (ps.getD 0 0) (.methodLink (jown (k / 1000)) (k % 1000) Z.1) && jIn (ps.getD 1 0) (.instanceMethod Z.1) && jIn (ps.getD 2 0) (.selects Z.1.cls Z.1 Z.1) && decide ((parseMethodDescriptor Z.1.desc).map (fun d => d.parameters.length) = some (n - 1))
    | _, _ => false
def jcL1 (k : Nat) (ps : List Nat) (z n : Nat) : Bool := match jt_m z with
    | some Z => decide (Z.1.name = "<init>") && decide (Z.2.2.2.1 = none) && decide (Z.2.2.2.2.2.2.2 = []) && jIn (ps.getD 0 0) (.methodLink (jown (k / 1000)) (k % 1000) Z.1) && jIn (ps.getD 1 0) (.instanceMethod Z.1) && decide ((parseMethodDescriptor Z.1.desc).map (fun d => d.parameters.length) = some (n - 1))
    | _ => false
def jcL2 (k : Nat) (ps : List Nat) (z n : Nat) : Bool := match jt_m z with
    | some Z => jIn (ps.getD 0 0) (.methodLink (jown (k / 1000)) (k % 1000) Z.1) && jIn (ps.getD 1 0) (.static Z.1) && decide ((parseMethodDescriptor Z.1.desc).map (fun d => d.parameters.length) = some n)
    | _ => false
def jcL4 (k : Nat) (ps : List Nat) (z n : Nat) : Bool := match jt_m z with
    | some Z => decide (Z.1.name = "<init>") && decide (Z.2.2.2.1 = none) && decide (Z.2.2.2.2.2.2.2 = []) && decide (jw (ps.getD 0 0) = some (.methodLinkNest (jown (k / 1000)) (k % 1000) Z.1 "GoalDesk")) && jIn (ps.getD 1 0) (.instanceMethod Z.1) && decide ((parseMethodDescriptor Z.1.desc).map (fun d => d.parameters.length) = some (n - 1))
    | _ => false
def jcL (e : Nat × ((Nat × Nat × Nat × Nat) × List Nat)) : Bool := match e.2.1 with
  | (0, z, n, ci) => jcL0 e.1 e.2.2 z n ci
  | (1, z, n, _) => jcL1 e.1 e.2.2 z n
  | (2, z, n, _) => jcL2 e.1 e.2.2 z n
  | (3, _, _, _) => jIn (e.2.2.getD 0 0) (.methodLink (jown (e.1 / 1000)) (e.1 % 1000) Lib.objectInit)
  | (4, z, n, _) => jcL4 e.1 e.2.2 z n
  | (5, _, _, _) => jIn (e.2.2.getD 0 0) (.methodLink (jown (e.1 / 1000)) (e.1 % 1000) arraycopyName)
  | _ => false
set_option maxRecDepth 20000 in
theorem jcL_ok : (jd_l.flatMap (fun q => q.2)).all jcL = true := by decide +kernel
end
section
def jcM (M : jM) (ps : List Nat) : Bool := plainFor M.1 && decide (M.1.cls ≠ "java/lang/invoke/MethodHandle") && decide (M.1.cls ≠ "java/lang/invoke/VarHandle") && (!M.2.2.2.2.2.1 || decide (M.1.name = "<init>")) &&
  jIn (ps.getD 1 0) (.initialized M.1.cls) && decide (M.2.2.1 ≤ 45) && decide (jown M.2.2.2.2.1 = M.1.cls)
set_option maxRecDepth 20000 in
theorem jcM_ok : (jd_m.flatMap (fun q => q.2)).all (fun e => jcM e.2.1 e.2.2) = true := by decide +kernel

theorem jcO_ok : jIn 1032 (.instanceMethod Lib.objectInit) = true ∧ jIn 1033 (.code Lib.objectInit ⟨#[0xb1]⟩ 1 none) = true ∧ jIn 3011 (.native arraycopyName) = true ∧ jIn 3010 (.static arraycopyName) = true ∧ jIn 1020 (.initialized "java/lang/System") = true ∧ jIn 1073 (.arrayClass .int) = true ∧ jIn 1047 (.arrayClass .char) = true ∧ jIn 6199 (.arrayClass .long) = true := by decide +kernel
def jcwOK (M : jM) : Prop := (if M.2.2.2.2.2.2.2.map (fun q => q.1) = [] then Jvm.Cond.code M.1 M.2.1 M.2.2.1 M.2.2.2.1 else Jvm.Cond.codeWith M.1 M.2.1 M.2.2.1 M.2.2.2.1 (M.2.2.2.2.2.2.2.map (fun q => q.1))) ∈ TB0
theorem jcw_0_init_0 : jcwOK jm_0_init_0 := List.mem_filter.mpr ⟨jw_mem (p := 1030) rfl, rfl⟩
theorem jcw_9_init_1 : jcwOK jm_9_init_1 := List.mem_filter.mpr ⟨jw_mem (p := 1038) rfl, rfl⟩
theorem jcw_1_init_2 : jcwOK jm_1_init_2 := List.mem_filter.mpr ⟨jw_mem (p := 1052) rfl, rfl⟩
theorem jcw_8_init_3 : jcwOK jm_8_init_3 := List.mem_filter.mpr ⟨jw_mem (p := 1058) rfl, rfl⟩
theorem jcw_5_init_4 : jcwOK jm_5_init_4 := List.mem_filter.mpr ⟨jw_mem (p := 1085) rfl, rfl⟩
theorem jcw_2_init_5 : jcwOK jm_2_init_5 := List.mem_filter.mpr ⟨jw_mem (p := 1104) rfl, rfl⟩
theorem jcw_7_init_6 : jcwOK jm_7_init_6 := List.mem_filter.mpr ⟨jw_mem (p := 1120) rfl, rfl⟩
theorem jcw_3_init_7 : jcwOK jm_3_init_7 := List.mem_filter.mpr ⟨jw_mem (p := 1147) rfl, rfl⟩
theorem jcw_10_init_8 : jcwOK jm_10_init_8 := List.mem_filter.mpr ⟨jw_mem (p := 1155) rfl, rfl⟩
theorem jcw_6_init_9 : jcwOK jm_6_init_9 := List.mem_filter.mpr ⟨jw_mem (p := 1202) rfl, rfl⟩
theorem jcw_11_init_10 : jcwOK jm_11_init_10 := List.mem_filter.mpr ⟨jw_mem (p := 2000) rfl, rfl⟩
theorem jcw_0_count_11 : jcwOK jm_0_count_11 := List.mem_filter.mpr ⟨jw_mem (p := 2064) rfl, rfl⟩
theorem jcw_9_length_12 : jcwOK jm_9_length_12 := List.mem_filter.mpr ⟨jw_mem (p := 2068) rfl, rfl⟩
theorem jcw_2_size_13 : jcwOK jm_2_size_13 := List.mem_filter.mpr ⟨jw_mem (p := 2072) rfl, rfl⟩
theorem jcw_6_choicesLeft_14 : jcwOK jm_6_choicesLeft_14 := List.mem_filter.mpr ⟨jw_mem (p := 2076) rfl, rfl⟩
theorem jcw_8_rows_15 : jcwOK jm_8_rows_15 := List.mem_filter.mpr ⟨jw_mem (p := 2080) rfl, rfl⟩
theorem jcw_7_apartsWaiting_16 : jcwOK jm_7_apartsWaiting_16 := List.mem_filter.mpr ⟨jw_mem (p := 2084) rfl, rfl⟩
theorem jcw_7_isWaiting_17 : jcwOK jm_7_isWaiting_17 := List.mem_filter.mpr ⟨jw_mem (p := 2089) rfl, rfl⟩
theorem jcw_8_at_18 : jcwOK jm_8_at_18 := List.mem_filter.mpr ⟨jw_mem (p := 2093) rfl, rfl⟩
theorem jcw_7_variablesMade_19 : jcwOK jm_7_variablesMade_19 := List.mem_filter.mpr ⟨jw_mem (p := 2097) rfl, rfl⟩
theorem jcw_0_type_20 : jcwOK jm_0_type_20 := List.mem_filter.mpr ⟨jw_mem (p := 2106) rfl, rfl⟩
theorem jcw_0_byteOf_21 : jcwOK jm_0_byteOf_21 := List.mem_filter.mpr ⟨jw_mem (p := 2109) rfl, rfl⟩
theorem jcw_9_append_22 : jcwOK jm_9_append_22 := List.mem_filter.mpr ⟨jw_mem (p := 2198) rfl, rfl⟩
theorem jcw_0_add_23 : jcwOK jm_0_add_23 := List.mem_filter.mpr ⟨jw_mem (p := 2205) rfl, rfl⟩
theorem jcw_9_clear_24 : jcwOK jm_9_clear_24 := List.mem_filter.mpr ⟨jw_mem (p := 2209) rfl, rfl⟩
theorem jcw_2_freePage_25 : jcwOK jm_2_freePage_25 := List.mem_filter.mpr ⟨jw_mem (p := 2214) rfl, rfl⟩
theorem jcw_2_page_26 : jcwOK jm_2_page_26 := List.mem_filter.mpr ⟨jw_mem (p := 2218) rfl, rfl⟩
theorem jcw_5_readClause_27 : jcwOK jm_5_readClause_27 := List.mem_filter.mpr ⟨jw_mem (p := 2222) rfl, rfl⟩
theorem jcw_5_begin_28 : jcwOK jm_5_begin_28 := List.mem_filter.mpr ⟨jw_mem (p := 2226) rfl, rfl⟩
theorem jcw_1_clearPage_29 : jcwOK jm_1_clearPage_29 := List.mem_filter.mpr ⟨jw_mem (p := 2230) rfl, rfl⟩
theorem jcw_8_put_30 : jcwOK jm_8_put_30 := List.mem_filter.mpr ⟨jw_mem (p := 2234) rfl, rfl⟩
theorem jcw_1_firstNode_31 : jcwOK jm_1_firstNode_31 := List.mem_filter.mpr ⟨jw_mem (p := 3014) rfl, rfl⟩
theorem jcw_9_at_32 : jcwOK jm_9_at_32 := List.mem_filter.mpr ⟨jw_mem (p := 3018) rfl, rfl⟩
theorem jcw_1_isSmall_33 : jcwOK jm_1_isSmall_33 := List.mem_filter.mpr ⟨jw_mem (p := 3021) rfl, rfl⟩
theorem jcw_5_readTerm_34 : jcwOK jm_5_readTerm_34 := List.mem_filter.mpr ⟨jw_mem (p := 3025) rfl, rfl⟩
theorem jcw_1_isCapital_35 : jcwOK jm_1_isCapital_35 := List.mem_filter.mpr ⟨jw_mem (p := 3028) rfl, rfl⟩
theorem jcw_1_isDigit_36 : jcwOK jm_1_isDigit_36 := List.mem_filter.mpr ⟨jw_mem (p := 3031) rfl, rfl⟩
theorem jcw_5_node_37 : jcwOK jm_5_node_37 := List.mem_filter.mpr ⟨jw_mem (p := 3035) rfl, rfl⟩
theorem jcw_1_noteTerm_38 : jcwOK jm_1_noteTerm_38 := List.mem_filter.mpr ⟨jw_mem (p := 3040) rfl, rfl⟩
theorem jcw_5_readSign_39 : jcwOK jm_5_readSign_39 := List.mem_filter.mpr ⟨jw_mem (p := 3046) rfl, rfl⟩
theorem jcw_1_noteArgument_40 : jcwOK jm_1_noteArgument_40 := List.mem_filter.mpr ⟨jw_mem (p := 3050) rfl, rfl⟩
theorem jcw_5_atEnd_41 : jcwOK jm_5_atEnd_41 := List.mem_filter.mpr ⟨jw_mem (p := 3054) rfl, rfl⟩
theorem jcw_5_readGoals_42 : jcwOK jm_5_readGoals_42 := List.mem_filter.mpr ⟨jw_mem (p := 3059) rfl, rfl⟩
theorem jcw_1_noteFirstGoal_43 : jcwOK jm_1_noteFirstGoal_43 := List.mem_filter.mpr ⟨jw_mem (p := 3063) rfl, rfl⟩
theorem jcw_5_readGoal_44 : jcwOK jm_5_readGoal_44 := List.mem_filter.mpr ⟨jw_mem (p := 3067) rfl, rfl⟩
theorem jcw_1_noteGoal_45 : jcwOK jm_1_noteGoal_45 := List.mem_filter.mpr ⟨jw_mem (p := 3071) rfl, rfl⟩
theorem jcw_1_noteFollower_46 : jcwOK jm_1_noteFollower_46 := List.mem_filter.mpr ⟨jw_mem (p := 3075) rfl, rfl⟩
theorem jcw_1_rankVariables_47 : jcwOK jm_1_rankVariables_47 := List.mem_filter.mpr ⟨jw_mem (p := 3079) rfl, rfl⟩
theorem jcw_1_sign_48 : jcwOK jm_1_sign_48 := List.mem_filter.mpr ⟨jw_mem (p := 3083) rfl, rfl⟩
theorem jcw_5_place_49 : jcwOK jm_5_place_49 := List.mem_filter.mpr ⟨jw_mem (p := 3093) rfl, rfl⟩
theorem jcw_2_keepFreePage_50 : jcwOK jm_2_keepFreePage_50 := List.mem_filter.mpr ⟨jw_mem (p := 3098) rfl, rfl⟩
theorem jcw_0_drop_51 : jcwOK jm_0_drop_51 := List.mem_filter.mpr ⟨jw_mem (p := 3105) rfl, rfl⟩
theorem jcw_2_remove_52 : jcwOK jm_2_remove_52 := List.mem_filter.mpr ⟨jw_mem (p := 3110) rfl, rfl⟩
theorem jcw_0_ask_53 : jcwOK jm_0_ask_53 := List.mem_filter.mpr ⟨jw_mem (p := 3119) rfl, rfl⟩
theorem jcw_5_readQuestion_54 : jcwOK jm_5_readQuestion_54 := List.mem_filter.mpr ⟨jw_mem (p := 3123) rfl, rfl⟩
theorem jcw_6_begin_55 : jcwOK jm_6_begin_55 := List.mem_filter.mpr ⟨jw_mem (p := 3128) rfl, rfl⟩
theorem jcw_7_clear_56 : jcwOK jm_7_clear_56 := List.mem_filter.mpr ⟨jw_mem (p := 3132) rfl, rfl⟩
theorem jcw_8_shrink_57 : jcwOK jm_8_shrink_57 := List.mem_filter.mpr ⟨jw_mem (p := 3136) rfl, rfl⟩
theorem jcw_3_clear_58 : jcwOK jm_3_clear_58 := List.mem_filter.mpr ⟨jw_mem (p := 3140) rfl, rfl⟩
theorem jcw_7_makeVariables_59 : jcwOK jm_7_makeVariables_59 := List.mem_filter.mpr ⟨jw_mem (p := 3146) rfl, rfl⟩
theorem jcw_1_variablesOf_60 : jcwOK jm_1_variablesOf_60 := List.mem_filter.mpr ⟨jw_mem (p := 3150) rfl, rfl⟩
theorem jcw_8_append_61 : jcwOK jm_8_append_61 := List.mem_filter.mpr ⟨jw_mem (p := 3154) rfl, rfl⟩
theorem jcw_1_firstGoal_62 : jcwOK jm_1_firstGoal_62 := List.mem_filter.mpr ⟨jw_mem (p := 3158) rfl, rfl⟩
theorem jcw_6_seek_63 : jcwOK jm_6_seek_63 := List.mem_filter.mpr ⟨jw_mem (p := 3165) rfl, rfl⟩
theorem jcw_6_doGoal_64 : jcwOK jm_6_doGoal_64 := List.mem_filter.mpr ⟨jw_mem (p := 3173) rfl, rfl⟩
theorem jcw_3_takeStep_65 : jcwOK jm_3_takeStep_65 := List.mem_filter.mpr ⟨jw_mem (p := 3177) rfl, rfl⟩
theorem jcw_1_follower_66 : jcwOK jm_1_follower_66 := List.mem_filter.mpr ⟨jw_mem (p := 3184) rfl, rfl⟩
theorem jcw_1_kind_67 : jcwOK jm_1_kind_67 := List.mem_filter.mpr ⟨jw_mem (p := 3188) rfl, rfl⟩
theorem jcw_1_right_68 : jcwOK jm_1_right_68 := List.mem_filter.mpr ⟨jw_mem (p := 3192) rfl, rfl⟩
theorem jcw_3_pushPair_69 : jcwOK jm_3_pushPair_69 := List.mem_filter.mpr ⟨jw_mem (p := 3196) rfl, rfl⟩
theorem jcw_7_letWait_70 : jcwOK jm_7_letWait_70 := List.mem_filter.mpr ⟨jw_mem (p := 3203) rfl, rfl⟩
theorem jcw_6_doLess_71 : jcwOK jm_6_doLess_71 := List.mem_filter.mpr ⟨jw_mem (p := 3209) rfl, rfl⟩
theorem jcw_7_find_72 : jcwOK jm_7_find_72 := List.mem_filter.mpr ⟨jw_mem (p := 3213) rfl, rfl⟩
theorem jcw_1_rank_73 : jcwOK jm_1_rank_73 := List.mem_filter.mpr ⟨jw_mem (p := 3217) rfl, rfl⟩
theorem jcw_6_doSleep_74 : jcwOK jm_6_doSleep_74 := List.mem_filter.mpr ⟨jw_mem (p := 3227) rfl, rfl⟩
theorem jcw_6_putInFront_75 : jcwOK jm_6_putInFront_75 := List.mem_filter.mpr ⟨jw_mem (p := 3231) rfl, rfl⟩
theorem jcw_7_putToSleep_76 : jcwOK jm_7_putToSleep_76 := List.mem_filter.mpr ⟨jw_mem (p := 3235) rfl, rfl⟩
theorem jcw_7_join_77 : jcwOK jm_7_join_77 := List.mem_filter.mpr ⟨jw_mem (p := 3239) rfl, rfl⟩
theorem jcw_7_lastSleeper_78 : jcwOK jm_7_lastSleeper_78 := List.mem_filter.mpr ⟨jw_mem (p := 4003) rfl, rfl⟩
theorem jcw_6_doCall_79 : jcwOK jm_6_doCall_79 := List.mem_filter.mpr ⟨jw_mem (p := 4008) rfl, rfl⟩
theorem jcw_2_find_80 : jcwOK jm_2_find_80 := List.mem_filter.mpr ⟨jw_mem (p := 4012) rfl, rfl⟩
theorem jcw_1_alike_81 : jcwOK jm_1_alike_81 := List.mem_filter.mpr ⟨jw_mem (p := 4018) rfl, rfl⟩
theorem jcw_1_arity_82 : jcwOK jm_1_arity_82 := List.mem_filter.mpr ⟨jw_mem (p := 4022) rfl, rfl⟩
theorem jcw_6_leaveChoice_83 : jcwOK jm_6_leaveChoice_83 := List.mem_filter.mpr ⟨jw_mem (p := 4027) rfl, rfl⟩
theorem jcw_7_changes_84 : jcwOK jm_7_changes_84 := List.mem_filter.mpr ⟨jw_mem (p := 4031) rfl, rfl⟩
theorem jcw_7_variables_85 : jcwOK jm_7_variables_85 := List.mem_filter.mpr ⟨jw_mem (p := 4036) rfl, rfl⟩
theorem jcw_7_sleepers_86 : jcwOK jm_7_sleepers_86 := List.mem_filter.mpr ⟨jw_mem (p := 4040) rfl, rfl⟩
theorem jcw_7_aparts_87 : jcwOK jm_7_aparts_87 := List.mem_filter.mpr ⟨jw_mem (p := 4044) rfl, rfl⟩
theorem jcw_6_take_88 : jcwOK jm_6_take_88 := List.mem_filter.mpr ⟨jw_mem (p := 4048) rfl, rfl⟩
theorem jcw_3_pushArguments_89 : jcwOK jm_3_pushArguments_89 := List.mem_filter.mpr ⟨jw_mem (p := 4054) rfl, rfl⟩
theorem jcw_1_argument_90 : jcwOK jm_1_argument_90 := List.mem_filter.mpr ⟨jw_mem (p := 4059) rfl, rfl⟩
theorem jcw_3_makeSame_91 : jcwOK jm_3_makeSame_91 := List.mem_filter.mpr ⟨jw_mem (p := 4063) rfl, rfl⟩
theorem jcw_3_goThroughPairs_92 : jcwOK jm_3_goThroughPairs_92 := List.mem_filter.mpr ⟨jw_mem (p := 4068) rfl, rfl⟩
theorem jcw_7_bind_93 : jcwOK jm_7_bind_93 := List.mem_filter.mpr ⟨jw_mem (p := 4077) rfl, rfl⟩
theorem jcw_7_firstSleeper_94 : jcwOK jm_7_firstSleeper_94 := List.mem_filter.mpr ⟨jw_mem (p := 4081) rfl, rfl⟩
theorem jcw_3_wake_95 : jcwOK jm_3_wake_95 := List.mem_filter.mpr ⟨jw_mem (p := 4087) rfl, rfl⟩
theorem jcw_7_sleeperBehind_96 : jcwOK jm_7_sleeperBehind_96 := List.mem_filter.mpr ⟨jw_mem (p := 4092) rfl, rfl⟩
theorem jcw_3_testAparts_97 : jcwOK jm_3_testAparts_97 := List.mem_filter.mpr ⟨jw_mem (p := 4103) rfl, rfl⟩
theorem jcw_3_testApart_98 : jcwOK jm_3_testApart_98 := List.mem_filter.mpr ⟨jw_mem (p := 4109) rfl, rfl⟩
theorem jcw_7_apartGoal_99 : jcwOK jm_7_apartGoal_99 := List.mem_filter.mpr ⟨jw_mem (p := 4113) rfl, rfl⟩
theorem jcw_7_apartEnv_100 : jcwOK jm_7_apartEnv_100 := List.mem_filter.mpr ⟨jw_mem (p := 4117) rfl, rfl⟩
theorem jcw_7_goBack_101 : jcwOK jm_7_goBack_101 := List.mem_filter.mpr ⟨jw_mem (p := 4123) rfl, rfl⟩
theorem jcw_7_undo_102 : jcwOK jm_7_undo_102 := List.mem_filter.mpr ⟨jw_mem (p := 4127) rfl, rfl⟩
theorem jcw_7_settle_103 : jcwOK jm_7_settle_103 := List.mem_filter.mpr ⟨jw_mem (p := 4131) rfl, rfl⟩
theorem jcw_6_putWokenInFront_104 : jcwOK jm_6_putWokenInFront_104 := List.mem_filter.mpr ⟨jw_mem (p := 4139) rfl, rfl⟩
theorem jcw_3_wokenGoals_105 : jcwOK jm_3_wokenGoals_105 := List.mem_filter.mpr ⟨jw_mem (p := 4143) rfl, rfl⟩
theorem jcw_3_wokenGoal_106 : jcwOK jm_3_wokenGoal_106 := List.mem_filter.mpr ⟨jw_mem (p := 4147) rfl, rfl⟩
theorem jcw_7_sleeperGoal_107 : jcwOK jm_7_sleeperGoal_107 := List.mem_filter.mpr ⟨jw_mem (p := 4151) rfl, rfl⟩
theorem jcw_7_sleeperEnv_108 : jcwOK jm_7_sleeperEnv_108 := List.mem_filter.mpr ⟨jw_mem (p := 4155) rfl, rfl⟩
theorem jcw_6_retry_109 : jcwOK jm_6_retry_109 := List.mem_filter.mpr ⟨jw_mem (p := 4159) rfl, rfl⟩
theorem jcw_7_forget_110 : jcwOK jm_7_forget_110 := List.mem_filter.mpr ⟨jw_mem (p := 4166) rfl, rfl⟩
theorem jcw_0_conclude_111 : jcwOK jm_0_conclude_111 := List.mem_filter.mpr ⟨jw_mem (p := 4170) rfl, rfl⟩
theorem jcw_3_stepsTaken_112 : jcwOK jm_3_stepsTaken_112 := List.mem_filter.mpr ⟨jw_mem (p := 4175) rfl, rfl⟩
theorem jcw_0_next_113 : jcwOK jm_0_next_113 := List.mem_filter.mpr ⟨jw_mem (p := 4217) rfl, rfl⟩
theorem jcw_0_letter_114 : jcwOK jm_0_letter_114 := List.mem_filter.mpr ⟨jw_mem (p := 4226) rfl, rfl⟩
theorem jcw_0_isVariableName_115 : jcwOK jm_0_isVariableName_115 := List.mem_filter.mpr ⟨jw_mem (p := 4229) rfl, rfl⟩
theorem jcw_0_questionNode_116 : jcwOK jm_0_questionNode_116 := List.mem_filter.mpr ⟨jw_mem (p := 4234) rfl, rfl⟩
theorem jcw_1_nodeWithSign_117 : jcwOK jm_1_nodeWithSign_117 := List.mem_filter.mpr ⟨jw_mem (p := 4238) rfl, rfl⟩
theorem jcw_11_write_118 : jcwOK jm_11_write_118 := List.mem_filter.mpr ⟨jw_mem (p := 5003) rfl, rfl⟩
theorem jcw_11_pushTerm_119 : jcwOK jm_11_pushTerm_119 := List.mem_filter.mpr ⟨jw_mem (p := 5008) rfl, rfl⟩
theorem jcw_11_writeTop_120 : jcwOK jm_11_writeTop_120 := List.mem_filter.mpr ⟨jw_mem (p := 5014) rfl, rfl⟩
theorem jcw_11_pushArguments_121 : jcwOK jm_11_pushArguments_121 := List.mem_filter.mpr ⟨jw_mem (p := 5020) rfl, rfl⟩
theorem jcw_11_pushSign_122 : jcwOK jm_11_pushSign_122 := List.mem_filter.mpr ⟨jw_mem (p := 5025) rfl, rfl⟩
theorem jcw_11_characterAt_123 : jcwOK jm_11_characterAt_123 := List.mem_filter.mpr ⟨jw_mem (p := 5032) rfl, rfl⟩
theorem jcw_0_sleeping_124 : jcwOK jm_0_sleeping_124 := List.mem_filter.mpr ⟨jw_mem (p := 5039) rfl, rfl⟩
theorem jcw_7_sleepersOn_125 : jcwOK jm_7_sleepersOn_125 := List.mem_filter.mpr ⟨jw_mem (p := 5044) rfl, rfl⟩
theorem jcw_12_init_126 : jcwOK jm_12_init_126 := List.mem_filter.mpr ⟨jw_mem (p := 5051) rfl, rfl⟩
theorem jcw_12_thrown_127 : jcwOK jm_12_thrown_127 := List.mem_filter.mpr ⟨jw_mem (p := 6010) rfl, rfl⟩
theorem jcw_12_type_128 : jcwOK jm_12_type_128 := List.mem_filter.mpr ⟨jw_mem (p := 6014) rfl, rfl⟩
theorem jcw_12_in_129 : jcwOK jm_12_in_129 := List.mem_filter.mpr ⟨jw_mem (p := 6017) rfl, rfl⟩
theorem jcw_12_bad_130 : jcwOK jm_12_bad_130 := List.mem_filter.mpr ⟨jw_mem (p := 6021) rfl, rfl⟩
theorem jcw_12_fail_131 : jcwOK jm_12_fail_131 := List.mem_filter.mpr ⟨jw_mem (p := 6025) rfl, rfl⟩
theorem jcw_12_add_132 : jcwOK jm_12_add_132 := List.mem_filter.mpr ⟨jw_mem (p := 6029) rfl, rfl⟩
theorem jcw_12_readClause_133 : jcwOK jm_12_readClause_133 := List.mem_filter.mpr ⟨jw_mem (p := 6033) rfl, rfl⟩
theorem jcw_12_readTerm_134 : jcwOK jm_12_readTerm_134 := List.mem_filter.mpr ⟨jw_mem (p := 6037) rfl, rfl⟩
theorem jcw_12_look_135 : jcwOK jm_12_look_135 := List.mem_filter.mpr ⟨jw_mem (p := 6041) rfl, rfl⟩
theorem jcw_12_passes_136 : jcwOK jm_12_passes_136 := List.mem_filter.mpr ⟨jw_mem (p := 6045) rfl, rfl⟩
theorem jcw_12_readGoals_137 : jcwOK jm_12_readGoals_137 := List.mem_filter.mpr ⟨jw_mem (p := 6049) rfl, rfl⟩
theorem jcw_12_drop_138 : jcwOK jm_12_drop_138 := List.mem_filter.mpr ⟨jw_mem (p := 6053) rfl, rfl⟩
theorem jcw_12_ask_139 : jcwOK jm_12_ask_139 := List.mem_filter.mpr ⟨jw_mem (p := 6057) rfl, rfl⟩
theorem jcw_12_number_140 : jcwOK jm_12_number_140 := List.mem_filter.mpr ⟨jw_mem (p := 6061) rfl, rfl⟩
theorem jcw_12_born_141 : jcwOK jm_12_born_141 := List.mem_filter.mpr ⟨jw_mem (p := 6065) rfl, rfl⟩
theorem jcw_12_buildGoals_142 : jcwOK jm_12_buildGoals_142 := List.mem_filter.mpr ⟨jw_mem (p := 6070) rfl, rfl⟩
theorem jcw_12_at_143 : jcwOK jm_12_at_143 := List.mem_filter.mpr ⟨jw_mem (p := 6074) rfl, rfl⟩
theorem jcw_12_goal_144 : jcwOK jm_12_goal_144 := List.mem_filter.mpr ⟨jw_mem (p := 6078) rfl, rfl⟩
theorem jcw_12_build_145 : jcwOK jm_12_build_145 := List.mem_filter.mpr ⟨jw_mem (p := 6082) rfl, rfl⟩
theorem jcw_12_cell_146 : jcwOK jm_12_cell_146 := List.mem_filter.mpr ⟨jw_mem (p := 6086) rfl, rfl⟩
theorem jcw_12_hang_147 : jcwOK jm_12_hang_147 := List.mem_filter.mpr ⟨jw_mem (p := 6090) rfl, rfl⟩
theorem jcw_12_seek_148 : jcwOK jm_12_seek_148 := List.mem_filter.mpr ⟨jw_mem (p := 6094) rfl, rfl⟩
theorem jcw_12_back_149 : jcwOK jm_12_back_149 := List.mem_filter.mpr ⟨jw_mem (p := 6098) rfl, rfl⟩
theorem jcw_12_nextFit_150 : jcwOK jm_12_nextFit_150 := List.mem_filter.mpr ⟨jw_mem (p := 6102) rfl, rfl⟩
theorem jcw_12_fits_151 : jcwOK jm_12_fits_151 := List.mem_filter.mpr ⟨jw_mem (p := 6106) rfl, rfl⟩
theorem jcw_12_undo_152 : jcwOK jm_12_undo_152 := List.mem_filter.mpr ⟨jw_mem (p := 6110) rfl, rfl⟩
theorem jcw_12_take_153 : jcwOK jm_12_take_153 := List.mem_filter.mpr ⟨jw_mem (p := 6114) rfl, rfl⟩
theorem jcw_12_pair_154 : jcwOK jm_12_pair_154 := List.mem_filter.mpr ⟨jw_mem (p := 6118) rfl, rfl⟩
theorem jcw_12_unify_155 : jcwOK jm_12_unify_155 := List.mem_filter.mpr ⟨jw_mem (p := 6122) rfl, rfl⟩
theorem jcw_12_same_156 : jcwOK jm_12_same_156 := List.mem_filter.mpr ⟨jw_mem (p := 6126) rfl, rfl⟩
theorem jcw_12_step_157 : jcwOK jm_12_step_157 := List.mem_filter.mpr ⟨jw_mem (p := 6130) rfl, rfl⟩
theorem jcw_12_value_158 : jcwOK jm_12_value_158 := List.mem_filter.mpr ⟨jw_mem (p := 6134) rfl, rfl⟩
theorem jcw_12_tie_159 : jcwOK jm_12_tie_159 := List.mem_filter.mpr ⟨jw_mem (p := 6138) rfl, rfl⟩
theorem jcw_12_change_160 : jcwOK jm_12_change_160 := List.mem_filter.mpr ⟨jw_mem (p := 6142) rfl, rfl⟩
theorem jcw_12_follow_161 : jcwOK jm_12_follow_161 := List.mem_filter.mpr ⟨jw_mem (p := 6146) rfl, rfl⟩
theorem jcw_12_test_162 : jcwOK jm_12_test_162 := List.mem_filter.mpr ⟨jw_mem (p := 6150) rfl, rfl⟩
theorem jcw_12_perform_163 : jcwOK jm_12_perform_163 := List.mem_filter.mpr ⟨jw_mem (p := 6154) rfl, rfl⟩
theorem jcw_12_call_164 : jcwOK jm_12_call_164 := List.mem_filter.mpr ⟨jw_mem (p := 6158) rfl, rfl⟩
theorem jcw_12_apart_165 : jcwOK jm_12_apart_165 := List.mem_filter.mpr ⟨jw_mem (p := 6162) rfl, rfl⟩
theorem jcw_12_less_166 : jcwOK jm_12_less_166 := List.mem_filter.mpr ⟨jw_mem (p := 6166) rfl, rfl⟩
theorem jcw_12_sleep_167 : jcwOK jm_12_sleep_167 := List.mem_filter.mpr ⟨jw_mem (p := 6170) rfl, rfl⟩
theorem jcw_12_next_168 : jcwOK jm_12_next_168 := List.mem_filter.mpr ⟨jw_mem (p := 6174) rfl, rfl⟩
theorem jcw_12_letter_169 : jcwOK jm_12_letter_169 := List.mem_filter.mpr ⟨jw_mem (p := 6178) rfl, rfl⟩
theorem jcw_12_write_170 : jcwOK jm_12_write_170 := List.mem_filter.mpr ⟨jw_mem (p := 6182) rfl, rfl⟩
theorem jcw_12_put_171 : jcwOK jm_12_put_171 := List.mem_filter.mpr ⟨jw_mem (p := 6187) rfl, rfl⟩
theorem jcw_12_sleeping_172 : jcwOK jm_12_sleeping_172 := List.mem_filter.mpr ⟨jw_mem (p := 6193) rfl, rfl⟩
theorem jcw_12_count_173 : jcwOK jm_12_count_173 := List.mem_filter.mpr ⟨jw_mem (p := 6197) rfl, rfl⟩
theorem jcw_13_type_174 : jcwOK jm_13_type_174 := List.mem_filter.mpr ⟨jw_mem (p := 2100) rfl, rfl⟩
theorem jcw_13_add_175 : jcwOK jm_13_add_175 := List.mem_filter.mpr ⟨jw_mem (p := 2201) rfl, rfl⟩
theorem jcw_13_drop_176 : jcwOK jm_13_drop_176 := List.mem_filter.mpr ⟨jw_mem (p := 3101) rfl, rfl⟩
theorem jcw_13_ask_177 : jcwOK jm_13_ask_177 := List.mem_filter.mpr ⟨jw_mem (p := 3113) rfl, rfl⟩
theorem jcw_13_next_178 : jcwOK jm_13_next_178 := List.mem_filter.mpr ⟨jw_mem (p := 4213) rfl, rfl⟩
theorem jcw_13_letter_179 : jcwOK jm_13_letter_179 := List.mem_filter.mpr ⟨jw_mem (p := 4222) rfl, rfl⟩
theorem jcw_13_sleeping_180 : jcwOK jm_13_sleeping_180 := List.mem_filter.mpr ⟨jw_mem (p := 5035) rfl, rfl⟩
theorem jcw_14_max_181 : jcwOK jm_14_max_181 := List.mem_filter.mpr ⟨jw_mem (p := 1062) rfl, rfl⟩
theorem jcw_14_min_182 : jcwOK jm_14_min_182 := List.mem_filter.mpr ⟨jw_mem (p := 3008) rfl, rfl⟩
theorem jcw_15_bitCount_183 : jcwOK jm_15_bitCount_183 := List.mem_filter.mpr ⟨jw_mem (p := 3086) rfl, rfl⟩
theorem jcw_16_copyOf_184 : jcwOK jm_16_copyOf_184 := List.mem_filter.mpr ⟨jw_mem (p := 2238) rfl, rfl⟩
theorem jcwc_0 : ∀ e ∈ (jd_m.getD 0 (0, [])).2, jcwOK e.2.1 := List.forall_mem_cons.mpr ⟨jcw_0_init_0, List.forall_mem_cons.mpr ⟨jcw_9_init_1, List.forall_mem_cons.mpr ⟨jcw_1_init_2, List.forall_mem_cons.mpr ⟨jcw_8_init_3, List.forall_mem_cons.mpr ⟨jcw_5_init_4, List.forall_mem_cons.mpr ⟨jcw_2_init_5, List.forall_mem_cons.mpr ⟨jcw_7_init_6, List.forall_mem_cons.mpr ⟨jcw_3_init_7, List.forall_mem_cons.mpr ⟨jcw_10_init_8, List.forall_mem_cons.mpr ⟨jcw_6_init_9, List.forall_mem_cons.mpr ⟨jcw_11_init_10, List.forall_mem_cons.mpr ⟨jcw_0_count_11, List.forall_mem_cons.mpr ⟨jcw_9_length_12, List.forall_mem_cons.mpr ⟨jcw_2_size_13, fun _ h => absurd h List.not_mem_nil⟩⟩⟩⟩⟩⟩⟩⟩⟩⟩⟩⟩⟩⟩
theorem jcwc_1 : ∀ e ∈ (jd_m.getD 1 (0, [])).2, jcwOK e.2.1 := List.forall_mem_cons.mpr ⟨jcw_6_choicesLeft_14, List.forall_mem_cons.mpr ⟨jcw_8_rows_15, List.forall_mem_cons.mpr ⟨jcw_7_apartsWaiting_16, List.forall_mem_cons.mpr ⟨jcw_7_isWaiting_17, List.forall_mem_cons.mpr ⟨jcw_8_at_18, List.forall_mem_cons.mpr ⟨jcw_7_variablesMade_19, List.forall_mem_cons.mpr ⟨jcw_0_type_20, List.forall_mem_cons.mpr ⟨jcw_0_byteOf_21, List.forall_mem_cons.mpr ⟨jcw_9_append_22, List.forall_mem_cons.mpr ⟨jcw_0_add_23, List.forall_mem_cons.mpr ⟨jcw_9_clear_24, List.forall_mem_cons.mpr ⟨jcw_2_freePage_25, List.forall_mem_cons.mpr ⟨jcw_2_page_26, List.forall_mem_cons.mpr ⟨jcw_5_readClause_27, fun _ h => absurd h List.not_mem_nil⟩⟩⟩⟩⟩⟩⟩⟩⟩⟩⟩⟩⟩⟩
theorem jcwc_2 : ∀ e ∈ (jd_m.getD 2 (0, [])).2, jcwOK e.2.1 := List.forall_mem_cons.mpr ⟨jcw_5_begin_28, List.forall_mem_cons.mpr ⟨jcw_1_clearPage_29, List.forall_mem_cons.mpr ⟨jcw_8_put_30, List.forall_mem_cons.mpr ⟨jcw_1_firstNode_31, List.forall_mem_cons.mpr ⟨jcw_9_at_32, List.forall_mem_cons.mpr ⟨jcw_1_isSmall_33, List.forall_mem_cons.mpr ⟨jcw_5_readTerm_34, List.forall_mem_cons.mpr ⟨jcw_1_isCapital_35, List.forall_mem_cons.mpr ⟨jcw_1_isDigit_36, List.forall_mem_cons.mpr ⟨jcw_5_node_37, List.forall_mem_cons.mpr ⟨jcw_1_noteTerm_38, List.forall_mem_cons.mpr ⟨jcw_5_readSign_39, List.forall_mem_cons.mpr ⟨jcw_1_noteArgument_40, List.forall_mem_cons.mpr ⟨jcw_5_atEnd_41, fun _ h => absurd h List.not_mem_nil⟩⟩⟩⟩⟩⟩⟩⟩⟩⟩⟩⟩⟩⟩
theorem jcwc_3 : ∀ e ∈ (jd_m.getD 3 (0, [])).2, jcwOK e.2.1 := List.forall_mem_cons.mpr ⟨jcw_5_readGoals_42, List.forall_mem_cons.mpr ⟨jcw_1_noteFirstGoal_43, List.forall_mem_cons.mpr ⟨jcw_5_readGoal_44, List.forall_mem_cons.mpr ⟨jcw_1_noteGoal_45, List.forall_mem_cons.mpr ⟨jcw_1_noteFollower_46, List.forall_mem_cons.mpr ⟨jcw_1_rankVariables_47, List.forall_mem_cons.mpr ⟨jcw_1_sign_48, List.forall_mem_cons.mpr ⟨jcw_5_place_49, List.forall_mem_cons.mpr ⟨jcw_2_keepFreePage_50, List.forall_mem_cons.mpr ⟨jcw_0_drop_51, List.forall_mem_cons.mpr ⟨jcw_2_remove_52, List.forall_mem_cons.mpr ⟨jcw_0_ask_53, List.forall_mem_cons.mpr ⟨jcw_5_readQuestion_54, List.forall_mem_cons.mpr ⟨jcw_6_begin_55, fun _ h => absurd h List.not_mem_nil⟩⟩⟩⟩⟩⟩⟩⟩⟩⟩⟩⟩⟩⟩
theorem jcwc_4 : ∀ e ∈ (jd_m.getD 4 (0, [])).2, jcwOK e.2.1 := List.forall_mem_cons.mpr ⟨jcw_7_clear_56, List.forall_mem_cons.mpr ⟨jcw_8_shrink_57, List.forall_mem_cons.mpr ⟨jcw_3_clear_58, List.forall_mem_cons.mpr ⟨jcw_7_makeVariables_59, List.forall_mem_cons.mpr ⟨jcw_1_variablesOf_60, List.forall_mem_cons.mpr ⟨jcw_8_append_61, List.forall_mem_cons.mpr ⟨jcw_1_firstGoal_62, List.forall_mem_cons.mpr ⟨jcw_6_seek_63, List.forall_mem_cons.mpr ⟨jcw_6_doGoal_64, List.forall_mem_cons.mpr ⟨jcw_3_takeStep_65, List.forall_mem_cons.mpr ⟨jcw_1_follower_66, List.forall_mem_cons.mpr ⟨jcw_1_kind_67, List.forall_mem_cons.mpr ⟨jcw_1_right_68, List.forall_mem_cons.mpr ⟨jcw_3_pushPair_69, fun _ h => absurd h List.not_mem_nil⟩⟩⟩⟩⟩⟩⟩⟩⟩⟩⟩⟩⟩⟩
theorem jcwc_5 : ∀ e ∈ (jd_m.getD 5 (0, [])).2, jcwOK e.2.1 := List.forall_mem_cons.mpr ⟨jcw_7_letWait_70, List.forall_mem_cons.mpr ⟨jcw_6_doLess_71, List.forall_mem_cons.mpr ⟨jcw_7_find_72, List.forall_mem_cons.mpr ⟨jcw_1_rank_73, List.forall_mem_cons.mpr ⟨jcw_6_doSleep_74, List.forall_mem_cons.mpr ⟨jcw_6_putInFront_75, List.forall_mem_cons.mpr ⟨jcw_7_putToSleep_76, List.forall_mem_cons.mpr ⟨jcw_7_join_77, List.forall_mem_cons.mpr ⟨jcw_7_lastSleeper_78, List.forall_mem_cons.mpr ⟨jcw_6_doCall_79, List.forall_mem_cons.mpr ⟨jcw_2_find_80, List.forall_mem_cons.mpr ⟨jcw_1_alike_81, List.forall_mem_cons.mpr ⟨jcw_1_arity_82, List.forall_mem_cons.mpr ⟨jcw_6_leaveChoice_83, fun _ h => absurd h List.not_mem_nil⟩⟩⟩⟩⟩⟩⟩⟩⟩⟩⟩⟩⟩⟩
theorem jcwc_6 : ∀ e ∈ (jd_m.getD 6 (0, [])).2, jcwOK e.2.1 := List.forall_mem_cons.mpr ⟨jcw_7_changes_84, List.forall_mem_cons.mpr ⟨jcw_7_variables_85, List.forall_mem_cons.mpr ⟨jcw_7_sleepers_86, List.forall_mem_cons.mpr ⟨jcw_7_aparts_87, List.forall_mem_cons.mpr ⟨jcw_6_take_88, List.forall_mem_cons.mpr ⟨jcw_3_pushArguments_89, List.forall_mem_cons.mpr ⟨jcw_1_argument_90, List.forall_mem_cons.mpr ⟨jcw_3_makeSame_91, List.forall_mem_cons.mpr ⟨jcw_3_goThroughPairs_92, List.forall_mem_cons.mpr ⟨jcw_7_bind_93, List.forall_mem_cons.mpr ⟨jcw_7_firstSleeper_94, List.forall_mem_cons.mpr ⟨jcw_3_wake_95, List.forall_mem_cons.mpr ⟨jcw_7_sleeperBehind_96, List.forall_mem_cons.mpr ⟨jcw_3_testAparts_97, fun _ h => absurd h List.not_mem_nil⟩⟩⟩⟩⟩⟩⟩⟩⟩⟩⟩⟩⟩⟩
theorem jcwc_7 : ∀ e ∈ (jd_m.getD 7 (0, [])).2, jcwOK e.2.1 := List.forall_mem_cons.mpr ⟨jcw_3_testApart_98, List.forall_mem_cons.mpr ⟨jcw_7_apartGoal_99, List.forall_mem_cons.mpr ⟨jcw_7_apartEnv_100, List.forall_mem_cons.mpr ⟨jcw_7_goBack_101, List.forall_mem_cons.mpr ⟨jcw_7_undo_102, List.forall_mem_cons.mpr ⟨jcw_7_settle_103, List.forall_mem_cons.mpr ⟨jcw_6_putWokenInFront_104, List.forall_mem_cons.mpr ⟨jcw_3_wokenGoals_105, List.forall_mem_cons.mpr ⟨jcw_3_wokenGoal_106, List.forall_mem_cons.mpr ⟨jcw_7_sleeperGoal_107, List.forall_mem_cons.mpr ⟨jcw_7_sleeperEnv_108, List.forall_mem_cons.mpr ⟨jcw_6_retry_109, List.forall_mem_cons.mpr ⟨jcw_7_forget_110, List.forall_mem_cons.mpr ⟨jcw_0_conclude_111, fun _ h => absurd h List.not_mem_nil⟩⟩⟩⟩⟩⟩⟩⟩⟩⟩⟩⟩⟩⟩
theorem jcwc_8 : ∀ e ∈ (jd_m.getD 8 (0, [])).2, jcwOK e.2.1 := List.forall_mem_cons.mpr ⟨jcw_3_stepsTaken_112, List.forall_mem_cons.mpr ⟨jcw_0_next_113, List.forall_mem_cons.mpr ⟨jcw_0_letter_114, List.forall_mem_cons.mpr ⟨jcw_0_isVariableName_115, List.forall_mem_cons.mpr ⟨jcw_0_questionNode_116, List.forall_mem_cons.mpr ⟨jcw_1_nodeWithSign_117, List.forall_mem_cons.mpr ⟨jcw_11_write_118, List.forall_mem_cons.mpr ⟨jcw_11_pushTerm_119, List.forall_mem_cons.mpr ⟨jcw_11_writeTop_120, List.forall_mem_cons.mpr ⟨jcw_11_pushArguments_121, List.forall_mem_cons.mpr ⟨jcw_11_pushSign_122, List.forall_mem_cons.mpr ⟨jcw_11_characterAt_123, List.forall_mem_cons.mpr ⟨jcw_0_sleeping_124, List.forall_mem_cons.mpr ⟨jcw_7_sleepersOn_125, fun _ h => absurd h List.not_mem_nil⟩⟩⟩⟩⟩⟩⟩⟩⟩⟩⟩⟩⟩⟩
theorem jcwc_9 : ∀ e ∈ (jd_m.getD 9 (0, [])).2, jcwOK e.2.1 := List.forall_mem_cons.mpr ⟨jcw_12_init_126, List.forall_mem_cons.mpr ⟨jcw_12_thrown_127, List.forall_mem_cons.mpr ⟨jcw_12_type_128, List.forall_mem_cons.mpr ⟨jcw_12_in_129, List.forall_mem_cons.mpr ⟨jcw_12_bad_130, List.forall_mem_cons.mpr ⟨jcw_12_fail_131, List.forall_mem_cons.mpr ⟨jcw_12_add_132, List.forall_mem_cons.mpr ⟨jcw_12_readClause_133, List.forall_mem_cons.mpr ⟨jcw_12_readTerm_134, List.forall_mem_cons.mpr ⟨jcw_12_look_135, List.forall_mem_cons.mpr ⟨jcw_12_passes_136, List.forall_mem_cons.mpr ⟨jcw_12_readGoals_137, List.forall_mem_cons.mpr ⟨jcw_12_drop_138, List.forall_mem_cons.mpr ⟨jcw_12_ask_139, fun _ h => absurd h List.not_mem_nil⟩⟩⟩⟩⟩⟩⟩⟩⟩⟩⟩⟩⟩⟩
theorem jcwc_10 : ∀ e ∈ (jd_m.getD 10 (0, [])).2, jcwOK e.2.1 := List.forall_mem_cons.mpr ⟨jcw_12_number_140, List.forall_mem_cons.mpr ⟨jcw_12_born_141, List.forall_mem_cons.mpr ⟨jcw_12_buildGoals_142, List.forall_mem_cons.mpr ⟨jcw_12_at_143, List.forall_mem_cons.mpr ⟨jcw_12_goal_144, List.forall_mem_cons.mpr ⟨jcw_12_build_145, List.forall_mem_cons.mpr ⟨jcw_12_cell_146, List.forall_mem_cons.mpr ⟨jcw_12_hang_147, List.forall_mem_cons.mpr ⟨jcw_12_seek_148, List.forall_mem_cons.mpr ⟨jcw_12_back_149, List.forall_mem_cons.mpr ⟨jcw_12_nextFit_150, List.forall_mem_cons.mpr ⟨jcw_12_fits_151, List.forall_mem_cons.mpr ⟨jcw_12_undo_152, List.forall_mem_cons.mpr ⟨jcw_12_take_153, fun _ h => absurd h List.not_mem_nil⟩⟩⟩⟩⟩⟩⟩⟩⟩⟩⟩⟩⟩⟩
theorem jcwc_11 : ∀ e ∈ (jd_m.getD 11 (0, [])).2, jcwOK e.2.1 := List.forall_mem_cons.mpr ⟨jcw_12_pair_154, List.forall_mem_cons.mpr ⟨jcw_12_unify_155, List.forall_mem_cons.mpr ⟨jcw_12_same_156, List.forall_mem_cons.mpr ⟨jcw_12_step_157, List.forall_mem_cons.mpr ⟨jcw_12_value_158, List.forall_mem_cons.mpr ⟨jcw_12_tie_159, List.forall_mem_cons.mpr ⟨jcw_12_change_160, List.forall_mem_cons.mpr ⟨jcw_12_follow_161, List.forall_mem_cons.mpr ⟨jcw_12_test_162, List.forall_mem_cons.mpr ⟨jcw_12_perform_163, List.forall_mem_cons.mpr ⟨jcw_12_call_164, List.forall_mem_cons.mpr ⟨jcw_12_apart_165, List.forall_mem_cons.mpr ⟨jcw_12_less_166, List.forall_mem_cons.mpr ⟨jcw_12_sleep_167, fun _ h => absurd h List.not_mem_nil⟩⟩⟩⟩⟩⟩⟩⟩⟩⟩⟩⟩⟩⟩
theorem jcwc_12 : ∀ e ∈ (jd_m.getD 12 (0, [])).2, jcwOK e.2.1 := List.forall_mem_cons.mpr ⟨jcw_12_next_168, List.forall_mem_cons.mpr ⟨jcw_12_letter_169, List.forall_mem_cons.mpr ⟨jcw_12_write_170, List.forall_mem_cons.mpr ⟨jcw_12_put_171, List.forall_mem_cons.mpr ⟨jcw_12_sleeping_172, List.forall_mem_cons.mpr ⟨jcw_12_count_173, List.forall_mem_cons.mpr ⟨jcw_13_type_174, List.forall_mem_cons.mpr ⟨jcw_13_add_175, List.forall_mem_cons.mpr ⟨jcw_13_drop_176, List.forall_mem_cons.mpr ⟨jcw_13_ask_177, List.forall_mem_cons.mpr ⟨jcw_13_next_178, List.forall_mem_cons.mpr ⟨jcw_13_letter_179, List.forall_mem_cons.mpr ⟨jcw_13_sleeping_180, List.forall_mem_cons.mpr ⟨jcw_14_max_181, fun _ h => absurd h List.not_mem_nil⟩⟩⟩⟩⟩⟩⟩⟩⟩⟩⟩⟩⟩⟩
theorem jcwc_13 : ∀ e ∈ (jd_m.getD 13 (0, [])).2, jcwOK e.2.1 := List.forall_mem_cons.mpr ⟨jcw_14_min_182, List.forall_mem_cons.mpr ⟨jcw_15_bitCount_183, List.forall_mem_cons.mpr ⟨jcw_16_copyOf_184, fun _ h => absurd h List.not_mem_nil⟩⟩⟩
theorem jcw_all : ∀ q ∈ jd_m, ∀ e ∈ q.2, jcwOK e.2.1 := List.forall_mem_cons.mpr ⟨jcwc_0, List.forall_mem_cons.mpr ⟨jcwc_1, List.forall_mem_cons.mpr ⟨jcwc_2, List.forall_mem_cons.mpr ⟨jcwc_3, List.forall_mem_cons.mpr ⟨jcwc_4, List.forall_mem_cons.mpr ⟨jcwc_5, List.forall_mem_cons.mpr ⟨jcwc_6, List.forall_mem_cons.mpr ⟨jcwc_7, List.forall_mem_cons.mpr ⟨jcwc_8, List.forall_mem_cons.mpr ⟨jcwc_9, List.forall_mem_cons.mpr ⟨jcwc_10, List.forall_mem_cons.mpr ⟨jcwc_11, List.forall_mem_cons.mpr ⟨jcwc_12, List.forall_mem_cons.mpr ⟨jcwc_13, fun _ h => absurd h List.not_mem_nil⟩⟩⟩⟩⟩⟩⟩⟩⟩⟩⟩⟩⟩⟩
end
section
/-! what is kept through the whole run, and the tables' meaning -/
def jNestW : Jvm.Cond → Bool
  | .fieldLinkNest .. => true
  | .methodLinkNest .. => true
  | _ => false
def jEx : List String := ["java/lang/IllegalArgumentException", "java/lang/IllegalStateException", "java/lang/UnsupportedOperationException", "java/util/NoSuchElementException"]
def jNC (X Y : String) (U : State) : Prop := ∃ cX cY, U.vm.findClass X = some cX ∧ U.vm.findClass Y = some cY ∧ U.vm.assignable cX cY = false
theorem jNC.of {X Y : String} {U : State} {args : Array Value} (h : (Jvm.Cond.not (.castable X Y)).before args U = true) : jNC X Y U := by
  have hv := Cond.holds_not_iff.mp h
  simp only [Cond.value] at hv
  split at hv
  · rename_i a b h1 h2
    exact ⟨a, b, h1, h2, Option.some.inj hv⟩
  · cases hv
theorem jNC.word {X Y : String} {U : State} {args : Array Value} (h : jNC X Y U) : (Jvm.Cond.not (.castable X Y)).before args U = true := by
  obtain ⟨a, b, h1, h2, h3⟩ := h
  refine Cond.holds_not_iff.mpr ?_
  simp only [Cond.value, h1, h2, h3]
theorem jNC.moved {X Y : String} {u U : State} (hvm : u.vm.Alike U.vm) (h : jNC X Y u) : jNC X Y U := by
  obtain ⟨a, b, h1, h2, h3⟩ := h
  exact ⟨a, b, by rw [hvm.findClass]; exact h1, by rw [hvm.findClass]; exact h2, by rw [hvm.assignable]; exact h3⟩
def jLS (C n d : String) (sz : Nat) (U : State) : Prop := ∃ (c : ClassId) (k : Class) (i : Nat) (f : Field) (a : Nat) (cell : Cell), U.vm.findClass C = some c ∧ U.fieldFound? C n d = some (c, k, i, f) ∧ f.isStatic = true ∧ k.statics = some a ∧ U.heap[a]? = some cell ∧ cell.vm.isStatics = true ∧ cell.cls = c ∧ f.slot < cell.slots.size ∧ k.staticTypes[f.slot]? = some f.type ∧ a < sz
theorem jLS.word {C n d : String} {sz : Nat} {U : State} {args : Array Value} (h : jLS C n d sz U) : (Jvm.Cond.laysStatic C n d).before args U = true := by
  obtain ⟨c, k, i, f, a, cell, h1, h2, h3, h4, h5, h6, h7, h8, h9, -⟩ := h
  simp [Cond.before, Cond.holds, Cond.value, h1, h2, h3, h4, h5, h6, h7, h8, h9]
theorem jLS.of {C n d : String} {U : State} {args : Array Value} (h : (Jvm.Cond.laysStatic C n d).before args U = true) : jLS C n d U.heap.size U := by
  obtain ⟨c, k, i, f, a, cell, h1, h2, h3, h4, h5, h6, h7, h8, h9⟩ := Cond.laysStatic_spec h
  exact ⟨c, k, i, f, a, cell, h1, h2, h3, h4, h5, h6, h7, h8, h9, (Array.getElem?_eq_some_iff.mp h5).1⟩
theorem jLS.moved {C n d : String} {sz : Nat} {u U : State} (hvm : u.vm.Alike U.vm) (hq : ∀ q : Nat, q < sz → U.heap[q]? = u.heap[q]?) (h : jLS C n d sz u) : jLS C n d sz U := by
  obtain ⟨c, k, i, f, a, cell, h1, h2, h3, h4, h5, h6, h7, h8, h9, h10⟩ := h
  obtain ⟨k', hi', he⟩ := State.fieldFound?_setVm hvm h2
  exact ⟨c, k', i, f, a, cell, by rw [hvm.findClass]; exact h1, hi', h3, by rw [he]; exact h4, by rw [hq a h10]; exact h5, h6, h7, h8, by rw [he]; exact h9, h10⟩
def jSP (b L : Nat) (xs : Nat → Int32) (ad st : Nat → Nat) (sz : Nat) (U : State) : Prop :=
  va_X b L xs U U.heap ∧ va_En "GoalDesk$Outcome" "LGoalDesk$Outcome;" jnm [] ad (fun q => sz ≤ q) U U.heap ∧
  (∀ i, i < jstr.length → vk_R (jstr.getD i ("", 0, "")).1 (jstr.getD i ("", 0, "")).2.1 (jstr.getD i ("", 0, "")).2.2 (st i) U) ∧
  (∀ w ∈ lw_tbl, jNestW w = true → va_Nw w U) ∧ (∀ w ∈ lw_tbl, (w.onTables && w.keepsFace) = true → va_Nw w U) ∧
  va_Zq "java/lang/Throwable" "UNASSIGNED_STACK" "[Ljava/lang/StackTraceElement;" (fun q => sz ≤ q) U U.heap ∧ va_Zq "java/lang/Throwable" "SUPPRESSED_SENTINEL" "Ljava/util/List;" (fun q => sz ≤ q) U U.heap ∧
  jLS "java/lang/Throwable" "UNASSIGNED_STACK" "[Ljava/lang/StackTraceElement;" sz U ∧ jLS "java/lang/Throwable" "SUPPRESSED_SENTINEL" "Ljava/util/List;" sz U ∧
  (∀ i, i < 4 → ∀ j, j < 4 → i ≠ j → jNC (jEx.getD i "") (jEx.getD j "") U)
theorem jSP_moved {b L : Nat} {xs : Nat → Int32} {ad st : Nat → Nat} {sz : Nat} (hb : b < sz) {u U : State} (hW : u.WarmedH U.vm) (hq : ∀ q : Nat, q < sz → U.heap[q]? = u.heap[q]?) (h : jSP b L xs ad st sz u) : jSP b L xs ad st sz U := by
  obtain ⟨h1, h2, h3, h4, h5, h6, h7, h8, h11, h12⟩ := h
  have hk : ∀ a : Nat, a < u.heap.size → ¬ sz ≤ a → U.heap[a]? = u.heap[a]? := fun a _ h => hq a (by omega)
  refine ⟨(h1.kept (hq b hb)).moved hW.alike, (h2.kept hk).moved hW.alike, fun i hi => (h3 i hi).warm hW, fun w hw hn => ?_, fun w hw hn => ?_, (h6.kept hk).moved hW.alike, (h7.kept hk).moved hW.alike, h8.moved hW.alike hq, h11.moved hW.alike hq, fun i hi j hj hij => (h12 i hi j hj hij).moved hW.alike⟩
  · have h9 := h4 w hw hn
    cases w <;> first | (cases hn; done) | exact va_Nw.warmF hW h9 | exact va_Nw.warmM hW h9
  · have h9 := h5 w hw hn
    rw [Bool.and_eq_true] at hn
    have h10 : w.before #[] (u.setVm U.vm) = true := Cond.before_shiftedFace (State.Shifted.of_warmed hW) w hn.2 h9
    exact va_Nw.same (u := u.setVm U.vm) hn.1 rfl h10
def jal (b : Nat) (ad st : Nat → Nat) (sz : Nat) (r : Nat) : Nat := if r = 0 then b else if r < 11 then ad (r - 1) else if r < 24 then st (r - 11) else sz + (r - 24)
theorem jal_hi (b : Nat) (ad st : Nat → Nat) (sz : Nat) (j : Nat) : jal b ad st sz (24 + j) = sz + j := by
  unfold jal
  rw [if_neg (by omega), if_neg (by omega), if_neg (by omega)]
  omega
section JLinks
variable {b L : Nat} {xs : Nat → Int32} {ad st : Nat → Nat} {sz : Nat}
theorem jkey {c i : Nat} (h : Nat.blt i 1000 = true) : (c * 1000 + i) / 1000 = c ∧ (c * 1000 + i) % 1000 = i := by
  have : i < 1000 := by simpa using h
  omega
theorem jokF {cn idx ci k kd : Nat} (h : jT0.1.1 cn idx = some (ci, k, kd)) : jFok (jSP b L xs ad st sz) TB0 cl0 (jown cn) idx ci k kd := by
  have h : (bif Nat.blt idx 1000 then (jlk2 jd_f (cn * 1000 + idx)).map (fun q => q.1) else none) = some (ci, k, kd) := h
  cases hi : Nat.blt idx 1000 with
  | false => rw [hi] at h; cases h
  | true =>
    rw [hi] at h
    obtain ⟨q, hq, he⟩ := Option.map_eq_some_iff.mp h
    obtain ⟨v, p⟩ := q
    dsimp only at he
    subst he
    have hc := List.all_eq_true.mp jcF_ok _ (jlk2_mem hq)
    obtain ⟨e1, e2⟩ := jkey (c := cn) hi
    unfold jcF at hc
    dsimp only at hc
    rw [e1, e2] at hc
    cases hcl : cl0[ci]? with
    | none => rw [hcl] at hc; cases hc
    | some q =>
      obtain ⟨C, T, N⟩ := q
      rw [hcl] at hc
      dsimp only at hc
      simp only [Bool.and_eq_true, Bool.or_eq_true, decide_eq_true_eq] at hc
      obtain ⟨⟨⟨h1, h2⟩, h3⟩, h4⟩ := hc
      obtain ⟨k1, k2, k3⟩ := jcls hcl
      have hty : ∀ d, parseFieldDescriptor (T k).2.2.1 = some d → jty T k = d := fun d hd => by
        unfold jty
        rw [hd]
        rfl
      refine ⟨C, T, N, jty T, hcl, h1, k1, k2, k3, ?_, ?_, ?_, ?_, ?_, ?_, ?_⟩
      · rcases h2 with h2 | ⟨h2, h5⟩
        · exact Or.inl (jIn_ok h2)
        · exact Or.inr ⟨h2, "GoalDesk", fun s hs => hs.2.2.2.1 _ (jw_mem h5) rfl⟩
      · intro hk
        rw [if_pos hk] at h3
        simpa using h3
      · intro hk
        rw [if_neg hk] at h3
        simpa using h3
      · intro hk
        unfold jkind at h4
        rw [hk] at h4
        split at h4 <;> first | (cases h4; done) | exact hty _ (by assumption)
      · intro hk
        unfold jkind at h4
        rw [hk] at h4
        split at h4 <;> first | (cases h4; done) | exact Or.inl ⟨_, hty _ (by assumption)⟩ | exact Or.inr ⟨_, hty _ (by assumption)⟩
      · intro hk
        unfold jkind at h4
        rw [hk] at h4
        split at h4 <;> first | (cases h4; done) | exact hty _ (by assumption)
      · intro hk
        unfold jkind at h4
        rw [hk] at h4
        split at h4 <;> first | (cases h4; done) | exact hty _ (by assumption)
theorem jokN {cn idx ci : Nat} {fs : List Value} (h : jT0.1.2.1 cn idx = some (ci, fs)) : jNok TB0 cl0 (jown cn) idx ci fs := by
  have h : (bif Nat.blt idx 1000 then (jlk2 jd_n (cn * 1000 + idx)).map (fun q => q.1) else none) = some (ci, fs) := h
  cases hi : Nat.blt idx 1000 with
  | false => rw [hi] at h; cases h
  | true =>
    rw [hi] at h
    obtain ⟨q, hq, he⟩ := Option.map_eq_some_iff.mp h
    obtain ⟨v, p⟩ := q
    dsimp only at he
    subst he
    have hc := List.all_eq_true.mp jcN_ok _ (jlk2_mem hq)
    obtain ⟨e1, e2⟩ := jkey (c := cn) hi
    unfold jcN at hc
    dsimp only at hc
    rw [e1, e2] at hc
    cases hcl : cl0[ci]? with
    | none => rw [hcl] at hc; cases hc
    | some q =>
      obtain ⟨C, T, N⟩ := q
      rw [hcl] at hc
      dsimp only at hc
      simp only [Bool.and_eq_true, decide_eq_true_eq] at hc
      obtain ⟨⟨⟨⟨⟨h1, h2⟩, h3⟩, h4⟩, h5⟩, h6⟩ := hc
      obtain ⟨k1, k2, k3⟩ := jcls hcl
      refine ⟨C, T, N, jty T, hcl, h1, k1, k2, jIn_ok h2, jIn_ok h3, jIn_ok h4, fun j hj => ?_, fun v hv a e => ?_⟩
      · have := List.all_eq_true.mp h5 j (List.mem_range.mpr hj)
        simpa using this
      · have := List.all_eq_true.mp h6 v hv
        rw [e] at this
        cases this
theorem jokS {cn idx : Nat} {v : Value} (h : jT0.1.2.2.1 cn idx = some v) (s : State) (hs : jSP b L xs ad st sz s) : ∃ C n d, va_Z C n d (jx_V (jal b ad st sz) v) (fun q => sz ≤ q) s s.heap ∧ Jvm.Cond.fieldLink (jown cn) idx C n d ∈ TB0 := by
  have h : (bif Nat.blt idx 1000 then (jlk2 jd_s (cn * 1000 + idx)).map (fun q => Value.ref q.1) else none) = some v := h
  cases hi : Nat.blt idx 1000 with
  | false => rw [hi] at h; cases h
  | true =>
    rw [hi] at h
    obtain ⟨q, hq, he⟩ := Option.map_eq_some_iff.mp h
    obtain ⟨a, p⟩ := q
    dsimp only at he
    subst he
    have hc := List.all_eq_true.mp jcS_ok _ (jlk2_mem hq)
    obtain ⟨e1, e2⟩ := jkey (c := cn) hi
    unfold jcS at hc
    dsimp only at hc
    rw [e1, e2] at hc
    simp only [Bool.and_eq_true, decide_eq_true_eq] at hc
    obtain ⟨⟨h1, h2⟩, h3⟩ := hc
    refine ⟨_, _, _, ?_, jIn_ok h3⟩
    have h4 := (hs.2.1.1 (a - 1) (by show a - 1 < 10; omega)).1
    have e : jal b ad st sz a = ad (a - 1) := by
      unfold jal
      rw [if_neg (by omega), if_pos (by omega)]
    show va_Z _ _ _ (.ref (jal b ad st sz a)) _ _ _
    rw [e]
    exact h4
theorem jsub11 {a : Nat} (h1 : 11 ≤ a) (h2 : 24 > a) : a - 11 < 13 := by omega
theorem jokC {cn idx : Nat} {v : Value} (h : jT0.1.2.2.2 cn idx = some v) : (∃ x, v = .int x ∧ Jvm.Cond.constant (jown cn) idx x ∈ TB0) ∨ (∃ x, v = .long x ∧ Jvm.Cond.constantLong (jown cn) idx x ∈ TB0) ∨ ∃ a tx, v = .ref a ∧ ∀ s, jSP b L xs ad st sz s → vk_R (jown cn) idx tx (jal b ad st sz a) s := by
  have h : (bif Nat.blt idx 1000 then (jlk2 jd_c (cn * 1000 + idx)).map (fun q => q.1) else none) = some v := h
  cases hi : Nat.blt idx 1000 with
  | false => rw [hi] at h; cases h
  | true =>
    rw [hi] at h
    obtain ⟨q, hq, he⟩ := Option.map_eq_some_iff.mp h
    obtain ⟨w, p⟩ := q
    dsimp only at he
    subst he
    have hc := List.all_eq_true.mp jcC2_ok _ (jlk2_mem hq)
    obtain ⟨e1, e2⟩ := jkey (c := cn) hi
    unfold jcC2 at hc
    dsimp only at hc
    rw [e1, e2] at hc
    cases w with
    | int x => exact Or.inl ⟨x, rfl, jIn_ok hc⟩
    | long x => exact Or.inr (Or.inl ⟨x, rfl, jIn_ok hc⟩)
    | ref a =>
      simp only [Bool.and_eq_true, decide_eq_true_eq] at hc
      obtain ⟨⟨⟨h1, h2⟩, h3⟩, h4⟩ := hc
      have h1 : (11 : Nat) ≤ a := h1
      have h2 : (24 : Nat) > a := h2
      refine Or.inr (Or.inr ⟨a, (jstr.getD (a - 11) ("", 0, "")).2.2, rfl, fun s hs => ?_⟩)
      have h5 := hs.2.2.1 (a - 11) (jsub11 h1 h2)
      have e : jal b ad st sz a = st (a - 11) := by
        unfold jal
        rw [if_neg (by omega), if_neg (by omega), if_pos (by omega)]
      rw [e, ← h3, ← h4]
      exact h5
    | _ => cases hc
theorem jokL {cn idx kd z n ci : Nat} (h : jT0.2.1 cn idx = some (kd, z, n, ci)) : jLok (jSP b L xs ad st sz) TB0 cl0 jT0.2.2.1 (jown cn) idx kd z n ci := by
  have h : (bif Nat.blt idx 1000 then (jlk2 jd_l (cn * 1000 + idx)).map (fun q => q.1) else none) = some (kd, z, n, ci) := h
  cases hi : Nat.blt idx 1000 with
  | false => rw [hi] at h; cases h
  | true =>
    rw [hi] at h
    obtain ⟨q, hq, he⟩ := Option.map_eq_some_iff.mp h
    obtain ⟨w, p⟩ := q
    dsimp only at he
    subst he
    have hc := List.all_eq_true.mp jcL_ok _ (jlk2_mem hq)
    obtain ⟨e1, e2⟩ := jkey (c := cn) hi
    refine ⟨fun hk => ?_, fun hk => ?_, fun hk => ?_, fun hk => ?_, fun hk => ?_, fun hk => ?_⟩
    · subst hk
      have hc : jcL0 (cn * 1000 + idx) p z n ci = true := hc
      unfold jcL0 at hc
      rw [e1, e2] at hc
      split at hc
      · rename_i Z q hZ hcl
        obtain ⟨C, T, N⟩ := q
        simp only [Bool.and_eq_true, decide_eq_true_eq] at hc
        obtain ⟨⟨⟨⟨h1, h2⟩, h3⟩, h4⟩, h5⟩ := hc
        subst h1
        exact ⟨Z, T, N, hZ, hcl, jIn_ok h2, jIn_ok h3, jIn_ok h4, h5⟩
      · cases hc
    · subst hk
      have hc : jcL1 (cn * 1000 + idx) p z n = true := hc
      unfold jcL1 at hc
      rw [e1, e2] at hc
      split at hc
      · rename_i Z hZ
        simp only [Bool.and_eq_true, decide_eq_true_eq] at hc
        obtain ⟨⟨⟨⟨⟨h1, h2⟩, h3⟩, h4⟩, h5⟩, h6⟩ := hc
        exact ⟨Z, hZ, h1, h2, h3, jIn_ok h4, jIn_ok h5, h6⟩
      · cases hc
    · subst hk
      have hc : jcL2 (cn * 1000 + idx) p z n = true := hc
      unfold jcL2 at hc
      rw [e1, e2] at hc
      split at hc
      · rename_i Z hZ
        simp only [Bool.and_eq_true, decide_eq_true_eq] at hc
        obtain ⟨⟨h1, h2⟩, h3⟩ := hc
        exact ⟨Z, hZ, jIn_ok h1, jIn_ok h2, h3⟩
      · cases hc
    · subst hk
      have hc : jIn (p.getD 0 0) (.methodLink (jown ((cn * 1000 + idx) / 1000)) ((cn * 1000 + idx) % 1000) Lib.objectInit) = true := hc
      rw [e1, e2] at hc
      exact ⟨jIn_ok hc, jIn_ok jcO_ok.1, jIn_ok jcO_ok.2.1⟩
    · subst hk
      have hc : jcL4 (cn * 1000 + idx) p z n = true := hc
      unfold jcL4 at hc
      rw [e1, e2] at hc
      split at hc
      · rename_i Z hZ
        simp only [Bool.and_eq_true, decide_eq_true_eq] at hc
        obtain ⟨⟨⟨⟨⟨h1, h2⟩, h3⟩, h4⟩, h5⟩, h6⟩ := hc
        exact ⟨Z, "GoalDesk", hZ, h1, h2, h3, fun s hs => hs.2.2.2.1 _ (jw_mem h4) rfl, jIn_ok h5, h6⟩
      · cases hc
    · subst hk
      have hc : jIn (p.getD 0 0) (.methodLink (jown ((cn * 1000 + idx) / 1000)) ((cn * 1000 + idx) % 1000) arraycopyName) = true := hc
      rw [e1, e2] at hc
      exact ⟨jIn_ok hc, jIn_ok jcO_ok.2.2.1, jIn_ok jcO_ok.2.2.2.1, jIn_ok jcO_ok.2.2.2.2.1⟩
end JLinks
end
section
/-! the frame at the law's entry -/
def jhd (L : Nat) (xs : Nat → Int32) : jH := .inl (.int, L, .inl xs) :: (List.replicate 10 (.inr (98, [])) ++ List.replicate 13 (.inr (99, [])))
section JStart
variable {b L : Nat} {xs : Nat → Int32} {ad st : Nat → Nat} {sz : Nat}
theorem jmok {M : jM} (h1 : jdecOK M) (h2 : M.2.2.1 ≤ 45) (h3 : jown M.2.2.2.2.1 = M.1.cls) : jKn cl0 (jal b ad st sz) sz (jSP b L xs ad st sz) TB0 jT0 M := by
  unfold jKn
  rw [← h3]
  exact ⟨h1, h2, fun idx ci k kd h => jokF h, fun idx ci fs h => jokN h, fun idx v h s hs => jokS h s hs, fun idx v h => jokC h, fun idx kd z n ci h => jokL h⟩
theorem jok_m {z : Nat} {M : jM} (h : jt_m z = some M) : plainFor M.1 = true ∧ (M.1.cls ≠ "java/lang/invoke/MethodHandle" ∧ M.1.cls ≠ "java/lang/invoke/VarHandle") ∧ (M.2.2.2.2.2.1 = true → M.1.name = "<init>") ∧
    (if M.2.2.2.2.2.2.2.map (fun q => q.1) = [] then Jvm.Cond.code M.1 M.2.1 M.2.2.1 M.2.2.2.1 else Jvm.Cond.codeWith M.1 M.2.1 M.2.2.1 M.2.2.2.1 (M.2.2.2.2.2.2.2.map (fun q => q.1))) ∈ TB0 ∧ Jvm.Cond.initialized M.1.cls ∈ TB0 ∧ jMok TB0 cl0 (jal b ad st sz) sz (jSP b L xs ad st sz) jT0 M.1.cls M.2.2.2.2.1 M.2.1 M.2.2.1 M.2.2.2.2.2.2.1 := by
  have hd := jdec_mt h
  unfold jt_m at h
  obtain ⟨q, hq, rfl⟩ := Option.map_eq_some_iff.mp h
  have hm := jlk2_mem hq
  have hc := List.all_eq_true.mp jcM_ok _ hm
  obtain ⟨c, hc1, hm1⟩ := List.mem_flatMap.mp hm
  have hw := jcw_all c hc1 _ hm1
  dsimp only at hc hw
  unfold jcM at hc
  simp only [Bool.and_eq_true, Bool.or_eq_true, Bool.not_eq_true', decide_eq_true_eq] at hc
  obtain ⟨⟨⟨⟨⟨⟨k1, k2⟩, k3⟩, k4⟩, k5⟩, k6⟩, k7⟩ := hc
  refine ⟨k1, ⟨k2, k3⟩, fun hi => ?_, hw, jIn_ok k5, jmok hd k6 k7⟩
  rcases k4 with k4 | k4
  · rw [hi] at k4; cases k4
  · exact k4
theorem jchoice {s : State} : ∀ (cl : List vw_C), (∀ q ∈ cl, ∃ (c : ClassId) (i : Nat → Nat), u_Kn s q.1 q.2.1 q.2.2 c i) → ∃ (dC : Nat → ClassId) (dI : Nat → Nat → Nat), ∀ (k : Nat) (q : vw_C), cl[k]? = some q → u_Kn s q.1 q.2.1 q.2.2 (dC k) (dI k)
  | [], _ => ⟨fun _ => 0, fun _ _ => 0, fun k q h => by cases h⟩
  | q0 :: cl, h => by
    obtain ⟨c, i, h0⟩ := h q0 List.mem_cons_self
    obtain ⟨dC, dI, h1⟩ := jchoice cl (fun q hq => h q (List.mem_cons_of_mem _ hq))
    refine ⟨fun k => match k with
      | 0 => c
      | k + 1 => dC k, fun k => match k with
      | 0 => i
      | k + 1 => dI k, fun k q hk => ?_⟩
    cases k with
    | zero => cases hk; exact h0
    | succ k => exact h1 k q hk
theorem jhd_arr {a : Nat} {ty : FieldType} {x : vp_A} (h : (jhd L xs)[a]? = some (.inl (ty, x))) : a = 0 ∧ ty = .int ∧ x = (L, .inl xs) := by
  cases a with
  | zero => cases h; exact ⟨rfl, rfl, rfl⟩
  | succ a =>
    have h : ((List.replicate 10 (.inr (98, [])) ++ List.replicate 13 (.inr (99, [])) : jH))[a]? = some (.inl (ty, x)) := h
    rcases List.mem_append.mp (List.mem_of_getElem? h) with h1 | h1
    · cases (List.mem_replicate.mp h1).2
    · cases (List.mem_replicate.mp h1).2
end JStart
end
section
/-! THE CLAIM OUT OF ONE WALK OF THE LAW'S BODY. Your part is whole_start (and what it stands on); all else here is the same for every law, but numbers. -/
def R_law : String := "GoalDeskLaw"
def lw_P (b : Addr) (xs : List Int32) (args : Array Value) (s : State) : Prop := args = #[.ref b] ∧ s.IntsAt b xs ∧ xs.length ≤ 1536 ∧ (Jvm.Cond.and given_1 narrow_1).before args s = true
def lw_Q (_ : Array Value) (s : State) (o : Outcome) (t : State) : Prop := o = .returned (some (.int 1)) ∧ Framed s o t [] room_1.cells room_1.slots
def lw_Z (below : List Frame) (a : Array Value) (s : State) : State → Prop := fun t => ∃ o, t.status = .running ∧ Ended t below o ∧ lw_Q a s o t
/-- the law's own end, with 1 on the stack, nothing written that was there before, its room as the claim has it -/
theorem lw_ret {p : Program} {l : Launch} {e : Env} {s : State} {m : MethodId} {below : List Frame} {meth : Method} {c : Code} {b : Nat} (hx : p.tables.exec = Jvm.exec) (hb : c.code = code) (hr : meth.sig.returnType = ret) (hlocks : meth.locks = false) {pc : Nat} {H : Heap} {ls : Array Slot} (hdg : decode code pc = .ok (.ireturn, 1)) : W p l e room_1 s m #[Value.ref b] below meth c H [] room_1.cells room_1.slots (lw_Z below #[Value.ref b] s) (F0 m pc ls [.int 1]) := by
  intro T hT X
  obtain ⟨fs, hret, hrun, hended, hW, hframe⟩ := X.leave (v := some (.int 1)) (hlocks := hlocks) (fun h => by rw [hr] at h; cases h)
  have hmeth' : T.vm.method? m = some meth := X.method'
  refine ⟨T.setFrames fs, ?_, .returned (some (.int 1)), hrun, hended, rfl, ⟨_, rfl⟩, hW, hframe⟩
  jvm_step X.here [X.here.top, hx, hb, hdg, hmeth', hr, ret, narrow_b1]
  (try refine ⟨rfl, ?_⟩); (try refine ⟨rfl, ?_⟩)
  first | (intro acts; rw [hret _ acts rfl rfl rfl]) | rw [hret _ _ rfl rfl rfl]
  exact Steps.refl _
/-- what holds at the law's entry: the machine, the code, the tables' words (any of lw_tbl by 'hts w (by decide +kernel)'), the script of L ints xs at the cell b, what the Statement gives of the start (any of its parts by flat_of_before) -/
def lw_At (p : Program) (s : State) (m : MethodId) (meth : Method) (c : Code) (b L : Nat) (xs : Nat → Int32) : Prop :=
  p.tables.exec = Jvm.exec ∧ c.code = code ∧ meth.sig.returnType = ret ∧ c.maxLocals = 7 ∧ s.vm.findClass R_law = some m.cls ∧ (∀ w ∈ lw_tbl, w.before #[Value.ref b] s = true) ∧ va_X b L xs s s.heap ∧ b < s.heap.size ∧ meth.locks = false ∧ (Jvm.Cond.and given_1 narrow_1).before #[Value.ref b] s = true
end
section
section JEntry
theorem jtb {args : Array Value} {s : State} (hts : ∀ w ∈ lw_tbl, w.before args s = true) : ∀ w ∈ TB0, w.before args s = true := fun w hw => hts w (List.mem_filter.mp hw).1
def jfl : List Jvm.Cond := flatC (Jvm.Cond.and given_1 narrow_1)
def jfln : List Jvm.Cond := jfl.filter (fun c => match c with
  | .not (.eq _ _) => true
  | _ => false)
set_option maxRecDepth 20000 in
theorem jfl_ex : ∀ i, i < 10 → Jvm.Cond.exactly (.static "GoalDesk$Outcome" (jnm.getD i "") "LGoalDesk$Outcome;") "GoalDesk$Outcome" ∈ jfl := by decide +kernel
set_option maxRecDepth 20000 in
theorem jfl_ne0 : ∀ i, i < 10 → ∀ j, j < 10 → i ≠ j → Jvm.Cond.not (.eq (.static "GoalDesk$Outcome" (jnm.getD i "") "LGoalDesk$Outcome;") (.static "GoalDesk$Outcome" (jnm.getD j "") "LGoalDesk$Outcome;")) ∈ jfln ∨ Jvm.Cond.not (.eq (.static "GoalDesk$Outcome" (jnm.getD j "") "LGoalDesk$Outcome;") (.static "GoalDesk$Outcome" (jnm.getD i "") "LGoalDesk$Outcome;")) ∈ jfln := by decide +kernel
theorem jfl_ne : ∀ i, i < 10 → ∀ j, j < 10 → i ≠ j → Jvm.Cond.not (.eq (.static "GoalDesk$Outcome" (jnm.getD i "") "LGoalDesk$Outcome;") (.static "GoalDesk$Outcome" (jnm.getD j "") "LGoalDesk$Outcome;")) ∈ jfl ∨ Jvm.Cond.not (.eq (.static "GoalDesk$Outcome" (jnm.getD j "") "LGoalDesk$Outcome;") (.static "GoalDesk$Outcome" (jnm.getD i "") "LGoalDesk$Outcome;")) ∈ jfl :=
  fun i hi j hj hij => (jfl_ne0 i hi j hj hij).elim (fun h => Or.inl (List.mem_filter.mp h).1) (fun h => Or.inr (List.mem_filter.mp h).1)
set_option maxRecDepth 20000 in
theorem jfl_st : ∀ i, i < 13 → Jvm.Cond.exactly (.string (jstr.getD i ("", 0, "")).1 (jstr.getD i ("", 0, "")).2.1) "java/lang/String" ∈ jfl := by decide +kernel
theorem jfl_un : Jvm.Cond.isRef (.static "java/lang/Throwable" "UNASSIGNED_STACK" "[Ljava/lang/StackTraceElement;") ∈ jfl ∧ Jvm.Cond.isRef (.static "java/lang/Throwable" "SUPPRESSED_SENTINEL" "Ljava/util/List;") ∈ jfl := by decide +kernel
set_option maxRecDepth 20000 in
theorem jfl_nc : ∀ i, i < 4 → ∀ j, j < 4 → i ≠ j → Jvm.Cond.not (.castable (jEx.getD i "") (jEx.getD j "")) ∈ jfl := by decide +kernel
end JEntry
end
section
def jd_y : List Nat := [3161, 3169, 3179, 3199, 3205, 3221, 3223, 4098, 4133, 4161]
def jd_z : List Nat := [2152, 2188, 2210, 3094, 3106, 3124, 4177, 4188, 4204, 4218, 4230, 4239, 5028]
theorem jy_ok : ∀ i, i < 10 → jw (jd_y.getD i 0) = some (.laysStatic "GoalDesk$Outcome" (jnm.getD i "") "LGoalDesk$Outcome;") := by decide +kernel
theorem jz_ok : ∀ i, i < 13 → jw (jd_z.getD i 0) = some (.stringRef (jstr.getD i ("", 0, "")).1 (jstr.getD i ("", 0, "")).2.1 (jstr.getD i ("", 0, "")).2.2) := by decide +kernel
theorem jth_ok : jw 2137 = some (.laysStatic "java/lang/Throwable" "UNASSIGNED_STACK" "[Ljava/lang/StackTraceElement;") ∧ jw 2139 = some (.laysStatic "java/lang/Throwable" "SUPPRESSED_SENTINEL" "Ljava/util/List;") ∧ jw 1014 = some (.initialized "java/lang/Throwable") ∧ jw 1023 = some (.initialized "GoalDesk$Outcome") := by decide +kernel
set_option maxHeartbeats 2000000 in
theorem jentry {p : Program} {s : State} {m : MethodId} {meth : Method} {c : Code} {b L : Nat} {xs : Nat → Int32} (C0 : lw_At p s m meth c b L xs) :
    ∃ (D : va_G) (tys : List (ClassId × FieldType)) (dA : FieldType → ClassId) (ad st : Nat → Nat), jOK D cl0 tys (jal b ad st s.heap.size) dA 24 s.heap.size (jSP b L xs ad st s.heap.size) TB0 (jhd L xs) jT0 ∧ va_K D cl0 tys s ∧ jSP b L xs ad st s.heap.size s := by
  obtain ⟨hx, hb, hr, hml, hown, hts, hX, hbl, hlocks, hgv⟩ := C0
  have hfl : ∀ w ∈ jfl, w.before #[Value.ref b] s = true := flat_of_before _ hgv
  have hA : ∀ a : Nat, a < s.heap.size → ¬ (fun q : Nat => s.heap.size ≤ q) a := fun a h => Nat.not_le.mpr h
  obtain ⟨ad, hE, -⟩ := va_Enof2 (args := #[Value.ref b]) (s := s) (E := "GoalDesk$Outcome") (d := "LGoalDesk$Outcome;") (nm := jnm) (F := []) (A := fun q : Nat => s.heap.size ≤ q) (fun i hi => hts _ (jw_mem (jy_ok i hi))) (hts _ (jw_mem jth_ok.2.2.2)) (fun i hi => hfl _ (jfl_ex i hi)) (fun q hq => by cases hq)
    (fun i j hi hj hij => (jfl_ne i hi j hj hij).imp (hfl _) (hfl _)) hA
  have hst : ∀ i : Nat, ∃ a : Nat, i < jstr.length → vk_R (jstr.getD i ("", 0, "")).1 (jstr.getD i ("", 0, "")).2.1 (jstr.getD i ("", 0, "")).2.2 a s := fun i => by
    by_cases hi : i < jstr.length
    · obtain ⟨a, c9, cell, k, q1, -⟩ := Cond.exactly_spec (hfl _ (jfl_st i hi))
      exact ⟨a, fun _ => vk_R.of (A := #[Value.ref b]) (hts _ (jw_mem (jz_ok i hi))) q1⟩
    · exact ⟨0, fun h => absurd h hi⟩
  obtain ⟨st, hst⟩ : ∃ st : Nat → Nat, ∀ i, i < jstr.length → vk_R (jstr.getD i ("", 0, "")).1 (jstr.getD i ("", 0, "")).2.1 (jstr.getD i ("", 0, "")).2.2 (st i) s := ⟨fun i => Classical.choose (hst i), fun i => Classical.choose_spec (hst i)⟩
  have hSP : jSP b L xs ad st s.heap.size s := by
    refine ⟨hX, hE, hst, fun w hw hn => ?_, fun w hw hn => ?_, va_Zqof (hts _ (jw_mem jth_ok.1)) (hts _ (jw_mem jth_ok.2.2.1)) (hfl _ jfl_un.1) hA, va_Zqof (hts _ (jw_mem jth_ok.2.1)) (hts _ (jw_mem jth_ok.2.2.1)) (hfl _ jfl_un.2) hA, jLS.of (hts _ (jw_mem jth_ok.1)), jLS.of (hts _ (jw_mem jth_ok.2.1)), fun i hi j hj hij => jNC.of (hfl _ (jfl_nc i hi j hj hij))⟩
    · have h9 := hts w hw
      cases w <;> first | (cases hn; done) | exact va_Nw.of rfl h9
    · rw [Bool.and_eq_true] at hn
      exact va_Nw.of hn.1 (hts w hw)
  have htb := jtb hts
  obtain ⟨dC, dI, hKn⟩ := jchoice (s := s) cl0 (fun q hq => by
    obtain ⟨ci, hci⟩ := List.getElem?_of_mem hq
    have h1 := jcI_ok
    unfold jcI at h1
    have h2 := List.all_eq_true.mp h1 ci (List.mem_range.mpr (List.getElem?_eq_some_iff.mp hci).1)
    rw [hci] at h2
    exact u_known (ws := TB0) htb (jcls hci).1 (htb _ (jIn_ok h2)))
  obtain ⟨cI, kI, compI, i1, i2, i3⟩ := Cond.arrayClass_spec (htb _ (jIn_ok jcO_ok.2.2.2.2.2.1))
  obtain ⟨cC, kC, compC, c1, c2, c3⟩ := Cond.arrayClass_spec (htb _ (jIn_ok jcO_ok.2.2.2.2.2.2.1))
  obtain ⟨cL, kL, compL, l1, l2, l3⟩ := Cond.arrayClass_spec (htb _ (jIn_ok jcO_ok.2.2.2.2.2.2.2))
  refine ⟨(dC, dI), [(cI, .int), (cC, .char), (cL, .long)], fun ty => match ty with
    | .int => cI
    | .char => cC
    | .long => cL
    | _ => 0, ad, st, ⟨jal_hi b ad st _, ⟨rfl, fun x y hx1 hy1 he => ?_⟩, fun w hw => good_of_word (List.mem_filter.mp hw).2, fun at' N c9 hc => ?_, fun u U hW hq h => jSP_moved hbl hW hq h, fun a ty x h => ?_, fun z M h => jok_m h⟩, ⟨hKn, fun k q hk => ?_⟩, hSP⟩
  · obtain ⟨x1, x2⟩ := hx1
    obtain ⟨y1, y2⟩ := hy1
    unfold jal at he
    rw [if_neg (by omega), if_pos x2, if_neg (by omega), if_pos y2] at he
    have := hE.2 (x - 1) (y - 1) (by show x - 1 < 10; omega) (by show y - 1 < 10; omega) he
    omega
  · unfold jnewa at hc
    split at hc
    · exact ⟨⟨0, rfl⟩, jIn_ok jcO_ok.2.2.2.2.2.1⟩
    · exact ⟨⟨1, rfl⟩, jIn_ok jcO_ok.2.2.2.2.2.2.1⟩
    · exact ⟨⟨2, rfl⟩, jIn_ok jcO_ok.2.2.2.2.2.2.2⟩
    · cases hc
  · obtain ⟨rfl, rfl, rfl⟩ := jhd_arr h
    refine ⟨rfl, xs, rfl, hbl, fun s9 hs9 => hs9.1⟩
  · match k, hk with
    | 0, hk => cases hk; exact ⟨fun n z => ⟨fun k h => (by cases h), kI, i2, compI, i3⟩, i1⟩
    | 1, hk => cases hk; exact ⟨fun n z => ⟨fun k h => (by cases h), kC, c2, compC, c3⟩, c1⟩
    | 2, hk => cases hk; exact ⟨fun n z => ⟨fun k h => (by cases h), kL, l2, compL, l3⟩, l1⟩
    | k + 3, hk => simp at hk
end
section
section JOfRun
theorem jhd_len (L : Nat) (xs : Nat → Int32) : (jhd L xs).length = 24 := rfl
theorem jend_b {i : Instr} {len : Nat} {st : List Value} {v : Int32} (h : jend (some .boolean) i len st = some (some (.int v))) : i = .ireturn ∧ len = 1 ∧ st = [.int v] := by
  unfold jend at h
  split at h
  · split at h
    · rename_i hr; cases hr
    · split at h
      · rename_i hl; cases h; exact ⟨rfl, hl.1, rfl⟩
      · cases h
    · cases h
  · split at h
    · rename_i hr; cases hr
    · cases h
  · split at h
    · rename_i hr; cases hr
    · rename_i hr; cases hr
    · rename_i hr; cases hr
    · rename_i hr; cases hr
    · cases h
  · split at h
    · rename_i hr; cases hr
    · cases h
  · cases h
/-- THE CLAIM'S WALK OUT OF A RUN OF THE SMALL MACHINE -/
theorem jwhole {p : Program} {e : Env} {s : State} {m : MethodId} {below : List Frame} {meth : Method} {c : Code} (l : Launch) {b L : Nat} {xs : Nat → Int32} (C0 : lw_At p s m meth c b L xs) (hex : c.exceptionTable.toList = [])
    (hThr : ∀ (D : va_G) (tys : List (ClassId × FieldType)) (dA : FieldType → ClassId) (ad st : Nat → Nat) (sz : Nat), jOK D cl0 tys (jal b ad st sz) dA 24 sz (jSP b L xs ad st sz) TB0 (jhd L xs) jT0 → jThrowOK l D cl0 tys (jal b ad st sz) dA 24 sz (jSP b L xs ad st sz) TB0 jT0)
    (hCat : ∀ (D : va_G) (tys : List (ClassId × FieldType)) (dA : FieldType → ClassId) (ad st : Nat → Nat) (sz : Nat), jOK D cl0 tys (jal b ad st sz) dA 24 sz (jSP b L xs ad st sz) TB0 (jhd L xs) jT0 → jCatchOK l D cl0 tys (jal b ad st sz) dA 24 sz (jSP b L xs ad st sz) TB0 jT0)
    {n : Nat} {h' : jH} (hrun : jrun jT0 24 n 1000 jm_law (0, [(0, .ref 0)], [], jhd L xs) = some (.inl (some (.int 1)), h')) (hc : h'.length - 24 ≤ room_1.cells) (hs : jtot h' - jtot (jhd L xs) ≤ room_1.slots) :
    W p l e room_1 s m #[Value.ref b] below meth c s.heap [] 0 0 (lw_Z below #[Value.ref b] s) (entryFrame m ([Value.ref b] : List Value).toArray 7) := by
  obtain ⟨D, tys, dA, ad, st, O, hK, hSP⟩ := jentry C0
  obtain ⟨hx, hb, hr, hml, hown, hts, hX, hbl, hlocks, hgv⟩ := C0
  have hkn : jKn cl0 (jal b ad st s.heap.size) s.heap.size (jSP b L xs ad st s.heap.size) TB0 jT0 jm_law := jmok jdd_law (by decide) rfl
  obtain ⟨-, hlen, htot, hW⟩ := jsound O (hThr D tys dA ad st _ O) (hCat D tys dA ad st _ O) n 1000 jm_law 0 [(0, .ref 0)] [] (jhd L xs) _ h' hkn (Or.inl rfl) hrun rfl (Nat.le_refl 24)
  have V : jEnvM D cl0 tys (jal b ad st s.heap.size) 24 s.heap.size (jSP b L xs ad st s.heap.size) TB0 jT0 p s m #[Value.ref b] meth c jm_law 24 :=
    ⟨⟨hx, hb, hml, hown, jtb hts, fun h => (by cases h), hK, hSP, Nat.le_refl _, rfl, hkn⟩, by rw [hex]; rfl⟩
  have hl := lv_entry ([.ref b]) (n := 7) (Nat.le_of_ble_eq_true rfl)
  rw [lg_entry_eq]
  have k := hW p e room_1 s m #[Value.ref b] below meth c (lw_Z below #[Value.ref b] s) 24 (jtot (jhd L xs)) V (Nat.le_refl _) (Nat.le_refl _) (by decide) (by decide) hc hs (fun v hv => ?_) (fun a ha => by cases ha) _ s.heap [] hl ⟨Nat.le_refl _, fun k q hk => ?_, va_S.rf⟩
  · rw [Nat.sub_self] at k
    exact k
  · cases hv
    intro i len pc st9 ls H locs he hd hR
    obtain ⟨rfl, rfl, rfl⟩ := jend_b he
    refine va_forget (fun q hq => hR.2.2.2.2 q hq) ?_
    refine W.widen (k := room_1.cells) (n := room_1.slots) hc hs ?_
    exact lw_ret hx hb hr hlocks hd
  · have : (jx_ws (jal b ad st s.heap.size) dA 24 (jhd L xs)) = [] := rfl
    rw [this] at hk
    simp at hk
end JOfRun
end
section
/-! 'throw new X(text)': over the library's own rows on Throwable's making; what it leaves of the heap is said -/
section JThr
variable {p : Program} {l : Launch} {e : Env} {R : Room} {s : State} {m₀ : MethodId} {args : Array Value} {below : List Frame} {meth : Method} {c : Code} {U0 : State} {locs : List Loc} {cells slots : Nat}
set_option maxHeartbeats 4000000 in
theorem jctorT (X : Stand p l e R s m₀ args below meth c U0 locs cells slots) (hexec : p.tables.exec = Jvm.exec) (htr : e.platform.stackTraces = false) {own cls : String} {names : List String} {ic ix : Nat} {rx : ByteArray} {sz : Nat}
    (x0 : decode rx 0 = .ok (.aload_n 0, 1)) (x1 : decode rx 1 = .ok (.aload_n 1, 1)) (x2 : decode rx 2 = .ok (.invokespecial ix, 3)) (x5 : decode rx 5 = .ok (.return_, 1))
    (hown : s.vm.findClass own = some m₀.cls) (hcls : Bundle.fit cls = true) (hnames : ∀ n ∈ names, Bundle.fit n = true) (h : ∀ a ∈ Bundle.ownAtomsX own ic cls ix rx names, a.before args s = true)
    (hlocs : ∀ x ∈ locs, sz ≤ x.base) (hzq : va_Zq "java/lang/Throwable" "UNASSIGNED_STACK" "[Ljava/lang/StackTraceElement;" (fun q => sz ≤ q) s s.heap)
    {a : Addr} {cX : ClassId} {kX : Class} (hfoundX : s.vm.findClass cls = some cX) (hkX : s.vm.classes[cX]? = some kX) (hcell : U0.heap[a]? = some (freshCell cX kX)) (hnew : s.heap.size ≤ a) {msg : Value} (hmsg : msg.isRef = true)
    {g : JFrame} (hg : g.method = m₀) (hsize : g.locals.size = c.maxLocals) {rest : List Value} (hstack : g.stack = msg :: .ref a :: .ref a :: rest)
    (hd6 : decode c.code g.pc = .ok (.invokespecial ic, 3)) (hd9 : decode c.code (g.pc + 3) = .ok (.athrow, 1))
    (hRframes : names.length + 3 < R.frames) (hRlocals : 2 * g.monitorRoom + ((Value.ref a :: rest).map fun v => v.category).sum + (13 * (names.length + 1) + 42) ≤ R.locals) :
    ∃ (T' : State) (Lc : List Loc) (ce : Cell), Stand p l e R s m₀ args below meth c T' (locs ++ Lc) cells slots ∧ (∀ y ∈ Lc, y.base = a) ∧ T'.heap = U0.heap.setIfInBounds a ce ∧ ce.cls = cX ∧ ce.vm = .none ∧
      ∀ target, Steps p.tables e below ((T'.setTop { g with stack := rest, pc := g.pc + 3 }).pushFrame (.throwing a)) target → Steps p.tables e below (U0.setTop g) target := by
  have howns : e.platform.frameOwnsMonitors = true := by rw [X.admits.platform]
  have hfin : e.platform.finalization = false := by rw [X.admits.platform]
  have hpl : e.platform.magicAccessors = ({} : Platform).magicAccessors := by rw [X.admits.platform]
  have a' : ∀ x, x ∈ Bundle.ownAtomsX own ic cls ix rx names → x.holds args s none s [] = true := fun x hx => h x hx
  obtain ⟨T, Z0, L, -, Y⟩ := ThrowableC.of_atoms (args := args) howns hfin hpl (fun x hx => h x (by simp [Bundle.ownAtomsX, hx]))
  obtain ⟨Z, M, LZ, LM, hnZ⟩ := Init0T.ofS_atoms (args := args) hpl L Y (fun x hx => h x (by simp [Bundle.ownAtomsX, hx]))
  obtain ⟨P1, Ps, hlen, L1, hL, hP1m, hlink1, hlink⟩ := Bundle.chainSX (args := args) hpl hnZ x0 x1 x2 x5 names cls hcls hnames (fun x hx => h x (by simp [Bundle.ownAtomsX, hx]))
  have hfound : s.vm.findClass cls = some P1.m.cls := findClass_of_methodNamed hP1m
  cases Option.some.inj (hfoundX.symm.trans hfound)
  obtain ⟨c1, kX', hc1, hk, hord, -, -, hn6⟩ := Cond.instantiable_spec (a' (.instantiable cls 6) (by simp [Bundle.ownAtomsX]))
  cases Option.some.inj (hc1.symm.trans hfound)
  cases Option.some.inj (hkX.symm.trans hk)
  have hsel0 : selectMethod e.platform s.vm P1.m.cls T.fill0 = .method T.fill0 := by
    obtain ⟨c2, r2, m2, q1, q2, q3, q4, -⟩ := Cond.selects_spec (a' (.selects cls Bundle.tFill0 Bundle.tFill0) (by simp [Bundle.ownAtomsX]))
    cases Option.some.inj (q1.symm.trans hfound)
    cases Option.some.inj (q2.symm.trans (State.methodFound?_of_named Y.fill0 (by decide)))
    cases Option.some.inj (q3.symm.trans Y.fill0)
    rw [Launch.admits_selectMethod X.admits]; exact q4
  have hselF : selectMethod e.platform s.vm P1.m.cls T.fill = .method T.fill := by
    obtain ⟨c2, r2, m2, q1, q2, q3, q4, -⟩ := Cond.selects_spec (a' (.selects cls Bundle.tFill Bundle.tFill) (by simp [Bundle.ownAtomsX]))
    cases Option.some.inj (q1.symm.trans hfound)
    cases Option.some.inj (q2.symm.trans (State.methodFound?_of_named Y.fill (by decide)))
    cases Option.some.inj (q3.symm.trans Y.fill)
    rw [Launch.admits_selectMethod X.admits]; exact q4
  obtain ⟨cellS0, hcS0, hiss⟩ := Y.statics
  obtain ⟨u0, hu0⟩ := Cond.staticRefV Y.unassigned L.unassignedStatic L.statics hcS0 hiss (a' (.isRef (.static Bundle.tN "UNASSIGNED_STACK" Bundle.steD)) (by simp [Bundle.ownAtomsX]))
  obtain ⟨sen, hsen⟩ := Cond.staticRefV Y.sentinel L.sentinelStatic L.statics hcS0 hiss (a' (.isRef (.static Bundle.tN "SUPPRESSED_SENTINEL" Bundle.listD)) (by simp [Bundle.ownAtomsX]))
  obtain ⟨ci198, i198, fB, hk198, hg198, ha198, hsB, -, hnB, htB, hffB⟩ := Cond.ownField (t := .object "java/lang/Object") Y.found L.cls (by decide +kernel) (a' (.fieldLink Bundle.tN 198 Bundle.tN "backtrace" "Ljava/lang/Object;") (by simp [Bundle.ownAtomsX])) (a' (.lays Bundle.tN Bundle.tN "backtrace" "Ljava/lang/Object;") (by simp [Bundle.ownAtomsX])) e.platform hpl
  obtain ⟨cellS, hcS', heS, -, hkeep⟩ := X.same.2.2.2.2.2 T.aS cellS0 hcS0
  have hcellS : U0.heap[T.aS]? = some cellS := hcS'
  have hout' : ∀ i, (⟨T.aS, i⟩ : Loc) ∉ locs := fun i hmem => by
    have h1 := hlocs _ hmem
    have hz : ∃ v, va_Z "java/lang/Throwable" "UNASSIGNED_STACK" "[Ljava/lang/StackTraceElement;" v (fun q => sz ≤ q) s s.heap := by
      rcases hzq with z | ⟨t, z⟩
      · exact ⟨_, z⟩
      · exact ⟨_, z⟩
    obtain ⟨v, cf, kf, fi, f, a9, cell9, z1, z2, z3, z4, z5, z6, z7, z8⟩ := hz
    cases Option.some.inj (z1.symm.trans Y.unassigned)
    cases Option.some.inj (z4.symm.trans L.statics)
    exact z8 h1
  have hknownS : cellS.vm ≠ .unknown := by
    rw [heS]; intro hu
    rw [show cellS0.vm = .unknown from hu] at hiss
    cases hiss
  have hneS : T.aS ≠ a := Nat.ne_of_lt (Nat.lt_of_lt_of_le (Array.getElem?_eq_some_iff.mp hcS0).1 hnew)
  obtain ⟨iM, hffM⟩ := Y.msg
  obtain ⟨tyC, dC, hdC, hdnC⟩ := Cond.laysAt hfound hk Y.cause (a' (.lays cls Bundle.tN "cause" "Ljava/lang/Throwable;") (by simp [Bundle.ownAtomsX]))
  obtain ⟨tyS, dS, hdS, hdnS⟩ := Cond.laysAt hfound hk Y.stack (a' (.lays cls Bundle.tN "stackTrace" Bundle.steD) (by simp [Bundle.ownAtomsX]))
  obtain ⟨tyP, dP, hdP, hdnP⟩ := Cond.laysAt hfound hk Y.supp (a' (.lays cls Bundle.tN "suppressedExceptions" Bundle.listD) (by simp [Bundle.ownAtomsX]))
  obtain ⟨tyM, dM, hdM, hdnM⟩ := Cond.laysAt hfound hk hffM (a' (.lays cls Bundle.tN "detailMessage" "Ljava/lang/String;") (by simp [Bundle.ownAtomsX]))
  obtain ⟨tyB, dB, hdB, hdnB⟩ := Cond.laysAt hfound hk hffB (a' (.lays cls Bundle.tN "backtrace" "Ljava/lang/Object;") (by simp [Bundle.ownAtomsX]))
  have bC := Cond.laysApart hdB hdC hdnB hdnC (by rw [hnB, Y.causeName]; decide)
  have bS := Cond.laysApart hdB hdS hdnB hdnS (by rw [hnB, Y.stackName]; decide)
  have bP := Cond.laysApart hdB hdP hdnB hdnP (by rw [hnB, Y.suppName]; decide)
  have hskip : SkipFacts T e.platform s (fun u => u) u0 ((preparedCellV T.toThrowableT (freshCell P1.m.cls kX) a u0 sen).withEntry U0.cur) :=
    ⟨{ ci198 := ci198, i198 := i198, fBack := fB }, ⟨hk198, hg198, ha198, hsB⟩, by
      have := fresh_default (c := P1.m.cls) tyB
      rw [htB] at this
      simpa [preparedCellV, Cell.setSlot, Cell.withEntry, Array.getElem?_setIfInBounds, bC, bS, bP, bC.symm, bS.symm, bP.symm, defaultValue] using this, fun _ _ => rfl⟩
  obtain ⟨tm, methC, cdC, kC, vm₁, hnC, -, -, -, -, -, -, -, hW₁, st1⟩ := Steps.initColdS (tb := p.tables) (e := e) (below := below) (s := s) (U := U0) X.here hexec X.warmed hpl hown (t := Bundle.initS cls) rfl rfl (Bundle.fit_spec hcls).2
    (a' (.methodLink own ic (Bundle.initS cls)) (by simp [Bundle.ownAtomsX])) (h (.instanceMethod (Bundle.initS cls)) (by cases names <;> simp [Bundle.ownAtomsX, Bundle.chainSAtomsX, Bundle.passSAtoms])) (bytes := rx) (maxL := 2) (h (.code (Bundle.initS cls) rx 2 none) (by cases names <;> simp [Bundle.ownAtomsX, Bundle.chainSAtomsX, Bundle.passSAtoms]))
    (f := g) hg (a := a) (msg := msg) (rest := .ref a :: rest) hstack hd6
  cases Option.some.inj (hnC.symm.trans hP1m)
  have X₁ := X.noted hW₁
  obtain ⟨vm₂, X₂, st2⟩ := X₁.ctorMessageOffV hexec (g := { g with stack := .ref a :: rest }) hg hsize T L Z LZ M LM (P1 :: Ps)
    (fun P hP => by rcases List.mem_cons.mp hP with rfl | hP; exact L1; exact hL P hP) ⟨hlink1, hlink⟩ (u0 := u0) (sen := sen) (self := a) hmsg (cell := freshCell P1.m.cls kX) (cellS := cellS)
    hcell (fun _ => by simp) (by simp) rfl rfl hsel0 hselF hcellS hneS hknownS (by rw [hkeep _ (hout' _)]; exact hu0) (by rw [hkeep _ (hout' _)]; exact hsen)
    (Takes.of_laid hk hord tyC (by rw [Y.causeType]; rfl)) (Takes.of_laid hk hord tyS (by rw [Y.stackType]; exact fits_refV_array _ u0)) (Takes.of_laid hk hord tyP (by rw [Y.suppType]; exact fits_refV_object _ sen))
    (Takes.of_laid hk hord tyM (by rw [Y.msgType]; exact fits_refV_object _ ⟨msg, hmsg⟩)) Y.objLocals hskip htr [] hd6
    (by simp only [List.length_cons, hlen]; omega) (by simp only [List.length_cons, hlen]; exact hRlocals)
  refine ⟨_, _, _, X₂, fun y hy => ?_, rfl, rfl, rfl, fun target ht => ?_⟩
  · simp only [List.mem_cons, List.not_mem_nil, or_false] at hy
    rcases hy with rfl | rfl | rfl | rfl | rfl <;> rfl
  · refine st1 _ (fun acts => ?_)
    rw [doInvoke_state]
    refine st2 _ ?_
    subst hg
    jvm_step X₂.here [hexec, hd9, athrow.wp_sem]
    exact (top_set X₂.here.top).mpr ⟨.ref a, rest, rfl, ht⟩
end JThr
end
section
/-! the words for throwing, by program (wip/whole/genthr.py) -/
def jXr : List (Nat × String × Nat × Nat × Nat × ByteArray × Nat × Nat × List Nat) := [(12, "java/lang/IllegalArgumentException", 88, 92, 7, prog_18_method_2_code, 2110, 1017, [1014, 2132, 2141, 2146, 2149, 2151, 2133, 2134, 1032, 1033, 2135, 2140, 2147, 2167, 2122, 2168, 2124, 2169, 2126, 2136, 2137, 2138, 2139, 2128, 2163, 2164, 2166, 2128, 2154, 2155, 2156, 2157, 2114, 2157, 2158, 2159, 2160, 2116, 2160, 2161, 2162, 2163, 2118, 2153, 2111, 2112, 2119, 2120, 2121, 2123, 2125, 2127, 0, 0, 2131, 2130, 2129]), (13, "java/lang/IllegalStateException", 99, 103, 7, prog_19_method_2_code, 2179, 1018, [1014, 2132, 2141, 2146, 2149, 2151, 2133, 2134, 1032, 1033, 2135, 2140, 2147, 2167, 2122, 2168, 2124, 2169, 2126, 2136, 2137, 2138, 2139, 2128, 2163, 2164, 2166, 2128, 2190, 2191, 2192, 2157, 2114, 2157, 2158, 2159, 2160, 2116, 2160, 2161, 2162, 2163, 2118, 2189, 2180, 2181, 2182, 2143, 2183, 2184, 2185, 2186, 0, 0, 2131, 2130, 2187]), (14, "java/lang/UnsupportedOperationException", 228, 232, 7, prog_26_method_2_code, 4179, 1024, [1014, 2132, 2141, 2146, 2149, 2151, 2133, 2134, 1032, 1033, 2135, 2140, 2147, 2167, 2122, 2168, 2124, 2169, 2126, 2136, 2137, 2138, 2139, 2128, 2163, 2164, 2166, 2128, 4190, 4191, 4192, 2157, 2114, 2157, 2158, 2159, 2160, 2116, 2160, 2161, 2162, 2163, 2118, 4189, 4180, 4181, 4182, 2144, 4183, 4184, 4185, 4186, 0, 0, 2131, 2130, 4187]), (15, "java/util/NoSuchElementException", 164, 168, 13, prog_28_method_4_code, 4195, 1025, [1014, 2132, 2141, 2146, 2149, 2151, 2133, 2134, 1032, 1033, 2135, 2140, 2147, 2167, 2122, 2168, 2124, 2169, 2126, 2136, 2137, 2138, 2139, 2128, 2163, 2164, 2166, 2128, 4206, 4207, 4208, 2157, 2114, 2157, 2158, 2159, 2160, 2116, 2160, 2161, 2162, 2163, 2118, 4205, 4196, 4197, 4198, 2145, 4199, 4200, 4201, 4202, 0, 0, 2131, 2130, 4203])]

abbrev jXq : Type := Nat × String × Nat × Nat × Nat × ByteArray × Nat × Nat × List Nat
def jAt (p : Nat) (w : Jvm.Cond) : Bool := decide (jw p = some w) && (goodWord w || (w.onTables && w.keepsFace))
def jXe (w : Jvm.Cond) : Bool := decide (w ∈ ([.isRef (.static "java/lang/Throwable" "UNASSIGNED_STACK" "[Ljava/lang/StackTraceElement;"), .isRef (.static "java/lang/Throwable" "SUPPRESSED_SENTINEL" "Ljava/util/List;"), .laysStatic "java/lang/Throwable" "UNASSIGNED_STACK" "[Ljava/lang/StackTraceElement;", .laysStatic "java/lang/Throwable" "SUPPRESSED_SENTINEL" "Ljava/util/List;"] : List Jvm.Cond))
def jXa (q : jXq) : List Jvm.Cond := Bundle.ownAtomsX "GoalDesk" q.2.2.2.1 q.2.1 q.2.2.2.2.1 q.2.2.2.2.2.1 ["java/lang/RuntimeException", "java/lang/Exception"]
def jXz : List Jvm.Cond → List Nat → Bool
  | [], _ => true
  | w :: ws, p :: ps => (jAt p w || jXe w) && jXz ws ps
  | _ :: _, [] => false
theorem jXz_ok {w : Jvm.Cond} : ∀ {ws : List Jvm.Cond} {ps : List Nat}, jXz ws ps = true → w ∈ ws → (∃ p, jAt p w = true) ∨ jXe w = true
  | [], _, _, h => by cases h
  | w0 :: ws, p :: ps, h, hm => by
    unfold jXz at h
    rw [Bool.and_eq_true, Bool.or_eq_true] at h
    rcases List.mem_cons.mp hm with rfl | hm
    · exact h.1.imp (fun z => ⟨p, z⟩) id
    · exact jXz_ok h.2 hm
  | _ :: _, [], h, _ => by cases h
def jXc (q : jXq) : Bool := jXz (jXa q) q.2.2.2.2.2.2.2.2 && jIn q.2.2.2.2.2.2.1 (.classLink "GoalDesk" q.2.2.1 q.2.1) && jIn q.2.2.2.2.2.2.2.1 (.initialized q.2.1) && jIn (q.2.2.2.2.2.2.2.2.getD 44 0) (.instantiable q.2.1 6) &&
  Bundle.fit q.2.1 && decide ((cl0[q.1]?).map (fun z => (z.1, z.2.2)) = some (q.2.1, 0)) && decide (decode q.2.2.2.2.2.1 0 = .ok (.aload_n 0, 1)) && decide (decode q.2.2.2.2.2.1 1 = .ok (.aload_n 1, 1)) && decide (decode q.2.2.2.2.2.1 2 = .ok (.invokespecial q.2.2.2.2.1, 3)) && decide (decode q.2.2.2.2.2.1 5 = .ok (.return_, 1))
theorem jXr_ok : jXr.all jXc = true := by decide +kernel
end
section
section JThr3
theorem va_Zq.jref {C n d : String} {A : Nat → Prop} {s : State} {args : Array Value} (h : va_Zq C n d A s s.heap) : (Jvm.Cond.isRef (.static C n d)).before args s = true := by
  rcases h with ⟨cf, kf, fi, f, a, cell, h1, h2, h3, h4, h5, h6, h7, h8⟩ | ⟨t, cf, kf, fi, f, a, cell, h1, h2, h3, h4, h5, h6, h7, h8⟩
  · have he : (Term.static C n d).eval args s none [] s = some .null := by simp [Term.eval, State.fieldNamed?, h1, h2, h4, h5, h6, h7]
    simp only [Cond.before, Cond.holds, Cond.value, he]
    rfl
  · have he : (Term.static C n d).eval args s none [] s = some (.ref t) := by simp [Term.eval, State.fieldNamed?, h1, h2, h4, h5, h6, h7]
    simp only [Cond.before, Cond.holds, Cond.value, he]
    rfl
variable {b L : Nat} {xs : Nat → Int32} {ad st : Nat → Nat} {sz : Nat}
theorem jXall {s : State} {args : Array Value} (hts : ∀ w ∈ TB0, w.before args s = true) (hSP : jSP b L xs ad st sz s) {q : jXq} (hz : jXz (jXa q) q.2.2.2.2.2.2.2.2 = true) : ∀ w ∈ jXa q, w.before args s = true := by
  intro w hw
  rcases jXz_ok hz hw with ⟨p, hp⟩ | he
  · unfold jAt at hp
    rw [Bool.and_eq_true, Bool.or_eq_true, decide_eq_true_eq] at hp
    rcases hp.2 with h | h
    · exact hts w (List.mem_filter.mpr ⟨jw_mem hp.1, h⟩)
    · have h9 := hSP.2.2.2.2.1 w (jw_mem hp.1) h
      rw [Bool.and_eq_true] at h
      exact va_Nw.use h.1 h9
  · unfold jXe at he
    rw [decide_eq_true_eq] at he
    obtain ⟨-, -, -, -, -, z1, z2, z3, z4, -⟩ := hSP
    simp only [List.mem_cons, List.not_mem_nil, or_false] at he
    rcases he with rfl | rfl | rfl | rfl
    · exact z1.jref
    · exact z2.jref
    · exact z3.word
    · exact z4.word
theorem jx_look {i j ci : Nat} (h : jT0.2.2.2 0 i j = some ci) : ∃ q ∈ jXr, q.1 = ci ∧ q.2.2.1 = i ∧ q.2.2.2.1 = j := by
  have h : (bif Nat.blt j 1000 then (jlk jd_x (i * 1000 + j)).map (fun q => q.1) else none) = some ci := h
  cases hj : Nat.blt j 1000 with
  | false => rw [hj] at h; cases h
  | true =>
    rw [hj] at h
    obtain ⟨q, hq, he⟩ := Option.map_eq_some_iff.mp h
    have hm := jlk_mem hq
    obtain ⟨e1, e2⟩ := jkey (c := i) hj
    have hall : jd_x.all (fun z => jXr.any (fun q => Nat.beq q.1 z.2.1 && Nat.beq q.2.2.1 (z.1 / 1000) && Nat.beq q.2.2.2.1 (z.1 % 1000))) = true := by decide +kernel
    have h1 := List.all_eq_true.mp hall _ hm
    obtain ⟨q', hq', h2⟩ := List.any_eq_true.mp h1
    dsimp only at h2
    rw [e1, e2] at h2
    simp only [Bool.and_eq_true] at h2
    exact ⟨q', hq', by rw [← he]; exact Nat.eq_of_beq_eq_true h2.1.1, Nat.eq_of_beq_eq_true h2.1.2, Nat.eq_of_beq_eq_true h2.2⟩
theorem jx_cn {cn i j ci : Nat} (h : jT0.2.2.2 cn i j = some ci) : cn = 0 := by
  have h : (bif Nat.beq cn 0 then (bif Nat.blt j 1000 then (jlk jd_x (i * 1000 + j)).map (fun q => q.1) else none) else none) = some ci := h
  cases hc : Nat.beq cn 0 with
  | false => rw [hc] at h; cases h
  | true => exact Nat.eq_of_beq_eq_true hc
end JThr3
end
section
section JThr4
variable {l : Launch} {D : va_G} {tys : List (ClassId × FieldType)} {dA : FieldType → ClassId} {b L : Nat} {xs : Nat → Int32} {ad st : Nat → Nat} {sz : Nat}
theorem jthr_inv {T : jT} {K : Nat} {M : jM} {i : Instr} {len pc : Nat} {st : List Value} {ci : Nat} (h : jthr T K M i len pc st = some ci) :
    ∃ idx k ic a, i = .new idx ∧ len = 3 ∧ M.2.2.2.2.2.2.1 (pc + 3) = some (.dup, 1) ∧ M.2.2.2.2.2.2.1 (pc + 4) = some (.ldc k, 2) ∧ M.2.2.2.2.2.2.1 (pc + 6) = some (.invokespecial ic, 3) ∧ M.2.2.2.2.2.2.1 (pc + 9) = some (.athrow, 1) ∧ T.1.2.2.2 M.2.2.2.2.1 k = some (.ref a) ∧ (st.map fun v => v.category).sum ≤ 8 ∧ T.2.2.2 M.2.2.2.2.1 idx ic = some ci := by
  unfold jthr at h
  split at h
  · rename_i idx
    split at h
    · rename_i k ic h1 h2 h3 h4 h5
      split at h
      · rename_i a h6
        split at h
        · rename_i h7
          exact ⟨idx, k, ic, a, rfl, h7.1, h1, h2, h3, h4, h6, h7.2, h⟩
        · cases h
      · cases h
    · cases h
  · cases h
set_option maxHeartbeats 2000000 in
theorem jthrow_ok (hfl : l.flags = pinnedFlags ++ [noTraceFlag]) (O : jOK D cl0 tys (jal b ad st sz) dA 24 sz (jSP b L xs ad st sz) TB0 (jhd L xs) jT0) : jThrowOK l D cl0 tys (jal b ad st sz) dA 24 sz (jSP b L xs ad st sz) TB0 jT0 := by
  intro p e R s m args below meth c Q M n0 i len pc ci stk ls H locs cells slots h V hls hft hth hR hz hfr hlo hce hsl kk
  obtain ⟨⟨hx, hb, hml, hown, hts, hini, hK, hSP, hKn, hsz, hdec, hnL, hF, hN, hS, hC, hL⟩, hex⟩ := V
  obtain ⟨idx, k, ic, a0, rfl, rfl, f3, f4, f6, f9, hk, hcat, hx4⟩ := jthr_inv hth
  have hcn := jx_cn hx4
  rw [hcn] at hx4
  obtain ⟨q, hq, e1, e2, e3⟩ := jx_look hx4
  have hqc := List.all_eq_true.mp jXr_ok q hq
  unfold jXc at hqc
  simp only [Bool.and_eq_true, decide_eq_true_eq] at hqc
  obtain ⟨⟨⟨⟨⟨⟨⟨⟨⟨g1, g2⟩, g3⟩, g4⟩, g5⟩, g6⟩, g7⟩, g8⟩, g9⟩, g10⟩ := hqc
  have hOwn : M.1.cls = "GoalDesk" := by
    have hF1 := hF 10 10 0 11 (by rw [hcn]; rfl)
    obtain ⟨C, T, N, ty, hc, -, -, -, -, -, -, hf2, -⟩ := hF1
    have hc9 : some ("GoalDesk", jU jfl_10, 12) = some (C, T, N) := hc
    cases hc9
    exact ((hf2 (by decide)).2).symm
  rw [hOwn] at hown
  obtain ⟨qC, hqC, hqe⟩ := Option.map_eq_some_iff.mp g6
  obtain ⟨C, T9, N9⟩ := qC
  have hqe : (C, N9) = (q.2.1, 0) := hqe
  cases hqe
  rw [e1] at hqC
  have hKc := hK.1 ci _ hqC
  have hmsg : ∃ tx, ∀ s9, jSP b L xs ad st sz s9 → vk_R "GoalDesk" k tx (jal b ad st sz a0) s9 := by
    rcases hC _ _ hk with ⟨x', w, -⟩ | ⟨x', w, -⟩ | ⟨a, tx, w, hw⟩
    · cases w
    · cases w
    · cases w
      rw [hOwn] at hw
      exact ⟨tx, hw⟩
  obtain ⟨tx, hmsg⟩ := hmsg
  have hcl : (Jvm.Cond.classLink "GoalDesk" idx q.2.1).before args s = true := by
    have := hts _ (jIn_ok g2)
    rw [e2] at this
    exact this
  have hα := O.1
  refine W.newcK hx hb hown hcl (hts _ (jIn_ok g4)) (hts _ (jIn_ok g3)) rfl (hdec _ _ _ hft) hce hsl hKc.2.1 hz fun H1 kC hkC c1 z1 o1 => ?_
  refine lv_dup hx hb (hdec _ _ _ f3) rfl ?_
  refine va_ldcS hx hb hown (hmsg s hSP) (hdec _ _ _ f4) ?_
  intro U hU X
  have hatoms := jXall hts hSP g1
  have hS9 := hR.2.2
  have hnew : s.heap.size ≤ jal b ad st sz h.length := by rw [← hz]; exact hS9.1
  have hcell : U.heap[jal b ad st sz h.length]? = some (freshCell (D.1 ci) kC) := by rw [hU]; exact c1
  have hd6 := hdec _ _ _ f6
  have hd9 := hdec _ _ _ f9
  rw [← hb] at hd6 hd9
  have hic : (Jvm.Cond.methodLink "GoalDesk" ic (Bundle.initS q.2.1)).before args s = true := by
    have := hatoms (.methodLink "GoalDesk" q.2.2.2.1 (Bundle.initS q.2.1)) (by simp [jXa, Bundle.ownAtomsX])
    rw [e3] at this
    exact this
  unfold jXa at hatoms
  rw [e3] at hatoms
  obtain ⟨T', Lc, ce, X', hLc, hT', hcc, hcv, hgo⟩ := jctorT (sz := sz) X hx (Launch.traces_off hfl X.admits) g7 g8 g9 g10 hown g5 (by intro n hn; simp at hn; rcases hn with rfl | rfl <;> decide) hatoms hS9.2.2 hSP.2.2.2.2.2.1 hKc.2.1 hkC hcell hnew
    (msg := .ref (jal b ad st sz a0)) rfl (g := F0 m (pc + 6) ls (.ref (jal b ad st sz a0) :: .ref (jal b ad st sz h.length) :: .ref (jal b ad st sz h.length) :: stk.map (jx_V (jal b ad st sz)))) rfl (by rw [hml]; exact hls) (rest := stk.map (jx_V (jal b ad st sz))) rfl hd6 hd9
    (by simp; omega) (by
      have h0 : (F0 m (pc + 6) ls (.ref (jal b ad st sz a0) :: .ref (jal b ad st sz h.length) :: .ref (jal b ad st sz h.length) :: stk.map (jx_V (jal b ad st sz)))).monitorRoom = 0 := rfl
      rw [h0, List.map_cons, List.sum_cons, jsum_map]
      have : (Value.ref (jal b ad st sz h.length)).category = 1 := rfl
      rw [this]
      simp only [List.length_cons, List.length_nil]
      omega)
  have hsz' : sz ≤ s.heap.size := by omega
  have ha0 : sz ≤ jal b ad st sz h.length := Nat.le_trans hsz' hnew
  have hl1 : jal b ad st sz h.length < H1.size := by rw [z1]; omega
  have hR1 : jRel D cl0 (jal b ad st sz) dA 24 sz (h ++ [.inr (ci, [.null, .null, .null, .null, .null, .null])]) s T'.heap (locs ++ Lc) := by
    have hR0 : jRel D cl0 (jal b ad st sz) dA 24 sz (h ++ [.inr (ci, [.null, .null, .null, .null, .null, .null])]) s T'.heap locs := by
      refine jRel_push hR hsz' hz ?_ (fun q9 hq9 => ?_) ?_
      · rw [hT', hU, Array.size_setIfInBounds, z1, hz]
      · rw [hT', hU, Array.getElem?_setIfInBounds, if_neg (by rw [hz] at hq9; omega)]
        exact o1 q9 (by rw [← hz]; exact hq9)
      · refine ⟨_, hqC, ce, ?_, hcc, hcv, fun k9 hk9 => absurd hk9 (Nat.not_lt_zero _)⟩
        rw [hT', hU, Array.getElem?_setIfInBounds, if_pos rfl, if_pos hl1]
    exact ⟨hR0.1, hR0.2.1, hR0.2.2.1, hR0.2.2.2.1, fun y hy => by
      rcases List.mem_append.mp hy with hy | hy
      · exact hR0.2.2.2.2 y hy
      · rw [hLc y hy]; exact ha0⟩
  obtain ⟨t, s1, s2⟩ := kk T'.heap (locs ++ Lc) (stk.map (jx_V (jal b ad st sz))) hR1 T' rfl X'
  exact ⟨t, hgo t s1, s2⟩
end JThr4
end
section
section JCat
def jHp (k : Nat) : Nat := match k with
  | 13 => 2101
  | 15 => 2102
  | 28 => 3114
  | _ => 3115
def jcH (M : jM) : Bool := M.2.2.2.2.2.2.2.all (fun q => match q.2 with
  | [ci] => Nat.ble 12 ci && Nat.blt ci 16 && !(Nat.beq q.1.2.2.2 0) && jIn (jHp q.1.2.2.2) (.classLink M.1.cls q.1.2.2.2 (jEx.getD (ci - 12) ""))
  | _ => false)
set_option maxRecDepth 20000 in
theorem jcH_ok : (jd_m.flatMap (fun q => q.2)).all (fun e => jcH e.2.1) = true := by decide +kernel
theorem jcX_ok : ∀ i, i < 4 → jAt (([2112, 2181, 4181, 4197] : List Nat).getD i 0) (.castable (jEx.getD i "") (jEx.getD i "")) = true ∧ (cl0[12 + i]?).map (fun z => z.1) = some (jEx.getD i "") := by decide +kernel
theorem jAt_use {b L : Nat} {xs : Nat → Int32} {ad st : Nat → Nat} {sz : Nat} {s : State} {args : Array Value} (hts : ∀ w ∈ TB0, w.before args s = true) (hSP : jSP b L xs ad st sz s) {p : Nat} {w : Jvm.Cond} (hp : jAt p w = true) : w.before args s = true := by
  unfold jAt at hp
  rw [Bool.and_eq_true, Bool.or_eq_true, decide_eq_true_eq] at hp
  rcases hp.2 with h | h
  · exact hts w (List.mem_filter.mpr ⟨jw_mem hp.1, h⟩)
  · have h9 := hSP.2.2.2.2.1 w (jw_mem hp.1) h
    rw [Bool.and_eq_true] at h
    exact va_Nw.use h.1 h9
theorem jcH_in {M : jM} (h : jcH M = true) {q : (Nat × Nat × Nat × Nat) × List Nat} (hq : q ∈ M.2.2.2.2.2.2.2) : ∃ i, i < 4 ∧ q.2 = [12 + i] ∧ q.1.2.2.2 ≠ 0 ∧ Jvm.Cond.classLink M.1.cls q.1.2.2.2 (jEx.getD i "") ∈ TB0 := by
  unfold jcH at h
  have h1 := List.all_eq_true.mp h q hq
  split at h1
  · rename_i ci hci
    simp only [Bool.and_eq_true, Bool.not_eq_true'] at h1
    obtain ⟨⟨⟨k1, k2⟩, k3⟩, k4⟩ := h1
    have k1 := Nat.le_of_ble_eq_true k1
    have k2 : ci < 16 := by simpa using k2
    refine ⟨ci - 12, by omega, by rw [hci]; congr 1; omega, fun z => ?_, jIn_ok k4⟩
    rw [z] at k3
    cases k3
  · cases h1
variable {l : Launch} {D : va_G} {tys : List (ClassId × FieldType)} {dA : FieldType → ClassId} {b L : Nat} {xs : Nat → Int32} {ad st : Nat → Nat} {sz : Nat}
set_option maxHeartbeats 1000000 in
theorem jcatch_ok : jCatchOK l D cl0 tys (jal b ad st sz) dA 24 sz (jSP b L xs ad st sz) TB0 jT0 := by
  intro p e R s m args below meth c Q M n0 pc a q stk ls H locs cells slots h hz V hh hR k
  obtain ⟨z, hz⟩ := hz
  obtain ⟨⟨hx, hb, hml, hown, hts, hini, hK, hSP, hKn, hsz, hdec, hnL, hF, hN, hS, hC, hL⟩, hex⟩ := V
  have hH : jcH M = true := by
    have hz : jt_m z = some M := hz
    unfold jt_m at hz
    obtain ⟨q9, hq9, rfl⟩ := Option.map_eq_some_iff.mp hz
    exact List.all_eq_true.mp jcH_ok _ (jlk2_mem hq9)
  unfold jhand at hh
  split at hh
  · rename_i ci fs ha
    split at hh
    · cases hh
    · rename_i hKa
      have hKa : 24 ≤ a := by omega
      split at hh
      · rename_i q0 hq0
        cases hh
        obtain ⟨hp0, as, bs, hsplit, hpre⟩ := List.find?_eq_some_iff_append.mp hq0
        rw [hsplit, List.map_append, List.map_cons] at hex
        obtain ⟨pre, rest', e1, e2, e3⟩ := List.map_eq_append_iff.mp hex
        obtain ⟨x, rest, e4, e5, e6⟩ := List.map_eq_cons_iff.mp e3
        subst e4
        have hm0 : q0 ∈ M.2.2.2.2.2.2.2 := by rw [hsplit]; simp
        obtain ⟨i, hi, hq2, hct, hlk⟩ := jcH_in hH hm0
        rw [decide_eq_true_eq, hq2] at hp0
        obtain ⟨c1, c2, c3⟩ := hp0
        have c3 : ci = 12 + i := by simpa using c3
        subst c3
        obtain ⟨w1, w2⟩ := jcX_ok i hi
        have hent := hR.2.1 (a - 24) _ (jx_ws_get (α := jal b ad st sz) (dA := dA) ha hKa)
        obtain ⟨r, hr, cell, g1, g2, g3, -⟩ := hent
        have hrn : r.1 = jEx.getD i "" := by
          have hr : cl0[12 + i]? = some r := hr
          rw [hr] at w2
          exact Option.some.inj w2
        have hcl : s.vm.findClass (jEx.getD i "") = some cell.cls := by
          rw [← hrn, g2]
          exact (hK.1 _ _ hr).2.1
        obtain ⟨d1, d2, hd1, hd2, hfit⟩ := Cond.castable_spec (jAt_use hts hSP w1)
        cases hcl.symm.trans hd1
        cases hcl.symm.trans hd2
        have hx1 : x.startPc = q0.1.1 ∧ x.endPc = q0.1.2.1 ∧ x.handlerPc = q0.1.2.2.1 ∧ x.catchType = q0.1.2.2.2 := by
          rw [← e5]
          exact ⟨rfl, rfl, rfl, rfl⟩
        obtain ⟨x1, x2, x3, x4⟩ := hx1
        intro T hT X
        have hpl : e.platform.magicAccessors = ({} : Platform).magicAccessors := by rw [X.admits.platform]
        have hlk' : (Jvm.Cond.classLink M.1.cls x.catchType (jEx.getD i "")).before args s = true := by
          rw [x4]
          exact hts _ hlk
        obtain ⟨hend, hk0⟩ := X.catches_of_link hown (by rw [x4]; exact hct) hlk' hcl hfit
        have hpass : ∀ y ∈ pre, RowPassed e.platform s m.cls pc cell.cls y := by
          intro y hy
          have hy9 : (y.startPc, y.endPc, y.handlerPc, y.catchType) ∈ as.map (fun q => q.1) := by
            rw [← e2]
            exact List.mem_map.mpr ⟨y, hy, rfl⟩
          obtain ⟨y', hy', he⟩ := List.mem_map.mp hy9
          have hnp := hpre y' hy'
          have hmy : y' ∈ M.2.2.2.2.2.2.2 := by rw [hsplit]; exact List.mem_append_left _ hy'
          obtain ⟨j, hj, hq3, hct3, hlk3⟩ := jcH_in hH hmy
          by_cases hcov : covers y pc = true
          · have he1 : y'.1.1 = y.startPc ∧ y'.1.2.1 = y.endPc ∧ y'.1.2.2.2 = y.catchType := by rw [he]; exact ⟨rfl, rfl, rfl⟩
            have hij : i ≠ j := by
              intro hij
              subst hij
              rw [Bool.not_eq_true', decide_eq_false_iff_not, hq3] at hnp
              apply hnp
              simp only [covers, Bool.and_eq_true, decide_eq_true_eq] at hcov
              refine ⟨by rw [he1.1]; exact hcov.1, by rw [he1.2.1]; exact hcov.2, by simp⟩
            refine RowPassed.of_words hpl hown (by rw [← he1.2.2]; exact hct3) (name := jEx.getD j "") (tn := jEx.getD i "") (by rw [← he1.2.2]; exact hts _ hlk3) hcl ((hSP.2.2.2.2.2.2.2.2.2 i hi j hj hij).word)
          · exact Or.inl (by simpa using hcov)
        have hcx : covers x pc = true := by
          simp only [covers, Bool.and_eq_true, decide_eq_true_eq]
          exact ⟨by rw [x1]; exact c1, by rw [x2]; exact c2⟩
        obtain ⟨vm', X', stV⟩ := X.caughtThrough (jal b ad st sz a) (g := F0 m pc ls stk) rfl (cell := cell) (by rw [hT]; exact g1) (by rw [g3]; rfl) hk0 pre x rest e1 hpass hcx hend
        obtain ⟨t, s1, s2⟩ := k (T.setVm vm') hT X'
        refine ⟨t, ?_, s2⟩
        rw [X.pushThrowing_eq]
        refine stV t ?_
        rw [x3]
        exact s1
      · cases hh
  · cases hh
end JCat
end
section
def jAll : Prop := ∀ (L : Nat) (xs : Nat → Int32), L ≤ 1536 → ∃ (n : Nat) (h' : jH), jrun jT0 24 n 1000 jm_law (0, [(0, .ref 0)], [], jhd L xs) = some (.inl (some (.int 1)), h') ∧ h'.length - 24 ≤ 600000 ∧ jtot h' - jtot (jhd L xs) ≤ 7000000
theorem whole_start (J : jAll) {p : Program} {e : Env} {s : State} {m : MethodId} {below : List Frame} {meth : Method} {c : Code} (l : Launch) (hfl : l.flags = flags0) {b L : Nat} {xs : Nat → Int32} (hL : L ≤ 1536) (C0 : lw_At p s m meth c b L xs) (hex : c.exceptionTable.toList = []) : W p l e room_1 s m #[Value.ref b] below meth c s.heap [] 0 0 (lw_Z below #[Value.ref b] s) (entryFrame m ([Value.ref b] : List Value).toArray 7) := by
  obtain ⟨n, h', h1, h20, h30⟩ := J L xs hL
  have h2 : h'.length - 24 ≤ room_1.cells := Nat.le_trans h20 (by decide)
  have h3 : jtot h' - jtot (jhd L xs) ≤ room_1.slots := Nat.le_trans h30 (by decide)
  exact jwhole l C0 hex (fun D tys dA ad st sz O => jthrow_ok hfl O) (fun D tys dA ad st sz O => jcatch_ok) h1 h2 h3
set_option maxHeartbeats 4000000 in
theorem lw_walk (J : jAll) (l : Launch) (hfl : l.flags = flags0) (b : Addr) (xs : List Int32) : MetFree l x (headSpec (Jvm.Cond.code x code maxLocals ret :: tables_1) room_1) (lw_P b xs) (fun _ _ _ _ _ => True) lw_Q := by
  refine MetFree.of_bodyS (code := code) (maxLocals := maxLocals) (ret := ret) (by decide) ?_ ?_
  · intro args s m h hn
    obtain ⟨meth, c, h1, h2, h3, h4, h5, h6, -, -⟩ := Cond.code_spec hn (atoms_spec (ws := Jvm.Cond.code x code maxLocals ret :: tables_1) h _ List.mem_cons_self)
    exact ⟨meth, c, h1, h2, h3, h4, h5, h6⟩
  · intro p e s m args below meth c s₁ B hml0 hP _
    obtain ⟨rfl, hx, hbd, hgv⟩ := hP
    obtain ⟨scr, harrAt, hlist, hof, hsmall⟩ := hx
    obtain ⟨hcb, hkn, -, -⟩ := State.arrayAt?_spec harrAt
    have hown : s.vm.findClass R_law = some m.cls := findClass_of_methodNamed B.named
    have hts0 : ∀ c ∈ (Jvm.Cond.code x code maxLocals ret :: tables_1), c.before #[Value.ref b] s = true := atoms_spec (ws := Jvm.Cond.code x code maxLocals ret :: tables_1) B.pre
    have hts : ∀ w ∈ lw_tbl, w.before #[Value.ref b] s = true := k2_hts_sels lw_privs (fun w hw => hts0 w (List.mem_cons_of_mem _ hw)) lw_privs_ok
    have hml : c.maxLocals = 7 := B.maxLocals_eq (hts0 _ List.mem_cons_self)
    have hex : c.exceptionTable.toList = [] := by
      obtain ⟨meth9, c9, w1, w2, -, -, -, -, w7, -⟩ := Cond.code_spec B.named (hts0 _ List.mem_cons_self)
      cases B.method.symm.trans w1
      cases (Stand.of_body B).code.symm.trans w2
      simpa using w7
    have X₀ : Stand p l e room_1 s m #[Value.ref b] below meth c s₁ [] 0 0 := Stand.of_body B
    have hh0 : s₁.heap = s.heap := by rw [B.state]; rfl
    have hsz : scr.slots.size = xs.length := by rw [← Array.length_toList, hlist, List.length_map]
    have hval : ∀ j : Nat, j < xs.length → scr.slots[j]? = some (.int (xs.getD j 0)) := fun j hj => by
      rw [← Array.getElem?_toList, hlist]
      simp [hj]
    have hbl : b < s.heap.size := (Array.getElem?_eq_some_iff.mp hcb).1
    have hX : va_X b xs.length (fun j => xs.getD j 0) s s.heap := ⟨scr, hcb, hof, hkn, hsz, hval⟩
    have K : W p l e room_1 s m #[Value.ref b] below meth c s₁.heap [] 0 0 (lw_Z below #[Value.ref b] s) (entryFrame m ([Value.ref b] : List Value).toArray 7) := by
      rw [hh0]
      exact whole_start J l hfl hbd ⟨B.exec, B.bytes, B.returns, hml, hown, hts, hX, hbl, B.notSynchronized, hgv⟩ hex
    obtain ⟨t, a1, o, b1, b2, b3⟩ := K s₁ rfl X₀
    exact ⟨t, o, a1, b1, b2, b3⟩
theorem lw_pre_spec {args : Array Value} {s : State} (h : (Jvm.Cond.and given_1 narrow_1).before args s = true) (hr : rest_1_c.before args s = true) : ∃ (b : Addr) (xs : List Int32), lw_P b xs args s := by
  have hs := flat_of_before _ h
  have hq := flat_of_before _ hr
  have hc : (Cond.count 1).before args s = true := hs _ (by decide +kernel)
  have harr : (Cond.arrayOf (.arg 0) .int).before args s = true := hs _ (by decide +kernel)
  have hle : (Cond.le (.length (.arg 0)) (.int 1536)).before args s = true := hs _ (by decide +kernel)
  have hlen : (Cond.isInt (.length (.arg 0))).before args s = true := hq _ (by decide +kernel)
  have hall : (Cond.all (.arg 0) (.isInt (.elem (.arg 0) (.index 0)))).before args s = true := hq _ (by decide +kernel)
  obtain ⟨b, xs, hb, hx⟩ := State.ints_of_pre rfl harr hlen hall
  have hsm : xs.length < 2 ^ 31 := hx.choose_spec.2.2.2
  have hev : (Term.length (.arg 0)).eval args s none [] s = some (.int xs.length.toInt32) := hx.length_eval hb
  have hv := Cond.le_ints hev (show (Term.int 1536).eval args s none [] s = some (.int 1536) from rfl)
  have hd : xs.length.toInt32 ≤ 1536 := by
    simpa [Cond.before, Cond.holds, hv] using hle
  have hN : xs.length ≤ 1536 := (Int32.ofNat_le_ofNat hsm (by decide)).mp (show Int32.ofNat xs.length ≤ Int32.ofNat 1536 from hd)
  exact ⟨b, xs, Cond.one_arg hc (show args[0]? = some (.ref b) from hb), hx, hN, h⟩
theorem lw_comes (J : jAll) (l : Launch) (hfl : l.flags = flags0) : Comes l x (Jvm.Cond.code x code maxLocals ret :: tables_1) room_1 (fun tb e args s => Calls_1 tb e args s ∧ rest_1 tb e args s ∧ Pre_1 tb e args s)
    (fun _ _ args s o t => lw_Q args s o t) := by
  intro p e ha hc hk s m args below hf hfit hheap happ hpre
  obtain ⟨b, xs, hP⟩ := lw_pre_spec hpre.2.2 hpre.2.1
  obtain ⟨k, o, h1, h2, h3, hQ⟩ := lw_walk J l hfl b xs p e ha hc hk s m args below hf ((Spec.applies_iff_loose hf).mp happ).1 hP trivial
  exact ⟨k, o, h1, h2, h3, hQ⟩
theorem lw_frame {s t : State} {o : Outcome} {args : Array Value} (h : Framed s o t [] room_1.cells room_1.slots) :
    Framed s o t (fieldLocs frame_1_writes args s ++ arrayLocs frame_1_arrays args s ++ staticLocs frame_1_statics s) room_1.cells room_1.slots := h
theorem lw_limb (J : jAll) (L : Cond) (hL : ∀ (args : Array Value) (s t : State), L.after args s (.returned (some (.int 1))) t = true) :
    ArmFor flags0 classFile x code maxLocals ret World_1 tables_1 room_1 Calls_1 rest_1 Pre_1
      (fun tb e a s o t => postC L tb e a s o t ∧ Framed s o t (fieldLocs frame_1_writes a s ++ arrayLocs frame_1_arrays a s ++ staticLocs frame_1_statics s) room_1.cells room_1.slots) := by
  intro l g1 g2 g3 p e ha hc hk s m args below hf hfit hheap happ hpre
  obtain ⟨k, o, h1, h2, h3, rfl, hF⟩ := lw_comes J l (by assumption) p e ha hc hk s m args below hf hfit hheap happ hpre
  exact ⟨k, _, h1, h2, h3, hL args s _, lw_frame hF⟩
theorem i_vc_of (J : jAll) : Claimed_1_1 ∧ Claimed_1_2 := ⟨lw_limb J limb_1_1 (fun args s t => by simp [limb_1_1, Cond.after, Cond.holds, Cond.value]), lw_limb J limb_1_2 (fun args s t => Cond.after_iff.mpr (by
  first | (rw [show limb_1_2 = Cond.eq .result (.int 1) from rfl, Cond.eq_ints (x := 1) (y := 1) rfl rfl]; simp; done) | (simp [limb_1_2, Cond.value, Term.eval]; done)))⟩
end
section
/-! THE SECOND SMALL MACHINE: its memory is numbers alone (class and model apart), a Table's methods are words of it -/
abbrev qC : Type := (Nat → Int32) × (Nat → Nat → Int32)
/-- class, model, the law's out, how many were thrown -/
abbrev qG : Type := qC × qC × Int64 × Nat
/-- pc, locals, stack, memory -/
abbrev qS : Type := Nat × List (Nat × Value) × List Value × qG
def upS (σ : qC) (k : Nat) (v : Int32) : qC := (fun i => bif Nat.beq i k then v else σ.1 i, σ.2)
def upA (σ : qC) (a i : Nat) (v : Int32) : qC := (σ.1, fun b => bif Nat.beq b a then upd (σ.2 a) i v else σ.2 b)
def qgs (g : qG) (a k : Nat) : Int32 := bif Nat.blt a 64 then g.1.1 (100 * a + k) else g.2.1.1 (100 * a + k)
def qps (g : qG) (a k : Nat) (v : Int32) : qG := bif Nat.blt a 64 then (upS g.1 (100 * a + k) v, g.2) else (g.1, upS g.2.1 (100 * a + k) v, g.2.2)
def qga (g : qG) (a : Nat) : Nat → Int32 := bif Nat.blt a 64 then g.1.2 a else g.2.1.2 a
def qpa (g : qG) (a i : Nat) (v : Int32) : qG := bif Nat.blt a 64 then (upA g.1 a i v, g.2) else (g.1, upA g.2.1 a i v, g.2.2)
/-- an index that is out -/
def qob (n : Nat) (j : Int32) : Bool := decide (j < 0) || Nat.ble n j.toNatClampNeg
/-- a Table's words: where, width -/
def tat (σ : qC) (t w : Nat) (row col : Int32) : Int32 := if row * Int32.ofNat w + col < 0 then 0 else σ.2 t (row * Int32.ofNat w + col).toNatClampNeg
def tputB (w : Nat) (row col : Int32) : Bool := decide (row * Int32.ofNat w + col < 0) || Nat.ble 131072 (row * Int32.ofNat w + col).toNatClampNeg
def tput (σ : qC) (t w : Nat) (row col v : Int32) : qC := upA σ t (row * Int32.ofNat w + col).toNatClampNeg v
def tappB (σ : qC) (t w : Nat) : Bool := decide (σ.1 (100 * t + 2) < 0) || Nat.blt 131072 (((σ.1 (100 * t + 2)).toNatClampNeg + 1) * w)
def tapp (σ : qC) (t w : Nat) (a b c d : Int32) : qC :=
  upS (upA (upA (upA (upA σ t ((σ.1 (100 * t + 2)).toNatClampNeg * w) a) t ((σ.1 (100 * t + 2)).toNatClampNeg * w + 1) b) t ((σ.1 (100 * t + 2)).toNatClampNeg * w + 2) c) t ((σ.1 (100 * t + 2)).toNatClampNeg * w + 3) d) (100 * t + 2) (σ.1 (100 * t + 2) + 1)
def tshr (σ : qC) (t : Nat) (f : Int32) : qC := if f < 0 then σ else if σ.1 (100 * t + 2) ≤ f then σ else upS σ (100 * t + 2) f
def qd : List (Nat × Nat × List Nat) := [(0, 0, []), (1, 0, []), (1, 0, []), (1, 0, []), (1, 0, []), (1, 0, []), (1, 0, []), (1, 0, []), (1, 0, []), (1, 0, []), (1, 0, []), (2, 0, []), (2, 0, []), (2, 0, []), (2, 0, []), (2, 0, []), (2, 0, []), (2, 0, []), (2, 0, []), (2, 0, []), (2, 0, []), (2, 0, []), (2, 0, []), (2, 0, []), (3, 10, [26, 28, 33, 34, 36, 45, 52, 59, 64, 0, 0, 0]), (3, 7, [27, 0]), (4, 48, []), (3, 0, [29, 31]), (6, 9, []), (7, 0, []), (6, 4, []), (7, 0, []), (3, 3, [28, 26, 0, 0]), (3, 1, [28, 35, 0]), (5, 12, []), (3, 5, [28, 37, 39, 41, 43, 0]), (6, 4, []), (7, 0, []), (6, 4, []), (7, 0, []), (6, 4, []), (7, 0, []), (6, 4, []), (7, 0, []), (3, 2, [28, 36, 46, 48, 50, 51, 0]), (6, 4, []), (7, 0, []), (6, 4, []), (7, 0, []), (3, 8, [0, 0, 0]), (3, 8, [0, 0, 0]), (3, 4, [28, 34, 36, 45, 53, 55, 57, 58, 0]), (6, 4, []), (7, 0, []), (6, 9, []), (7, 0, []), (3, 8, [0, 0, 0]), (3, 8, [0, 0, 0]), (3, 9, [28, 36, 60, 61, 63]), (4, 80, []), (6, 4, []), (7, 0, []), (3, 8, [0, 0, 0]), (3, 8, [0, 0, 0]), (3, 11, [66, 67, 68, 69, 70, 71, 72, 0, 0, 0, 0, 0, 0, 0, 73, 74, 75, 76, 77, 78, 79, 80, 81, 82, 83, 0, 0, 0, 0, 0, 0, 0, 0, 0, 0, 0, 0, 0, 0, 0, 0, 84, 85, 86, 87, 88, 89, 90, 91, 92, 93, 94, 95, 96, 97, 98, 99, 100, 101, 102, 103, 104, 105, 0]), (5, 48, []), (5, 624, []), (5, 12, []), (5, 8, []), (5, 8, []), (5, 26, []), (5, 26, []), (5, 24000, []), (5, 24000, []), (5, 72000, []), (5, 13000, []), (5, 13000, []), (5, 13000, []), (5, 14000, []), (5, 14000, []), (5, 14000, []), (5, 14000, []), (5, 14000, []), (5, 6000, []), (5, 6000, []), (5, 1200, []), (5, 1200, []), (5, 600, []), (5, 600, []), (5, 600, []), (5, 2200, []), (5, 2200, []), (5, 600, []), (5, 1200, []), (5, 600, []), (5, 600, []), (5, 600, []), (5, 600, []), (5, 600, []), (5, 600, []), (5, 600, []), (5, 600, []), (5, 600, []), (5, 80, []), (5, 800, []), (8, 0, [])]
def qhp (G : jG) (S : Nat × (Nat → Int32)) (cn : Nat) (i : Instr) (st : List Value) (g : qG) : Option (List Value × qG × Nat) := match i with
  | .getfield idx => match st with
    | .ref a :: r => match G.1 cn idx with
      | some (ci, k, _) => match qd[a]? with
        | some (3, cj, fl) => bif Nat.beq cj ci then match fl[k]? with
          | some 0 => some (.int (qgs g a k) :: r, g, 3)
          | some (x + 1) => some (.ref x :: r, g, 3)
          | none => none
          else none
        | _ => none
      | none => none
    | _ => none
  | .putfield idx => match st with
    | .int v :: .ref a :: r => match G.1 cn idx with
      | some (ci, k, kd) => match qd[a]? with
        | some (3, cj, fl) => bif Nat.beq cj ci && Nat.blt kd 10 then match fl[k]? with
          | some 0 => if jfit (kd % 10) (.int v) = false then none else some (r, qps g a k v, 3)
          | _ => none
          else none
        | _ => none
      | none => none
    | _ => none
  | .getstatic idx => match G.2.2.1 cn idx with
    | some v => some (v :: st, g, 3)
    | none => none
  | .ldc idx => match G.2.2.2 cn idx with
    | some (.int x) => some (.int x :: st, g, 2)
    | some (.ref a) => some (.ref a :: st, g, 2)
    | _ => none
  | .ldc_w idx => match G.2.2.2 cn idx with
    | some (.int x) => some (.int x :: st, g, 3)
    | _ => none
  | .ldc2_w idx => match G.2.2.2 cn idx with
    | some (.long x) => some (.long x :: st, g, 3)
    | _ => none
  | .arraylength => match st with
    | .ref a :: r => match qd[a]? with
      | some (4, n, _) => some (.int (Int32.ofNat n) :: r, g, 1)
      | some (5, n, _) => some (.int (Int32.ofNat n) :: r, g, 1)
      | some (0, _, _) => some (.int (Int32.ofNat S.1) :: r, g, 1)
      | _ => none
    | _ => none
  | .iaload => match st with
    | .int j :: .ref a :: r => match qd[a]? with
      | some (5, n, _) => if qob n j = true then none else some (.int (qga g a j.toNatClampNeg) :: r, g, 1)
      | some (0, _, _) => if qob S.1 j = true then none else some (.int (S.2 j.toNatClampNeg) :: r, g, 1)
      | _ => none
    | _ => none
  | .caload => match st with
    | .int j :: .ref a :: r => match qd[a]? with
      | some (4, n, _) => if qob n j = true then none else some (.int (qga g a j.toNatClampNeg) :: r, g, 1)
      | _ => none
    | _ => none
  | .laload => match st with
    | .int j :: .ref a :: r => match qd[a]? with
      | some (8, _, _) => if qob 1 j = true then none else some (.long g.2.2.1 :: r, g, 1)
      | _ => none
    | _ => none
  | .iastore => match st with
    | .int x :: .int j :: .ref a :: r => match qd[a]? with
      | some (5, n, _) => if qob n j = true then none else some (r, qpa g a j.toNatClampNeg x, 1)
      | _ => none
    | _ => none
  | .castore => match st with
    | .int x :: .int j :: .ref a :: r => match qd[a]? with
      | some (4, n, _) => if qob n j = true then none else some (r, qpa g a j.toNatClampNeg (vp_nar .char x), 1)
      | _ => none
    | _ => none
  | .lastore => match st with
    | .long x :: .int j :: .ref a :: r => match qd[a]? with
      | some (8, _, _) => if qob 1 j = true then none else some (r, (g.1, g.2.1, x, g.2.2.2), 1)
      | _ => none
    | _ => none
  | _ => none
/-- a Table's methods -/
def qtab (z : Nat) (as : List Value) (g : qG) : Option (Option Value × qG) := match as with
  | .ref t :: bs => match qd[t]? with
    | some (6, w, _) => match z, bs with
      | 15, [] => some (some (.int (g.1.1 (100 * t + 2))), g)
      | 18, [.int r, .int c] => some (some (.int (tat g.1 t w r c)), g)
      | 30, [.int r, .int c, .int v] => if tputB w r c = true then none else some (none, (tput g.1 t w r c v, g.2))
      | 57, [.int f] => some (none, (tshr g.1 t f, g.2))
      | 61, [.int a, .int b, .int c, .int d] => if tappB g.1 t w = true then none else some (some (.int (g.1.1 (100 * t + 2))), (tapp g.1 t w a b c d, g.2))
      | _, _ => none
    | _ => none
  | _ => none
def qcls (a : Nat) : Option Nat := match qd[a]? with
  | some (3, ci, _) => some ci
  | some (6, _, _) => some 6
  | _ => none
def qcall (gM : jL) (cn : Nat) (i : Instr) (len : Nat) (st : List Value) : Option (Nat × List Value × List Value) := match i with
  | .invokevirtual idx => match gM cn idx with
    | some (0, z, n, ci) => bif Nat.beq len 3 && Nat.ble n st.length then match (st.take n).reverse with
      | .ref b :: as => match qcls b with
        | some cj => bif Nat.beq cj ci then some (z, .ref b :: as, st.drop n) else none
        | none => none
      | _ => none
      else none
    | _ => none
  | .invokestatic idx => match gM cn idx with
    | some (2, z, n, _) => bif Nat.beq len 3 && Nat.ble n st.length then some (z, (st.take n).reverse, st.drop n) else none
    | _ => none
  | _ => none
def qisT (z : Nat) : Bool := Nat.beq z 15 || (Nat.beq z 18 || (Nat.beq z 30 || (Nat.beq z 57 || Nat.beq z 61)))
def qcat (r : List Value) : Bool := Nat.ble (r.map fun v => v.category).sum 8
/-- plain steps: words, and calls of a Table's methods -/
def qstep (T : jT) (S : Nat × (Nat → Int32)) (M : jM) (s : qS) : Option qS := match M.2.2.2.2.2.2.1 s.1 with
  | none => none
  | some (i, len) => match jstk i s.2.2.1 with
    | some (st', k) => bif Nat.beq k len then some (s.1 + len, s.2.1, st', s.2.2.2) else none
    | none => match jloc i M.2.2.1 s.2.1 s.2.2.1 with
      | some (lv', st', k) => bif Nat.beq k len then some (s.1 + len, lv', st', s.2.2.2) else none
      | none => match jjmp i s.1 len s.2.2.1 with
        | some (pc', st') => some (pc', s.2.1, st', s.2.2.2)
        | none => match qhp T.1 S M.2.2.2.2.1 i s.2.2.1 s.2.2.2 with
          | some (st', g', k) => bif Nat.beq k len then some (s.1 + len, s.2.1, st', g') else none
          | none => match qcall T.2.1 M.2.2.2.2.1 i len s.2.2.1 with
            | some (z, as, r) => bif qisT z && qcat r then match qtab z as s.2.2.2 with
              | some (v, g') => some (s.1 + 3, s.2.1, v.toList ++ r, g')
              | none => none
              else none
            | none => none
/-- a handler that only answers a number -/
def qhand (M : jM) (pc ci : Nat) : Option Int32 := match M.2.2.2.2.2.2.2.find? (fun q => Nat.ble q.1.1 pc && (Nat.blt pc q.1.2.1 && (q.2.any (fun c => Nat.beq c ci)))) with
  | some q => match M.2.2.2.2.2.2.1 q.1.2.2.1 with
    | some (.astore_n k, 1) => match M.2.2.2.2.2.2.1 (q.1.2.2.1 + 1), M.2.2.2.2.2.2.1 (q.1.2.2.1 + 2), M.2.2.2.1 with
      | some (.iconst c, 1), some (.ireturn, 1), some .int => bif Nat.blt k.val M.2.2.1 then some (Int32.ofInt c) else none
      | _, _, _ => none
    | some (.astore k, 2) => match M.2.2.2.2.2.2.1 (q.1.2.2.1 + 2), M.2.2.2.2.2.2.1 (q.1.2.2.1 + 3), M.2.2.2.1 with
      | some (.iconst c, 1), some (.ireturn, 1), some .int => bif Nat.blt k M.2.2.1 then some (Int32.ofInt c) else none
      | _, _, _ => none
    | _ => none
  | none => none
abbrev qO : Type := (Option Value ⊕ Nat) × qG
def qthr (T : jT) (M : jM) (s : qS) : Option Nat := match M.2.2.2.2.2.2.1 s.1 with
  | none => none
  | some (i, len) => jthr T 24 M i len s.1 s.2.2.1
/-- what stands here when it is no plain step: the end, or a call -/
def qat (T : jT) (M : jM) (s : qS) : Option (Option Value ⊕ (Nat × List Value × List Value)) := match M.2.2.2.2.2.2.1 s.1 with
  | none => none
  | some (i, len) => match jend M.2.2.2.1 i len s.2.2.1 with
    | some v => some (.inl v)
    | none => match qcall T.2.1 M.2.2.2.2.1 i len s.2.2.1 with
      | some (z, as, r) => bif qisT z then none else (bif qcat r then some (.inr (z, as, r)) else none)
      | none => none
def qbody (T : jT) (S : Nat × (Nat → Int32)) (rec : Nat → jM → qS → Option qO) (d : Nat) (M : jM) (s : qS) : Option qO :=
  if d < 9 then none else
  match qstep T S M s with
  | some s' => rec d M s'
  | none => match qat T M s with
    | some (.inl v) => some (.inl v, s.2.2.2)
    | some (.inr (z, as, r)) => match T.2.2.1 z with
      | none => none
      | some Z => if Z.2.2.1 < (lg_sl as).length then none else match rec (d - 1) Z (0, lv_args 0 as, [], s.2.2.2) with
        | some (.inl v, g') => rec d M (s.1 + 3, s.2.1, v.toList ++ r, g')
        | some (.inr ci, g') => match M.2.2.2.2.2.2.2 with
          | [] => some (.inr ci, g')
          | _ :: _ => match qhand M s.1 ci with
            | some c => some (.inl (some (.int c)), g')
            | none => none
        | none => none
    | none => match qthr T M s with
      | some ci => some (.inr ci, (s.2.2.2.1, s.2.2.2.2.1, s.2.2.2.2.2.1, s.2.2.2.2.2.2 + 1))
      | none => none
def qrun (T : jT) (S : Nat × (Nat → Int32)) : Nat → Nat → jM → qS → Option qO
  | 0 => fun _ _ _ => none
  | n + 1 => qbody T S (qrun T S n)
end
section
/-! runs: more rules -/
section JE
variable {T : jT} {K d : Nat} {M Z : jM} {r : jO}
theorem jEv.hp {i : Instr} {len pc : Nat} {lv : List (Nat × Value)} {st st' : List Value} {h h' : jH} (hf : M.2.2.2.2.2.2.1 pc = some (i, len)) (h1 : jstk i st = none) (h2 : jloc i M.2.2.1 lv st = none) (h3 : jjmp i pc len st = none)
    (h4 : jhp T.1 K M.2.2.2.2.1 M.2.2.2.2.2.1 i st h = some (st', h', len)) (kk : jEv T K d M (pc + len, lv, st', h') r) : jEv T K d M (pc, lv, st, h) r := by
  refine jEv.steps 1 ?_ kk
  unfold jit
  simp only [hf]
  unfold jstep
  simp only [h1, h2, h3, h4, if_true]
  rfl
theorem jhp_get {G : jG} {cn : Nat} {ini : Bool} {idx ci k kd a : Nat} {r : List Value} {h : jH} {fs : List Value} {v : Value} (hG : G.1 cn idx = some (ci, k, kd)) (ha : h[a]? = some (.inr (ci, fs))) (hK : K ≤ a) (hv : fs[k]? = some v) : jhp G K cn ini (.getfield idx) (.ref a :: r) h = some (v :: r, h, 3) := by
  unfold jhp
  simp only [hG, ha, hK, hv, and_self, if_true]
theorem jhp_put {G : jG} {cn : Nat} {ini : Bool} {idx ci k kd a : Nat} {r : List Value} {h : jH} {fs : List Value} {v : Value} (hG : G.1 cn idx = some (ci, k, kd)) (ha : h[a]? = some (.inr (ci, fs))) (hK : K ≤ a) (hk : k < fs.length) (hf : jfit (kd % 10) v = true) (hd : kd < 10 ∨ ini = true) : jhp G K cn ini (.putfield idx) (v :: .ref a :: r) h = some (r, h.set a (.inr (ci, fs.set k v)), 3) := by
  unfold jhp
  simp only [hG, ha]
  rw [if_pos ⟨trivial, hK, hk, hf, hd⟩]
theorem jhp_len {G : jG} {cn : Nat} {ini : Bool} {a n : Nat} {ty : FieldType} {x : vp_A} {r : List Value} {h : jH} (ha : h[a]? = some (.inl (ty, n, x.2))) (ht : jatok ty = true) : jhp G K cn ini .arraylength (.ref a :: r) h = some (.int (Int32.ofNat n) :: r, h, 1) := by
  unfold jhp
  simp only [ha, ht, if_true]
theorem jhp_iald {G : jG} {cn : Nat} {ini : Bool} {a n : Nat} {f : Nat → Int32} {j : Int32} {r : List Value} {h : jH} (ha : h[a]? = some (.inl (.int, n, .inl f))) (hj : ¬ (j < 0 ∨ n ≤ j.toNatClampNeg)) : jhp G K cn ini .iaload (.int j :: .ref a :: r) h = some (.int (f j.toNatClampNeg) :: r, h, 1) := by
  unfold jhp
  simp only [ha]
  rw [if_neg hj]
theorem jhp_cald {G : jG} {cn : Nat} {ini : Bool} {a n : Nat} {f : Nat → Int32} {j : Int32} {r : List Value} {h : jH} (ha : h[a]? = some (.inl (.char, n, .inl f))) (hj : ¬ (j < 0 ∨ n ≤ j.toNatClampNeg)) : jhp G K cn ini .caload (.int j :: .ref a :: r) h = some (.int (f j.toNatClampNeg) :: r, h, 1) := by
  unfold jhp
  simp only [ha]
  rw [if_neg hj]
theorem jhp_lald {G : jG} {cn : Nat} {ini : Bool} {a n : Nat} {f : Nat → Int64} {j : Int32} {r : List Value} {h : jH} (ha : h[a]? = some (.inl (.long, n, .inr (.inl f)))) (hj : ¬ (j < 0 ∨ n ≤ j.toNatClampNeg)) : jhp G K cn ini .laload (.int j :: .ref a :: r) h = some (.long (f j.toNatClampNeg) :: r, h, 1) := by
  unfold jhp
  simp only [ha]
  rw [if_neg hj]
theorem jhp_iast {G : jG} {cn : Nat} {ini : Bool} {a n : Nat} {f : Nat → Int32} {j x : Int32} {r : List Value} {h : jH} (ha : h[a]? = some (.inl (.int, n, .inl f))) (hj : ¬ (j < 0 ∨ n ≤ j.toNatClampNeg)) (hK : K ≤ a) : jhp G K cn ini .iastore (.int x :: .int j :: .ref a :: r) h = some (r, h.set a (.inl (.int, n, .inl (upd f j.toNatClampNeg x))), 1) := by
  unfold jhp
  simp only [ha]
  rw [if_neg (fun z => z.elim hj (fun z => Nat.not_lt.mpr hK z))]
theorem jhp_cast {G : jG} {cn : Nat} {ini : Bool} {a n : Nat} {f : Nat → Int32} {j x : Int32} {r : List Value} {h : jH} (ha : h[a]? = some (.inl (.char, n, .inl f))) (hj : ¬ (j < 0 ∨ n ≤ j.toNatClampNeg)) (hK : K ≤ a) : jhp G K cn ini .castore (.int x :: .int j :: .ref a :: r) h = some (r, h.set a (.inl (.char, n, .inl (upd f j.toNatClampNeg (vp_nar .char x)))), 1) := by
  unfold jhp
  simp only [ha]
  rw [if_neg (fun z => z.elim hj (fun z => Nat.not_lt.mpr hK z))]
theorem jhp_last {G : jG} {cn : Nat} {ini : Bool} {a n : Nat} {f : Nat → Int64} {j : Int32} {x : Int64} {r : List Value} {h : jH} (ha : h[a]? = some (.inl (.long, n, .inr (.inl f)))) (hj : ¬ (j < 0 ∨ n ≤ j.toNatClampNeg)) (hK : K ≤ a) : jhp G K cn ini .lastore (.long x :: .int j :: .ref a :: r) h = some (r, h.set a (.inl (.long, n, .inr (.inl (vp_updL f j.toNatClampNeg x)))), 1) := by
  unfold jhp
  simp only [ha]
  rw [if_neg (fun z => z.elim hj (fun z => Nat.not_lt.mpr hK z))]
/-- a call by what jcall says -/
theorem jEv.callJ {i : Instr} {len pc : Nat} {lv : List (Nat × Value)} {st : List Value} {h : jH} {kd z : Nat} {as r0 : List Value} {v : Option Value} {h' : jH} (hf : M.2.2.2.2.2.2.1 pc = some (i, len)) (h1 : jstep T.1 K M.2.2.2.2.1 M.2.2.1 M.2.2.2.2.2.1 i len pc lv st h = none) (h2 : jend M.2.2.2.1 i len st = none)
    (h3 : jcall T.2.1 K M.2.2.2.2.1 i len st h = some (kd, z, as, r0)) (h4 : (r0.map fun v => v.category).sum ≤ 8) (hk : kd ≠ 3) (hk5 : kd ≠ 5) (hz : T.2.2.1 z = some Z) (hl : (lg_sl as).length ≤ Z.2.2.1)
    (hc : jEv T K d Z (0, lv_args 0 as, [], h) (.inl v, h')) (kk : jEv T K (d + 1) M (pc + 3, lv, v.toList ++ r0, h') r) : jEv T K (d + 1) M (pc, lv, st, h) r := by
  refine jEv.call (s := (pc, lv, st, h)) (kd := kd) (z := z) (as := as) (r0 := r0) ?_ hk hk5 hz hl hc kk
  unfold jat
  simp only [hf, h1, h2, h3]
  rw [if_neg (by omega)]
/-- a call that throws -/
theorem jEv.callT {i : Instr} {len pc : Nat} {lv : List (Nat × Value)} {st : List Value} {h : jH} {kd z : Nat} {as r0 : List Value} {a : Nat} {h' : jH} (hf : M.2.2.2.2.2.2.1 pc = some (i, len)) (h1 : jstep T.1 K M.2.2.2.2.1 M.2.2.1 M.2.2.2.2.2.1 i len pc lv st h = none) (h2 : jend M.2.2.2.1 i len st = none)
    (h3 : jcall T.2.1 K M.2.2.2.2.1 i len st h = some (kd, z, as, r0)) (h4 : (r0.map fun v => v.category).sum ≤ 8) (hk : kd ≠ 3) (hk5 : kd ≠ 5) (hz : T.2.2.1 z = some Z) (hl : (lg_sl as).length ≤ Z.2.2.1)
    (hc : jEv T K d Z (0, lv_args 0 as, [], h) (.inr a, h')) (hh : M.2.2.2.2.2.2.2 = []) : jEv T K (d + 1) M (pc, lv, st, h) (.inr a, h') := by
  obtain ⟨n, hn⟩ := hc
  refine ⟨n + 1, ?_⟩
  show jbody T K (jrun T K n) (d + 1) M (pc, lv, st, h) = _
  unfold jbody
  simp only [hf, h1, h2, h3, if_neg (Nat.not_lt.mpr h4), if_neg hk, if_neg hk5, hz, if_neg (Nat.not_lt.mpr hl), hn, hh]
/-- a call that throws into a handler -/
theorem jEv.callC {i : Instr} {len pc : Nat} {lv : List (Nat × Value)} {st : List Value} {h : jH} {kd z : Nat} {as r0 : List Value} {a q : Nat} {h' : jH} (hf : M.2.2.2.2.2.2.1 pc = some (i, len)) (h1 : jstep T.1 K M.2.2.2.2.1 M.2.2.1 M.2.2.2.2.2.1 i len pc lv st h = none) (h2 : jend M.2.2.2.1 i len st = none)
    (h3 : jcall T.2.1 K M.2.2.2.2.1 i len st h = some (kd, z, as, r0)) (h4 : (r0.map fun v => v.category).sum ≤ 8) (hk : kd ≠ 3) (hk5 : kd ≠ 5) (hz : T.2.2.1 z = some Z) (hl : (lg_sl as).length ≤ Z.2.2.1)
    (hc : jEv T K d Z (0, lv_args 0 as, [], h) (.inr a, h')) {b : (Nat × Nat × Nat × Nat) × List Nat} {hs : List ((Nat × Nat × Nat × Nat) × List Nat)} (hh : M.2.2.2.2.2.2.2 = b :: hs) (hq : jhand (b :: hs) pc h' a = some q) (kk : jEv T K (d + 1) M (q, lv, [.ref a], h') r) : jEv T K (d + 1) M (pc, lv, st, h) r := by
  obtain ⟨n1, hn1⟩ := hc
  obtain ⟨n2, hn2⟩ := kk
  have e1 := jrun_le n2 hn1
  have e2 : jrun T K (n1 + n2) (d + 1) M (q, lv, [.ref a], h') = some r := by
    rw [Nat.add_comm]
    exact jrun_le n1 hn2
  refine ⟨n1 + n2 + 1, ?_⟩
  show jbody T K (jrun T K (n1 + n2)) (d + 1) M (pc, lv, st, h) = _
  unfold jbody
  simp only [hf, h1, h2, h3, if_neg (Nat.not_lt.mpr h4), if_neg hk, if_neg hk5, hz, if_neg (Nat.not_lt.mpr hl), e1, hh, hq]
  exact e2
/-- System.arraycopy -/
theorem jEv.copy {i : Instr} {len pc : Nat} {lv : List (Nat × Value)} {st : List Value} {h : jH} {z : Nat} {as r0 : List Value} {h' : jH} (hf : M.2.2.2.2.2.2.1 pc = some (i, len)) (h1 : jstep T.1 K M.2.2.2.2.1 M.2.2.1 M.2.2.2.2.2.1 i len pc lv st h = none) (h2 : jend M.2.2.2.1 i len st = none)
    (h3 : jcall T.2.1 K M.2.2.2.2.1 i len st h = some (5, z, as, r0)) (h4 : (r0.map fun v => v.category).sum ≤ 8) (hc : jcopy K as h = some h') (kk : jEv T K (d + 1) M (pc + 3, lv, r0, h') r) : jEv T K (d + 1) M (pc, lv, st, h) r := by
  obtain ⟨n, hn⟩ := kk
  refine ⟨n + 1, ?_⟩
  show jbody T K (jrun T K n) (d + 1) M (pc, lv, st, h) = _
  unfold jbody
  simp only [hf, h1, h2, h3, if_neg (Nat.not_lt.mpr h4), hc, if_true]
  exact hn
/-- a throw -/
theorem jEv.thr {i : Instr} {len pc : Nat} {lv : List (Nat × Value)} {st : List Value} {h : jH} {ci : Nat} (hf : M.2.2.2.2.2.2.1 pc = some (i, len)) (h1 : jstep T.1 K M.2.2.2.2.1 M.2.2.1 M.2.2.2.2.2.1 i len pc lv st h = none) (h2 : jend M.2.2.2.1 i len st = none)
    (h3 : jcall T.2.1 K M.2.2.2.2.1 i len st h = none) (h5 : jthr T K M i len pc st = some ci) (hd : 8 ≤ d) : jEv T K d M (pc, lv, st, h) (.inr h.length, h ++ [.inr (ci, [.null, .null, .null, .null, .null, .null])]) := by
  refine ⟨1, ?_⟩
  show jbody T K (jrun T K 0) d M (pc, lv, st, h) = _
  unfold jbody
  simp only [hf, h1, h2, h3, h5, if_neg (Nat.not_lt.mpr hd)]
end JE
end
section
/-! numbers -/
section JI
theorem ilt (a b : Int32) : a < b ↔ a.toInt < b.toInt := Int32.lt_iff_toInt_lt
theorem ile (a b : Int32) : a ≤ b ↔ a.toInt ≤ b.toInt := Int32.le_iff_toInt_le
theorem ieq (a b : Int32) : a = b ↔ a.toInt = b.toInt := Int32.toInt_inj.symm
theorem inat (x : Int32) : x.toNatClampNeg = x.toInt.toNat := rfl
theorem iof {n : Nat} (h : n < 2147483648) : (Int32.ofNat n).toInt = n := Int32.toInt_ofNat_of_lt (by simpa using h)
theorem i0 : (0 : Int32).toInt = 0 := rfl
theorem iofI {z : Int} (h1 : -2147483648 ≤ z) (h2 : z < 2147483648) : (Int32.ofInt z).toInt = z := Int32.toInt_ofInt_of_le (by simpa using h1) (by simpa using h2)
theorem iadd {a b : Int32} (h1 : -2147483648 ≤ a.toInt + b.toInt) (h2 : a.toInt + b.toInt < 2147483648) : (a + b).toInt = a.toInt + b.toInt := by
  rw [Int32.toInt_add]
  exact Int.bmod_eq_of_le (by omega) (by omega)
theorem isub {a b : Int32} (h1 : -2147483648 ≤ a.toInt - b.toInt) (h2 : a.toInt - b.toInt < 2147483648) : (a - b).toInt = a.toInt - b.toInt := by
  rw [Int32.toInt_sub]
  exact Int.bmod_eq_of_le (by omega) (by omega)
theorem imul {a b : Int32} (h1 : -2147483648 ≤ a.toInt * b.toInt) (h2 : a.toInt * b.toInt < 2147483648) : (a * b).toInt = a.toInt * b.toInt := by
  rw [Int32.toInt_mul]
  exact Int.bmod_eq_of_le (by omega) (by omega)
theorem irange (a : Int32) : -2147483648 ≤ a.toInt ∧ a.toInt < 2147483648 := ⟨Int32.le_toInt a, Int32.toInt_lt a⟩
theorem ige {len : Nat} {x : Int32} (hl : len < 2147483648) (hx : ¬ x < 0) : Int32.ofNat len ≤ x ↔ len ≤ x.toNatClampNeg := by
  rw [ile, iof hl, inat]
  rw [ilt, i0] at hx
  omega
end JI
section JTab
set_option maxRecDepth 20000 in
theorem jf17 : jT0.1.1 8 17 = some (6, 0, 10) := by decide +kernel
set_option maxRecDepth 20000 in
theorem jf21 : jT0.1.1 8 21 = some (6, 1, 1) := by decide +kernel
set_option maxRecDepth 20000 in
theorem jf25 : jT0.1.1 8 25 = some (6, 2, 0) := by decide +kernel
variable {h : jH} {t a len d : Nat} {w n row col : Int32} {f : Nat → Int32}
theorem tab_rows (ht : h[t]? = some (.inr (6, [.int w, .ref a, .int n]))) (hK : 24 ≤ t) : jEv jT0 24 d jm_8_rows_15 (0, lv_args 0 [.ref t], [], h) (.inl (some (.int n)), h) := by
  refine jEv.steps 1 (s' := (1, [(0, .ref t)], [.ref t], h)) rfl ?_
  refine jEv.hp (i := .getfield 25) (len := 3) rfl rfl rfl rfl (jhp_get jf25 ht hK rfl) ?_
  exact jEv.ret (s := (4, [(0, .ref t)], [.int n], h)) rfl
theorem tab_at (ht : h[t]? = some (.inr (6, [.int w, .ref a, .int n]))) (hK : 24 ≤ t) (ha : h[a]? = some (.inl (.int, len, .inl f))) (hl : len < 2147483648) :
    jEv jT0 24 d jm_8_at_18 (0, lv_args 0 [.ref t, .int row, .int col], [], h) (.inl (some (.int (if row * w + col < 0 then 0 else if (row * w + col).toNatClampNeg < len then f (row * w + col).toNatClampNeg else 0))), h) := by
  refine jEv.steps 2 (s' := (2, [(0, .ref t), (1, .int row), (2, .int col)], [.ref t, .int row], h)) rfl ?_
  refine jEv.hp (i := .getfield 17) (len := 3) rfl rfl rfl rfl (jhp_get jf17 ht hK rfl) ?_
  refine jEv.steps 6 (s' := (if row * w + col < 0 then 31 else 13, [(3, .int (row * w + col)), (0, .ref t), (1, .int row), (2, .int col)], [], h)) rfl ?_
  by_cases c1 : row * w + col < 0
  · rw [if_pos c1, if_pos c1]
    refine jEv.steps 1 (s' := (32, [(3, .int (row * w + col)), (0, .ref t), (1, .int row), (2, .int col)], [.int 0], h)) rfl ?_
    exact jEv.ret (s := (32, [(3, .int (row * w + col)), (0, .ref t), (1, .int row), (2, .int col)], [.int 0], h)) rfl
  · rw [if_neg c1, if_neg c1]
    refine jEv.steps 2 (s' := (15, [(3, .int (row * w + col)), (0, .ref t), (1, .int row), (2, .int col)], [.ref t, .int (row * w + col)], h)) rfl ?_
    refine jEv.hp (i := .getfield 21) (len := 3) rfl rfl rfl rfl (jhp_get jf21 ht hK rfl) ?_
    refine jEv.hp (i := .arraylength) (len := 1) rfl rfl rfl rfl (jhp_len (x := (len, .inl f)) ha rfl) ?_
    refine jEv.steps 1 (s' := (if Int32.ofNat len ≤ row * w + col then 31 else 22, [(3, .int (row * w + col)), (0, .ref t), (1, .int row), (2, .int col)], [], h)) rfl ?_
    by_cases c2 : Int32.ofNat len ≤ row * w + col
    · rw [if_pos c2, if_neg (Nat.not_lt.mpr ((ige hl c1).mp c2))]
      refine jEv.steps 1 (s' := (32, [(3, .int (row * w + col)), (0, .ref t), (1, .int row), (2, .int col)], [.int 0], h)) rfl ?_
      exact jEv.ret (s := (32, [(3, .int (row * w + col)), (0, .ref t), (1, .int row), (2, .int col)], [.int 0], h)) rfl
    · have c3 : (row * w + col).toNatClampNeg < len := by
        have := mt (ige hl c1).mpr c2
        omega
      rw [if_neg c2, if_pos c3]
      refine jEv.steps 1 (s' := (23, [(3, .int (row * w + col)), (0, .ref t), (1, .int row), (2, .int col)], [.ref t], h)) rfl ?_
      refine jEv.hp (i := .getfield 21) (len := 3) rfl rfl rfl rfl (jhp_get jf21 ht hK rfl) ?_
      refine jEv.steps 1 (s' := (27, [(3, .int (row * w + col)), (0, .ref t), (1, .int row), (2, .int col)], [.int (row * w + col), .ref a], h)) rfl ?_
      refine jEv.hp (i := .iaload) (len := 1) rfl rfl rfl rfl (jhp_iald ha (fun z => z.elim c1 (fun z => by omega))) ?_
      refine jEv.steps 1 (s' := (32, [(3, .int (row * w + col)), (0, .ref t), (1, .int row), (2, .int col)], [.int (f (row * w + col).toNatClampNeg)], h)) rfl ?_
      exact jEv.ret (s := (32, [(3, .int (row * w + col)), (0, .ref t), (1, .int row), (2, .int col)], [.int (f (row * w + col).toNatClampNeg)], h)) rfl
theorem tab_shr {g : Int32} (ht : h[t]? = some (.inr (6, [.int w, .ref a, .int n]))) (hK : 24 ≤ t) : jEv jT0 24 d jm_8_shrink_57 (0, lv_args 0 [.ref t, .int g], [], h) (.inl none, if g < 0 then h else if n ≤ g then h else h.set t (.inr (6, [.int w, .ref a, .int g]))) := by
  refine jEv.steps 2 (s' := (if g < 0 then 17 else 4, [(0, .ref t), (1, .int g)], [], h)) rfl ?_
  by_cases c1 : g < 0
  · rw [if_pos c1, if_pos c1]
    exact jEv.ret (s := (17, [(0, .ref t), (1, .int g)], [], h)) rfl
  · rw [if_neg c1, if_neg c1]
    refine jEv.steps 2 (s' := (6, [(0, .ref t), (1, .int g)], [.ref t, .int g], h)) rfl ?_
    refine jEv.hp (i := .getfield 25) (len := 3) rfl rfl rfl rfl (jhp_get jf25 ht hK rfl) ?_
    refine jEv.steps 1 (s' := (if n ≤ g then 17 else 12, [(0, .ref t), (1, .int g)], [], h)) rfl ?_
    by_cases c2 : n ≤ g
    · rw [if_pos c2, if_pos c2]
      exact jEv.ret (s := (17, [(0, .ref t), (1, .int g)], [], h)) rfl
    · rw [if_neg c2, if_neg c2]
      refine jEv.steps 2 (s' := (14, [(0, .ref t), (1, .int g)], [.int g, .ref t], h)) rfl ?_
      refine jEv.hp (i := .putfield 25) (len := 3) rfl rfl rfl rfl (jhp_put jf25 ht hK (Nat.le_of_ble_eq_true rfl) rfl (Or.inl (Nat.le_of_ble_eq_true rfl))) ?_
      exact jEv.ret (s := (17, [(0, .ref t), (1, .int g)], [], h.set t (.inr (6, [.int w, .ref a, .int g])))) rfl
theorem m_max {x y : Int32} : jEv jT0 24 d jm_14_max_181 (0, lv_args 0 [.int x, .int y], [], h) (.inl (some (.int (if x < y then y else x))), h) := by
  refine jEv.steps 3 (s' := (if x < y then 9 else 5, [(0, .int x), (1, .int y)], [], h)) rfl ?_
  by_cases c : x < y
  · rw [if_pos c, if_pos c]
    refine jEv.steps 1 (s' := (10, [(0, .int x), (1, .int y)], [.int y], h)) rfl ?_
    exact jEv.ret (s := (10, [(0, .int x), (1, .int y)], [.int y], h)) rfl
  · rw [if_neg c, if_neg c]
    refine jEv.steps 2 (s' := (10, [(0, .int x), (1, .int y)], [.int x], h)) rfl ?_
    exact jEv.ret (s := (10, [(0, .int x), (1, .int y)], [.int x], h)) rfl
theorem m_min {x y : Int32} : jEv jT0 24 d jm_14_min_182 (0, lv_args 0 [.int x, .int y], [], h) (.inl (some (.int (if y < x then y else x))), h) := by
  refine jEv.steps 3 (s' := (if y < x then 9 else 5, [(0, .int x), (1, .int y)], [], h)) rfl ?_
  by_cases c : y < x
  · rw [if_pos c, if_pos c]
    refine jEv.steps 1 (s' := (10, [(0, .int x), (1, .int y)], [.int y], h)) rfl ?_
    exact jEv.ret (s := (10, [(0, .int x), (1, .int y)], [.int y], h)) rfl
  · rw [if_neg c, if_neg c]
    refine jEv.steps 2 (s' := (10, [(0, .int x), (1, .int y)], [.int x], h)) rfl ?_
    exact jEv.ret (s := (10, [(0, .int x), (1, .int y)], [.int x], h)) rfl
end JTab
end
section
section JCopy
variable {h : jH} {t a len d : Nat} {w n row col m : Int32} {f : Nat → Int32}
set_option maxRecDepth 20000 in
theorem jz182 : jT0.2.2.1 182 = some jm_14_min_182 := by rfl
set_option maxRecDepth 20000 in
theorem jz181 : jT0.2.2.1 181 = some jm_14_max_181 := by rfl
set_option maxRecDepth 20000 in
theorem jz184 : jT0.2.2.1 184 = some jm_16_copyOf_184 := by rfl
set_option maxRecDepth 20000 in
theorem jl16_304 : jT0.2.1 16 304 = some (2, 182, 2, 0) := by decide +kernel
set_option maxRecDepth 20000 in
theorem jl16_150 : jT0.2.1 16 150 = some (5, 0, 5, 0) := by decide +kernel
set_option maxRecDepth 20000 in
theorem jl8_29 : jT0.2.1 8 29 = some (2, 184, 2, 0) := by decide +kernel
set_option maxRecDepth 20000 in
theorem jl8_11 : jT0.2.1 8 11 = some (2, 181, 2, 0) := by decide +kernel
theorem jcall_s {gM : jL} {cn idx z n0 q : Nat} {st : List Value} {h : jH} (hg : gM cn idx = some (2, z, n0, q)) (hn : n0 ≤ st.length) : jcall gM 24 cn (.invokestatic idx) 3 st h = some (2, z, (st.take n0).reverse, st.drop n0) := by
  unfold jcall
  simp only [hg]
  rw [if_pos ⟨trivial, hn⟩]
theorem jcall_c {gM : jL} {cn idx : Nat} {q : Nat × Nat × Nat} {st : List Value} {h : jH} (hg : gM cn idx = some (5, q)) (hn : 5 ≤ st.length) : jcall gM 24 cn (.invokestatic idx) 3 st h = some (5, 0, (st.take 5).reverse, st.drop 5) := by
  unfold jcall
  simp only [hg]
  rw [if_pos ⟨trivial, hn⟩]
theorem tab_copy (ha : h[a]? = some (.inl (.int, len, .inl f))) (hK : 24 ≤ a) (hl : len < 2147483648) (hm : (len : Int) < m.toInt) (hm2 : m.toInt ≤ 60000000) :
    jEv jT0 24 (d + 1) jm_16_copyOf_184 (0, lv_args 0 [.ref a, .int m], [], h) (.inl (some (.ref h.length)), h ++ [.inl (.int, m.toNatClampNeg, .inl (va_cpy f (fun _ => 0) 0 0 len))]) := by
  refine jEv.steps 2 (s' := (2, [(0, .ref a), (1, .int m)], [.ref a, .int m], h)) rfl ?_
  refine jEv.hp (i := .arraylength) (len := 1) rfl rfl rfl rfl (jhp_len (x := (len, .inl f)) ha rfl) ?_
  refine jEv.steps 1 (s' := (if ¬ m = Int32.ofNat len then 14 else 6, [(0, .ref a), (1, .int m)], [], h)) rfl ?_
  have c1 : ¬ m = Int32.ofNat len := by
    rw [ieq, iof hl]
    omega
  have c2 : ¬ m < 0 := by rw [ilt, i0]; omega
  have c3 : m.toNatClampNeg ≤ 60000000 := by rw [inat]; omega
  rw [if_pos c1]
  refine jEv.steps 1 (s' := (15, [(0, .ref a), (1, .int m)], [.int m], h)) rfl ?_
  refine jEv.hp (i := .newarray .int) (len := 2) (st' := [.ref h.length]) (h' := h ++ [.inl (.int, m.toNatClampNeg, .inl (fun _ => 0))]) rfl rfl rfl rfl ?_ ?_
  · unfold jhp
    dsimp only
    rw [if_neg (fun z => z.elim c2 (fun z => by omega))]
    rfl
  have ha2 : (h ++ [.inl (.int, m.toNatClampNeg, .inl (fun _ => 0))] : jH)[a]? = some (.inl (.int, len, .inl f)) := by
    rw [List.getElem?_append_left (List.getElem?_eq_some_iff.mp ha).1]
    exact ha
  have hn2 : (h ++ [.inl (.int, m.toNatClampNeg, .inl (fun _ => 0))] : jH)[h.length]? = some (.inl (.int, m.toNatClampNeg, .inl (fun _ => 0))) := by
    rw [List.getElem?_append_right (Nat.le_refl _), Nat.sub_self]
    rfl
  have hKn : 24 ≤ h.length := Nat.le_trans hK (Nat.le_of_lt (List.getElem?_eq_some_iff.mp ha).1)
  have hset : (h ++ [.inl (.int, m.toNatClampNeg, .inl (fun _ => 0))] : jH).set h.length (.inl (.int, m.toNatClampNeg, .inl (va_cpy f (fun _ => 0) 0 0 len))) = h ++ [.inl (.int, m.toNatClampNeg, .inl (va_cpy f (fun _ => 0) 0 0 len))] := by
    rw [List.set_append_right _ _ (Nat.le_refl _), Nat.sub_self]
    rfl
  generalize hH : (h ++ [.inl (.int, m.toNatClampNeg, .inl (fun _ => 0))] : jH) = h1 at *
  refine jEv.steps 6 (s' := (23, [(2, .ref h.length), (0, .ref a), (1, .int m)], [.ref a, .int 0, .ref h.length, .int 0, .ref a], h1)) rfl ?_
  refine jEv.hp (i := .arraylength) (len := 1) rfl rfl rfl rfl (jhp_len (x := (len, .inl f)) ha2 rfl) ?_
  refine jEv.steps 1 (s' := (25, [(2, .ref h.length), (0, .ref a), (1, .int m)], [.int m, .int (Int32.ofNat len), .int 0, .ref h.length, .int 0, .ref a], h1)) rfl ?_
  refine jEv.callJ (Z := jm_14_min_182) (i := .invokestatic 304) (len := 3) (kd := 2) (z := 182) (as := [.int (Int32.ofNat len), .int m]) (r0 := [.int 0, .ref h.length, .int 0, .ref a]) (h' := h1) rfl rfl rfl (jcall_s jl16_304 (Nat.le_of_ble_eq_true rfl)) (Nat.le_of_ble_eq_true rfl) (by decide) (by decide) jz182 (Nat.le_of_ble_eq_true rfl) m_min ?_
  have c4 : ¬ m < Int32.ofNat len := by rw [ilt, iof hl]; omega
  rw [if_neg c4]
  refine jEv.copy (i := .invokestatic 150) (len := 3) (z := 0) (as := [.ref a, .int 0, .ref h.length, .int 0, .int (Int32.ofNat len)]) (r0 := []) (h' := h ++ [.inl (.int, m.toNatClampNeg, .inl (va_cpy f (fun _ => 0) 0 0 len))]) rfl rfl rfl (jcall_c jl16_150 (Nat.le_of_ble_eq_true rfl)) (Nat.le_of_ble_eq_true rfl) ?_ ?_
  · unfold jcopy
    simp only [ha2, hn2]
    have e1 : (Int32.ofNat len).toNatClampNeg = len := by rw [inat, iof hl]; omega
    have e2 : (0 : Int32).toNatClampNeg = 0 := rfl
    rw [e1, e2, if_neg, hset]
    intro z
    rcases z with (z | z | z) | z | z | z
    · exact absurd z (by decide)
    · exact absurd z (by decide)
    · rw [ilt, iof hl, i0] at z; omega
    · rcases z with z | z
      · omega
      · rw [inat] at z; omega
    · exact absurd z (Nat.not_lt.mpr hK)
    · exact absurd z (Nat.not_lt.mpr hKn)
  refine jEv.steps 1 (s' := (32, [(2, .ref h.length), (0, .ref a), (1, .int m)], [.ref h.length], h ++ [.inl (.int, m.toNatClampNeg, .inl (va_cpy f (fun _ => 0) 0 0 len))])) rfl ?_
  refine jEv.ret (T := jT0) (K := 24) (M := jm_16_copyOf_184) (v := some (.ref h.length)) (s := (32, [(2, .ref h.length), (0, .ref a), (1, .int m)], [.ref h.length], h ++ [.inl (.int, m.toNatClampNeg, .inl (va_cpy f (fun _ => 0) 0 0 len))])) ?_
  rfl
end JCopy
end
section
section JTab2
variable {h : jH} {t a len d : Nat} {w n row col : Int32} {f : Nat → Int32}
/-- what a Table's word leaves: the table's object, its array (the old one, or a new one at the end), all else as it was -/
def tUp (h h' : jH) (t a len : Nat) (w n' : Int32) (a' len' : Nat) (f' : Nat → Int32) : Prop :=
  h'[t]? = some (.inr (6, [.int w, .ref a', .int n'])) ∧ h'[a']? = some (.inl (.int, len', .inl f')) ∧ (∀ x, x ≠ t → x ≠ a' → x < h.length → h'[x]? = h[x]?) ∧
  ((a' = a ∧ len' = len ∧ h'.length = h.length ∧ jtot h' = jtot h) ∨ (a' = h.length ∧ h'.length = h.length + 1 ∧ jtot h' = jtot h + len' ∧ 2 * len ≤ len' ∧ len' ≤ 262144))
theorem tUp.set {h h' : jH} {n' : Int32} {a' len' : Nat} {f' g' : Nat → Int32} (h0 : tUp h h' t a len w n' a' len' f') (hne : t ≠ a') : tUp h (h'.set a' (.inl (.int, len', .inl g'))) t a len w n' a' len' g' := by
  obtain ⟨h1, h2, h3, h4⟩ := h0
  have hl := (List.getElem?_eq_some_iff.mp h2).1
  refine ⟨by rw [List.getElem?_set_ne (fun z => hne z.symm)]; exact h1, by rw [List.getElem?_set_self hl], fun x hx1 hx2 hx3 => by rw [List.getElem?_set_ne (fun z => hx2 z.symm)]; exact h3 x hx1 hx2 hx3, ?_⟩
  rw [List.length_set, jtot_set (c' := .inl (.int, len', .inl g')) h2 rfl]
  exact h4
theorem tUp.rows {h h' : jH} {n' n2 : Int32} {a' len' : Nat} {f' : Nat → Int32} (h0 : tUp h h' t a len w n' a' len' f') (hne : t ≠ a') : tUp h (h'.set t (.inr (6, [.int w, .ref a', .int n2]))) t a len w n2 a' len' f' := by
  obtain ⟨h1, h2, h3, h4⟩ := h0
  have hl := (List.getElem?_eq_some_iff.mp h1).1
  refine ⟨by rw [List.getElem?_set_self hl], by rw [List.getElem?_set_ne hne]; exact h2, fun x hx1 hx2 hx3 => by rw [List.getElem?_set_ne (fun z => hx1 z.symm)]; exact h3 x hx1 hx2 hx3, ?_⟩
  rw [List.length_set, jtot_set (c' := .inr (6, [.int w, .ref a', .int n2])) h1 rfl]
  exact h4
theorem tUp.refl (ht : h[t]? = some (.inr (6, [.int w, .ref a, .int n]))) (ha : h[a]? = some (.inl (.int, len, .inl f))) : tUp h h t a len w n a len f :=
  ⟨ht, ha, fun _ _ _ _ => rfl, Or.inl ⟨rfl, rfl, rfl, rfl⟩⟩
theorem tUp.grow (ht : h[t]? = some (.inr (6, [.int w, .ref a, .int n]))) {m : Nat} {g : Nat → Int32} (h1 : 2 * len ≤ m) (h2 : m ≤ 262144) : tUp h ((h ++ [.inl (.int, m, .inl g)] : jH).set t (.inr (6, [.int w, .ref h.length, .int n]))) t a len w n h.length m g := by
  have hl := (List.getElem?_eq_some_iff.mp ht).1
  refine ⟨?_, ?_, fun x hx1 hx2 hx3 => ?_, Or.inr ⟨rfl, ?_, ?_, h1, h2⟩⟩
  · rw [List.getElem?_set_self (by rw [List.length_append]; exact Nat.lt_of_lt_of_le hl (Nat.le_add_right _ _))]
  · rw [List.getElem?_set_ne (by omega), List.getElem?_append_right (Nat.le_refl _), Nat.sub_self]
    rfl
  · rw [List.getElem?_set_ne (fun z => hx1 z.symm), List.getElem?_append_left hx3]
  · rw [List.length_set, List.length_append]
    rfl
  · have e := jtot_set (h := (h ++ [Sum.inl (FieldType.int, m, Sum.inl g)] : jH)) (a := t) (c := .inr (6, [.int w, .ref a, .int n])) (c' := .inr (6, [.int w, .ref h.length, .int n])) (by rw [List.getElem?_append_left hl]; exact ht) rfl
    rw [e, jtot_push]
    rfl
set_option maxRecDepth 20000 in
theorem jc8_28 : jT0.1.2.2.2 8 28 = some (.int 1048576) := by decide +kernel
theorem jhp_ldc {G : jG} {K cn : Nat} {ini : Bool} {idx : Nat} {x : Int32} {st : List Value} {h : jH} (hG : G.2.2.2 cn idx = some (.int x)) : jhp G K cn ini (.ldc idx) st h = some (.int x :: st, h, 2) := by
  unfold jhp
  simp only [hG]
/-- put, once the array is long enough -/
theorem tab_put2 {v : Int32} {n' : Int32} {h' : jH} {a' len' : Nat} {f' : Nat → Int32} (hu : tUp h h' t a len w n' a' len' f') (hK : 24 ≤ t) (hKa : 24 ≤ a') (hne : t ≠ a') (hx : ¬ row * w + col < 0) (hi : (row * w + col).toNatClampNeg < len') :
    ∃ h2, jEv jT0 24 (d + 3) jm_8_put_30 (58, [(4, .int (row * w + col)), (0, .ref t), (1, .int row), (2, .int col), (3, .int v)], [], h') (.inl none, h2) ∧ tUp h h2 t a len w n' a' len' (upd f' (row * w + col).toNatClampNeg v) := by
  refine ⟨_, ?_, hu.set hne⟩
  refine jEv.steps 1 (s' := (59, [(4, .int (row * w + col)), (0, .ref t), (1, .int row), (2, .int col), (3, .int v)], [.ref t], h')) rfl ?_
  refine jEv.hp (i := .getfield 21) (len := 3) rfl rfl rfl rfl (jhp_get jf21 hu.1 hK rfl) ?_
  refine jEv.steps 2 (s' := (65, [(4, .int (row * w + col)), (0, .ref t), (1, .int row), (2, .int col), (3, .int v)], [.int v, .int (row * w + col), .ref a'], h')) rfl ?_
  refine jEv.hp (i := .iastore) (len := 1) rfl rfl rfl rfl (jhp_iast hu.2.1 (fun z => z.elim hx (fun z => by omega)) hKa) ?_
  refine jEv.ret (T := jT0) (K := 24) (M := jm_8_put_30) (v := none) (s := (66, [(4, .int (row * w + col)), (0, .ref t), (1, .int row), (2, .int col), (3, .int v)], [], _)) ?_
  rfl
theorem tab_put {v : Int32} (ht : h[t]? = some (.inr (6, [.int w, .ref a, .int n]))) (hK : 24 ≤ t) (ha : h[a]? = some (.inl (.int, len, .inl f))) (hKa : 24 ≤ a) (hne : t ≠ a) (hl0 : 0 < len) (hl : len ≤ 262144) (hx : ¬ row * w + col < 0) (hx2 : (row * w + col).toNatClampNeg < 131072) :
    ∃ h' a' len' f', jEv jT0 24 (d + 3) jm_8_put_30 (0, lv_args 0 [.ref t, .int row, .int col, .int v], [], h) (.inl none, h') ∧ tUp h h' t a len w n a' len' f' ∧ (∀ i, (if i < len' then f' i else 0) = if i = (row * w + col).toNatClampNeg then v else if i < len then f i else 0) := by
  have hi1 : (row * w + col).toInt = ((row * w + col).toNatClampNeg : Int) := by
    rw [ilt, i0] at hx
    rw [inat]
    omega
  by_cases c3 : row * w + col < Int32.ofNat len
  · have hi : (row * w + col).toNatClampNeg < len := by
      rw [ilt, iof (by omega), hi1] at c3
      omega
    obtain ⟨h2, r1, r2⟩ := tab_put2 (d := d) (v := v) (tUp.refl ht ha) hK hKa hne hx hi
    refine ⟨h2, a, len, _, ?_, r2, fun i => ?_⟩
    · refine jEv.steps 2 (s' := (2, [(0, .ref t), (1, .int row), (2, .int col), (3, .int v)], [.ref t, .int row], h)) rfl ?_
      refine jEv.hp (i := .getfield 17) (len := 3) rfl rfl rfl rfl (jhp_get jf17 ht hK rfl) ?_
      refine jEv.steps 6 (s' := (if row * w + col < 0 then 22 else 15, [(4, .int (row * w + col)), (0, .ref t), (1, .int row), (2, .int col), (3, .int v)], [], h)) rfl ?_
      rw [if_neg hx]
      refine jEv.steps 1 (s' := (17, [(4, .int (row * w + col)), (0, .ref t), (1, .int row), (2, .int col), (3, .int v)], [.int (row * w + col)], h)) rfl ?_
      refine jEv.hp (i := .ldc 28) (len := 2) rfl rfl rfl rfl (jhp_ldc jc8_28) ?_
      refine jEv.steps 1 (s' := (if row * w + col < 1048576 then 23 else 22, [(4, .int (row * w + col)), (0, .ref t), (1, .int row), (2, .int col), (3, .int v)], [], h)) rfl ?_
      rw [if_pos (show row * w + col < 1048576 by rw [ilt, hi1]; show _ < (1048576 : Int); omega)]
      refine jEv.steps 2 (s' := (26, [(4, .int (row * w + col)), (0, .ref t), (1, .int row), (2, .int col), (3, .int v)], [.ref t, .int (row * w + col)], h)) rfl ?_
      refine jEv.hp (i := .getfield 21) (len := 3) rfl rfl rfl rfl (jhp_get jf21 ht hK rfl) ?_
      refine jEv.hp (i := .arraylength) (len := 1) rfl rfl rfl rfl (jhp_len (x := (len, .inl f)) ha rfl) ?_
      refine jEv.steps 1 (s' := (if row * w + col < Int32.ofNat len then 58 else 33, [(4, .int (row * w + col)), (0, .ref t), (1, .int row), (2, .int col), (3, .int v)], [], h)) rfl ?_
      rw [if_pos c3]
      exact r1
    · unfold upd
      by_cases e1 : i = (row * w + col).toNatClampNeg
      · subst e1
        simp [hi]
      · simp [e1]
  · have hi : len ≤ (row * w + col).toNatClampNeg := by
      rw [ilt, iof (by omega), hi1] at c3
      omega
    have e5 : (row * w + col + 1).toInt = (row * w + col).toInt + 1 := by
      rw [iadd] <;> rw [hi1] <;> (show _) <;> first | rfl | (have : (1 : Int32).toInt = 1 := rfl; rw [this]; omega)
    have e6 : (2 * Int32.ofNat len).toInt = 2 * (len : Int) := by
      have e7 : (2 : Int32).toInt = 2 := rfl
      rw [imul] <;> rw [iof (by omega), e7] <;> omega
    have hM : ∃ m : Int32, (if row * w + col + 1 < 2 * Int32.ofNat len then 2 * Int32.ofNat len else row * w + col + 1) = m ∧ 2 * (len : Int) ≤ m.toInt ∧ (row * w + col).toInt < m.toInt ∧ m.toInt ≤ 262144 := by
      by_cases c5 : row * w + col + 1 < 2 * Int32.ofNat len
      · refine ⟨_, if_pos c5, ?_, ?_, ?_⟩
        · rw [e6]; omega
        · rw [ilt, e5, e6] at c5; rw [e6]; omega
        · rw [ilt, e5, e6] at c5; rw [e6]; omega
      · refine ⟨_, if_neg c5, ?_, ?_, ?_⟩
        · rw [ilt, e5, e6] at c5; rw [e5]; omega
        · rw [e5]; omega
        · rw [e5, hi1]; omega
    obtain ⟨m, hm, hm1, hm2, hm3⟩ := hM
    have hmn : (m.toNatClampNeg : Int) = m.toInt := by rw [inat]; omega
    have hug := tUp.grow (a := a) (len := len) (m := m.toNatClampNeg) (g := va_cpy f (fun _ => 0) 0 0 len) ht (by omega) (by omega)
    have htl := (List.getElem?_eq_some_iff.mp ht).1
    obtain ⟨h2, r1, r2⟩ := tab_put2 (d := d) (v := v) (row := row) (col := col) hug hK (Nat.le_trans hK (Nat.le_of_lt htl)) (Nat.ne_of_lt htl) hx (by omega)
    refine ⟨h2, h.length, m.toNatClampNeg, _, ?_, r2, fun i => ?_⟩
    · refine jEv.steps 2 (s' := (2, [(0, .ref t), (1, .int row), (2, .int col), (3, .int v)], [.ref t, .int row], h)) rfl ?_
      refine jEv.hp (i := .getfield 17) (len := 3) rfl rfl rfl rfl (jhp_get jf17 ht hK rfl) ?_
      refine jEv.steps 6 (s' := (if row * w + col < 0 then 22 else 15, [(4, .int (row * w + col)), (0, .ref t), (1, .int row), (2, .int col), (3, .int v)], [], h)) rfl ?_
      rw [if_neg hx]
      refine jEv.steps 1 (s' := (17, [(4, .int (row * w + col)), (0, .ref t), (1, .int row), (2, .int col), (3, .int v)], [.int (row * w + col)], h)) rfl ?_
      refine jEv.hp (i := .ldc 28) (len := 2) rfl rfl rfl rfl (jhp_ldc jc8_28) ?_
      refine jEv.steps 1 (s' := (if row * w + col < 1048576 then 23 else 22, [(4, .int (row * w + col)), (0, .ref t), (1, .int row), (2, .int col), (3, .int v)], [], h)) rfl ?_
      rw [if_pos (show row * w + col < 1048576 by rw [ilt, hi1]; show _ < (1048576 : Int); omega)]
      refine jEv.steps 2 (s' := (26, [(4, .int (row * w + col)), (0, .ref t), (1, .int row), (2, .int col), (3, .int v)], [.ref t, .int (row * w + col)], h)) rfl ?_
      refine jEv.hp (i := .getfield 21) (len := 3) rfl rfl rfl rfl (jhp_get jf21 ht hK rfl) ?_
      refine jEv.hp (i := .arraylength) (len := 1) rfl rfl rfl rfl (jhp_len (x := (len, .inl f)) ha rfl) ?_
      refine jEv.steps 1 (s' := (if row * w + col < Int32.ofNat len then 58 else 33, [(4, .int (row * w + col)), (0, .ref t), (1, .int row), (2, .int col), (3, .int v)], [], h)) rfl ?_
      rw [if_neg c3]
      refine jEv.steps 2 (s' := (35, [(4, .int (row * w + col)), (0, .ref t), (1, .int row), (2, .int col), (3, .int v)], [.ref t, .ref t], h)) rfl ?_
      refine jEv.hp (i := .getfield 21) (len := 3) rfl rfl rfl rfl (jhp_get jf21 ht hK rfl) ?_
      refine jEv.steps 5 (s' := (44, [(4, .int (row * w + col)), (0, .ref t), (1, .int row), (2, .int col), (3, .int v)], [.ref t, .int 2, .int (row * w + col + 1), .ref a, .ref t], h)) rfl ?_
      refine jEv.hp (i := .getfield 21) (len := 3) rfl rfl rfl rfl (jhp_get jf21 ht hK rfl) ?_
      refine jEv.hp (i := .arraylength) (len := 1) rfl rfl rfl rfl (jhp_len (x := (len, .inl f)) ha rfl) ?_
      refine jEv.steps 1 (s' := (49, [(4, .int (row * w + col)), (0, .ref t), (1, .int row), (2, .int col), (3, .int v)], [.int (2 * Int32.ofNat len), .int (row * w + col + 1), .ref a, .ref t], h)) rfl ?_
      refine jEv.callJ (Z := jm_14_max_181) (i := .invokestatic 11) (len := 3) (kd := 2) (z := 181) (as := [.int (row * w + col + 1), .int (2 * Int32.ofNat len)]) (r0 := [.ref a, .ref t]) (h' := h) rfl rfl rfl (jcall_s jl8_11 (Nat.le_of_ble_eq_true rfl)) (Nat.le_of_ble_eq_true rfl) (by decide) (by decide) jz181 (Nat.le_of_ble_eq_true rfl) m_max ?_
      rw [hm]
      refine jEv.callJ (Z := jm_16_copyOf_184) (i := .invokestatic 29) (len := 3) (kd := 2) (z := 184) (as := [.ref a, .int m]) (r0 := [.ref t]) (h' := h ++ [.inl (.int, m.toNatClampNeg, .inl (va_cpy f (fun _ => 0) 0 0 len))]) rfl rfl rfl (jcall_s jl8_29 (Nat.le_of_ble_eq_true rfl)) (Nat.le_of_ble_eq_true rfl) (by decide) (by decide) jz184 (Nat.le_of_ble_eq_true rfl) (tab_copy ha hKa (by omega) (by omega) (by omega)) ?_
      refine jEv.hp (i := .putfield 21) (len := 3) rfl rfl rfl rfl (jhp_put jf21 (a := t) (fs := [.int w, .ref a, .int n]) (by rw [List.getElem?_append_left htl]; exact ht) hK (Nat.le_of_ble_eq_true rfl) rfl (Or.inl (Nat.le_of_ble_eq_true rfl))) ?_
      exact r1
    · unfold upd va_cpy
      by_cases e1 : i = (row * w + col).toNatClampNeg
      · subst e1
        rw [if_pos (by omega)]
        simp
      · simp only [e1, if_false]
        by_cases e2 : i < len
        · rw [if_pos (by omega), if_pos ⟨by omega, by omega⟩, if_pos e2]
          congr 1
          omega
        · rw [if_neg e2]
          split
          · rw [if_neg (fun z : 0 ≤ i ∧ i < 0 + len => e2 (by omega))]
          · rfl
end JTab2
end
section
section JTab3
variable {h : jH} {t a len d W : Nat} {w n x y u v : Int32} {f : Nat → Int32}
/-- append, once the array is long enough -/
theorem tab_app2 {h' : jH} {a' len' : Nat} {f' : Nat → Int32} (hu : tUp h h' t a len w n a' len' f') (hK : 24 ≤ t) (hKa : 24 ≤ a') (hne : t ≠ a') {r : Nat} (hr : (n * w).toInt = r) (hr2 : r < 131072) (hi : r + 4 ≤ len') :
    ∃ h2, jEv jT0 24 (d + 3) jm_8_append_61 (69, [(5, .int (n * w)), (0, .ref t), (1, .int x), (2, .int y), (3, .int u), (4, .int v)], [], h') (.inl (some (.int n)), h2) ∧ tUp h h2 t a len w (n + 1) a' len' (upd (upd (upd (upd f' r x) (r + 1) y) (r + 2) u) (r + 3) v) := by
  have e0 : (n * w).toNatClampNeg = r := by rw [inat, hr]; omega
  have k1 : (1 : Int32).toInt = 1 := rfl
  have k2 : (2 : Int32).toInt = 2 := rfl
  have k3 : (3 : Int32).toInt = 3 := rfl
  have q1 : (n * w + 1).toInt = r + 1 := by rw [iadd] <;> rw [hr, k1] <;> omega
  have q2 : (n * w + 2).toInt = r + 2 := by rw [iadd] <;> rw [hr, k2] <;> omega
  have q3 : (n * w + 3).toInt = r + 3 := by rw [iadd] <;> rw [hr, k3] <;> omega
  have e1 : (n * w + 1).toNatClampNeg = r + 1 := by rw [inat, q1]; omega
  have e2 : (n * w + 2).toNatClampNeg = r + 2 := by rw [inat, q2]; omega
  have e3 : (n * w + 3).toNatClampNeg = r + 3 := by rw [inat, q3]; omega
  have b0 : ¬ (n * w < 0 ∨ len' ≤ (n * w).toNatClampNeg) := by rw [ilt, i0, hr, e0]; omega
  have b1 : ¬ (n * w + 1 < 0 ∨ len' ≤ (n * w + 1).toNatClampNeg) := by rw [ilt, i0, q1, e1]; omega
  have b2 : ¬ (n * w + 2 < 0 ∨ len' ≤ (n * w + 2).toNatClampNeg) := by rw [ilt, i0, q2, e2]; omega
  have b3 : ¬ (n * w + 3 < 0 ∨ len' ≤ (n * w + 3).toNatClampNeg) := by rw [ilt, i0, q3, e3]; omega
  have u1 := hu.set (g' := upd f' r x) hne
  have u2 := u1.set (g' := upd (upd f' r x) (r + 1) y) hne
  have u3 := u2.set (g' := upd (upd (upd f' r x) (r + 1) y) (r + 2) u) hne
  have u4 := u3.set (g' := upd (upd (upd (upd f' r x) (r + 1) y) (r + 2) u) (r + 3) v) hne
  refine ⟨_, ?_, u4.rows (n2 := n + 1) hne⟩
  refine jEv.steps 1 (s' := (70, [(5, .int (n * w)), (0, .ref t), (1, .int x), (2, .int y), (3, .int u), (4, .int v)], [.ref t], h')) rfl ?_
  refine jEv.hp (i := .getfield 21) (len := 3) rfl rfl rfl rfl (jhp_get jf21 hu.1 hK rfl) ?_
  refine jEv.steps 2 (s' := (76, [(5, .int (n * w)), (0, .ref t), (1, .int x), (2, .int y), (3, .int u), (4, .int v)], [.int x, .int (n * w), .ref a'], h')) rfl ?_
  refine jEv.hp (i := .iastore) (len := 1) rfl rfl rfl rfl (jhp_iast hu.2.1 b0 hKa) ?_
  rw [e0]
  generalize hE1 : List.set h' a' (Sum.inl (FieldType.int, len', Sum.inl (upd f' r x))) = h1 at *
  refine jEv.steps 1 (s' := (78, [(5, .int (n * w)), (0, .ref t), (1, .int x), (2, .int y), (3, .int u), (4, .int v)], [.ref t], h1)) rfl ?_
  refine jEv.hp (i := .getfield 21) (len := 3) rfl rfl rfl rfl (jhp_get jf21 u1.1 hK rfl) ?_
  refine jEv.steps 4 (s' := (86, [(5, .int (n * w)), (0, .ref t), (1, .int x), (2, .int y), (3, .int u), (4, .int v)], [.int y, .int (n * w + 1), .ref a'], h1)) rfl ?_
  refine jEv.hp (i := .iastore) (len := 1) rfl rfl rfl rfl (jhp_iast u1.2.1 b1 hKa) ?_
  rw [e1]
  generalize hE2 : List.set h1 a' (Sum.inl (FieldType.int, len', Sum.inl (upd (upd f' r x) (r + 1) y))) = h2 at *
  refine jEv.steps 1 (s' := (88, [(5, .int (n * w)), (0, .ref t), (1, .int x), (2, .int y), (3, .int u), (4, .int v)], [.ref t], h2)) rfl ?_
  refine jEv.hp (i := .getfield 21) (len := 3) rfl rfl rfl rfl (jhp_get jf21 u2.1 hK rfl) ?_
  refine jEv.steps 4 (s' := (96, [(5, .int (n * w)), (0, .ref t), (1, .int x), (2, .int y), (3, .int u), (4, .int v)], [.int u, .int (n * w + 2), .ref a'], h2)) rfl ?_
  refine jEv.hp (i := .iastore) (len := 1) rfl rfl rfl rfl (jhp_iast u2.2.1 b2 hKa) ?_
  rw [e2]
  generalize hE3 : List.set h2 a' (Sum.inl (FieldType.int, len', Sum.inl (upd (upd (upd f' r x) (r + 1) y) (r + 2) u))) = h3 at *
  refine jEv.steps 1 (s' := (98, [(5, .int (n * w)), (0, .ref t), (1, .int x), (2, .int y), (3, .int u), (4, .int v)], [.ref t], h3)) rfl ?_
  refine jEv.hp (i := .getfield 21) (len := 3) rfl rfl rfl rfl (jhp_get jf21 u3.1 hK rfl) ?_
  refine jEv.steps 4 (s' := (107, [(5, .int (n * w)), (0, .ref t), (1, .int x), (2, .int y), (3, .int u), (4, .int v)], [.int v, .int (n * w + 3), .ref a'], h3)) rfl ?_
  refine jEv.hp (i := .iastore) (len := 1) rfl rfl rfl rfl (jhp_iast u3.2.1 b3 hKa) ?_
  rw [e3]
  generalize hE4 : List.set h3 a' (Sum.inl (FieldType.int, len', Sum.inl (upd (upd (upd (upd f' r x) (r + 1) y) (r + 2) u) (r + 3) v))) = h4 at *
  refine jEv.steps 2 (s' := (110, [(5, .int (n * w)), (0, .ref t), (1, .int x), (2, .int y), (3, .int u), (4, .int v)], [.ref t, .ref t], h4)) rfl ?_
  refine jEv.hp (i := .getfield 25) (len := 3) rfl rfl rfl rfl (jhp_get jf25 u4.1 hK rfl) ?_
  refine jEv.steps 2 (s' := (115, [(5, .int (n * w)), (0, .ref t), (1, .int x), (2, .int y), (3, .int u), (4, .int v)], [.int (n + 1), .ref t], h4)) rfl ?_
  refine jEv.hp (i := .putfield 25) (len := 3) rfl rfl rfl rfl (jhp_put jf25 u4.1 hK (Nat.le_of_ble_eq_true rfl) rfl (Or.inl (Nat.le_of_ble_eq_true rfl))) ?_
  have u5 := u4.rows (n2 := n + 1) hne
  refine jEv.steps 1 (s' := (119, [(5, .int (n * w)), (0, .ref t), (1, .int x), (2, .int y), (3, .int u), (4, .int v)], [.ref t], _)) rfl ?_
  refine jEv.hp (i := .getfield 25) (len := 3) rfl rfl rfl rfl (jhp_get jf25 u5.1 hK rfl) ?_
  refine jEv.steps 2 (s' := (124, [(5, .int (n * w)), (0, .ref t), (1, .int x), (2, .int y), (3, .int u), (4, .int v)], [.int (n + 1 - 1)], _)) rfl ?_
  have e9 : n + 1 - 1 = n := Int32.add_sub_cancel n 1
  rw [e9]
  refine jEv.ret (T := jT0) (K := 24) (M := jm_8_append_61) (v := some (.int n)) (s := (124, [(5, .int (n * w)), (0, .ref t), (1, .int x), (2, .int y), (3, .int u), (4, .int v)], [.int n], _)) ?_
  rfl
theorem tab_app (hw : w = Int32.ofNat W) (hW : 4 ≤ W ∧ W ≤ 9) (ht : h[t]? = some (.inr (6, [.int w, .ref a, .int n]))) (hK : 24 ≤ t) (ha : h[a]? = some (.inl (.int, len, .inl f))) (hKa : 24 ≤ a) (hne : t ≠ a) (hl0 : 0 < len) (hl : len ≤ 262144) (hx : ¬ n < 0) (hx2 : (n.toNatClampNeg + 1) * W ≤ 131072) :
    ∃ h' a' len' f', jEv jT0 24 (d + 3) jm_8_append_61 (0, lv_args 0 [.ref t, .int x, .int y, .int u, .int v], [], h) (.inl (some (.int n)), h') ∧ tUp h h' t a len w (n + 1) a' len' f' ∧
      (∀ i, (if i < len' then f' i else 0) = if i = n.toNatClampNeg * W + 3 then v else if i = n.toNatClampNeg * W + 2 then u else if i = n.toNatClampNeg * W + 1 then y else if i = n.toNatClampNeg * W then x else if i < len then f i else 0) := by
  have hn : n.toInt = (n.toNatClampNeg : Int) := by
    rw [ilt, i0] at hx
    rw [inat]
    omega
  generalize hN : n.toNatClampNeg = N at *
  have hwI : w.toInt = W := by rw [hw, iof (by omega)]
  have hmulb : N * W ≤ 131072 := by
    have := Nat.le_trans (Nat.mul_le_mul_right W (Nat.le_succ N)) hx2
    exact this
  have hNW : (N + 1) * W = N * W + W := by rw [Nat.add_mul, Nat.one_mul]
  have hr : (n * w).toInt = ((N * W : Nat) : Int) := by
    have e : n.toInt * w.toInt = ((N * W : Nat) : Int) := by rw [hn, hwI]; exact (Int.natCast_mul N W).symm
    rw [imul] <;> rw [e] <;> omega
  generalize hrr : N * W = r at *
  have e8 : (n * w + w).toInt = r + W := by rw [iadd] <;> rw [hr, hwI] <;> omega
  have s1 : ¬ n * w < 0 := by rw [ilt, i0, hr]; omega
  have s2 : n * w + w ≤ 1048576 := by rw [ile, e8]; show _ ≤ (1048576 : Int); omega
  have start : ∀ (pc : Nat) (r0 : jO), (n * w + w ≤ Int32.ofNat len → pc = 69) → (¬ n * w + w ≤ Int32.ofNat len → pc = 45) → jEv jT0 24 (d + 3) jm_8_append_61 (pc, [(5, .int (n * w)), (0, .ref t), (1, .int x), (2, .int y), (3, .int u), (4, .int v)], [], h) r0 → jEv jT0 24 (d + 3) jm_8_append_61 (0, lv_args 0 [.ref t, .int x, .int y, .int u, .int v], [], h) r0 := by
    intro pc r0 p1 p2 k
    refine jEv.steps 1 (s' := (1, [(0, .ref t), (1, .int x), (2, .int y), (3, .int u), (4, .int v)], [.ref t], h)) rfl ?_
    refine jEv.hp (i := .getfield 25) (len := 3) rfl rfl rfl rfl (jhp_get jf25 ht hK rfl) ?_
    refine jEv.steps 1 (s' := (5, [(0, .ref t), (1, .int x), (2, .int y), (3, .int u), (4, .int v)], [.ref t, .int n], h)) rfl ?_
    refine jEv.hp (i := .getfield 17) (len := 3) rfl rfl rfl rfl (jhp_get jf17 ht hK rfl) ?_
    refine jEv.steps 4 (s' := (if n * w < 0 then 28 else 16, [(5, .int (n * w)), (0, .ref t), (1, .int x), (2, .int y), (3, .int u), (4, .int v)], [], h)) rfl ?_
    rw [if_neg s1]
    refine jEv.steps 2 (s' := (19, [(5, .int (n * w)), (0, .ref t), (1, .int x), (2, .int y), (3, .int u), (4, .int v)], [.ref t, .int (n * w)], h)) rfl ?_
    refine jEv.hp (i := .getfield 17) (len := 3) rfl rfl rfl rfl (jhp_get jf17 ht hK rfl) ?_
    refine jEv.steps 1 (s' := (23, [(5, .int (n * w)), (0, .ref t), (1, .int x), (2, .int y), (3, .int u), (4, .int v)], [.int (n * w + w)], h)) rfl ?_
    refine jEv.hp (i := .ldc 28) (len := 2) rfl rfl rfl rfl (jhp_ldc jc8_28) ?_
    refine jEv.steps 1 (s' := (if n * w + w ≤ 1048576 then 30 else 28, [(5, .int (n * w)), (0, .ref t), (1, .int x), (2, .int y), (3, .int u), (4, .int v)], [], h)) rfl ?_
    rw [if_pos s2]
    refine jEv.steps 2 (s' := (33, [(5, .int (n * w)), (0, .ref t), (1, .int x), (2, .int y), (3, .int u), (4, .int v)], [.ref t, .int (n * w)], h)) rfl ?_
    refine jEv.hp (i := .getfield 17) (len := 3) rfl rfl rfl rfl (jhp_get jf17 ht hK rfl) ?_
    refine jEv.steps 2 (s' := (38, [(5, .int (n * w)), (0, .ref t), (1, .int x), (2, .int y), (3, .int u), (4, .int v)], [.ref t, .int (n * w + w)], h)) rfl ?_
    refine jEv.hp (i := .getfield 21) (len := 3) rfl rfl rfl rfl (jhp_get jf21 ht hK rfl) ?_
    refine jEv.hp (i := .arraylength) (len := 1) rfl rfl rfl rfl (jhp_len (x := (len, .inl f)) ha rfl) ?_
    refine jEv.steps 1 (s' := (if n * w + w ≤ Int32.ofNat len then 69 else 45, [(5, .int (n * w)), (0, .ref t), (1, .int x), (2, .int y), (3, .int u), (4, .int v)], [], h)) rfl ?_
    by_cases c : n * w + w ≤ Int32.ofNat len
    · rw [if_pos c]
      rw [p1 c] at k
      exact k
    · rw [if_neg c]
      rw [p2 c] at k
      exact k
  by_cases c3 : n * w + w ≤ Int32.ofNat len
  · have hi : r + W ≤ len := by
      rw [ile, iof (by omega), e8] at c3
      omega
    obtain ⟨h2, r1, r2⟩ := tab_app2 (d := d) (x := x) (y := y) (u := u) (v := v) (tUp.refl ht ha) hK hKa hne hr (by omega) (by omega)
    refine ⟨h2, a, len, _, start 69 _ (fun _ => rfl) (fun z => absurd c3 z) r1, r2, fun i => ?_⟩
    unfold upd
    by_cases c : i < len
    · rw [if_pos c, if_pos c]
    · rw [if_neg c, if_neg c, if_neg (by omega), if_neg (by omega), if_neg (by omega), if_neg (by omega)]
  · have hi : len < r + W := by
      rw [ile, iof (by omega), e8] at c3
      omega
    have e9 : (n * w + w + Int32.ofNat len).toInt = r + W + len := by rw [iadd] <;> rw [e8, iof (by omega)] <;> omega
    generalize hm : n * w + w + Int32.ofNat len = m at *
    have hmn : (m.toNatClampNeg : Int) = m.toInt := by rw [inat]; omega
    have hug := tUp.grow (a := a) (len := len) (m := m.toNatClampNeg) (g := va_cpy f (fun _ => 0) 0 0 len) ht (by omega) (by omega)
    have htl := (List.getElem?_eq_some_iff.mp ht).1
    obtain ⟨h2, r1, r2⟩ := tab_app2 (d := d) (x := x) (y := y) (u := u) (v := v) hug hK (Nat.le_trans hK (Nat.le_of_lt htl)) (Nat.ne_of_lt htl) hr (by omega) (by omega)
    refine ⟨h2, h.length, m.toNatClampNeg, _, start 45 _ (fun z => absurd z c3) (fun _ => rfl) ?_, r2, fun i => ?_⟩
    · refine jEv.steps 2 (s' := (47, [(5, .int (n * w)), (0, .ref t), (1, .int x), (2, .int y), (3, .int u), (4, .int v)], [.ref t, .ref t], h)) rfl ?_
      refine jEv.hp (i := .getfield 21) (len := 3) rfl rfl rfl rfl (jhp_get jf21 ht hK rfl) ?_
      refine jEv.steps 2 (s' := (53, [(5, .int (n * w)), (0, .ref t), (1, .int x), (2, .int y), (3, .int u), (4, .int v)], [.ref t, .int (n * w), .ref a, .ref t], h)) rfl ?_
      refine jEv.hp (i := .getfield 17) (len := 3) rfl rfl rfl rfl (jhp_get jf17 ht hK rfl) ?_
      refine jEv.steps 2 (s' := (58, [(5, .int (n * w)), (0, .ref t), (1, .int x), (2, .int y), (3, .int u), (4, .int v)], [.ref t, .int (n * w + w), .ref a, .ref t], h)) rfl ?_
      refine jEv.hp (i := .getfield 21) (len := 3) rfl rfl rfl rfl (jhp_get jf21 ht hK rfl) ?_
      refine jEv.hp (i := .arraylength) (len := 1) rfl rfl rfl rfl (jhp_len (x := (len, .inl f)) ha rfl) ?_
      refine jEv.steps 1 (s' := (63, [(5, .int (n * w)), (0, .ref t), (1, .int x), (2, .int y), (3, .int u), (4, .int v)], [.int (n * w + w + Int32.ofNat len), .ref a, .ref t], h)) rfl ?_
      rw [hm]
      refine jEv.callJ (Z := jm_16_copyOf_184) (i := .invokestatic 29) (len := 3) (kd := 2) (z := 184) (as := [.ref a, .int m]) (r0 := [.ref t]) (h' := h ++ [.inl (.int, m.toNatClampNeg, .inl (va_cpy f (fun _ => 0) 0 0 len))]) rfl rfl rfl (jcall_s jl8_29 (Nat.le_of_ble_eq_true rfl)) (Nat.le_of_ble_eq_true rfl) (by decide) (by decide) jz184 (Nat.le_of_ble_eq_true rfl) (tab_copy ha hKa (by omega) (by omega) (by omega)) ?_
      refine jEv.hp (i := .putfield 21) (len := 3) rfl rfl rfl rfl (jhp_put jf21 (a := t) (fs := [.int w, .ref a, .int n]) (by rw [List.getElem?_append_left htl]; exact ht) hK (Nat.le_of_ble_eq_true rfl) rfl (Or.inl (Nat.le_of_ble_eq_true rfl))) ?_
      exact r1
    · unfold upd va_cpy
      by_cases e1 : i < m.toNatClampNeg
      · rw [if_pos e1]
        by_cases e2 : i < len
        · rw [if_pos (show 0 ≤ i ∧ i < 0 + len by omega), if_pos e2, show 0 + (i - 0) = i by omega]
        · rw [if_neg (show ¬ (0 ≤ i ∧ i < 0 + len) by omega), if_neg e2]
      · rw [if_neg e1, if_neg (by omega), if_neg (by omega), if_neg (by omega), if_neg (by omega), if_neg (by omega)]
end JTab3
end
section
/-! the heap that the numbers stand for -/
def qtabs : List Nat := [28, 30, 36, 38, 40, 42, 45, 47, 52, 54, 60]
def hcell (S : Nat × (Nat → Int32)) (g : qG) (it : Nat → Nat) (a : Nat) (q : Nat × Nat × List Nat) : jC := match q.1 with
  | 0 => .inl (.int, S.1, .inl S.2)
  | 1 => .inr (98, [])
  | 2 => .inr (99, [])
  | 3 => .inr (q.2.1, q.2.2.mapIdx (fun k x => match x with
    | 0 => .int (qgs g a k)
    | x + 1 => .ref x))
  | 4 => .inl (.char, q.2.1, .inl (qga g a))
  | 5 => .inl (.int, q.2.1, .inl (qga g a))
  | _ => .inr (6, [.int (Int32.ofNat q.2.1), .ref (it a), .int (qgs g a 2)])
def qtb (g : qG) (h : jH) (it len cnt made : Nat → Nat) (t w : Nat) : Prop :=
  24 ≤ it t ∧ (∀ q, qd[it t]? = some q → q.1 = 7) ∧ (∃ f, h[it t]? = some (.inl (.int, len t, .inl f)) ∧ ∀ i, qga g t i = if i < len t then f i else 0) ∧ 32 ≤ len t ∧ len t ≤ 262144 ∧ 32 * cnt t ≤ len t ∧ made t ≤ 2 * len t
def Rel (S : Nat × (Nat → Int32)) (g : qG) (h : jH) : Prop := ∃ (it len cnt made : Nat → Nat),
  (∀ a q, qd[a]? = some q → q.1 < 7 → h[a]? = some (hcell S g it a q)) ∧ (∃ f, h[105]? = some (.inl (.long, 1, .inr (.inl f))) ∧ f 0 = g.2.2.1) ∧
  (∀ t w fl, qd[t]? = some (6, w, fl) → qtb g h it len cnt made t w) ∧ (∀ t t', t ∈ qtabs → t' ∈ qtabs → it t = it t' → t = t') ∧
  h.length = 106 + (qtabs.map cnt).sum + g.2.2.2 ∧ jtot h = S.1 + 259170 + (qtabs.map made).sum + 6 * g.2.2.2
/-- what the layout is, by program -/
def qchk (a : Nat) (q : Nat × Nat × List Nat) : Bool := match q.1 with
  | 0 => Nat.beq a 0
  | 1 => Nat.ble 1 a && Nat.blt a 11
  | 2 => Nat.ble 11 a && Nat.blt a 24
  | 3 => Nat.ble 24 a && Nat.blt q.2.2.length 100 && Nat.blt a 105
  | 4 => Nat.ble 24 a && Nat.blt a 105
  | 5 => Nat.ble 24 a && Nat.blt a 105
  | 6 => Nat.ble 24 a && Nat.blt a 64 && (Nat.beq q.2.1 4 || Nat.beq q.2.1 9) && qtabs.any (fun t => Nat.beq t a)
  | 7 => Nat.ble 24 a && Nat.blt a 105
  | 8 => Nat.beq a 105
  | _ => false
theorem qd_all : (qd.mapIdx (fun a q => qchk a q)).all (fun b => b) = true := by decide +kernel
theorem qd_tabs : qtabs.all (fun t => match qd[t]? with
  | some (6, _, _) => true
  | _ => false) = true := by decide +kernel
theorem qd_chk {a : Nat} {q : Nat × Nat × List Nat} (h : qd[a]? = some q) : qchk a q = true := by
  refine List.all_eq_true.mp qd_all _ ?_
  refine List.mem_of_getElem? (i := a) ?_
  rw [List.getElem?_mapIdx, h]
  rfl
theorem qd_obj {a ci : Nat} {fl : List Nat} (h : qd[a]? = some (3, ci, fl)) : 24 ≤ a ∧ fl.length < 100 ∧ a < 105 := by
  have := qd_chk h
  simp only [qchk, Bool.and_eq_true] at this
  exact ⟨Nat.le_of_ble_eq_true this.1.1, by simpa using this.1.2, by simpa using this.2⟩
theorem qd_ca {a n : Nat} {fl : List Nat} (h : qd[a]? = some (4, n, fl)) : 24 ≤ a ∧ a < 105 := by
  have := qd_chk h
  simp only [qchk, Bool.and_eq_true] at this
  exact ⟨Nat.le_of_ble_eq_true this.1, by simpa using this.2⟩
theorem qd_ia {a n : Nat} {fl : List Nat} (h : qd[a]? = some (5, n, fl)) : 24 ≤ a ∧ a < 105 := by
  have := qd_chk h
  simp only [qchk, Bool.and_eq_true] at this
  exact ⟨Nat.le_of_ble_eq_true this.1, by simpa using this.2⟩
theorem qd_tab {a w : Nat} {fl : List Nat} (h : qd[a]? = some (6, w, fl)) : 24 ≤ a ∧ a < 64 ∧ (w = 4 ∨ w = 9) ∧ a ∈ qtabs := by
  have := qd_chk h
  simp only [qchk, Bool.and_eq_true, Bool.or_eq_true] at this
  obtain ⟨⟨⟨h1, h2⟩, h3⟩, h4⟩ := this
  refine ⟨Nat.le_of_ble_eq_true h1, by simpa using h2, h3.imp (fun z => by simpa using z) (fun z => by simpa using z), ?_⟩
  obtain ⟨t, ht, he⟩ := List.any_eq_true.mp h4
  have : t = a := by simpa using he
  rw [← this]
  exact ht
theorem qd_out {a n : Nat} {fl : List Nat} (h : qd[a]? = some (8, n, fl)) : a = 105 := by
  have := qd_chk h
  simpa [qchk] using this
theorem qd_scr {a n : Nat} {fl : List Nat} (h : qd[a]? = some (0, n, fl)) : a = 0 := by
  have := qd_chk h
  simpa [qchk] using this
theorem qd_in {t : Nat} (h : t ∈ qtabs) : ∃ w fl, qd[t]? = some (6, w, fl) := by
  have h1 := List.all_eq_true.mp qd_tabs t h
  split at h1
  · rename_i w fl e
    exact ⟨w, fl, e⟩
  · cases h1
section QUp
variable {g : qG} {a k a' k' i : Nat} {v : Int32}
theorem blt_of (a : Nat) : (Nat.blt a 64 = true ∧ a < 64) ∨ (Nat.blt a 64 = false ∧ ¬ a < 64) := by
  by_cases h : a < 64
  · exact Or.inl ⟨by simpa using h, h⟩
  · exact Or.inr ⟨Bool.eq_false_iff.mpr (fun z => h (by simpa using z)), h⟩
theorem beq_ne {a b : Nat} (h : a ≠ b) : Nat.beq a b = false := by
  cases e : Nat.beq a b with
  | false => rfl
  | true => exact absurd (Nat.eq_of_beq_eq_true e) h
theorem qgs_qps (hk : k < 100) (hk' : k' < 100) : qgs (qps g a k v) a' k' = if a = a' ∧ k = k' then v else qgs g a' k' := by
  unfold qgs qps upS
  rcases blt_of a with ⟨b1, c1⟩ | ⟨b1, c1⟩ <;> rcases blt_of a' with ⟨b2, c2⟩ | ⟨b2, c2⟩ <;> simp only [b1, b2, cond_true, cond_false]
  · by_cases e : a = a' ∧ k = k'
    · obtain ⟨rfl, rfl⟩ := e
      simp
    · rw [if_neg e, beq_ne (by omega)]
      rfl
  · rw [if_neg (by omega)]
  · rw [if_neg (by omega)]
  · by_cases e : a = a' ∧ k = k'
    · obtain ⟨rfl, rfl⟩ := e
      simp
    · rw [if_neg e, beq_ne (by omega)]
      rfl
theorem qga_qps : qga (qps g a k v) a' = qga g a' := by
  unfold qga qps upS
  rcases blt_of a with ⟨b1, c1⟩ | ⟨b1, c1⟩ <;> simp only [b1, cond_true, cond_false]
theorem qgs_qpa : qgs (qpa g a i v) a' k' = qgs g a' k' := by
  unfold qgs qpa upA
  rcases blt_of a with ⟨b1, c1⟩ | ⟨b1, c1⟩ <;> simp only [b1, cond_true, cond_false]
theorem qga_qpa : qga (qpa g a i v) a' = if a = a' then upd (qga g a) i v else qga g a' := by
  unfold qga qpa upA
  rcases blt_of a with ⟨b1, c1⟩ | ⟨b1, c1⟩ <;> rcases blt_of a' with ⟨b2, c2⟩ | ⟨b2, c2⟩ <;> simp only [b1, b2, cond_true, cond_false]
  · by_cases e : a = a'
    · subst e
      simp
    · rw [if_neg e, beq_ne (fun z => e z.symm)]
      rfl
  · rw [if_neg (by omega)]
  · rw [if_neg (by omega)]
  · by_cases e : a = a'
    · subst e
      simp
    · rw [if_neg e, beq_ne (fun z => e z.symm)]
      rfl
theorem qps_rest : (qps g a k v).2.2 = g.2.2 := by
  unfold qps
  rcases blt_of a with ⟨b1, c1⟩ | ⟨b1, c1⟩ <;> simp only [b1, cond_true, cond_false]
theorem qpa_rest : (qpa g a i v).2.2 = g.2.2 := by
  unfold qpa
  rcases blt_of a with ⟨b1, c1⟩ | ⟨b1, c1⟩ <;> simp only [b1, cond_true, cond_false]
theorem qsum {l : List Nat} (hn : l.Nodup) {t : Nat} (ht : t ∈ l) (c : Nat → Nat) (e : Nat) : (l.map (fun x => if x = t then c x + e else c x)).sum = (l.map c).sum + e := by
  induction l with
  | nil => cases ht
  | cons y l ih =>
    rw [List.nodup_cons] at hn
    rw [List.map_cons, List.map_cons, List.sum_cons, List.sum_cons]
    by_cases hy : y = t
    · subst hy
      rw [if_pos rfl]
      have : l.map (fun x => if x = y then c x + e else c x) = l.map c := List.map_congr_left (fun x hx => by
        rw [if_neg (fun z : x = y => hn.1 (z ▸ hx))])
      rw [this]
      omega
    · rw [if_neg hy, ih hn.2 ((List.mem_cons.mp ht).resolve_left (fun z => hy z.symm))]
      omega
theorem qtabs_nodup : qtabs.Nodup := by decide
end QUp
section QRel
variable {S : Nat × (Nat → Int32)} {g g' : qG} {h : jH}
/-- cells other than the changed one -/
theorem hcell_same {it : Nat → Nat} {a : Nat} {q : Nat × Nat × List Nat} (hq : qd[a]? = some q) (h1 : ∀ k, k < 100 → qgs g' a k = qgs g a k) (h2 : qga g' a = qga g a) : hcell S g' it a q = hcell S g it a q := by
  have hc := qd_chk hq
  unfold hcell
  split
  · rfl
  · rfl
  · rfl
  · rename_i e
    congr 2
    have hl : q.2.2.length < 100 := by
      unfold qchk at hc
      rw [e] at hc
      simp only [Bool.and_eq_true] at hc
      simpa using hc.1.2
    apply List.ext_getElem?
    intro i
    rw [List.getElem?_mapIdx, List.getElem?_mapIdx]
    cases hx : q.2.2[i]? with
    | none => rfl
    | some x =>
      have hi : i < 100 := Nat.lt_trans (List.getElem?_eq_some_iff.mp hx).1 hl
      cases x with
      | zero => simp [h1 i hi]
      | succ x => rfl
  · rw [h2]
  · rw [h2]
  · rw [h1 2 (by decide)]
/-- a scalar is put -/
theorem Rel.scalar (hR : Rel S g h) {a ci k : Nat} {fl : List Nat} (hq : qd[a]? = some (3, ci, fl)) (hk : fl[k]? = some 0) (v : Int32) : ∃ fs, h[a]? = some (.inr (ci, fs)) ∧ k < fs.length ∧ Rel S (qps g a k v) (h.set a (.inr (ci, fs.set k (.int v)))) := by
  obtain ⟨it, len, cnt, made, r1, r2, r3, r4, r5, r6⟩ := hR
  obtain ⟨o1, o2, o3⟩ := qd_obj hq
  have hkl := (List.getElem?_eq_some_iff.mp hk).1
  have ha := r1 a _ hq (by decide : 3 < 7)
  have hal := (List.getElem?_eq_some_iff.mp ha).1
  refine ⟨_, ha, by rw [List.length_mapIdx]; exact hkl, it, len, cnt, made, fun b q hb h7 => ?_, ?_, fun t w fl' ht => ?_, r4, ?_, ?_⟩
  · by_cases e : b = a
    · subst e
      cases Option.some.inj (hb.symm.trans hq)
      rw [List.getElem?_set_self hal]
      unfold hcell
      congr 3
      apply List.ext_getElem?
      intro i
      rw [List.getElem?_set, List.length_mapIdx, List.getElem?_mapIdx, List.getElem?_mapIdx]
      by_cases ei : k = i
      · subst ei
        rw [if_pos rfl, if_pos hkl, hk]
        simp only [Option.map_some]
        rw [qgs_qps (by omega) (by omega), if_pos ⟨rfl, rfl⟩]
      · rw [if_neg ei]
        cases hx : fl[i]? with
        | none => rfl
        | some x =>
          have hi := (List.getElem?_eq_some_iff.mp hx).1
          cases x with
          | zero =>
            simp only [Option.map_some]
            rw [qgs_qps (by omega) (by omega), if_neg (fun z => ei z.2)]
          | succ x => rfl
    · rw [List.getElem?_set_ne (fun z => e z.symm), r1 b q hb h7]
      congr 1
      exact (hcell_same hb (fun k' hk' => by rw [qgs_qps (by omega) hk', if_neg (fun z => e z.1.symm)]) qga_qps).symm
  · obtain ⟨f, f1, f2⟩ := r2
    exact ⟨f, by rw [List.getElem?_set_ne (by omega)]; exact f1, by rw [qps_rest]; exact f2⟩
  · obtain ⟨b1, b2, ⟨f, f1, f2⟩, b3⟩ := r3 t w fl' ht
    refine ⟨b1, b2, ⟨f, ?_, fun i => by rw [qga_qps]; exact f2 i⟩, b3⟩
    rw [List.getElem?_set_ne (fun z => ?_)]
    · exact f1
    · rw [← z] at b2
      exact absurd (b2 _ hq) (show ¬ (3 : Nat) = 7 by decide)
  · rw [List.length_set, qps_rest]
    exact r5
  · rw [jtot_set ha (by simp [hcell, jsz]), qps_rest]
    exact r6
/-- an element is put -/
theorem Rel.elem (hR : Rel S g h) {a n kd : Nat} {fl : List Nat} (hq : qd[a]? = some (kd, n, fl)) (h45 : kd = 4 ∨ kd = 5) (i : Nat) (v : Int32) : h[a]? = some (.inl (if kd = 4 then FieldType.char else FieldType.int, n, .inl (qga g a))) ∧ 24 ≤ a ∧ Rel S (qpa g a i v) (h.set a (.inl (if kd = 4 then FieldType.char else FieldType.int, n, .inl (upd (qga g a) i v)))) := by
  obtain ⟨it, len, cnt, made, r1, r2, r3, r4, r5, r6⟩ := hR
  have o : 24 ≤ a ∧ a < 105 := by
    rcases h45 with rfl | rfl
    · exact qd_ca hq
    · exact qd_ia hq
  have ha : h[a]? = some (.inl (if kd = 4 then FieldType.char else FieldType.int, n, .inl (qga g a))) := by
    have := r1 a _ hq (show kd < 7 by omega)
    rcases h45 with rfl | rfl <;> exact this
  have hal := (List.getElem?_eq_some_iff.mp ha).1
  refine ⟨ha, o.1, it, len, cnt, made, fun b q hb h7 => ?_, ?_, fun t w fl' ht => ?_, r4, ?_, ?_⟩
  · by_cases e : b = a
    · subst e
      cases Option.some.inj (hb.symm.trans hq)
      rw [List.getElem?_set_self hal]
      have e9 : qga (qpa g b i v) b = upd (qga g b) i v := by rw [qga_qpa, if_pos rfl]
      rcases h45 with rfl | rfl
      · show _ = some (Sum.inl (FieldType.char, n, Sum.inl (qga (qpa g b i v) b)))
        rw [e9]
        rfl
      · show _ = some (Sum.inl (FieldType.int, n, Sum.inl (qga (qpa g b i v) b)))
        rw [e9]
        rfl
    · rw [List.getElem?_set_ne (fun z => e z.symm), r1 b q hb h7]
      congr 1
      exact (hcell_same hb (fun k' hk' => qgs_qpa) (by rw [qga_qpa, if_neg (fun z => e z.symm)])).symm
  · obtain ⟨f, f1, f2⟩ := r2
    exact ⟨f, by rw [List.getElem?_set_ne (by omega)]; exact f1, by rw [qpa_rest]; exact f2⟩
  · obtain ⟨b1, b2, ⟨f, f1, f2⟩, b3⟩ := r3 t w fl' ht
    have hta : a ≠ t := fun z => by
      subst z
      cases Option.some.inj (ht.symm.trans hq)
      rcases h45 with z | z <;> exact absurd z (by decide)
    refine ⟨b1, b2, ⟨f, ?_, fun j => by rw [qga_qpa, if_neg hta]; exact f2 j⟩, b3⟩
    rw [List.getElem?_set_ne (fun z => ?_)]
    · exact f1
    · rw [← z] at b2
      have e9 : kd = 7 := b2 _ hq
      omega
  · rw [List.length_set, qpa_rest]
    exact r5
  · rw [jtot_set ha (by simp [jsz]), qpa_rest]
    exact r6
/-- the law's out is put -/
theorem Rel.out (hR : Rel S g h) : ∃ f, h[105]? = some (.inl (.long, 1, .inr (.inl f))) ∧ f 0 = g.2.2.1 ∧ ∀ x, Rel S (g.1, g.2.1, x, g.2.2.2) (h.set 105 (.inl (.long, 1, .inr (.inl (vp_updL f 0 x))))) := by
  obtain ⟨it, len, cnt, made, r1, ⟨f, f1, f2⟩, r3, r4, r5, r6⟩ := hR
  have hal := (List.getElem?_eq_some_iff.mp f1).1
  refine ⟨f, f1, f2, fun x => ⟨it, len, cnt, made, fun b q hb h7 => ?_, ?_, fun t w fl' ht => ?_, r4, ?_, ?_⟩⟩
  · rw [List.getElem?_set_ne (fun z => ?_), r1 b q hb h7]
    · rfl
    · subst z
      have hc := qd_chk hb
      have hq : qd[105]? = some (8, 0, []) := by decide +kernel
      cases Option.some.inj (hb.symm.trans hq)
      exact absurd h7 (by decide)
  · exact ⟨_, List.getElem?_set_self hal, by simp [vp_updL]⟩
  · obtain ⟨b1, b2, ⟨f', f1', f2'⟩, b3⟩ := r3 t w fl' ht
    refine ⟨b1, b2, ⟨f', ?_, f2'⟩, b3⟩
    rw [List.getElem?_set_ne (fun z => ?_)]
    · exact f1'
    · rw [← z] at f1'
      rw [f1] at f1'
      cases f1'
  · rw [List.length_set]
    exact r5
  · rw [jtot_set f1 (by simp [jsz])]
    exact r6
/-- something is thrown -/
theorem Rel.thrown (hR : Rel S g h) (ci : Nat) : Rel S (g.1, g.2.1, g.2.2.1, g.2.2.2 + 1) (h ++ [.inr (ci, [.null, .null, .null, .null, .null, .null])]) := by
  obtain ⟨it, len, cnt, made, r1, ⟨f, f1, f2⟩, r3, r4, r5, r6⟩ := hR
  refine ⟨it, len, cnt, made, fun b q hb h7 => ?_, ⟨f, ?_, f2⟩, fun t w fl' ht => ?_, r4, ?_, ?_⟩
  · have := r1 b q hb h7
    rw [List.getElem?_append_left (List.getElem?_eq_some_iff.mp this).1, this]
    rfl
  · rw [List.getElem?_append_left (List.getElem?_eq_some_iff.mp f1).1]
    exact f1
  · obtain ⟨b1, b2, ⟨f', f1', f2'⟩, b3⟩ := r3 t w fl' ht
    exact ⟨b1, b2, ⟨f', by rw [List.getElem?_append_left (List.getElem?_eq_some_iff.mp f1').1]; exact f1', f2'⟩, b3⟩
  · rw [List.length_append, r5]
    show _ = 106 + _ + (g.2.2.2 + 1)
    simp
    omega
  · rw [jtot_push, r6]
    show _ = S.1 + 259170 + _ + 6 * (g.2.2.2 + 1)
    simp [jsz]
    omega
/-- a Table's word -/
theorem Rel.table (hR : Rel S g h) {t w : Nat} {fl : List Nat} (hq : qd[t]? = some (6, w, fl)) : ∃ a len f, h[t]? = some (.inr (6, [.int (Int32.ofNat w), .ref a, .int (qgs g t 2)])) ∧ h[a]? = some (.inl (.int, len, .inl f)) ∧ 24 ≤ a ∧ t ≠ a ∧ 32 ≤ len ∧ len ≤ 262144 ∧ (∀ i, qga g t i = if i < len then f i else 0) ∧
    ∀ (h' : jH) (g' : qG) (a' len' : Nat) (f' : Nat → Int32), tUp h h' t a len (Int32.ofNat w) (qgs g' t 2) a' len' f' → (∀ i, qga g' t i = if i < len' then f' i else 0) → (∀ b k, k < 100 → b ≠ t → qgs g' b k = qgs g b k) → (∀ b, b ≠ t → qga g' b = qga g b) → g'.2.2 = g.2.2 → Rel S g' h' := by
  obtain ⟨it, len, cnt, made, r1, ⟨f0, f01, f02⟩, r3, r4, r5, r6⟩ := hR
  obtain ⟨t1, t2, t3, t4⟩ := qd_tab hq
  obtain ⟨b1, b2, ⟨f, f1, f2⟩, b3, b4, b5, b6⟩ := r3 t w fl hq
  have ht := r1 t _ hq (by decide : 6 < 7)
  have htn : t ≠ it t := fun z => by
    have := b2 _ (z ▸ hq)
    exact absurd this (show ¬ (6 : Nat) = 7 by decide)
  refine ⟨it t, len t, f, ht, f1, b1, htn, b3, b4, f2, fun h' g' a' len' f' hu hc hs ha hr => ?_⟩
  obtain ⟨u1, u2, u3, u4⟩ := hu
  have h105 : 105 < h.length := (List.getElem?_eq_some_iff.mp f01).1
  have ha'x : ∀ b q, qd[b]? = some q → q.1 ≠ 7 → b ≠ a' := fun b q hb h7 z => by
    rcases u4 with ⟨e, -⟩ | ⟨e, -⟩
    · rw [z, e] at hb
      exact h7 (b2 _ hb)
    · have : b < 106 := by
        have := (List.getElem?_eq_some_iff.mp hb).1
        have e2 : qd.length = 106 := by decide +kernel
        omega
      omega
  refine ⟨fun x => if x = t then a' else it x, fun x => if x = t then len' else len x, fun x => if x = t then cnt x + (if a' = it t then 0 else 1) else cnt x, fun x => if x = t then made x + (if a' = it t then 0 else len') else made x, fun b q hb h7 => ?_, ?_, fun t' w' fl' ht' => ?_, fun x y hx hy hxy => ?_, ?_, ?_⟩
  · have hbl : b < h.length := (List.getElem?_eq_some_iff.mp (r1 b q hb h7)).1
    by_cases e : b = t
    · subst e
      cases Option.some.inj (hb.symm.trans hq)
      rw [u1]
      unfold hcell
      simp
    · rw [u3 b e (ha'x b q hb (by omega)) hbl, r1 b q hb h7]
      congr 1
      have e1 := hcell_same (S := S) (it := it) hb (fun k hk => hs b k hk e) (ha b e)
      rw [← e1]
      unfold hcell
      simp [e]
  · have hq8 : qd[105]? = some (8, 0, []) := by decide +kernel
    refine ⟨f0, ?_, by rw [hr]; exact f02⟩
    rw [u3 105 (by omega) (ha'x 105 _ hq8 (by decide)) h105]
    exact f01
  · obtain ⟨s1, s2, s3, s4⟩ := qd_tab ht'
    by_cases e : t' = t
    · subst e
      cases Option.some.inj (ht'.symm.trans hq)
      unfold qtb
      simp only [if_true]
      rcases u4 with ⟨rfl, rfl, -, -⟩ | ⟨rfl, hl', -, q1, q2⟩
      · simp only [if_true]
        exact ⟨b1, b2, ⟨f', u2, hc⟩, b3, b4, by omega, by omega⟩
      · have hne : ¬ h.length = it t' := by
          have := (List.getElem?_eq_some_iff.mp f1).1
          omega
        simp only [hne, if_false]
        refine ⟨by omega, fun q hq9 => ?_, ⟨f', u2, hc⟩, by omega, by omega, by omega, by omega⟩
        have := (List.getElem?_eq_some_iff.mp hq9).1
        have e2 : qd.length = 106 := by decide +kernel
        omega
    · obtain ⟨c1, c2, ⟨f3, f31, f32⟩, c3, c4, c5, c6⟩ := r3 t' w' fl' ht'
      unfold qtb
      simp only [e, if_false]
      refine ⟨c1, c2, ⟨f3, ?_, fun i => by rw [ha t' e]; exact f32 i⟩, c3, c4, c5, c6⟩
      rw [u3 (it t') (fun z => ?_) (fun z => ?_) (List.getElem?_eq_some_iff.mp f31).1]
      · exact f31
      · have := c2 _ (z ▸ hq)
        exact absurd this (show ¬ (6 : Nat) = 7 by decide)
      · rcases u4 with ⟨e9, -⟩ | ⟨e9, -⟩
        · exact e (r4 t' t s4 t4 (z.trans e9))
        · have := (List.getElem?_eq_some_iff.mp f31).1
          omega
  · have key : ∀ y, y ∈ qtabs → y ≠ t → it y ≠ a' := fun y hy hyt z => by
      obtain ⟨w9, fl9, hq9⟩ := qd_in hy
      obtain ⟨c1, c2, ⟨f3, f31, f32⟩, -⟩ := r3 y w9 fl9 hq9
      rcases u4 with ⟨e9, -⟩ | ⟨e9, -⟩
      · exact hyt (r4 y t hy t4 (z.trans e9))
      · have := (List.getElem?_eq_some_iff.mp f31).1
        omega
    simp only at hxy
    by_cases e1 : x = t
    · by_cases e2 : y = t
      · rw [e1, e2]
      · rw [if_pos e1, if_neg e2] at hxy
        exact absurd hxy.symm (key y hy e2)
    · by_cases e2 : y = t
      · rw [if_neg e1, if_pos e2] at hxy
        exact absurd hxy (key x hx e1)
      · rw [if_neg e1, if_neg e2] at hxy
        exact r4 x y hx hy hxy
  · rw [qsum qtabs_nodup t4, hr]
    rcases u4 with ⟨e9, -, e10, -⟩ | ⟨e9, e10, -⟩
    · rw [if_pos e9, e10, r5]
      omega
    · have := (List.getElem?_eq_some_iff.mp f1).1
      rw [if_neg (by omega), e10, r5]
      omega
  · rw [qsum qtabs_nodup t4, hr]
    rcases u4 with ⟨e9, -, -, e10⟩ | ⟨e9, -, e10, -⟩
    · rw [if_pos e9, e10, r6]
      omega
    · have := (List.getElem?_eq_some_iff.mp f1).1
      rw [if_neg (by omega), e10, r6]
      omega
end QRel
end
section
/-! what the second machine does, the first does -/
section QOk
variable {S : Nat × (Nat → Int32)} {g g' : qG} {h : jH}
theorem Rel.get (hR : Rel S g h) {a : Nat} {q : Nat × Nat × List Nat} (hq : qd[a]? = some q) (h7 : q.1 < 7) : ∃ it, h[a]? = some (hcell S g it a q) := by
  obtain ⟨it, len, cnt, made, r1, -⟩ := hR
  exact ⟨it, r1 a q hq h7⟩
theorem qob_no {n : Nat} {j : Int32} (h : ¬ qob n j = true) : ¬ (j < 0 ∨ n ≤ j.toNatClampNeg) := by
  intro z
  apply h
  unfold qob
  rw [Bool.or_eq_true]
  rcases z with z | z
  · exact Or.inl (decide_eq_true z)
  · exact Or.inr (by simpa using z)
theorem jat_int : jatok FieldType.int = true := rfl
theorem jat_char : jatok FieldType.char = true := rfl
set_option maxHeartbeats 2000000 in
theorem qhp_ok {cn : Nat} {ini : Bool} {i : Instr} {st st' : List Value} {k : Nat} (hq : qhp jT0.1 S cn i st g = some (st', g', k)) (hR : Rel S g h) : ∃ h', Rel S g' h' ∧ jhp jT0.1 24 cn ini i st h = some (st', h', k) := by
  unfold qhp at hq
  split at hq
  · split at hq
    · rename_i a r
      split at hq
      · rename_i ci k0 kd hG
        split at hq
        · rename_i cj fl hd
          cases hb : Nat.beq cj ci with
          | false => rw [hb] at hq; cases hq
          | true =>
            rw [hb] at hq
            have e := Nat.eq_of_beq_eq_true hb
            subst e
            obtain ⟨it, ha⟩ := hR.get hd (Nat.le_of_ble_eq_true rfl)
            simp only [cond_true] at hq
            split at hq
            · rename_i hk
              cases hq
              exact ⟨h, hR, jhp_get hG ha (qd_obj hd).1 (by rw [List.getElem?_mapIdx, hk]; rfl)⟩
            · rename_i x hk
              cases hq
              exact ⟨h, hR, jhp_get hG ha (qd_obj hd).1 (by rw [List.getElem?_mapIdx, hk]; rfl)⟩
            · cases hq
        · cases hq
      · cases hq
    · cases hq
  · split at hq
    · rename_i v a r
      split at hq
      · rename_i ci k0 kd hG
        split at hq
        · rename_i cj fl hd
          cases hb : Nat.beq cj ci && Nat.blt kd 10 with
          | false => rw [hb] at hq; cases hq
          | true =>
            rw [hb] at hq
            rw [Bool.and_eq_true] at hb
            have e := Nat.eq_of_beq_eq_true hb.1
            subst e
            have hkd : kd < 10 := by simpa using hb.2
            simp only [cond_true] at hq
            split at hq
            · rename_i hk
              split at hq
              · cases hq
              · rename_i hf
                cases hq
                obtain ⟨fs, f1, f2, f3⟩ := hR.scalar hd hk v
                exact ⟨_, f3, jhp_put hG f1 (qd_obj hd).1 f2 (by simpa using hf) (Or.inl hkd)⟩
            · cases hq
        · cases hq
      · cases hq
    · cases hq
  · split at hq
    · rename_i v hG
      cases hq
      refine ⟨h, hR, ?_⟩
      unfold jhp
      simp only [hG]
    · cases hq
  · split at hq
    · rename_i x hG
      cases hq
      refine ⟨h, hR, ?_⟩
      unfold jhp
      simp only [hG]
    · rename_i x hG
      cases hq
      refine ⟨h, hR, ?_⟩
      unfold jhp
      simp only [hG]
    · cases hq
  · split at hq
    · rename_i x hG
      cases hq
      refine ⟨h, hR, ?_⟩
      unfold jhp
      simp only [hG]
    · cases hq
  · split at hq
    · rename_i x hG
      cases hq
      refine ⟨h, hR, ?_⟩
      unfold jhp
      simp only [hG]
    · cases hq
  · split at hq
    · rename_i a r
      split at hq
      · rename_i n fl hd
        cases hq
        obtain ⟨it, ha⟩ := hR.get hd (Nat.le_of_ble_eq_true rfl)
        exact ⟨h, hR, jhp_len (x := (n, .inl (qga g a))) ha jat_char⟩
      · rename_i n fl hd
        cases hq
        obtain ⟨it, ha⟩ := hR.get hd (Nat.le_of_ble_eq_true rfl)
        exact ⟨h, hR, jhp_len (x := (n, .inl (qga g a))) ha jat_int⟩
      · rename_i n fl hd
        cases hq
        obtain ⟨it, ha⟩ := hR.get hd (Nat.le_of_ble_eq_true rfl)
        exact ⟨h, hR, jhp_len (x := (S.1, .inl S.2)) ha jat_int⟩
      · cases hq
    · cases hq
  · split at hq
    · rename_i j a r
      split at hq
      · rename_i n fl hd
        split at hq
        · cases hq
        · rename_i hj
          cases hq
          obtain ⟨it, ha⟩ := hR.get hd (Nat.le_of_ble_eq_true rfl)
          exact ⟨h, hR, jhp_iald (f := qga g a) ha (qob_no hj)⟩
      · rename_i n fl hd
        split at hq
        · cases hq
        · rename_i hj
          cases hq
          obtain ⟨it, ha⟩ := hR.get hd (Nat.le_of_ble_eq_true rfl)
          exact ⟨h, hR, jhp_iald (f := S.2) ha (qob_no hj)⟩
      · cases hq
    · cases hq
  · split at hq
    · rename_i j a r
      split at hq
      · rename_i n fl hd
        split at hq
        · cases hq
        · rename_i hj
          cases hq
          obtain ⟨it, ha⟩ := hR.get hd (Nat.le_of_ble_eq_true rfl)
          exact ⟨h, hR, jhp_cald (f := qga g a) ha (qob_no hj)⟩
      · cases hq
    · cases hq
  · split at hq
    · rename_i j a r
      split at hq
      · rename_i n fl hd
        split at hq
        · cases hq
        · rename_i hj
          cases hq
          have e := qd_out hd
          subst e
          obtain ⟨f, f1, f2, -⟩ := hR.out
          have hj0 := qob_no hj
          have e0 : j.toNatClampNeg = 0 := by
            have := fun z => hj0 (Or.inr z)
            omega
          refine ⟨h, hR, ?_⟩
          rw [← f2, ← e0]
          exact jhp_lald f1 hj0
      · cases hq
    · cases hq
  · split at hq
    · rename_i x j a r
      split at hq
      · rename_i n fl hd
        split at hq
        · cases hq
        · rename_i hj
          cases hq
          obtain ⟨e1, e2, e3⟩ := hR.elem hd (Or.inr rfl) j.toNatClampNeg x
          exact ⟨_, e3, jhp_iast e1 (qob_no hj) e2⟩
      · cases hq
    · cases hq
  · split at hq
    · rename_i x j a r
      split at hq
      · rename_i n fl hd
        split at hq
        · cases hq
        · rename_i hj
          cases hq
          obtain ⟨e1, e2, e3⟩ := hR.elem hd (Or.inl rfl) j.toNatClampNeg (vp_nar .char x)
          exact ⟨_, e3, jhp_cast e1 (qob_no hj) e2⟩
      · cases hq
    · cases hq
  · split at hq
    · rename_i x j a r
      split at hq
      · rename_i n fl hd
        split at hq
        · cases hq
        · rename_i hj
          cases hq
          have e := qd_out hd
          subst e
          obtain ⟨f, f1, f2, f3⟩ := hR.out
          have hj0 := qob_no hj
          have e0 : j.toNatClampNeg = 0 := by
            have := fun z => hj0 (Or.inr z)
            omega
          refine ⟨_, f3 x, ?_⟩
          rw [← e0]
          exact jhp_last f1 hj0 (Nat.le_of_ble_eq_true rfl)
      · cases hq
    · cases hq
  · cases hq
set_option maxRecDepth 20000 in
theorem jz15 : jT0.2.2.1 15 = some jm_8_rows_15 := by rfl
set_option maxRecDepth 20000 in
theorem jz18 : jT0.2.2.1 18 = some jm_8_at_18 := by rfl
set_option maxRecDepth 20000 in
theorem jz30 : jT0.2.2.1 30 = some jm_8_put_30 := by rfl
set_option maxRecDepth 20000 in
theorem jz57 : jT0.2.2.1 57 = some jm_8_shrink_57 := by rfl
set_option maxRecDepth 20000 in
theorem jz61 : jT0.2.2.1 61 = some jm_8_append_61 := by rfl
theorem qgs_lo {t k : Nat} (ht : t < 64) : qgs g t k = g.1.1 (100 * t + k) := by
  unfold qgs
  rw [show Nat.blt t 64 = true by simpa using ht]
  rfl
theorem qga_lo {t : Nat} (ht : t < 64) : qga g t = g.1.2 t := by
  unfold qga
  rw [show Nat.blt t 64 = true by simpa using ht]
  rfl
theorem qpa_lo {t i : Nat} {v : Int32} (ht : t < 64) : qpa g t i v = (upA g.1 t i v, g.2) := by
  unfold qpa
  rw [show Nat.blt t 64 = true by simpa using ht]
  rfl
theorem qps_lo {t k : Nat} {v : Int32} (ht : t < 64) : qps g t k v = (upS g.1 (100 * t + k) v, g.2) := by
  unfold qps
  rw [show Nat.blt t 64 = true by simpa using ht]
  rfl
set_option maxHeartbeats 2000000 in
theorem qtab_ok {z d : Nat} {as : List Value} {v : Option Value} (hq : qtab z as g = some (v, g')) (hR : Rel S g h) : ∃ Z h', jT0.2.2.1 z = some Z ∧ (lg_sl as).length ≤ Z.2.2.1 ∧ Rel S g' h' ∧ jEv jT0 24 (d + 3) Z (0, lv_args 0 as, [], h) (.inl v, h') := by
  unfold qtab at hq
  split at hq
  · rename_i t bs
    split at hq
    · rename_i w fl hd
      obtain ⟨t1, t2, t3, t4⟩ := qd_tab hd
      obtain ⟨a, len, f, k1, k2, k3, k4, k5, k6, k7, k8⟩ := hR.table hd
      have e2 := qgs_lo (g := g) (k := 2) t2
      split at hq
      · cases hq
        rw [← e2]
        exact ⟨_, h, jz15, Nat.le_of_ble_eq_true rfl, hR, tab_rows k1 t1⟩
      · rename_i r c
        cases hq
        refine ⟨_, h, jz18, Nat.le_of_ble_eq_true rfl, hR, ?_⟩
        have e3 : tat g.1 t w r c = if r * Int32.ofNat w + c < 0 then 0 else if (r * Int32.ofNat w + c).toNatClampNeg < len then f (r * Int32.ofNat w + c).toNatClampNeg else 0 := by
          unfold tat
          rw [← qga_lo t2, k7]
        rw [e3]
        exact tab_at k1 t1 k2 (by omega)
      · rename_i r c v0
        split at hq
        · cases hq
        · rename_i hB
          cases hq
          unfold tputB at hB
          simp only [Bool.or_eq_true, decide_eq_true_eq, not_or] at hB
          have hB2 : (r * Int32.ofNat w + c).toNatClampNeg < 131072 := by
            have h9 : ¬ 131072 ≤ (r * Int32.ofNat w + c).toNatClampNeg := fun z => hB.2 (Nat.ble_eq.mpr z)
            omega
          obtain ⟨h', a', len', f', r1, r2, r3⟩ := tab_put (d := d) (v := v0) k1 t1 k2 k3 k4 (by omega) k6 hB.1 hB2
          refine ⟨_, h', jz30, Nat.le_of_ble_eq_true rfl, ?_, r1⟩
          unfold tput
          rw [← qpa_lo t2]
          refine k8 h' _ a' len' f' (by rw [qgs_qpa]; exact r2) (fun i => ?_) (fun b k hk hb => qgs_qpa) (fun b hb => by rw [qga_qpa, if_neg (fun z => hb z.symm)]) qpa_rest
          rw [qga_qpa, if_pos rfl, r3 i]
          unfold upd
          rw [k7 i]
      · rename_i f0
        cases hq
        have hs := tab_shr (d := d + 3) (g := f0) k1 t1
        unfold tshr
        rw [← e2]
        by_cases c1 : f0 < 0
        · rw [if_pos c1] at hs ⊢
          exact ⟨_, _, jz57, Nat.le_of_ble_eq_true rfl, hR, hs⟩
        · rw [if_neg c1] at hs ⊢
          by_cases c2 : qgs g t 2 ≤ f0
          · rw [if_pos c2] at hs ⊢
            exact ⟨_, _, jz57, Nat.le_of_ble_eq_true rfl, hR, hs⟩
          · rw [if_neg c2] at hs ⊢
            refine ⟨_, _, jz57, Nat.le_of_ble_eq_true rfl, ?_, hs⟩
            rw [← qps_lo t2]
            have e5 : qgs (qps g t 2 f0) t 2 = f0 := by rw [qgs_qps (by decide) (by decide), if_pos ⟨rfl, rfl⟩]
            refine k8 _ _ a len f (by rw [e5]; exact (tUp.refl k1 k2).rows k4) (fun i => by rw [qga_qps]; exact k7 i) (fun b k hk hb => by rw [qgs_qps (by decide) hk, if_neg (fun z => hb z.1.symm)]) (fun b hb => qga_qps) qps_rest
      · rename_i x y u v0
        split at hq
        · cases hq
        · rename_i hB
          cases hq
          unfold tappB at hB
          rw [← e2] at hB
          simp only [Bool.or_eq_true, decide_eq_true_eq, not_or] at hB
          have hB2 : ((qgs g t 2).toNatClampNeg + 1) * w ≤ 131072 := by
            have h9 : ¬ 131072 < ((qgs g t 2).toNatClampNeg + 1) * w := fun z => hB.2 (Nat.ble_eq.mpr z)
            omega
          obtain ⟨h', a', len', f', r1, r2, r3⟩ := tab_app (d := d) (x := x) (y := y) (u := u) (v := v0) rfl (by omega) k1 t1 k2 k3 k4 (by omega) k6 hB.1 hB2
          rw [← e2]
          refine ⟨_, h', jz61, Nat.le_of_ble_eq_true rfl, ?_, r1⟩
          have e6 : (tapp g.1 t w x y u v0, g.2) = qps (qpa (qpa (qpa (qpa g t ((qgs g t 2).toNatClampNeg * w) x) t ((qgs g t 2).toNatClampNeg * w + 1) y) t ((qgs g t 2).toNatClampNeg * w + 2) u) t ((qgs g t 2).toNatClampNeg * w + 3) v0) t 2 (qgs g t 2 + 1) := by
            rw [qps_lo t2, qpa_lo t2, qpa_lo t2, qpa_lo t2, qpa_lo t2, e2]
            rfl
          rw [e6]
          refine k8 h' _ a' len' f' (by rw [qgs_qps (by decide) (by decide), if_pos ⟨rfl, rfl⟩]; exact r2) (fun i => ?_) (fun b k hk hb => by rw [qgs_qps (by decide) hk, if_neg (fun z => hb z.1.symm), qgs_qpa, qgs_qpa, qgs_qpa, qgs_qpa]) (fun b hb => ?_) (by rw [qps_rest, qpa_rest, qpa_rest, qpa_rest, qpa_rest])
          · rw [qga_qps, qga_qpa, if_pos rfl, qga_qpa, if_pos rfl, qga_qpa, if_pos rfl, qga_qpa, if_pos rfl, r3 i]
            unfold upd
            rw [k7 i]
          · have hb' : ¬ t = b := fun z => hb z.symm
            rw [qga_qps, qga_qpa, if_neg hb', qga_qpa, if_neg hb', qga_qpa, if_neg hb', qga_qpa, if_neg hb']
      · cases hq
    · cases hq
  · cases hq
end QOk
end
section
section QSound
variable {S : Nat × (Nat → Int32)} {h : jH}
theorem jstep_inv_none {G : jG} {K cn nL : Nat} {ini : Bool} {len pc : Nat} {lv : List (Nat × Value)} {st : List Value} {h : jH} (i : Instr) (h1 : jstk i st = none) (h2 : jloc i nL lv st = none) (h3 : jjmp i pc len st = none) (h4 : jhp G K cn ini i st h = none) : jstep G K cn nL ini i len pc lv st h = none := by
  unfold jstep
  simp only [h1, h2, h3, h4]
theorem qcall_inv {gM : jL} {cn : Nat} {i : Instr} {len z : Nat} {st as r : List Value} (hq : qcall gM cn i len st = some (z, as, r)) : len = 3 ∧
    ((∃ idx n ci b bs, i = .invokevirtual idx ∧ gM cn idx = some (0, z, n, ci) ∧ n ≤ st.length ∧ (st.take n).reverse = as ∧ st.drop n = r ∧ as = .ref b :: bs ∧ qcls b = some ci) ∨
     (∃ idx n q, i = .invokestatic idx ∧ gM cn idx = some (2, z, n, q) ∧ n ≤ st.length ∧ (st.take n).reverse = as ∧ st.drop n = r)) := by
  unfold qcall at hq
  split at hq
  · rename_i idx
    split at hq
    · rename_i z0 n ci hg
      cases hb : Nat.beq len 3 && Nat.ble n st.length with
      | false => rw [hb] at hq; cases hq
      | true =>
        rw [hb] at hq
        rw [Bool.and_eq_true] at hb
        simp only [cond_true] at hq
        split at hq
        · rename_i b bs hbs
          split at hq
          · rename_i cj hcj
            cases hb2 : Nat.beq cj ci with
            | false => rw [hb2] at hq; cases hq
            | true =>
              rw [hb2] at hq
              cases hq
              have := Nat.eq_of_beq_eq_true hb2
              subst this
              exact ⟨Nat.eq_of_beq_eq_true hb.1, Or.inl ⟨idx, n, cj, b, bs, rfl, hg, Nat.le_of_ble_eq_true hb.2, hbs, rfl, rfl, hcj⟩⟩
          · cases hq
        · cases hq
    · cases hq
  · rename_i idx
    split at hq
    · rename_i z0 n q hg
      cases hb : Nat.beq len 3 && Nat.ble n st.length with
      | false => rw [hb] at hq; cases hq
      | true =>
        rw [hb] at hq
        rw [Bool.and_eq_true] at hb
        cases hq
        exact ⟨Nat.eq_of_beq_eq_true hb.1, Or.inr ⟨idx, n, q, rfl, hg, Nat.le_of_ble_eq_true hb.2, rfl, rfl⟩⟩
    · cases hq
  · cases hq
theorem Rel.cls {g : qG} (hR : Rel S g h) {b ci : Nat} (hc : qcls b = some ci) : 24 ≤ b ∧ ∃ fs, h[b]? = some (.inr (ci, fs)) := by
  unfold qcls at hc
  split at hc
  · rename_i cj fl hd
    cases hc
    obtain ⟨it, ha⟩ := hR.get hd (Nat.le_of_ble_eq_true rfl)
    exact ⟨(qd_obj hd).1, _, ha⟩
  · rename_i w fl hd
    cases hc
    obtain ⟨it, ha⟩ := hR.get hd (Nat.le_of_ble_eq_true rfl)
    exact ⟨(qd_tab hd).1, _, ha⟩
  · cases hc
/-- a call of the second machine is one of the first -/
theorem qcall_ok {g : qG} {cn nL : Nat} {ini : Bool} {ret : Option FieldType} {i : Instr} {len pc z : Nat} {lv : List (Nat × Value)} {st as r : List Value} (hq : qcall jT0.2.1 cn i len st = some (z, as, r)) (hR : Rel S g h) :
    ∃ kd, kd ≠ 3 ∧ kd ≠ 5 ∧ jcall jT0.2.1 24 cn i len st h = some (kd, z, as, r) ∧ jstep jT0.1 24 cn nL ini i len pc lv st h = none ∧ jend ret i len st = none := by
  obtain ⟨rfl, hc⟩ := qcall_inv hq
  rcases hc with ⟨idx, n, ci, b, bs, rfl, hg, hn, e1, e2, e3, hcl⟩ | ⟨idx, n, q, rfl, hg, hn, e1, e2⟩
  · obtain ⟨hKb, fs, hb⟩ := hR.cls hcl
    refine ⟨0, by decide, by decide, ?_, rfl, rfl⟩
    unfold jcall
    simp only [hg]
    rw [if_pos ⟨trivial, hn⟩, e1, e3]
    simp only [hb]
    rw [if_pos ⟨trivial, hKb⟩, ← e2]
  · refine ⟨2, by decide, by decide, ?_, rfl, rfl⟩
    rw [jcall_s hg hn, e1, e2]
theorem qcat_ok {r : List Value} (h : qcat r = true) : (r.map fun v => v.category).sum ≤ 8 := Nat.le_of_ble_eq_true h
set_option maxHeartbeats 1000000 in
theorem qstep_ok {d : Nat} (hd : 9 ≤ d) {M : jM} {s s' : qS} (hq : qstep jT0 S M s = some s') (hR : Rel S s.2.2.2 h) :
    ∃ h', Rel S s'.2.2.2 h' ∧ ∀ r, jEv jT0 24 d M (s'.1, s'.2.1, s'.2.2.1, h') r → jEv jT0 24 d M (s.1, s.2.1, s.2.2.1, h) r := by
  obtain ⟨pc, lv, st, g⟩ := s
  unfold qstep at hq
  dsimp only at hq hR ⊢
  split at hq
  · cases hq
  · rename_i i len hf
    split at hq
    · rename_i st' k hs
      cases hb : Nat.beq k len with
      | false => rw [hb] at hq; cases hq
      | true =>
        rw [hb] at hq
        cases hq
        have e := Nat.eq_of_beq_eq_true hb
        refine ⟨h, hR, fun r kk => jEv.steps 1 ?_ kk⟩
        unfold jit
        simp only [hf]
        unfold jstep
        simp only [hs, if_pos e]
        rfl
    · rename_i hs
      split at hq
      · rename_i lv' st' k hl
        cases hb : Nat.beq k len with
        | false => rw [hb] at hq; cases hq
        | true =>
          rw [hb] at hq
          cases hq
          have e := Nat.eq_of_beq_eq_true hb
          refine ⟨h, hR, fun r kk => jEv.steps 1 ?_ kk⟩
          unfold jit
          simp only [hf]
          unfold jstep
          simp only [hs, hl, if_pos e]
          rfl
      · rename_i hl
        split at hq
        · rename_i pc' st' hj
          cases hq
          refine ⟨h, hR, fun r kk => jEv.steps 1 ?_ kk⟩
          unfold jit
          simp only [hf]
          unfold jstep
          simp only [hs, hl, hj]
          rfl
        · rename_i hj
          split at hq
          · rename_i st' g' k hp
            cases hb : Nat.beq k len with
            | false => rw [hb] at hq; cases hq
            | true =>
              rw [hb] at hq
              cases hq
              have e := Nat.eq_of_beq_eq_true hb
              subst e
              obtain ⟨h', r1, r2⟩ := qhp_ok (ini := M.2.2.2.2.2.1) hp hR
              exact ⟨h', r1, fun r kk => jEv.hp hf hs hl hj r2 kk⟩
          · rename_i hp
            split at hq
            · rename_i z as r hc
              cases hb : qisT z && qcat r with
              | false => rw [hb] at hq; cases hq
              | true =>
                rw [hb] at hq
                rw [Bool.and_eq_true] at hb
                simp only [cond_true] at hq
                split at hq
                · rename_i v g' ht
                  cases hq
                  obtain ⟨d', rfl⟩ : ∃ d', d = (d' + 3) + 1 := ⟨d - 4, by omega⟩
                  obtain ⟨Z, h', z1, z2, z3, z4⟩ := qtab_ok (d := d') ht hR
                  obtain ⟨kd, k1, k2, k3, k4, k5⟩ := qcall_ok (nL := M.2.2.1) (ini := M.2.2.2.2.2.1) (ret := M.2.2.2.1) (pc := pc) (lv := lv) hc hR
                  exact ⟨h', z3, fun r kk => jEv.callJ hf k4 k5 k3 (qcat_ok hb.2) k1 k2 z1 z2 z4 kk⟩
                · cases hq
            · cases hq
theorem jend_step {G : jG} {K cn nL : Nat} {ini : Bool} {i : Instr} {len pc : Nat} {lv : List (Nat × Value)} {st : List Value} {h : jH} {ret : Option FieldType} {v : Option Value} (he : jend ret i len st = some v) : jstep G K cn nL ini i len pc lv st h = none := by
  unfold jend at he
  split at he
  · rfl
  · rfl
  · rfl
  · rfl
  · cases he
theorem jx_new : jd_x.all (fun q => (jT0.1.2.1 0 (q.1 / 1000)).isNone) = true := by decide +kernel
theorem jthr_step {M : jM} {i : Instr} {len pc : Nat} {lv : List (Nat × Value)} {st : List Value} {ci : Nat} (ht : jthr jT0 24 M i len pc st = some ci) : jstep jT0.1 24 M.2.2.2.2.1 M.2.2.1 M.2.2.2.2.2.1 i len pc lv st h = none ∧ jend M.2.2.2.1 i len st = none ∧ jcall jT0.2.1 24 M.2.2.2.2.1 i len st h = none := by
  obtain ⟨idx, k, ic, a, rfl, rfl, f3, f4, f6, f9, hk, hcat, hx4⟩ := jthr_inv ht
  have hcn := jx_cn hx4
  refine ⟨jstep_inv_none _ rfl rfl rfl ?_, rfl, rfl⟩
  rw [hcn] at hx4
  have h0 : (bif Nat.blt ic 1000 then (jlk jd_x (idx * 1000 + ic)).map (fun q => q.1) else none) = some ci := hx4
  cases hj : Nat.blt ic 1000 with
  | false => rw [hj] at h0; cases h0
  | true =>
    rw [hj] at h0
    obtain ⟨q, hq, -⟩ := Option.map_eq_some_iff.mp h0
    have h1 := List.all_eq_true.mp jx_new _ (jlk_mem hq)
    dsimp only at h1
    rw [(jkey (c := idx) hj).1] at h1
    unfold jhp
    rw [hcn]
    have h2 := Option.isNone_iff_eq_none.mp h1
    simp only [h2]
/-- a handler that answers a number -/
theorem qhand_ok {M : jM} {pc ci a d : Nat} {c : Int32} {lv : List (Nat × Value)} (hq : qhand M pc ci = some c) {h' : jH} {fs : List Value} (ha : h'[a]? = some (.inr (ci, fs))) (hK : 24 ≤ a) :
    ∃ q, jhand M.2.2.2.2.2.2.2 pc h' a = some q ∧ jEv jT0 24 d M (q, lv, [.ref a], h') (.inl (some (.int c)), h') := by
  unfold qhand at hq
  split at hq
  · rename_i q hfi
    have hjh : jhand M.2.2.2.2.2.2.2 pc h' a = some q.1.2.2.1 := by
      unfold jhand
      simp only [ha]
      rw [if_neg (by omega)]
      have e : (fun q : (Nat × Nat × Nat × Nat) × List Nat => decide (q.1.1 ≤ pc ∧ pc < q.1.2.1 ∧ ci ∈ q.2)) = (fun q => Nat.ble q.1.1 pc && (Nat.blt pc q.1.2.1 && (q.2.any (fun c => Nat.beq c ci)))) := by
        funext q
        rw [Bool.eq_iff_iff]
        simp [Nat.ble_eq]
      rw [e, hfi]
    refine ⟨_, hjh, ?_⟩
    split at hq
    · rename_i k f1
      split at hq
      · rename_i c0 f2 f3 fr
        cases hb : Nat.blt k.val M.2.2.1 with
        | false => rw [hb] at hq; cases hq
        | true =>
          rw [hb] at hq
          cases hq
          have hk : k.val < M.2.2.1 := by simpa using hb
          refine jEv.steps 1 (s' := (q.1.2.2.1 + 1, jst1 k.val (.ref a) lv, [], h')) ?_ ?_
          · unfold jit
            simp only [f1]
            unfold jstep
            have e1 : jstk (.astore_n k) [.ref a] = none := rfl
            have e2 : jloc (.astore_n k) M.2.2.1 lv [.ref a] = some (jst1 k.val (.ref a) lv, [], 1) := by
              unfold jloc
              simp only [if_pos hk]
            simp only [e1, e2, if_true]
            rfl
          · refine jEv.steps 1 (s' := (q.1.2.2.1 + 2, jst1 k.val (.ref a) lv, [.int (Int32.ofInt c0)], h')) ?_ ?_
            · unfold jit
              simp only [f2]
              unfold jstep
              have e1 : jstk (.iconst c0) [] = some ([.int (Int32.ofInt c0)], 1) := rfl
              simp only [e1, if_true]
              rfl
            · refine jEv.ret (s := (q.1.2.2.1 + 2, jst1 k.val (.ref a) lv, [.int (Int32.ofInt c0)], h')) ?_
              unfold jat
              simp only [f3, fr]
              rfl
      · cases hq
    · rename_i k f1
      split at hq
      · rename_i c0 f2 f3 fr
        cases hb : Nat.blt k M.2.2.1 with
        | false => rw [hb] at hq; cases hq
        | true =>
          rw [hb] at hq
          cases hq
          have hk : k < M.2.2.1 := by simpa using hb
          refine jEv.steps 1 (s' := (q.1.2.2.1 + 2, jst1 k (.ref a) lv, [], h')) ?_ ?_
          · unfold jit
            simp only [f1]
            unfold jstep
            have e1 : jstk (.astore k) [.ref a] = none := rfl
            have e2 : jloc (.astore k) M.2.2.1 lv [.ref a] = some (jst1 k (.ref a) lv, [], 2) := by
              unfold jloc
              simp only [if_pos hk]
            simp only [e1, e2, if_true]
            rfl
          · refine jEv.steps 1 (s' := (q.1.2.2.1 + 3, jst1 k (.ref a) lv, [.int (Int32.ofInt c0)], h')) ?_ ?_
            · unfold jit
              simp only [f2]
              unfold jstep
              have e1 : jstk (.iconst c0) [] = some ([.int (Int32.ofInt c0)], 1) := rfl
              simp only [e1, if_true]
              rfl
            · refine jEv.ret (s := (q.1.2.2.1 + 3, jst1 k (.ref a) lv, [.int (Int32.ofInt c0)], h')) ?_
              unfold jat
              simp only [f3, fr]
              rfl
      · cases hq
    · cases hq
  · cases hq
def jnull : List Value := [.null, .null, .null, .null, .null, .null]
/-- how the first machine ends where the second does -/
def qend (S : Nat × (Nat → Int32)) (d : Nat) (M : jM) (s : jS) (r : qO) : Prop := ∃ h', Rel S r.2 h' ∧ (∀ v, r.1 = .inl v → jEv jT0 24 d M s (.inl v, h')) ∧ (∀ ci, r.1 = .inr ci → 106 < h'.length ∧ h'[h'.length - 1]? = some (.inr (ci, jnull)) ∧ jEv jT0 24 d M s (.inr (h'.length - 1), h'))
set_option maxHeartbeats 1000000 in
theorem qsound : ∀ (n d : Nat) (M : jM) (s : qS) (r : qO), qrun jT0 S n d M s = some r → ∀ h, Rel S s.2.2.2 h → qend S d M (s.1, s.2.1, s.2.2.1, h) r := by
  intro n
  induction n with
  | zero =>
    intro d M s r hr
    have hr : (none : Option qO) = some r := hr
    cases hr
  | succ n ih =>
    intro d M s r hr h hR
    have hr : qbody jT0 S (qrun jT0 S n) d M s = some r := hr
    unfold qbody at hr
    split at hr
    · cases hr
    · rename_i hd
      have hd : 9 ≤ d := by omega
      split at hr
      · rename_i s' hs
        obtain ⟨h1, r1, r2⟩ := qstep_ok hd hs hR
        obtain ⟨h2, q1, q2, q3⟩ := ih d M s' r hr h1 r1
        exact ⟨h2, q1, fun v hv => r2 _ (q2 v hv), fun ci hc => ⟨(q3 ci hc).1, (q3 ci hc).2.1, r2 _ (q3 ci hc).2.2⟩⟩
      · obtain ⟨pc, lv, st, g⟩ := s
        split at hr
        · rename_i v hat
          cases hr
          refine ⟨h, hR, fun v' hv => ?_, fun ci hc => by cases hc⟩
          cases hv
          refine jEv.ret (s := (pc, lv, st, h)) ?_
          unfold qat at hat
          unfold jat
          dsimp only at hat ⊢
          split at hat
          · cases hat
          · rename_i i len hf
            simp only [hf]
            split at hat
            · rename_i w hw
              cases hat
              simp only [jend_step hw, hw]
            · split at hat
              · cases hb : qisT ‹_› <;> rw [hb] at hat
                · simp only [cond_false] at hat
                  cases hb2 : qcat ‹_› <;> rw [hb2] at hat <;> cases hat
                · cases hat
              · cases hat
        · rename_i z as r0 hat
          unfold qat at hat
          dsimp only at hat
          split at hat
          · cases hat
          · rename_i i len hf
            split at hat
            · cases hat
            · split at hat
              · rename_i z1 as1 r1 hc
                cases hb : qisT z1 with
                | true => rw [hb] at hat; cases hat
                | false =>
                  rw [hb] at hat
                  simp only [cond_false] at hat
                  cases hb2 : qcat r1 with
                  | false => rw [hb2] at hat; cases hat
                  | true =>
                    rw [hb2] at hat
                    cases hat
                    obtain ⟨kd, k1, k2, k3, k4, k5⟩ := qcall_ok (nL := M.2.2.1) (ini := M.2.2.2.2.2.1) (ret := M.2.2.2.1) (pc := pc) (lv := lv) hc hR
                    split at hr
                    · cases hr
                    · rename_i Z hz
                      split at hr
                      · cases hr
                      · rename_i hl
                        obtain ⟨d', rfl⟩ : ∃ d', d = d' + 1 := ⟨d - 1, by omega⟩
                        have hl := Nat.le_of_not_lt hl
                        split at hr
                        · rename_i v g' hrun
                          obtain ⟨h1, q1, q2, q3⟩ := ih _ Z _ _ hrun h hR
                          obtain ⟨h2, p1, p2, p3⟩ := ih _ M _ _ hr h1 q1
                          refine ⟨h2, p1, fun v' hv => ?_, fun ci hci => ⟨(p3 ci hci).1, (p3 ci hci).2.1, ?_⟩⟩
                          · exact jEv.callJ hf k4 k5 k3 (qcat_ok hb2) k1 k2 hz hl (q2 v rfl) (p2 v' hv)
                          · exact jEv.callJ hf k4 k5 k3 (qcat_ok hb2) k1 k2 hz hl (q2 v rfl) (p3 ci hci).2.2
                        · rename_i ci g' hrun
                          obtain ⟨h1, q1, q2, q3⟩ := ih _ Z _ _ hrun h hR
                          obtain ⟨q4, q5, q6⟩ := q3 ci rfl
                          split at hr
                          · rename_i hnil
                            cases hr
                            refine ⟨h1, q1, fun v' hv => (by cases hv), fun ci' hci => ?_⟩
                            cases hci
                            exact ⟨q4, q5, jEv.callT hf k4 k5 k3 (qcat_ok hb2) k1 k2 hz hl q6 hnil⟩
                          · rename_i b0 hs0 hcons
                            split at hr
                            · rename_i c hqh
                              cases hr
                              refine ⟨h1, q1, fun v' hv => ?_, fun ci' hci => by cases hci⟩
                              cases hv
                              obtain ⟨q, w1, w2⟩ := qhand_ok (d := d' + 1) (lv := lv) hqh q5 (by omega)
                              rw [hcons] at w1
                              exact jEv.callC hf k4 k5 k3 (qcat_ok hb2) k1 k2 hz hl q6 hcons w1 w2
                            · cases hr
                        · cases hr
              · cases hat
        · split at hr
          · rename_i ci hth
            cases hr
            refine ⟨_, hR.thrown ci, fun v hv => (by cases hv), fun ci' hci => ?_⟩
            cases hci
            unfold qthr at hth
            dsimp only at hth
            split at hth
            · cases hth
            · rename_i i len hf
              obtain ⟨w1, w2, w3⟩ := jthr_step (h := h) (lv := lv) hth
              have hlen : 106 ≤ h.length := by
                obtain ⟨it, len, cnt, made, -, -, -, -, r5, -⟩ := hR
                omega
              have hl1 : (h ++ [.inr (ci, [.null, .null, .null, .null, .null, .null])] : jH).length - 1 = h.length := by
                rw [List.length_append]
                simp
              refine ⟨by rw [List.length_append]; simp; omega, ?_, ?_⟩
              · rw [hl1, List.getElem?_append_right (Nat.le_refl _), Nat.sub_self]
                rfl
              · rw [hl1]
                exact jEv.thr hf w1 w2 w3 hth (by omega)
          · cases hr
end QSound
end
section
/-! a run that meets no script runs on beside any -/
section JC0
variable {T : jT} {K : Nat} {c : jC}
/-- a heap whose first cell nobody can use -/
def jz0 (h : jH) : Prop := h[0]? = some (.inr (97, []))
theorem jz0_ne {h : jH} (hz : jz0 h) {a : Nat} (ha : a ≠ 0) : (h.set 0 c)[a]? = h[a]? := List.getElem?_set_ne (fun z => ha z.symm)
theorem jz0_set {h : jH} (hz : jz0 h) {a : Nat} (ha : a ≠ 0) (x : jC) : jz0 (h.set a x) ∧ (h.set 0 c).set a x = (h.set a x).set 0 c := by
  refine ⟨?_, ?_⟩
  · unfold jz0
    rw [List.getElem?_set_ne ha]
    exact hz
  · exact List.set_comm _ _ (fun z => ha z.symm)
theorem jz0_push {h : jH} (hz : jz0 h) (x : jC) : jz0 (h ++ [x]) ∧ (h.set 0 c) ++ [x] = (h ++ [x]).set 0 c := by
  have hl := (List.getElem?_eq_some_iff.mp hz).1
  refine ⟨?_, ?_⟩
  · unfold jz0
    rw [List.getElem?_append_left hl]
    exact hz
  · rw [List.set_append_left _ _ hl]
set_option maxHeartbeats 1000000 in
theorem jhp_c0 {G : jG} {cn : Nat} {ini : Bool} {i : Instr} {st st' : List Value} {h h' : jH} {k : Nat} (hz : jz0 h) (hq : jhp G K cn ini i st h = some (st', h', k)) : jz0 h' ∧ jhp G K cn ini i st (h.set 0 c) = some (st', h'.set 0 c, k) := by
  have hz' : h[0]? = some (.inr (97, [])) := hz
  unfold jhp at hq
  split at hq
  · split at hq
    · rename_i a r
      split at hq
      · rename_i ci k0 kd hG
        split at hq
        · rename_i cj fs ha
          split at hq
          · rename_i hc
            split at hq
            · rename_i v hv
              cases hq
              have h0 : a ≠ 0 := fun z => by
                subst z
                rw [hz'] at ha
                cases ha
                cases hv
              obtain ⟨rfl, hK⟩ := hc
              exact ⟨hz, jhp_get hG (by rw [jz0_ne hz h0]; exact ha) hK hv⟩
            · cases hq
          · cases hq
        · cases hq
      · cases hq
    · cases hq
  · split at hq
    · rename_i v a r
      split at hq
      · rename_i ci k0 kd hG
        split at hq
        · rename_i cj fs ha
          split at hq
          · rename_i hc
            cases hq
            obtain ⟨rfl, hK, hk, hf, hd⟩ := hc
            have h0 : a ≠ 0 := fun z => by
              subst z
              rw [hz'] at ha
              cases ha
              cases hk
            obtain ⟨s1, s2⟩ := jz0_set (c := c) hz h0 (.inr (cj, fs.set k0 v))
            refine ⟨s1, ?_⟩
            rw [← s2]
            exact jhp_put hG (by rw [jz0_ne hz h0]; exact ha) hK hk hf hd
          · cases hq
        · cases hq
      · cases hq
    · cases hq
  · split at hq
    · rename_i v hG
      cases hq
      refine ⟨hz, ?_⟩
      unfold jhp
      simp only [hG]
    · cases hq
  · split at hq
    · rename_i x hG
      cases hq
      refine ⟨hz, ?_⟩
      unfold jhp
      simp only [hG]
    · rename_i x hG
      cases hq
      refine ⟨hz, ?_⟩
      unfold jhp
      simp only [hG]
    · cases hq
  · split at hq
    · rename_i x hG
      cases hq
      refine ⟨hz, ?_⟩
      unfold jhp
      simp only [hG]
    · cases hq
  · split at hq
    · rename_i x hG
      cases hq
      refine ⟨hz, ?_⟩
      unfold jhp
      simp only [hG]
    · cases hq
  · split at hq
    · rename_i ci fs hG
      cases hq
      obtain ⟨s1, s2⟩ := jz0_push (c := c) hz (.inr (ci, fs))
      refine ⟨s1, ?_⟩
      rw [← s2]
      unfold jhp
      simp only [hG, List.length_set]
    · cases hq
  · split at hq
    · rename_i n r
      split at hq
      · cases hq
      · rename_i hn
        split at hq
        · rename_i c1 hc1
          cases hq
          obtain ⟨s1, s2⟩ := jz0_push (c := c) hz c1
          refine ⟨s1, ?_⟩
          rw [← s2]
          unfold jhp
          simp only [if_neg hn, hc1, List.length_set]
        · cases hq
    · cases hq
  · split at hq
    · rename_i a r
      split at hq
      · rename_i ty n x ha
        split at hq
        · rename_i ht
          cases hq
          have h0 : a ≠ 0 := fun z => by
            subst z
            rw [hz'] at ha
            cases ha
          exact ⟨hz, jhp_len (x := (n, x)) (by rw [jz0_ne hz h0]; exact ha) ht⟩
        · cases hq
      · cases hq
    · cases hq
  · split at hq
    · rename_i j a r
      split at hq
      · rename_i n f ha
        split at hq
        · cases hq
        · rename_i hj
          cases hq
          have h0 : a ≠ 0 := fun z => by
            subst z
            rw [hz'] at ha
            cases ha
          exact ⟨hz, jhp_iald (by rw [jz0_ne hz h0]; exact ha) hj⟩
      · cases hq
    · cases hq
  · split at hq
    · rename_i j a r
      split at hq
      · rename_i n f ha
        split at hq
        · cases hq
        · rename_i hj
          cases hq
          have h0 : a ≠ 0 := fun z => by
            subst z
            rw [hz'] at ha
            cases ha
          exact ⟨hz, jhp_cald (by rw [jz0_ne hz h0]; exact ha) hj⟩
      · cases hq
    · cases hq
  · split at hq
    · rename_i j a r
      split at hq
      · rename_i n f ha
        split at hq
        · cases hq
        · rename_i hj
          cases hq
          have h0 : a ≠ 0 := fun z => by
            subst z
            rw [hz'] at ha
            cases ha
          exact ⟨hz, jhp_lald (by rw [jz0_ne hz h0]; exact ha) hj⟩
      · cases hq
    · cases hq
  · split at hq
    · rename_i x j a r
      split at hq
      · rename_i n f ha
        split at hq
        · cases hq
        · rename_i hj
          cases hq
          have h0 : a ≠ 0 := fun z => by
            subst z
            rw [hz'] at ha
            cases ha
          obtain ⟨s1, s2⟩ := jz0_set (c := c) hz h0 (.inl (.int, n, .inl (upd f j.toNatClampNeg x)))
          refine ⟨s1, ?_⟩
          rw [← s2]
          exact jhp_iast (by rw [jz0_ne hz h0]; exact ha) (fun z => hj (Or.inl z)) (Nat.le_of_not_lt (fun z => hj (Or.inr z)))
      · cases hq
    · cases hq
  · split at hq
    · rename_i x j a r
      split at hq
      · rename_i n f ha
        split at hq
        · cases hq
        · rename_i hj
          cases hq
          have h0 : a ≠ 0 := fun z => by
            subst z
            rw [hz'] at ha
            cases ha
          obtain ⟨s1, s2⟩ := jz0_set (c := c) hz h0 (.inl (.char, n, .inl (upd f j.toNatClampNeg (vp_nar .char x))))
          refine ⟨s1, ?_⟩
          rw [← s2]
          exact jhp_cast (by rw [jz0_ne hz h0]; exact ha) (fun z => hj (Or.inl z)) (Nat.le_of_not_lt (fun z => hj (Or.inr z)))
      · cases hq
    · cases hq
  · split at hq
    · rename_i x j a r
      split at hq
      · rename_i n f ha
        split at hq
        · cases hq
        · rename_i hj
          cases hq
          have h0 : a ≠ 0 := fun z => by
            subst z
            rw [hz'] at ha
            cases ha
          obtain ⟨s1, s2⟩ := jz0_set (c := c) hz h0 (.inl (.long, n, .inr (.inl (vp_updL f j.toNatClampNeg x))))
          refine ⟨s1, ?_⟩
          rw [← s2]
          exact jhp_last (by rw [jz0_ne hz h0]; exact ha) (fun z => hj (Or.inl z)) (Nat.le_of_not_lt (fun z => hj (Or.inr z)))
      · cases hq
    · cases hq
  · cases hq
end JC0
end
section
section JC0b
variable {T : jT} {K : Nat} {c : jC}
theorem jstep_c0 {G : jG} {cn nL : Nat} {ini : Bool} {i : Instr} {len pc : Nat} {lv : List (Nat × Value)} {st : List Value} {h : jH} {s' : jS} (hz : jz0 h) (hs : jstep G K cn nL ini i len pc lv st h = some s') : jz0 s'.2.2.2 ∧ jstep G K cn nL ini i len pc lv st (h.set 0 c) = some (s'.1, s'.2.1, s'.2.2.1, s'.2.2.2.set 0 c) := by
  unfold jstep at hs ⊢
  cases h1 : jstk i st with
  | some q =>
    obtain ⟨st', k⟩ := q
    simp only [h1] at hs ⊢
    split at hs
    · rename_i e
      cases hs
      exact ⟨hz, by rw [if_pos e]⟩
    · cases hs
  | none =>
    simp only [h1] at hs ⊢
    cases h2 : jloc i nL lv st with
    | some q =>
      obtain ⟨lv', st', k⟩ := q
      simp only [h2] at hs ⊢
      split at hs
      · rename_i e
        cases hs
        exact ⟨hz, by rw [if_pos e]⟩
      · cases hs
    | none =>
      simp only [h2] at hs ⊢
      cases h3 : jjmp i pc len st with
      | some q =>
        obtain ⟨pc', st'⟩ := q
        simp only [h3] at hs ⊢
        cases hs
        exact ⟨hz, rfl⟩
      | none =>
        simp only [h3] at hs ⊢
        cases h4 : jhp G K cn ini i st h with
        | none => simp only [h4] at hs; cases hs
        | some q =>
          obtain ⟨st', h', k⟩ := q
          simp only [h4] at hs
          obtain ⟨z1, z2⟩ := jhp_c0 (c := c) hz h4
          simp only [z2]
          split at hs
          · rename_i e
            cases hs
            exact ⟨z1, by rw [if_pos e]⟩
          · cases hs
theorem jstep_inv' {G : jG} {cn nL : Nat} {ini : Bool} {i : Instr} {len pc : Nat} {lv : List (Nat × Value)} {st : List Value} {h h2 : jH} (hi : ∀ st, jhp G K cn ini i st h = none → jhp G K cn ini i st h2 = none) (hi2 : ∀ st st' h' k, jhp G K cn ini i st h = some (st', h', k) → ∃ h'', jhp G K cn ini i st h2 = some (st', h'', k)) (hs : jstep G K cn nL ini i len pc lv st h = none) : jstep G K cn nL ini i len pc lv st h2 = none := by
  unfold jstep at hs ⊢
  cases h1 : jstk i st with
  | some q =>
    obtain ⟨st', k⟩ := q
    simp only [h1] at hs ⊢
    split at hs
    · cases hs
    · rename_i e
      rw [if_neg e]
  | none =>
    simp only [h1] at hs ⊢
    cases h2' : jloc i nL lv st with
    | some q =>
      obtain ⟨lv', st', k⟩ := q
      simp only [h2'] at hs ⊢
      split at hs
      · cases hs
      · rename_i e
        rw [if_neg e]
    | none =>
      simp only [h2'] at hs ⊢
      cases h3 : jjmp i pc len st with
      | some q => simp only [h3] at hs; cases hs
      | none =>
        simp only [h3] at hs ⊢
        cases h4 : jhp G K cn ini i st h with
        | none => simp only [hi st h4]
        | some q =>
          obtain ⟨st', h', k⟩ := q
          obtain ⟨h'', e2⟩ := hi2 st st' h' k h4
          simp only [h4] at hs
          simp only [e2]
          split at hs
          · cases hs
          · rename_i e
            rw [if_neg e]
theorem jcall_i {gM : jL} {cn : Nat} {i : Instr} {len : Nat} {st : List Value} {h : jH} {q : Nat × Nat × List Value × List Value} (hq : jcall gM K cn i len st h = some q) : (∃ idx, i = .invokevirtual idx) ∨ (∃ idx, i = .invokespecial idx) ∨ ∃ idx, i = .invokestatic idx := by
  unfold jcall at hq
  split at hq
  · exact Or.inl ⟨_, rfl⟩
  · exact Or.inr (Or.inl ⟨_, rfl⟩)
  · exact Or.inr (Or.inr ⟨_, rfl⟩)
  · cases hq
theorem jcall_c0 {gM : jL} {cn : Nat} {i : Instr} {len : Nat} {st : List Value} {h : jH} {q : Nat × Nat × List Value × List Value} (hK : 1 ≤ K) (hz : jz0 h) (hq : jcall gM K cn i len st h = some q) : jcall gM K cn i len st (h.set 0 c) = some q := by
  rcases jcall_i hq with ⟨idx, rfl⟩ | ⟨idx, rfl⟩ | ⟨idx, rfl⟩
  · unfold jcall at hq ⊢
    dsimp only at hq ⊢
    split at hq
    · rename_i z n ci hg
      split at hq
      · rename_i hl
        rw [if_pos hl]
        split at hq
        · rename_i b bs hb
          split at hq
          · rename_i cj fs hc
            split at hq
            · rename_i h2
              rw [jz0_ne hz (by omega), hc]
              simp only
              rw [if_pos h2]
              exact hq
            · cases hq
          · cases hq
        · cases hq
      · cases hq
    · cases hq
  · exact hq
  · exact hq
theorem jcopy_c0 {as : List Value} {h h' : jH} (hK : 1 ≤ K) (hz : jz0 h) (hq : jcopy K as h = some h') : jz0 h' ∧ jcopy K as (h.set 0 c) = some (h'.set 0 c) := by
  obtain ⟨a0, sp, a, dp, n, n0, n1, f, g, rfl, h1, h2, q1, q2, q3, q4, q5, q6, q7, rfl⟩ := jcopy_inv hq
  have ha0 : a ≠ 0 := Nat.pos_iff_ne_zero.mp (Nat.lt_of_lt_of_le hK q7)
  have ha1 : a0 ≠ 0 := Nat.pos_iff_ne_zero.mp (Nat.lt_of_lt_of_le hK q6)
  obtain ⟨s1, s2⟩ := jz0_set (c := c) hz ha0 (.inl (.int, n1, .inl (va_cpy f g sp.toNatClampNeg dp.toNatClampNeg n.toNatClampNeg)))
  refine ⟨s1, ?_⟩
  rw [← s2]
  unfold jcopy
  dsimp only
  rw [jz0_ne hz ha1, jz0_ne hz ha0, h1, h2]
  dsimp only
  rw [if_neg]
  rintro ((z | z | z) | (z | z) | z | z)
  · exact q1 z
  · exact q2 z
  · exact q3 z
  · omega
  · omega
  · exact absurd z (Nat.not_lt.mpr q6)
  · exact absurd z (Nat.not_lt.mpr q7)
theorem jhand_c0 {hs : List ((Nat × Nat × Nat × Nat) × List Nat)} {pc a q : Nat} {h : jH} (hz : jz0 h) (hq : jhand hs pc h a = some q) : jhand hs pc (h.set 0 c) a = some q := by
  by_cases ha : a = 0
  · subst ha
    have hz' : h[0]? = some (.inr (97, [])) := hz
    unfold jhand at hq
    simp only [hz'] at hq
    rw [if_pos (by decide)] at hq
    cases hq
  · unfold jhand at hq ⊢
    rw [jz0_ne hz ha]
    exact hq
set_option maxHeartbeats 1000000 in
theorem jrun_c0 (hK : 1 ≤ K) : ∀ (n d : Nat) (M : jM) (pc : Nat) (lv : List (Nat × Value)) (st : List Value) (h : jH) (o : Option Value ⊕ Nat) (h' : jH), jz0 h → jrun T K n d M (pc, lv, st, h) = some (o, h') → jz0 h' ∧ jrun T K n d M (pc, lv, st, h.set 0 c) = some (o, h'.set 0 c) := by
  intro n
  induction n with
  | zero =>
    intro d M pc lv st h o h' _ hr
    have hr : (none : Option jO) = some (o, h') := hr
    cases hr
  | succ n ih =>
    intro d M pc lv st h o h' hz hr
    have hr : jbody T K (jrun T K n) d M (pc, lv, st, h) = some (o, h') := hr
    show jz0 h' ∧ jbody T K (jrun T K n) d M (pc, lv, st, h.set 0 c) = some (o, h'.set 0 c)
    unfold jbody at hr ⊢
    dsimp only at hr ⊢
    cases h1 : M.2.2.2.2.2.2.1 pc with
    | none => simp only [h1] at hr; cases hr
    | some q =>
      obtain ⟨i, len⟩ := q
      simp only [h1] at hr ⊢
      cases h2 : jstep T.1 K M.2.2.2.2.1 M.2.2.1 M.2.2.2.2.2.1 i len pc lv st h with
      | some s' =>
        simp only [h2] at hr
        obtain ⟨z1, z2⟩ := jstep_c0 (c := c) hz h2
        simp only [z2]
        obtain ⟨pc1, lv1, st1, h3⟩ := s'
        exact ih d M pc1 lv1 st1 h3 o h' z1 hr
      | none =>
        simp only [h2] at hr
        cases h3 : jend M.2.2.2.1 i len st with
        | some v =>
          simp only [h3] at hr
          cases hr
          simp only [jend_step h3]
          exact ⟨hz, trivial⟩
        | none =>
          simp only [h3] at hr
          cases h4 : jcall T.2.1 K M.2.2.2.2.1 i len st h with
          | none =>
            simp only [h4] at hr
            cases h5 : jthr T K M i len pc st with
            | none => simp only [h5] at hr; cases hr
            | some ci =>
              simp only [h5] at hr
              obtain ⟨idx, k, ic, a, rfl, rfl, -⟩ := jthr_inv h5
              have e1 : jstep T.1 K M.2.2.2.2.1 M.2.2.1 M.2.2.2.2.2.1 (.new idx) 3 pc lv st (h.set 0 c) = none := by
                refine jstep_inv' (h := h) (fun st h9 => ?_) (fun st st' h' k h9 => ?_) h2
                · unfold jhp at h9 ⊢
                  dsimp only at h9 ⊢
                  split at h9
                  · cases h9
                  · rename_i hG
                    simp only [hG]
                · obtain ⟨z1, z2⟩ := jhp_c0 (c := c) hz h9
                  exact ⟨_, z2⟩
              have e2 : jcall T.2.1 K M.2.2.2.2.1 (.new idx) 3 st (h.set 0 c) = none := rfl
              simp only [e1, e2]
              split at hr
              · cases hr
              · rename_i h8
                cases hr
                obtain ⟨s1, s2⟩ := jz0_push (c := c) hz (.inr (ci, [.null, .null, .null, .null, .null, .null]))
                refine ⟨s1, ?_⟩
                simp only [h3, h5, if_neg h8, List.length_set, s2]
          | some q =>
            obtain ⟨kd, z, as, r⟩ := q
            simp only [h4] at hr
            have e1 : jstep T.1 K M.2.2.2.2.1 M.2.2.1 M.2.2.2.2.2.1 i len pc lv st (h.set 0 c) = none := by
              rcases jcall_i h4 with ⟨idx, rfl⟩ | ⟨idx, rfl⟩ | ⟨idx, rfl⟩ <;> rfl
            simp only [e1, jcall_c0 (c := c) hK hz h4]
            cases d with
            | zero => cases hr
            | succ d' =>
              simp only at hr ⊢
              by_cases h8 : 8 < (r.map fun v => v.category).sum
              · simp only [h8, if_true] at hr; cases hr
              simp only [h8, if_false] at hr ⊢
              by_cases h6 : kd = 3
              · simp only [h6, if_true] at hr ⊢
                exact ih _ _ _ _ _ _ _ _ hz hr
              · simp only [h6, if_false] at hr ⊢
                by_cases h66 : kd = 5
                · simp only [h66, if_true] at hr ⊢
                  cases h67 : jcopy K as h with
                  | none => simp only [h67] at hr; cases hr
                  | some h9 =>
                    simp only [h67] at hr
                    obtain ⟨z1, z2⟩ := jcopy_c0 (c := c) hK hz h67
                    simp only [z2]
                    exact ih _ _ _ _ _ _ _ _ z1 hr
                simp only [h66, if_false] at hr ⊢
                cases h7 : T.2.2.1 z with
                | none => simp only [h7] at hr; cases hr
                | some Z =>
                  simp only [h7] at hr ⊢
                  by_cases h9 : Z.2.2.1 < (lg_sl as).length
                  · simp only [h9, if_true] at hr; cases hr
                  · simp only [h9, if_false] at hr ⊢
                    cases h10 : jrun T K n d' Z (0, lv_args 0 as, [], h) with
                    | none => simp only [h10] at hr; cases hr
                    | some q9 =>
                      obtain ⟨o1, h11⟩ := q9
                      obtain ⟨z1, z2⟩ := ih _ _ _ _ _ _ _ _ hz h10
                      simp only [h10] at hr
                      simp only [z2]
                      cases o1 with
                      | inl v => exact ih _ _ _ _ _ _ _ _ z1 hr
                      | inr a =>
                        simp only at hr ⊢
                        cases h12 : M.2.2.2.2.2.2.2 with
                        | nil =>
                          simp only [h12] at hr ⊢
                          cases hr
                          exact ⟨z1, rfl⟩
                        | cons b hs =>
                          simp only [h12] at hr ⊢
                          cases h13 : jhand (b :: hs) pc h11 a with
                          | none => simp only [h13] at hr; cases hr
                          | some q =>
                            simp only [h13] at hr
                            simp only [jhand_c0 (c := c) z1 h13]
                            exact ih _ _ _ _ _ _ _ _ z1 hr
end JC0b
end
section
section MIni
variable {d : Nat} {r : jO} {P : jH} {M : jM} {lv : List (Nat × Value)}
theorem mget (hP : P.length = 64) (x : jC) (l : jH) : (P ++ x :: l)[64]? = some x := by
  rw [List.getElem?_append_right (by omega), hP, Nat.sub_self]
  rfl
theorem mset (hP : P.length = 64) (x y : jC) (l : jH) : (P ++ x :: l).set 64 y = P ++ y :: l := by
  rw [List.set_append_right _ _ (by omega), hP, Nat.sub_self]
  rfl
theorem mstep {fs fs' : List Value} {arrs arrs' : jH} {pc idx k N : Nat} {n : Int32} (hP : P.length = 64) (f1 : M.2.2.2.2.2.2.1 pc = some (.newarray .int, 2)) (f2 : M.2.2.2.2.2.2.1 (pc + 2) = some (.putfield idx, 3)) (hG : jT0.1.1 12 idx = some (11, k, 11)) (hM : (M.2.2.2.2.1, M.2.2.2.2.2.1) = (12, true)) (hk : Nat.blt k fs.length = true) (hn : (decide (n < 0) || Nat.blt 60000000 n.toNatClampNeg, n.toNatClampNeg) = (false, N))
    (e1 : fs.set k (.ref (65 + arrs.length)) = fs') (e2 : arrs ++ [.inl (.int, N, .inl (fun _ => 0))] = arrs') (kk : jEv jT0 24 d M (pc + 5, lv, [], P ++ .inr (11, fs') :: arrs') r) : jEv jT0 24 d M (pc, lv, [.int n, .ref 64], P ++ .inr (11, fs) :: arrs) r := by
  have hM1 : M.2.2.2.2.1 = 12 := congrArg Prod.fst hM
  have hM2 : M.2.2.2.2.2.1 = true := congrArg Prod.snd hM
  have hn1 : (decide (n < 0) || Nat.blt 60000000 n.toNatClampNeg) = false := congrArg Prod.fst hn
  have hn2 : n.toNatClampNeg = N := congrArg Prod.snd hn
  rw [Bool.or_eq_false_iff, decide_eq_false_iff_not] at hn1
  have hn3 : ¬ 60000000 < n.toNatClampNeg := fun z => by
    have h9 : Nat.blt 60000000 n.toNatClampNeg = true := Nat.ble_eq.mpr z
    rw [h9] at hn1
    cases hn1.2
  refine jEv.hp (i := .newarray .int) (len := 2) (st' := [.ref (65 + arrs.length), .ref 64]) (h' := P ++ .inr (11, fs) :: arrs') f1 rfl rfl rfl ?_ ?_
  · unfold jhp
    dsimp only
    rw [if_neg (fun z => z.elim hn1.1 hn3), hn2, ← e2]
    have e3 : (P ++ .inr (11, fs) :: arrs : jH).length = 65 + arrs.length := by
      rw [List.length_append, hP, List.length_cons]
      omega
    simp [jnewa, e3]
  · refine jEv.hp (i := .putfield idx) (len := 3) (st' := []) (h' := P ++ .inr (11, fs') :: arrs') f2 rfl rfl rfl ?_ kk
    rw [hM1, hM2]
    have := jhp_put (K := 24) (ini := true) (r := []) (v := .ref (65 + arrs.length)) hG (mget hP (.inr (11, fs)) arrs') (by decide) (by simpa using hk) rfl (Or.inr rfl)
    rw [mset hP, e1] at this
    exact this
theorem mstepI {fs fs' : List Value} {arrs : jH} {pc idx k : Nat} {v : Int32} (hP : P.length = 64) (f2 : M.2.2.2.2.2.2.1 pc = some (.putfield idx, 3)) (hG : jT0.1.1 12 idx = some (11, k, 0)) (hM : (M.2.2.2.2.1, M.2.2.2.2.2.1, Nat.blt k fs.length) = (12, true, true))
    (e1 : fs.set k (.int v) = fs') (kk : jEv jT0 24 d M (pc + 3, lv, [], P ++ .inr (11, fs') :: arrs) r) : jEv jT0 24 d M (pc, lv, [.int v, .ref 64], P ++ .inr (11, fs) :: arrs) r := by
  have hM1 : M.2.2.2.2.1 = 12 := congrArg Prod.fst hM
  have hM2 : M.2.2.2.2.2.1 = true := congrArg (fun q => q.2.1) hM
  have hk : Nat.blt k fs.length = true := congrArg (fun q => q.2.2) hM
  refine jEv.hp (i := .putfield idx) (len := 3) (st' := []) (h' := P ++ .inr (11, fs') :: arrs) f2 rfl rfl rfl ?_ kk
  rw [hM1, hM2]
  have := jhp_put (K := 24) (ini := true) (r := []) (v := .int v) hG (mget hP (.inr (11, fs)) arrs) (by decide) (by simpa using hk) rfl (Or.inr rfl)
  rw [mset hP, e1] at this
  exact this
set_option maxRecDepth 20000 in
theorem mc41 : jT0.1.2.2.2 12 41 = some (.int 72000) := by decide +kernel
set_option maxRecDepth 20000 in
theorem mf7 : jT0.1.1 12 7 = some (11, 0, 11) := by decide +kernel
set_option maxRecDepth 20000 in
theorem mf13 : jT0.1.1 12 13 = some (11, 1, 11) := by decide +kernel
set_option maxRecDepth 20000 in
theorem mf16 : jT0.1.1 12 16 = some (11, 2, 11) := by decide +kernel
set_option maxRecDepth 20000 in
theorem mf19 : jT0.1.1 12 19 = some (11, 3, 11) := by decide +kernel
set_option maxRecDepth 20000 in
theorem mf22 : jT0.1.1 12 22 = some (11, 4, 11) := by decide +kernel
set_option maxRecDepth 20000 in
theorem mf25 : jT0.1.1 12 25 = some (11, 5, 11) := by decide +kernel
set_option maxRecDepth 20000 in
theorem mf28 : jT0.1.1 12 28 = some (11, 6, 11) := by decide +kernel
set_option maxRecDepth 20000 in
theorem mf31 : jT0.1.1 12 31 = some (11, 9, 0) := by decide +kernel
set_option maxRecDepth 20000 in
theorem mf35 : jT0.1.1 12 35 = some (11, 14, 11) := by decide +kernel
set_option maxRecDepth 20000 in
theorem mf38 : jT0.1.1 12 38 = some (11, 15, 11) := by decide +kernel
set_option maxRecDepth 20000 in
theorem mf42 : jT0.1.1 12 42 = some (11, 16, 11) := by decide +kernel
set_option maxRecDepth 20000 in
theorem mf45 : jT0.1.1 12 45 = some (11, 17, 11) := by decide +kernel
set_option maxRecDepth 20000 in
theorem mf48 : jT0.1.1 12 48 = some (11, 18, 11) := by decide +kernel
set_option maxRecDepth 20000 in
theorem mf51 : jT0.1.1 12 51 = some (11, 19, 11) := by decide +kernel
set_option maxRecDepth 20000 in
theorem mf54 : jT0.1.1 12 54 = some (11, 20, 11) := by decide +kernel
set_option maxRecDepth 20000 in
theorem mf57 : jT0.1.1 12 57 = some (11, 21, 11) := by decide +kernel
set_option maxRecDepth 20000 in
theorem mf60 : jT0.1.1 12 60 = some (11, 22, 11) := by decide +kernel
set_option maxRecDepth 20000 in
theorem mf63 : jT0.1.1 12 63 = some (11, 23, 11) := by decide +kernel
set_option maxRecDepth 20000 in
theorem mf66 : jT0.1.1 12 66 = some (11, 24, 11) := by decide +kernel
set_option maxRecDepth 20000 in
theorem mf69 : jT0.1.1 12 69 = some (11, 41, 11) := by decide +kernel
set_option maxRecDepth 20000 in
theorem mf72 : jT0.1.1 12 72 = some (11, 42, 11) := by decide +kernel
set_option maxRecDepth 20000 in
theorem mf75 : jT0.1.1 12 75 = some (11, 43, 11) := by decide +kernel
set_option maxRecDepth 20000 in
theorem mf78 : jT0.1.1 12 78 = some (11, 44, 11) := by decide +kernel
set_option maxRecDepth 20000 in
theorem mf81 : jT0.1.1 12 81 = some (11, 45, 11) := by decide +kernel
set_option maxRecDepth 20000 in
theorem mf84 : jT0.1.1 12 84 = some (11, 46, 11) := by decide +kernel
set_option maxRecDepth 20000 in
theorem mf87 : jT0.1.1 12 87 = some (11, 47, 11) := by decide +kernel
set_option maxRecDepth 20000 in
theorem mf90 : jT0.1.1 12 90 = some (11, 48, 11) := by decide +kernel
set_option maxRecDepth 20000 in
theorem mf93 : jT0.1.1 12 93 = some (11, 49, 11) := by decide +kernel
set_option maxRecDepth 20000 in
theorem mf96 : jT0.1.1 12 96 = some (11, 50, 11) := by decide +kernel
set_option maxRecDepth 20000 in
theorem mf99 : jT0.1.1 12 99 = some (11, 51, 11) := by decide +kernel
set_option maxRecDepth 20000 in
theorem mf102 : jT0.1.1 12 102 = some (11, 52, 11) := by decide +kernel
set_option maxRecDepth 20000 in
theorem mf105 : jT0.1.1 12 105 = some (11, 53, 11) := by decide +kernel
set_option maxRecDepth 20000 in
theorem mf108 : jT0.1.1 12 108 = some (11, 54, 11) := by decide +kernel
set_option maxRecDepth 20000 in
theorem mf111 : jT0.1.1 12 111 = some (11, 55, 11) := by decide +kernel
set_option maxRecDepth 20000 in
theorem mf114 : jT0.1.1 12 114 = some (11, 56, 11) := by decide +kernel
set_option maxRecDepth 20000 in
theorem mf117 : jT0.1.1 12 117 = some (11, 57, 11) := by decide +kernel
set_option maxRecDepth 20000 in
theorem mf120 : jT0.1.1 12 120 = some (11, 58, 11) := by decide +kernel
set_option maxRecDepth 20000 in
theorem mf123 : jT0.1.1 12 123 = some (11, 59, 11) := by decide +kernel
set_option maxRecDepth 20000 in
theorem mf126 : jT0.1.1 12 126 = some (11, 60, 11) := by decide +kernel
set_option maxRecDepth 20000 in
theorem mf129 : jT0.1.1 12 129 = some (11, 61, 11) := by decide +kernel
set_option maxRecDepth 20000 in
theorem mf132 : jT0.1.1 12 132 = some (11, 62, 11) := by decide +kernel
set_option maxRecDepth 20000 in
theorem ml12_1 : jT0.2.1 12 1 = some (3, 0, 1, 0) := by decide +kernel
def qmod : List Value := [.ref 65, .ref 66, .ref 67, .ref 68, .ref 69, .ref 70, .ref 71, .int 0, .int 0, .int (-1), .int 0, .int 0, .int 0, .int 0, .ref 72, .ref 73, .ref 74, .ref 75, .ref 76, .ref 77, .ref 78, .ref 79, .ref 80, .ref 81, .ref 82, .int 0, .int 0, .int 0, .int 0, .int 0, .int 0, .int 0, .int 0, .int 0, .int 0, .int 0, .int 0, .int 0, .int 0, .int 0, .int 0, .ref 83, .ref 84, .ref 85, .ref 86, .ref 87, .ref 88, .ref 89, .ref 90, .ref 91, .ref 92, .ref 93, .ref 94, .ref 95, .ref 96, .ref 97, .ref 98, .ref 99, .ref 100, .ref 101, .ref 102, .ref 103, .ref 104, .int 0]
def qarrs : jH := [.inl (.int, 48, .inl (fun _ => 0)), .inl (.int, 624, .inl (fun _ => 0)), .inl (.int, 12, .inl (fun _ => 0)), .inl (.int, 8, .inl (fun _ => 0)), .inl (.int, 8, .inl (fun _ => 0)), .inl (.int, 26, .inl (fun _ => 0)), .inl (.int, 26, .inl (fun _ => 0)), .inl (.int, 24000, .inl (fun _ => 0)), .inl (.int, 24000, .inl (fun _ => 0)), .inl (.int, 72000, .inl (fun _ => 0)), .inl (.int, 13000, .inl (fun _ => 0)), .inl (.int, 13000, .inl (fun _ => 0)), .inl (.int, 13000, .inl (fun _ => 0)), .inl (.int, 14000, .inl (fun _ => 0)), .inl (.int, 14000, .inl (fun _ => 0)), .inl (.int, 14000, .inl (fun _ => 0)), .inl (.int, 14000, .inl (fun _ => 0)), .inl (.int, 14000, .inl (fun _ => 0)), .inl (.int, 6000, .inl (fun _ => 0)), .inl (.int, 6000, .inl (fun _ => 0)), .inl (.int, 1200, .inl (fun _ => 0)), .inl (.int, 1200, .inl (fun _ => 0)), .inl (.int, 600, .inl (fun _ => 0)), .inl (.int, 600, .inl (fun _ => 0)), .inl (.int, 600, .inl (fun _ => 0)), .inl (.int, 2200, .inl (fun _ => 0)), .inl (.int, 2200, .inl (fun _ => 0)), .inl (.int, 600, .inl (fun _ => 0)), .inl (.int, 1200, .inl (fun _ => 0)), .inl (.int, 600, .inl (fun _ => 0)), .inl (.int, 600, .inl (fun _ => 0)), .inl (.int, 600, .inl (fun _ => 0)), .inl (.int, 600, .inl (fun _ => 0)), .inl (.int, 600, .inl (fun _ => 0)), .inl (.int, 600, .inl (fun _ => 0)), .inl (.int, 600, .inl (fun _ => 0)), .inl (.int, 600, .inl (fun _ => 0)), .inl (.int, 600, .inl (fun _ => 0)), .inl (.int, 80, .inl (fun _ => 0)), .inl (.int, 800, .inl (fun _ => 0))]
set_option maxHeartbeats 4000000 in
theorem minit (hP : P.length = 64) : jEv jT0 24 (d + 1) jm_12_init_126 (0, [(0, .ref 64)], [], P ++ [.inr (11, [.null, .null, .null, .null, .null, .null, .null, .int 0, .int 0, .int 0, .int 0, .int 0, .int 0, .int 0, .null, .null, .null, .null, .null, .null, .null, .null, .null, .null, .null, .int 0, .int 0, .int 0, .int 0, .int 0, .int 0, .int 0, .int 0, .int 0, .int 0, .int 0, .int 0, .int 0, .int 0, .int 0, .int 0, .null, .null, .null, .null, .null, .null, .null, .null, .null, .null, .null, .null, .null, .null, .null, .null, .null, .null, .null, .null, .null, .null, .int 0])]) (.inl none, P ++ .inr (11, qmod) :: qarrs) := by
  refine jEv.steps 1 (s' := (1, [(0, .ref 64)], [.ref 64], _)) rfl ?_
  refine jEv.obj (z := 0) (as := [.ref 64]) (r0 := []) rfl ?_
  refine jEv.steps 2 (s' := (7, [(0, .ref 64)], [.int 48, .ref 64], _)) rfl ?_
  refine mstep (n := 48) (N := 48) (fs' := [.ref 65, .null, .null, .null, .null, .null, .null, .int 0, .int 0, .int 0, .int 0, .int 0, .int 0, .int 0, .null, .null, .null, .null, .null, .null, .null, .null, .null, .null, .null, .int 0, .int 0, .int 0, .int 0, .int 0, .int 0, .int 0, .int 0, .int 0, .int 0, .int 0, .int 0, .int 0, .int 0, .int 0, .int 0, .null, .null, .null, .null, .null, .null, .null, .null, .null, .null, .null, .null, .null, .null, .null, .null, .null, .null, .null, .null, .null, .null, .int 0]) (arrs' := [.inl (.int, 48, .inl (fun _ => 0))]) hP rfl rfl mf7 rfl rfl rfl rfl rfl ?_
  refine jEv.steps 2 (s' := (16, [(0, .ref 64)], [.int 624, .ref 64], _)) rfl ?_
  refine mstep (n := 624) (N := 624) (fs' := [.ref 65, .ref 66, .null, .null, .null, .null, .null, .int 0, .int 0, .int 0, .int 0, .int 0, .int 0, .int 0, .null, .null, .null, .null, .null, .null, .null, .null, .null, .null, .null, .int 0, .int 0, .int 0, .int 0, .int 0, .int 0, .int 0, .int 0, .int 0, .int 0, .int 0, .int 0, .int 0, .int 0, .int 0, .int 0, .null, .null, .null, .null, .null, .null, .null, .null, .null, .null, .null, .null, .null, .null, .null, .null, .null, .null, .null, .null, .null, .null, .int 0]) (arrs' := [.inl (.int, 48, .inl (fun _ => 0)), .inl (.int, 624, .inl (fun _ => 0))]) hP rfl rfl mf13 rfl rfl rfl rfl rfl ?_
  refine jEv.steps 2 (s' := (24, [(0, .ref 64)], [.int 12, .ref 64], _)) rfl ?_
  refine mstep (n := 12) (N := 12) (fs' := [.ref 65, .ref 66, .ref 67, .null, .null, .null, .null, .int 0, .int 0, .int 0, .int 0, .int 0, .int 0, .int 0, .null, .null, .null, .null, .null, .null, .null, .null, .null, .null, .null, .int 0, .int 0, .int 0, .int 0, .int 0, .int 0, .int 0, .int 0, .int 0, .int 0, .int 0, .int 0, .int 0, .int 0, .int 0, .int 0, .null, .null, .null, .null, .null, .null, .null, .null, .null, .null, .null, .null, .null, .null, .null, .null, .null, .null, .null, .null, .null, .null, .int 0]) (arrs' := [.inl (.int, 48, .inl (fun _ => 0)), .inl (.int, 624, .inl (fun _ => 0)), .inl (.int, 12, .inl (fun _ => 0))]) hP rfl rfl mf16 rfl rfl rfl rfl rfl ?_
  refine jEv.steps 2 (s' := (32, [(0, .ref 64)], [.int 8, .ref 64], _)) rfl ?_
  refine mstep (n := 8) (N := 8) (fs' := [.ref 65, .ref 66, .ref 67, .ref 68, .null, .null, .null, .int 0, .int 0, .int 0, .int 0, .int 0, .int 0, .int 0, .null, .null, .null, .null, .null, .null, .null, .null, .null, .null, .null, .int 0, .int 0, .int 0, .int 0, .int 0, .int 0, .int 0, .int 0, .int 0, .int 0, .int 0, .int 0, .int 0, .int 0, .int 0, .int 0, .null, .null, .null, .null, .null, .null, .null, .null, .null, .null, .null, .null, .null, .null, .null, .null, .null, .null, .null, .null, .null, .null, .int 0]) (arrs' := [.inl (.int, 48, .inl (fun _ => 0)), .inl (.int, 624, .inl (fun _ => 0)), .inl (.int, 12, .inl (fun _ => 0)), .inl (.int, 8, .inl (fun _ => 0))]) hP rfl rfl mf19 rfl rfl rfl rfl rfl ?_
  refine jEv.steps 2 (s' := (40, [(0, .ref 64)], [.int 8, .ref 64], _)) rfl ?_
  refine mstep (n := 8) (N := 8) (fs' := [.ref 65, .ref 66, .ref 67, .ref 68, .ref 69, .null, .null, .int 0, .int 0, .int 0, .int 0, .int 0, .int 0, .int 0, .null, .null, .null, .null, .null, .null, .null, .null, .null, .null, .null, .int 0, .int 0, .int 0, .int 0, .int 0, .int 0, .int 0, .int 0, .int 0, .int 0, .int 0, .int 0, .int 0, .int 0, .int 0, .int 0, .null, .null, .null, .null, .null, .null, .null, .null, .null, .null, .null, .null, .null, .null, .null, .null, .null, .null, .null, .null, .null, .null, .int 0]) (arrs' := [.inl (.int, 48, .inl (fun _ => 0)), .inl (.int, 624, .inl (fun _ => 0)), .inl (.int, 12, .inl (fun _ => 0)), .inl (.int, 8, .inl (fun _ => 0)), .inl (.int, 8, .inl (fun _ => 0))]) hP rfl rfl mf22 rfl rfl rfl rfl rfl ?_
  refine jEv.steps 2 (s' := (48, [(0, .ref 64)], [.int 26, .ref 64], _)) rfl ?_
  refine mstep (n := 26) (N := 26) (fs' := [.ref 65, .ref 66, .ref 67, .ref 68, .ref 69, .ref 70, .null, .int 0, .int 0, .int 0, .int 0, .int 0, .int 0, .int 0, .null, .null, .null, .null, .null, .null, .null, .null, .null, .null, .null, .int 0, .int 0, .int 0, .int 0, .int 0, .int 0, .int 0, .int 0, .int 0, .int 0, .int 0, .int 0, .int 0, .int 0, .int 0, .int 0, .null, .null, .null, .null, .null, .null, .null, .null, .null, .null, .null, .null, .null, .null, .null, .null, .null, .null, .null, .null, .null, .null, .int 0]) (arrs' := [.inl (.int, 48, .inl (fun _ => 0)), .inl (.int, 624, .inl (fun _ => 0)), .inl (.int, 12, .inl (fun _ => 0)), .inl (.int, 8, .inl (fun _ => 0)), .inl (.int, 8, .inl (fun _ => 0)), .inl (.int, 26, .inl (fun _ => 0))]) hP rfl rfl mf25 rfl rfl rfl rfl rfl ?_
  refine jEv.steps 2 (s' := (56, [(0, .ref 64)], [.int 26, .ref 64], _)) rfl ?_
  refine mstep (n := 26) (N := 26) (fs' := [.ref 65, .ref 66, .ref 67, .ref 68, .ref 69, .ref 70, .ref 71, .int 0, .int 0, .int 0, .int 0, .int 0, .int 0, .int 0, .null, .null, .null, .null, .null, .null, .null, .null, .null, .null, .null, .int 0, .int 0, .int 0, .int 0, .int 0, .int 0, .int 0, .int 0, .int 0, .int 0, .int 0, .int 0, .int 0, .int 0, .int 0, .int 0, .null, .null, .null, .null, .null, .null, .null, .null, .null, .null, .null, .null, .null, .null, .null, .null, .null, .null, .null, .null, .null, .null, .int 0]) (arrs' := [.inl (.int, 48, .inl (fun _ => 0)), .inl (.int, 624, .inl (fun _ => 0)), .inl (.int, 12, .inl (fun _ => 0)), .inl (.int, 8, .inl (fun _ => 0)), .inl (.int, 8, .inl (fun _ => 0)), .inl (.int, 26, .inl (fun _ => 0)), .inl (.int, 26, .inl (fun _ => 0))]) hP rfl rfl mf28 rfl rfl rfl rfl rfl ?_
  refine jEv.steps 2 (s' := (63, [(0, .ref 64)], [.int (-1), .ref 64], _)) rfl ?_
  refine mstepI (fs' := [.ref 65, .ref 66, .ref 67, .ref 68, .ref 69, .ref 70, .ref 71, .int 0, .int 0, .int (-1), .int 0, .int 0, .int 0, .int 0, .null, .null, .null, .null, .null, .null, .null, .null, .null, .null, .null, .int 0, .int 0, .int 0, .int 0, .int 0, .int 0, .int 0, .int 0, .int 0, .int 0, .int 0, .int 0, .int 0, .int 0, .int 0, .int 0, .null, .null, .null, .null, .null, .null, .null, .null, .null, .null, .null, .null, .null, .null, .null, .null, .null, .null, .null, .null, .null, .null, .int 0]) hP rfl mf31 rfl rfl ?_
  refine jEv.steps 2 (s' := (70, [(0, .ref 64)], [.int 24000, .ref 64], _)) rfl ?_
  refine mstep (n := 24000) (N := 24000) (fs' := [.ref 65, .ref 66, .ref 67, .ref 68, .ref 69, .ref 70, .ref 71, .int 0, .int 0, .int (-1), .int 0, .int 0, .int 0, .int 0, .ref 72, .null, .null, .null, .null, .null, .null, .null, .null, .null, .null, .int 0, .int 0, .int 0, .int 0, .int 0, .int 0, .int 0, .int 0, .int 0, .int 0, .int 0, .int 0, .int 0, .int 0, .int 0, .int 0, .null, .null, .null, .null, .null, .null, .null, .null, .null, .null, .null, .null, .null, .null, .null, .null, .null, .null, .null, .null, .null, .null, .int 0]) (arrs' := [.inl (.int, 48, .inl (fun _ => 0)), .inl (.int, 624, .inl (fun _ => 0)), .inl (.int, 12, .inl (fun _ => 0)), .inl (.int, 8, .inl (fun _ => 0)), .inl (.int, 8, .inl (fun _ => 0)), .inl (.int, 26, .inl (fun _ => 0)), .inl (.int, 26, .inl (fun _ => 0)), .inl (.int, 24000, .inl (fun _ => 0))]) hP rfl rfl mf35 rfl rfl rfl rfl rfl ?_
  refine jEv.steps 2 (s' := (79, [(0, .ref 64)], [.int 24000, .ref 64], _)) rfl ?_
  refine mstep (n := 24000) (N := 24000) (fs' := [.ref 65, .ref 66, .ref 67, .ref 68, .ref 69, .ref 70, .ref 71, .int 0, .int 0, .int (-1), .int 0, .int 0, .int 0, .int 0, .ref 72, .ref 73, .null, .null, .null, .null, .null, .null, .null, .null, .null, .int 0, .int 0, .int 0, .int 0, .int 0, .int 0, .int 0, .int 0, .int 0, .int 0, .int 0, .int 0, .int 0, .int 0, .int 0, .int 0, .null, .null, .null, .null, .null, .null, .null, .null, .null, .null, .null, .null, .null, .null, .null, .null, .null, .null, .null, .null, .null, .null, .int 0]) (arrs' := [.inl (.int, 48, .inl (fun _ => 0)), .inl (.int, 624, .inl (fun _ => 0)), .inl (.int, 12, .inl (fun _ => 0)), .inl (.int, 8, .inl (fun _ => 0)), .inl (.int, 8, .inl (fun _ => 0)), .inl (.int, 26, .inl (fun _ => 0)), .inl (.int, 26, .inl (fun _ => 0)), .inl (.int, 24000, .inl (fun _ => 0)), .inl (.int, 24000, .inl (fun _ => 0))]) hP rfl rfl mf38 rfl rfl rfl rfl rfl ?_
  refine jEv.steps 1 (s' := (85, [(0, .ref 64)], [.ref 64], _)) rfl ?_
  refine jEv.hp (i := .ldc 41) (len := 2) rfl rfl rfl rfl (jhp_ldc mc41) ?_
  refine mstep (n := 72000) (N := 72000) (fs' := [.ref 65, .ref 66, .ref 67, .ref 68, .ref 69, .ref 70, .ref 71, .int 0, .int 0, .int (-1), .int 0, .int 0, .int 0, .int 0, .ref 72, .ref 73, .ref 74, .null, .null, .null, .null, .null, .null, .null, .null, .int 0, .int 0, .int 0, .int 0, .int 0, .int 0, .int 0, .int 0, .int 0, .int 0, .int 0, .int 0, .int 0, .int 0, .int 0, .int 0, .null, .null, .null, .null, .null, .null, .null, .null, .null, .null, .null, .null, .null, .null, .null, .null, .null, .null, .null, .null, .null, .null, .int 0]) (arrs' := [.inl (.int, 48, .inl (fun _ => 0)), .inl (.int, 624, .inl (fun _ => 0)), .inl (.int, 12, .inl (fun _ => 0)), .inl (.int, 8, .inl (fun _ => 0)), .inl (.int, 8, .inl (fun _ => 0)), .inl (.int, 26, .inl (fun _ => 0)), .inl (.int, 26, .inl (fun _ => 0)), .inl (.int, 24000, .inl (fun _ => 0)), .inl (.int, 24000, .inl (fun _ => 0)), .inl (.int, 72000, .inl (fun _ => 0))]) hP rfl rfl mf42 rfl rfl rfl rfl rfl ?_
  refine jEv.steps 2 (s' := (96, [(0, .ref 64)], [.int 13000, .ref 64], _)) rfl ?_
  refine mstep (n := 13000) (N := 13000) (fs' := [.ref 65, .ref 66, .ref 67, .ref 68, .ref 69, .ref 70, .ref 71, .int 0, .int 0, .int (-1), .int 0, .int 0, .int 0, .int 0, .ref 72, .ref 73, .ref 74, .ref 75, .null, .null, .null, .null, .null, .null, .null, .int 0, .int 0, .int 0, .int 0, .int 0, .int 0, .int 0, .int 0, .int 0, .int 0, .int 0, .int 0, .int 0, .int 0, .int 0, .int 0, .null, .null, .null, .null, .null, .null, .null, .null, .null, .null, .null, .null, .null, .null, .null, .null, .null, .null, .null, .null, .null, .null, .int 0]) (arrs' := [.inl (.int, 48, .inl (fun _ => 0)), .inl (.int, 624, .inl (fun _ => 0)), .inl (.int, 12, .inl (fun _ => 0)), .inl (.int, 8, .inl (fun _ => 0)), .inl (.int, 8, .inl (fun _ => 0)), .inl (.int, 26, .inl (fun _ => 0)), .inl (.int, 26, .inl (fun _ => 0)), .inl (.int, 24000, .inl (fun _ => 0)), .inl (.int, 24000, .inl (fun _ => 0)), .inl (.int, 72000, .inl (fun _ => 0)), .inl (.int, 13000, .inl (fun _ => 0))]) hP rfl rfl mf45 rfl rfl rfl rfl rfl ?_
  refine jEv.steps 2 (s' := (105, [(0, .ref 64)], [.int 13000, .ref 64], _)) rfl ?_
  refine mstep (n := 13000) (N := 13000) (fs' := [.ref 65, .ref 66, .ref 67, .ref 68, .ref 69, .ref 70, .ref 71, .int 0, .int 0, .int (-1), .int 0, .int 0, .int 0, .int 0, .ref 72, .ref 73, .ref 74, .ref 75, .ref 76, .null, .null, .null, .null, .null, .null, .int 0, .int 0, .int 0, .int 0, .int 0, .int 0, .int 0, .int 0, .int 0, .int 0, .int 0, .int 0, .int 0, .int 0, .int 0, .int 0, .null, .null, .null, .null, .null, .null, .null, .null, .null, .null, .null, .null, .null, .null, .null, .null, .null, .null, .null, .null, .null, .null, .int 0]) (arrs' := [.inl (.int, 48, .inl (fun _ => 0)), .inl (.int, 624, .inl (fun _ => 0)), .inl (.int, 12, .inl (fun _ => 0)), .inl (.int, 8, .inl (fun _ => 0)), .inl (.int, 8, .inl (fun _ => 0)), .inl (.int, 26, .inl (fun _ => 0)), .inl (.int, 26, .inl (fun _ => 0)), .inl (.int, 24000, .inl (fun _ => 0)), .inl (.int, 24000, .inl (fun _ => 0)), .inl (.int, 72000, .inl (fun _ => 0)), .inl (.int, 13000, .inl (fun _ => 0)), .inl (.int, 13000, .inl (fun _ => 0))]) hP rfl rfl mf48 rfl rfl rfl rfl rfl ?_
  refine jEv.steps 2 (s' := (114, [(0, .ref 64)], [.int 13000, .ref 64], _)) rfl ?_
  refine mstep (n := 13000) (N := 13000) (fs' := [.ref 65, .ref 66, .ref 67, .ref 68, .ref 69, .ref 70, .ref 71, .int 0, .int 0, .int (-1), .int 0, .int 0, .int 0, .int 0, .ref 72, .ref 73, .ref 74, .ref 75, .ref 76, .ref 77, .null, .null, .null, .null, .null, .int 0, .int 0, .int 0, .int 0, .int 0, .int 0, .int 0, .int 0, .int 0, .int 0, .int 0, .int 0, .int 0, .int 0, .int 0, .int 0, .null, .null, .null, .null, .null, .null, .null, .null, .null, .null, .null, .null, .null, .null, .null, .null, .null, .null, .null, .null, .null, .null, .int 0]) (arrs' := [.inl (.int, 48, .inl (fun _ => 0)), .inl (.int, 624, .inl (fun _ => 0)), .inl (.int, 12, .inl (fun _ => 0)), .inl (.int, 8, .inl (fun _ => 0)), .inl (.int, 8, .inl (fun _ => 0)), .inl (.int, 26, .inl (fun _ => 0)), .inl (.int, 26, .inl (fun _ => 0)), .inl (.int, 24000, .inl (fun _ => 0)), .inl (.int, 24000, .inl (fun _ => 0)), .inl (.int, 72000, .inl (fun _ => 0)), .inl (.int, 13000, .inl (fun _ => 0)), .inl (.int, 13000, .inl (fun _ => 0)), .inl (.int, 13000, .inl (fun _ => 0))]) hP rfl rfl mf51 rfl rfl rfl rfl rfl ?_
  refine jEv.steps 2 (s' := (123, [(0, .ref 64)], [.int 14000, .ref 64], _)) rfl ?_
  refine mstep (n := 14000) (N := 14000) (fs' := [.ref 65, .ref 66, .ref 67, .ref 68, .ref 69, .ref 70, .ref 71, .int 0, .int 0, .int (-1), .int 0, .int 0, .int 0, .int 0, .ref 72, .ref 73, .ref 74, .ref 75, .ref 76, .ref 77, .ref 78, .null, .null, .null, .null, .int 0, .int 0, .int 0, .int 0, .int 0, .int 0, .int 0, .int 0, .int 0, .int 0, .int 0, .int 0, .int 0, .int 0, .int 0, .int 0, .null, .null, .null, .null, .null, .null, .null, .null, .null, .null, .null, .null, .null, .null, .null, .null, .null, .null, .null, .null, .null, .null, .int 0]) (arrs' := [.inl (.int, 48, .inl (fun _ => 0)), .inl (.int, 624, .inl (fun _ => 0)), .inl (.int, 12, .inl (fun _ => 0)), .inl (.int, 8, .inl (fun _ => 0)), .inl (.int, 8, .inl (fun _ => 0)), .inl (.int, 26, .inl (fun _ => 0)), .inl (.int, 26, .inl (fun _ => 0)), .inl (.int, 24000, .inl (fun _ => 0)), .inl (.int, 24000, .inl (fun _ => 0)), .inl (.int, 72000, .inl (fun _ => 0)), .inl (.int, 13000, .inl (fun _ => 0)), .inl (.int, 13000, .inl (fun _ => 0)), .inl (.int, 13000, .inl (fun _ => 0)), .inl (.int, 14000, .inl (fun _ => 0))]) hP rfl rfl mf54 rfl rfl rfl rfl rfl ?_
  refine jEv.steps 2 (s' := (132, [(0, .ref 64)], [.int 14000, .ref 64], _)) rfl ?_
  refine mstep (n := 14000) (N := 14000) (fs' := [.ref 65, .ref 66, .ref 67, .ref 68, .ref 69, .ref 70, .ref 71, .int 0, .int 0, .int (-1), .int 0, .int 0, .int 0, .int 0, .ref 72, .ref 73, .ref 74, .ref 75, .ref 76, .ref 77, .ref 78, .ref 79, .null, .null, .null, .int 0, .int 0, .int 0, .int 0, .int 0, .int 0, .int 0, .int 0, .int 0, .int 0, .int 0, .int 0, .int 0, .int 0, .int 0, .int 0, .null, .null, .null, .null, .null, .null, .null, .null, .null, .null, .null, .null, .null, .null, .null, .null, .null, .null, .null, .null, .null, .null, .int 0]) (arrs' := [.inl (.int, 48, .inl (fun _ => 0)), .inl (.int, 624, .inl (fun _ => 0)), .inl (.int, 12, .inl (fun _ => 0)), .inl (.int, 8, .inl (fun _ => 0)), .inl (.int, 8, .inl (fun _ => 0)), .inl (.int, 26, .inl (fun _ => 0)), .inl (.int, 26, .inl (fun _ => 0)), .inl (.int, 24000, .inl (fun _ => 0)), .inl (.int, 24000, .inl (fun _ => 0)), .inl (.int, 72000, .inl (fun _ => 0)), .inl (.int, 13000, .inl (fun _ => 0)), .inl (.int, 13000, .inl (fun _ => 0)), .inl (.int, 13000, .inl (fun _ => 0)), .inl (.int, 14000, .inl (fun _ => 0)), .inl (.int, 14000, .inl (fun _ => 0))]) hP rfl rfl mf57 rfl rfl rfl rfl rfl ?_
  refine jEv.steps 2 (s' := (141, [(0, .ref 64)], [.int 14000, .ref 64], _)) rfl ?_
  refine mstep (n := 14000) (N := 14000) (fs' := [.ref 65, .ref 66, .ref 67, .ref 68, .ref 69, .ref 70, .ref 71, .int 0, .int 0, .int (-1), .int 0, .int 0, .int 0, .int 0, .ref 72, .ref 73, .ref 74, .ref 75, .ref 76, .ref 77, .ref 78, .ref 79, .ref 80, .null, .null, .int 0, .int 0, .int 0, .int 0, .int 0, .int 0, .int 0, .int 0, .int 0, .int 0, .int 0, .int 0, .int 0, .int 0, .int 0, .int 0, .null, .null, .null, .null, .null, .null, .null, .null, .null, .null, .null, .null, .null, .null, .null, .null, .null, .null, .null, .null, .null, .null, .int 0]) (arrs' := [.inl (.int, 48, .inl (fun _ => 0)), .inl (.int, 624, .inl (fun _ => 0)), .inl (.int, 12, .inl (fun _ => 0)), .inl (.int, 8, .inl (fun _ => 0)), .inl (.int, 8, .inl (fun _ => 0)), .inl (.int, 26, .inl (fun _ => 0)), .inl (.int, 26, .inl (fun _ => 0)), .inl (.int, 24000, .inl (fun _ => 0)), .inl (.int, 24000, .inl (fun _ => 0)), .inl (.int, 72000, .inl (fun _ => 0)), .inl (.int, 13000, .inl (fun _ => 0)), .inl (.int, 13000, .inl (fun _ => 0)), .inl (.int, 13000, .inl (fun _ => 0)), .inl (.int, 14000, .inl (fun _ => 0)), .inl (.int, 14000, .inl (fun _ => 0)), .inl (.int, 14000, .inl (fun _ => 0))]) hP rfl rfl mf60 rfl rfl rfl rfl rfl ?_
  refine jEv.steps 2 (s' := (150, [(0, .ref 64)], [.int 14000, .ref 64], _)) rfl ?_
  refine mstep (n := 14000) (N := 14000) (fs' := [.ref 65, .ref 66, .ref 67, .ref 68, .ref 69, .ref 70, .ref 71, .int 0, .int 0, .int (-1), .int 0, .int 0, .int 0, .int 0, .ref 72, .ref 73, .ref 74, .ref 75, .ref 76, .ref 77, .ref 78, .ref 79, .ref 80, .ref 81, .null, .int 0, .int 0, .int 0, .int 0, .int 0, .int 0, .int 0, .int 0, .int 0, .int 0, .int 0, .int 0, .int 0, .int 0, .int 0, .int 0, .null, .null, .null, .null, .null, .null, .null, .null, .null, .null, .null, .null, .null, .null, .null, .null, .null, .null, .null, .null, .null, .null, .int 0]) (arrs' := [.inl (.int, 48, .inl (fun _ => 0)), .inl (.int, 624, .inl (fun _ => 0)), .inl (.int, 12, .inl (fun _ => 0)), .inl (.int, 8, .inl (fun _ => 0)), .inl (.int, 8, .inl (fun _ => 0)), .inl (.int, 26, .inl (fun _ => 0)), .inl (.int, 26, .inl (fun _ => 0)), .inl (.int, 24000, .inl (fun _ => 0)), .inl (.int, 24000, .inl (fun _ => 0)), .inl (.int, 72000, .inl (fun _ => 0)), .inl (.int, 13000, .inl (fun _ => 0)), .inl (.int, 13000, .inl (fun _ => 0)), .inl (.int, 13000, .inl (fun _ => 0)), .inl (.int, 14000, .inl (fun _ => 0)), .inl (.int, 14000, .inl (fun _ => 0)), .inl (.int, 14000, .inl (fun _ => 0)), .inl (.int, 14000, .inl (fun _ => 0))]) hP rfl rfl mf63 rfl rfl rfl rfl rfl ?_
  refine jEv.steps 2 (s' := (159, [(0, .ref 64)], [.int 14000, .ref 64], _)) rfl ?_
  refine mstep (n := 14000) (N := 14000) (fs' := [.ref 65, .ref 66, .ref 67, .ref 68, .ref 69, .ref 70, .ref 71, .int 0, .int 0, .int (-1), .int 0, .int 0, .int 0, .int 0, .ref 72, .ref 73, .ref 74, .ref 75, .ref 76, .ref 77, .ref 78, .ref 79, .ref 80, .ref 81, .ref 82, .int 0, .int 0, .int 0, .int 0, .int 0, .int 0, .int 0, .int 0, .int 0, .int 0, .int 0, .int 0, .int 0, .int 0, .int 0, .int 0, .null, .null, .null, .null, .null, .null, .null, .null, .null, .null, .null, .null, .null, .null, .null, .null, .null, .null, .null, .null, .null, .null, .int 0]) (arrs' := [.inl (.int, 48, .inl (fun _ => 0)), .inl (.int, 624, .inl (fun _ => 0)), .inl (.int, 12, .inl (fun _ => 0)), .inl (.int, 8, .inl (fun _ => 0)), .inl (.int, 8, .inl (fun _ => 0)), .inl (.int, 26, .inl (fun _ => 0)), .inl (.int, 26, .inl (fun _ => 0)), .inl (.int, 24000, .inl (fun _ => 0)), .inl (.int, 24000, .inl (fun _ => 0)), .inl (.int, 72000, .inl (fun _ => 0)), .inl (.int, 13000, .inl (fun _ => 0)), .inl (.int, 13000, .inl (fun _ => 0)), .inl (.int, 13000, .inl (fun _ => 0)), .inl (.int, 14000, .inl (fun _ => 0)), .inl (.int, 14000, .inl (fun _ => 0)), .inl (.int, 14000, .inl (fun _ => 0)), .inl (.int, 14000, .inl (fun _ => 0)), .inl (.int, 14000, .inl (fun _ => 0))]) hP rfl rfl mf66 rfl rfl rfl rfl rfl ?_
  refine jEv.steps 2 (s' := (168, [(0, .ref 64)], [.int 6000, .ref 64], _)) rfl ?_
  refine mstep (n := 6000) (N := 6000) (fs' := [.ref 65, .ref 66, .ref 67, .ref 68, .ref 69, .ref 70, .ref 71, .int 0, .int 0, .int (-1), .int 0, .int 0, .int 0, .int 0, .ref 72, .ref 73, .ref 74, .ref 75, .ref 76, .ref 77, .ref 78, .ref 79, .ref 80, .ref 81, .ref 82, .int 0, .int 0, .int 0, .int 0, .int 0, .int 0, .int 0, .int 0, .int 0, .int 0, .int 0, .int 0, .int 0, .int 0, .int 0, .int 0, .ref 83, .null, .null, .null, .null, .null, .null, .null, .null, .null, .null, .null, .null, .null, .null, .null, .null, .null, .null, .null, .null, .null, .int 0]) (arrs' := [.inl (.int, 48, .inl (fun _ => 0)), .inl (.int, 624, .inl (fun _ => 0)), .inl (.int, 12, .inl (fun _ => 0)), .inl (.int, 8, .inl (fun _ => 0)), .inl (.int, 8, .inl (fun _ => 0)), .inl (.int, 26, .inl (fun _ => 0)), .inl (.int, 26, .inl (fun _ => 0)), .inl (.int, 24000, .inl (fun _ => 0)), .inl (.int, 24000, .inl (fun _ => 0)), .inl (.int, 72000, .inl (fun _ => 0)), .inl (.int, 13000, .inl (fun _ => 0)), .inl (.int, 13000, .inl (fun _ => 0)), .inl (.int, 13000, .inl (fun _ => 0)), .inl (.int, 14000, .inl (fun _ => 0)), .inl (.int, 14000, .inl (fun _ => 0)), .inl (.int, 14000, .inl (fun _ => 0)), .inl (.int, 14000, .inl (fun _ => 0)), .inl (.int, 14000, .inl (fun _ => 0)), .inl (.int, 6000, .inl (fun _ => 0))]) hP rfl rfl mf69 rfl rfl rfl rfl rfl ?_
  refine jEv.steps 2 (s' := (177, [(0, .ref 64)], [.int 6000, .ref 64], _)) rfl ?_
  refine mstep (n := 6000) (N := 6000) (fs' := [.ref 65, .ref 66, .ref 67, .ref 68, .ref 69, .ref 70, .ref 71, .int 0, .int 0, .int (-1), .int 0, .int 0, .int 0, .int 0, .ref 72, .ref 73, .ref 74, .ref 75, .ref 76, .ref 77, .ref 78, .ref 79, .ref 80, .ref 81, .ref 82, .int 0, .int 0, .int 0, .int 0, .int 0, .int 0, .int 0, .int 0, .int 0, .int 0, .int 0, .int 0, .int 0, .int 0, .int 0, .int 0, .ref 83, .ref 84, .null, .null, .null, .null, .null, .null, .null, .null, .null, .null, .null, .null, .null, .null, .null, .null, .null, .null, .null, .null, .int 0]) (arrs' := [.inl (.int, 48, .inl (fun _ => 0)), .inl (.int, 624, .inl (fun _ => 0)), .inl (.int, 12, .inl (fun _ => 0)), .inl (.int, 8, .inl (fun _ => 0)), .inl (.int, 8, .inl (fun _ => 0)), .inl (.int, 26, .inl (fun _ => 0)), .inl (.int, 26, .inl (fun _ => 0)), .inl (.int, 24000, .inl (fun _ => 0)), .inl (.int, 24000, .inl (fun _ => 0)), .inl (.int, 72000, .inl (fun _ => 0)), .inl (.int, 13000, .inl (fun _ => 0)), .inl (.int, 13000, .inl (fun _ => 0)), .inl (.int, 13000, .inl (fun _ => 0)), .inl (.int, 14000, .inl (fun _ => 0)), .inl (.int, 14000, .inl (fun _ => 0)), .inl (.int, 14000, .inl (fun _ => 0)), .inl (.int, 14000, .inl (fun _ => 0)), .inl (.int, 14000, .inl (fun _ => 0)), .inl (.int, 6000, .inl (fun _ => 0)), .inl (.int, 6000, .inl (fun _ => 0))]) hP rfl rfl mf72 rfl rfl rfl rfl rfl ?_
  refine jEv.steps 2 (s' := (186, [(0, .ref 64)], [.int 1200, .ref 64], _)) rfl ?_
  refine mstep (n := 1200) (N := 1200) (fs' := [.ref 65, .ref 66, .ref 67, .ref 68, .ref 69, .ref 70, .ref 71, .int 0, .int 0, .int (-1), .int 0, .int 0, .int 0, .int 0, .ref 72, .ref 73, .ref 74, .ref 75, .ref 76, .ref 77, .ref 78, .ref 79, .ref 80, .ref 81, .ref 82, .int 0, .int 0, .int 0, .int 0, .int 0, .int 0, .int 0, .int 0, .int 0, .int 0, .int 0, .int 0, .int 0, .int 0, .int 0, .int 0, .ref 83, .ref 84, .ref 85, .null, .null, .null, .null, .null, .null, .null, .null, .null, .null, .null, .null, .null, .null, .null, .null, .null, .null, .null, .int 0]) (arrs' := [.inl (.int, 48, .inl (fun _ => 0)), .inl (.int, 624, .inl (fun _ => 0)), .inl (.int, 12, .inl (fun _ => 0)), .inl (.int, 8, .inl (fun _ => 0)), .inl (.int, 8, .inl (fun _ => 0)), .inl (.int, 26, .inl (fun _ => 0)), .inl (.int, 26, .inl (fun _ => 0)), .inl (.int, 24000, .inl (fun _ => 0)), .inl (.int, 24000, .inl (fun _ => 0)), .inl (.int, 72000, .inl (fun _ => 0)), .inl (.int, 13000, .inl (fun _ => 0)), .inl (.int, 13000, .inl (fun _ => 0)), .inl (.int, 13000, .inl (fun _ => 0)), .inl (.int, 14000, .inl (fun _ => 0)), .inl (.int, 14000, .inl (fun _ => 0)), .inl (.int, 14000, .inl (fun _ => 0)), .inl (.int, 14000, .inl (fun _ => 0)), .inl (.int, 14000, .inl (fun _ => 0)), .inl (.int, 6000, .inl (fun _ => 0)), .inl (.int, 6000, .inl (fun _ => 0)), .inl (.int, 1200, .inl (fun _ => 0))]) hP rfl rfl mf75 rfl rfl rfl rfl rfl ?_
  refine jEv.steps 2 (s' := (195, [(0, .ref 64)], [.int 1200, .ref 64], _)) rfl ?_
  refine mstep (n := 1200) (N := 1200) (fs' := [.ref 65, .ref 66, .ref 67, .ref 68, .ref 69, .ref 70, .ref 71, .int 0, .int 0, .int (-1), .int 0, .int 0, .int 0, .int 0, .ref 72, .ref 73, .ref 74, .ref 75, .ref 76, .ref 77, .ref 78, .ref 79, .ref 80, .ref 81, .ref 82, .int 0, .int 0, .int 0, .int 0, .int 0, .int 0, .int 0, .int 0, .int 0, .int 0, .int 0, .int 0, .int 0, .int 0, .int 0, .int 0, .ref 83, .ref 84, .ref 85, .ref 86, .null, .null, .null, .null, .null, .null, .null, .null, .null, .null, .null, .null, .null, .null, .null, .null, .null, .null, .int 0]) (arrs' := [.inl (.int, 48, .inl (fun _ => 0)), .inl (.int, 624, .inl (fun _ => 0)), .inl (.int, 12, .inl (fun _ => 0)), .inl (.int, 8, .inl (fun _ => 0)), .inl (.int, 8, .inl (fun _ => 0)), .inl (.int, 26, .inl (fun _ => 0)), .inl (.int, 26, .inl (fun _ => 0)), .inl (.int, 24000, .inl (fun _ => 0)), .inl (.int, 24000, .inl (fun _ => 0)), .inl (.int, 72000, .inl (fun _ => 0)), .inl (.int, 13000, .inl (fun _ => 0)), .inl (.int, 13000, .inl (fun _ => 0)), .inl (.int, 13000, .inl (fun _ => 0)), .inl (.int, 14000, .inl (fun _ => 0)), .inl (.int, 14000, .inl (fun _ => 0)), .inl (.int, 14000, .inl (fun _ => 0)), .inl (.int, 14000, .inl (fun _ => 0)), .inl (.int, 14000, .inl (fun _ => 0)), .inl (.int, 6000, .inl (fun _ => 0)), .inl (.int, 6000, .inl (fun _ => 0)), .inl (.int, 1200, .inl (fun _ => 0)), .inl (.int, 1200, .inl (fun _ => 0))]) hP rfl rfl mf78 rfl rfl rfl rfl rfl ?_
  refine jEv.steps 2 (s' := (204, [(0, .ref 64)], [.int 600, .ref 64], _)) rfl ?_
  refine mstep (n := 600) (N := 600) (fs' := [.ref 65, .ref 66, .ref 67, .ref 68, .ref 69, .ref 70, .ref 71, .int 0, .int 0, .int (-1), .int 0, .int 0, .int 0, .int 0, .ref 72, .ref 73, .ref 74, .ref 75, .ref 76, .ref 77, .ref 78, .ref 79, .ref 80, .ref 81, .ref 82, .int 0, .int 0, .int 0, .int 0, .int 0, .int 0, .int 0, .int 0, .int 0, .int 0, .int 0, .int 0, .int 0, .int 0, .int 0, .int 0, .ref 83, .ref 84, .ref 85, .ref 86, .ref 87, .null, .null, .null, .null, .null, .null, .null, .null, .null, .null, .null, .null, .null, .null, .null, .null, .null, .int 0]) (arrs' := [.inl (.int, 48, .inl (fun _ => 0)), .inl (.int, 624, .inl (fun _ => 0)), .inl (.int, 12, .inl (fun _ => 0)), .inl (.int, 8, .inl (fun _ => 0)), .inl (.int, 8, .inl (fun _ => 0)), .inl (.int, 26, .inl (fun _ => 0)), .inl (.int, 26, .inl (fun _ => 0)), .inl (.int, 24000, .inl (fun _ => 0)), .inl (.int, 24000, .inl (fun _ => 0)), .inl (.int, 72000, .inl (fun _ => 0)), .inl (.int, 13000, .inl (fun _ => 0)), .inl (.int, 13000, .inl (fun _ => 0)), .inl (.int, 13000, .inl (fun _ => 0)), .inl (.int, 14000, .inl (fun _ => 0)), .inl (.int, 14000, .inl (fun _ => 0)), .inl (.int, 14000, .inl (fun _ => 0)), .inl (.int, 14000, .inl (fun _ => 0)), .inl (.int, 14000, .inl (fun _ => 0)), .inl (.int, 6000, .inl (fun _ => 0)), .inl (.int, 6000, .inl (fun _ => 0)), .inl (.int, 1200, .inl (fun _ => 0)), .inl (.int, 1200, .inl (fun _ => 0)), .inl (.int, 600, .inl (fun _ => 0))]) hP rfl rfl mf81 rfl rfl rfl rfl rfl ?_
  refine jEv.steps 2 (s' := (213, [(0, .ref 64)], [.int 600, .ref 64], _)) rfl ?_
  refine mstep (n := 600) (N := 600) (fs' := [.ref 65, .ref 66, .ref 67, .ref 68, .ref 69, .ref 70, .ref 71, .int 0, .int 0, .int (-1), .int 0, .int 0, .int 0, .int 0, .ref 72, .ref 73, .ref 74, .ref 75, .ref 76, .ref 77, .ref 78, .ref 79, .ref 80, .ref 81, .ref 82, .int 0, .int 0, .int 0, .int 0, .int 0, .int 0, .int 0, .int 0, .int 0, .int 0, .int 0, .int 0, .int 0, .int 0, .int 0, .int 0, .ref 83, .ref 84, .ref 85, .ref 86, .ref 87, .ref 88, .null, .null, .null, .null, .null, .null, .null, .null, .null, .null, .null, .null, .null, .null, .null, .null, .int 0]) (arrs' := [.inl (.int, 48, .inl (fun _ => 0)), .inl (.int, 624, .inl (fun _ => 0)), .inl (.int, 12, .inl (fun _ => 0)), .inl (.int, 8, .inl (fun _ => 0)), .inl (.int, 8, .inl (fun _ => 0)), .inl (.int, 26, .inl (fun _ => 0)), .inl (.int, 26, .inl (fun _ => 0)), .inl (.int, 24000, .inl (fun _ => 0)), .inl (.int, 24000, .inl (fun _ => 0)), .inl (.int, 72000, .inl (fun _ => 0)), .inl (.int, 13000, .inl (fun _ => 0)), .inl (.int, 13000, .inl (fun _ => 0)), .inl (.int, 13000, .inl (fun _ => 0)), .inl (.int, 14000, .inl (fun _ => 0)), .inl (.int, 14000, .inl (fun _ => 0)), .inl (.int, 14000, .inl (fun _ => 0)), .inl (.int, 14000, .inl (fun _ => 0)), .inl (.int, 14000, .inl (fun _ => 0)), .inl (.int, 6000, .inl (fun _ => 0)), .inl (.int, 6000, .inl (fun _ => 0)), .inl (.int, 1200, .inl (fun _ => 0)), .inl (.int, 1200, .inl (fun _ => 0)), .inl (.int, 600, .inl (fun _ => 0)), .inl (.int, 600, .inl (fun _ => 0))]) hP rfl rfl mf84 rfl rfl rfl rfl rfl ?_
  refine jEv.steps 2 (s' := (222, [(0, .ref 64)], [.int 600, .ref 64], _)) rfl ?_
  refine mstep (n := 600) (N := 600) (fs' := [.ref 65, .ref 66, .ref 67, .ref 68, .ref 69, .ref 70, .ref 71, .int 0, .int 0, .int (-1), .int 0, .int 0, .int 0, .int 0, .ref 72, .ref 73, .ref 74, .ref 75, .ref 76, .ref 77, .ref 78, .ref 79, .ref 80, .ref 81, .ref 82, .int 0, .int 0, .int 0, .int 0, .int 0, .int 0, .int 0, .int 0, .int 0, .int 0, .int 0, .int 0, .int 0, .int 0, .int 0, .int 0, .ref 83, .ref 84, .ref 85, .ref 86, .ref 87, .ref 88, .ref 89, .null, .null, .null, .null, .null, .null, .null, .null, .null, .null, .null, .null, .null, .null, .null, .int 0]) (arrs' := [.inl (.int, 48, .inl (fun _ => 0)), .inl (.int, 624, .inl (fun _ => 0)), .inl (.int, 12, .inl (fun _ => 0)), .inl (.int, 8, .inl (fun _ => 0)), .inl (.int, 8, .inl (fun _ => 0)), .inl (.int, 26, .inl (fun _ => 0)), .inl (.int, 26, .inl (fun _ => 0)), .inl (.int, 24000, .inl (fun _ => 0)), .inl (.int, 24000, .inl (fun _ => 0)), .inl (.int, 72000, .inl (fun _ => 0)), .inl (.int, 13000, .inl (fun _ => 0)), .inl (.int, 13000, .inl (fun _ => 0)), .inl (.int, 13000, .inl (fun _ => 0)), .inl (.int, 14000, .inl (fun _ => 0)), .inl (.int, 14000, .inl (fun _ => 0)), .inl (.int, 14000, .inl (fun _ => 0)), .inl (.int, 14000, .inl (fun _ => 0)), .inl (.int, 14000, .inl (fun _ => 0)), .inl (.int, 6000, .inl (fun _ => 0)), .inl (.int, 6000, .inl (fun _ => 0)), .inl (.int, 1200, .inl (fun _ => 0)), .inl (.int, 1200, .inl (fun _ => 0)), .inl (.int, 600, .inl (fun _ => 0)), .inl (.int, 600, .inl (fun _ => 0)), .inl (.int, 600, .inl (fun _ => 0))]) hP rfl rfl mf87 rfl rfl rfl rfl rfl ?_
  refine jEv.steps 2 (s' := (231, [(0, .ref 64)], [.int 2200, .ref 64], _)) rfl ?_
  refine mstep (n := 2200) (N := 2200) (fs' := [.ref 65, .ref 66, .ref 67, .ref 68, .ref 69, .ref 70, .ref 71, .int 0, .int 0, .int (-1), .int 0, .int 0, .int 0, .int 0, .ref 72, .ref 73, .ref 74, .ref 75, .ref 76, .ref 77, .ref 78, .ref 79, .ref 80, .ref 81, .ref 82, .int 0, .int 0, .int 0, .int 0, .int 0, .int 0, .int 0, .int 0, .int 0, .int 0, .int 0, .int 0, .int 0, .int 0, .int 0, .int 0, .ref 83, .ref 84, .ref 85, .ref 86, .ref 87, .ref 88, .ref 89, .ref 90, .null, .null, .null, .null, .null, .null, .null, .null, .null, .null, .null, .null, .null, .null, .int 0]) (arrs' := [.inl (.int, 48, .inl (fun _ => 0)), .inl (.int, 624, .inl (fun _ => 0)), .inl (.int, 12, .inl (fun _ => 0)), .inl (.int, 8, .inl (fun _ => 0)), .inl (.int, 8, .inl (fun _ => 0)), .inl (.int, 26, .inl (fun _ => 0)), .inl (.int, 26, .inl (fun _ => 0)), .inl (.int, 24000, .inl (fun _ => 0)), .inl (.int, 24000, .inl (fun _ => 0)), .inl (.int, 72000, .inl (fun _ => 0)), .inl (.int, 13000, .inl (fun _ => 0)), .inl (.int, 13000, .inl (fun _ => 0)), .inl (.int, 13000, .inl (fun _ => 0)), .inl (.int, 14000, .inl (fun _ => 0)), .inl (.int, 14000, .inl (fun _ => 0)), .inl (.int, 14000, .inl (fun _ => 0)), .inl (.int, 14000, .inl (fun _ => 0)), .inl (.int, 14000, .inl (fun _ => 0)), .inl (.int, 6000, .inl (fun _ => 0)), .inl (.int, 6000, .inl (fun _ => 0)), .inl (.int, 1200, .inl (fun _ => 0)), .inl (.int, 1200, .inl (fun _ => 0)), .inl (.int, 600, .inl (fun _ => 0)), .inl (.int, 600, .inl (fun _ => 0)), .inl (.int, 600, .inl (fun _ => 0)), .inl (.int, 2200, .inl (fun _ => 0))]) hP rfl rfl mf90 rfl rfl rfl rfl rfl ?_
  refine jEv.steps 2 (s' := (240, [(0, .ref 64)], [.int 2200, .ref 64], _)) rfl ?_
  refine mstep (n := 2200) (N := 2200) (fs' := [.ref 65, .ref 66, .ref 67, .ref 68, .ref 69, .ref 70, .ref 71, .int 0, .int 0, .int (-1), .int 0, .int 0, .int 0, .int 0, .ref 72, .ref 73, .ref 74, .ref 75, .ref 76, .ref 77, .ref 78, .ref 79, .ref 80, .ref 81, .ref 82, .int 0, .int 0, .int 0, .int 0, .int 0, .int 0, .int 0, .int 0, .int 0, .int 0, .int 0, .int 0, .int 0, .int 0, .int 0, .int 0, .ref 83, .ref 84, .ref 85, .ref 86, .ref 87, .ref 88, .ref 89, .ref 90, .ref 91, .null, .null, .null, .null, .null, .null, .null, .null, .null, .null, .null, .null, .null, .int 0]) (arrs' := [.inl (.int, 48, .inl (fun _ => 0)), .inl (.int, 624, .inl (fun _ => 0)), .inl (.int, 12, .inl (fun _ => 0)), .inl (.int, 8, .inl (fun _ => 0)), .inl (.int, 8, .inl (fun _ => 0)), .inl (.int, 26, .inl (fun _ => 0)), .inl (.int, 26, .inl (fun _ => 0)), .inl (.int, 24000, .inl (fun _ => 0)), .inl (.int, 24000, .inl (fun _ => 0)), .inl (.int, 72000, .inl (fun _ => 0)), .inl (.int, 13000, .inl (fun _ => 0)), .inl (.int, 13000, .inl (fun _ => 0)), .inl (.int, 13000, .inl (fun _ => 0)), .inl (.int, 14000, .inl (fun _ => 0)), .inl (.int, 14000, .inl (fun _ => 0)), .inl (.int, 14000, .inl (fun _ => 0)), .inl (.int, 14000, .inl (fun _ => 0)), .inl (.int, 14000, .inl (fun _ => 0)), .inl (.int, 6000, .inl (fun _ => 0)), .inl (.int, 6000, .inl (fun _ => 0)), .inl (.int, 1200, .inl (fun _ => 0)), .inl (.int, 1200, .inl (fun _ => 0)), .inl (.int, 600, .inl (fun _ => 0)), .inl (.int, 600, .inl (fun _ => 0)), .inl (.int, 600, .inl (fun _ => 0)), .inl (.int, 2200, .inl (fun _ => 0)), .inl (.int, 2200, .inl (fun _ => 0))]) hP rfl rfl mf93 rfl rfl rfl rfl rfl ?_
  refine jEv.steps 2 (s' := (249, [(0, .ref 64)], [.int 600, .ref 64], _)) rfl ?_
  refine mstep (n := 600) (N := 600) (fs' := [.ref 65, .ref 66, .ref 67, .ref 68, .ref 69, .ref 70, .ref 71, .int 0, .int 0, .int (-1), .int 0, .int 0, .int 0, .int 0, .ref 72, .ref 73, .ref 74, .ref 75, .ref 76, .ref 77, .ref 78, .ref 79, .ref 80, .ref 81, .ref 82, .int 0, .int 0, .int 0, .int 0, .int 0, .int 0, .int 0, .int 0, .int 0, .int 0, .int 0, .int 0, .int 0, .int 0, .int 0, .int 0, .ref 83, .ref 84, .ref 85, .ref 86, .ref 87, .ref 88, .ref 89, .ref 90, .ref 91, .ref 92, .null, .null, .null, .null, .null, .null, .null, .null, .null, .null, .null, .null, .int 0]) (arrs' := [.inl (.int, 48, .inl (fun _ => 0)), .inl (.int, 624, .inl (fun _ => 0)), .inl (.int, 12, .inl (fun _ => 0)), .inl (.int, 8, .inl (fun _ => 0)), .inl (.int, 8, .inl (fun _ => 0)), .inl (.int, 26, .inl (fun _ => 0)), .inl (.int, 26, .inl (fun _ => 0)), .inl (.int, 24000, .inl (fun _ => 0)), .inl (.int, 24000, .inl (fun _ => 0)), .inl (.int, 72000, .inl (fun _ => 0)), .inl (.int, 13000, .inl (fun _ => 0)), .inl (.int, 13000, .inl (fun _ => 0)), .inl (.int, 13000, .inl (fun _ => 0)), .inl (.int, 14000, .inl (fun _ => 0)), .inl (.int, 14000, .inl (fun _ => 0)), .inl (.int, 14000, .inl (fun _ => 0)), .inl (.int, 14000, .inl (fun _ => 0)), .inl (.int, 14000, .inl (fun _ => 0)), .inl (.int, 6000, .inl (fun _ => 0)), .inl (.int, 6000, .inl (fun _ => 0)), .inl (.int, 1200, .inl (fun _ => 0)), .inl (.int, 1200, .inl (fun _ => 0)), .inl (.int, 600, .inl (fun _ => 0)), .inl (.int, 600, .inl (fun _ => 0)), .inl (.int, 600, .inl (fun _ => 0)), .inl (.int, 2200, .inl (fun _ => 0)), .inl (.int, 2200, .inl (fun _ => 0)), .inl (.int, 600, .inl (fun _ => 0))]) hP rfl rfl mf96 rfl rfl rfl rfl rfl ?_
  refine jEv.steps 2 (s' := (258, [(0, .ref 64)], [.int 1200, .ref 64], _)) rfl ?_
  refine mstep (n := 1200) (N := 1200) (fs' := [.ref 65, .ref 66, .ref 67, .ref 68, .ref 69, .ref 70, .ref 71, .int 0, .int 0, .int (-1), .int 0, .int 0, .int 0, .int 0, .ref 72, .ref 73, .ref 74, .ref 75, .ref 76, .ref 77, .ref 78, .ref 79, .ref 80, .ref 81, .ref 82, .int 0, .int 0, .int 0, .int 0, .int 0, .int 0, .int 0, .int 0, .int 0, .int 0, .int 0, .int 0, .int 0, .int 0, .int 0, .int 0, .ref 83, .ref 84, .ref 85, .ref 86, .ref 87, .ref 88, .ref 89, .ref 90, .ref 91, .ref 92, .ref 93, .null, .null, .null, .null, .null, .null, .null, .null, .null, .null, .null, .int 0]) (arrs' := [.inl (.int, 48, .inl (fun _ => 0)), .inl (.int, 624, .inl (fun _ => 0)), .inl (.int, 12, .inl (fun _ => 0)), .inl (.int, 8, .inl (fun _ => 0)), .inl (.int, 8, .inl (fun _ => 0)), .inl (.int, 26, .inl (fun _ => 0)), .inl (.int, 26, .inl (fun _ => 0)), .inl (.int, 24000, .inl (fun _ => 0)), .inl (.int, 24000, .inl (fun _ => 0)), .inl (.int, 72000, .inl (fun _ => 0)), .inl (.int, 13000, .inl (fun _ => 0)), .inl (.int, 13000, .inl (fun _ => 0)), .inl (.int, 13000, .inl (fun _ => 0)), .inl (.int, 14000, .inl (fun _ => 0)), .inl (.int, 14000, .inl (fun _ => 0)), .inl (.int, 14000, .inl (fun _ => 0)), .inl (.int, 14000, .inl (fun _ => 0)), .inl (.int, 14000, .inl (fun _ => 0)), .inl (.int, 6000, .inl (fun _ => 0)), .inl (.int, 6000, .inl (fun _ => 0)), .inl (.int, 1200, .inl (fun _ => 0)), .inl (.int, 1200, .inl (fun _ => 0)), .inl (.int, 600, .inl (fun _ => 0)), .inl (.int, 600, .inl (fun _ => 0)), .inl (.int, 600, .inl (fun _ => 0)), .inl (.int, 2200, .inl (fun _ => 0)), .inl (.int, 2200, .inl (fun _ => 0)), .inl (.int, 600, .inl (fun _ => 0)), .inl (.int, 1200, .inl (fun _ => 0))]) hP rfl rfl mf99 rfl rfl rfl rfl rfl ?_
  refine jEv.steps 2 (s' := (267, [(0, .ref 64)], [.int 600, .ref 64], _)) rfl ?_
  refine mstep (n := 600) (N := 600) (fs' := [.ref 65, .ref 66, .ref 67, .ref 68, .ref 69, .ref 70, .ref 71, .int 0, .int 0, .int (-1), .int 0, .int 0, .int 0, .int 0, .ref 72, .ref 73, .ref 74, .ref 75, .ref 76, .ref 77, .ref 78, .ref 79, .ref 80, .ref 81, .ref 82, .int 0, .int 0, .int 0, .int 0, .int 0, .int 0, .int 0, .int 0, .int 0, .int 0, .int 0, .int 0, .int 0, .int 0, .int 0, .int 0, .ref 83, .ref 84, .ref 85, .ref 86, .ref 87, .ref 88, .ref 89, .ref 90, .ref 91, .ref 92, .ref 93, .ref 94, .null, .null, .null, .null, .null, .null, .null, .null, .null, .null, .int 0]) (arrs' := [.inl (.int, 48, .inl (fun _ => 0)), .inl (.int, 624, .inl (fun _ => 0)), .inl (.int, 12, .inl (fun _ => 0)), .inl (.int, 8, .inl (fun _ => 0)), .inl (.int, 8, .inl (fun _ => 0)), .inl (.int, 26, .inl (fun _ => 0)), .inl (.int, 26, .inl (fun _ => 0)), .inl (.int, 24000, .inl (fun _ => 0)), .inl (.int, 24000, .inl (fun _ => 0)), .inl (.int, 72000, .inl (fun _ => 0)), .inl (.int, 13000, .inl (fun _ => 0)), .inl (.int, 13000, .inl (fun _ => 0)), .inl (.int, 13000, .inl (fun _ => 0)), .inl (.int, 14000, .inl (fun _ => 0)), .inl (.int, 14000, .inl (fun _ => 0)), .inl (.int, 14000, .inl (fun _ => 0)), .inl (.int, 14000, .inl (fun _ => 0)), .inl (.int, 14000, .inl (fun _ => 0)), .inl (.int, 6000, .inl (fun _ => 0)), .inl (.int, 6000, .inl (fun _ => 0)), .inl (.int, 1200, .inl (fun _ => 0)), .inl (.int, 1200, .inl (fun _ => 0)), .inl (.int, 600, .inl (fun _ => 0)), .inl (.int, 600, .inl (fun _ => 0)), .inl (.int, 600, .inl (fun _ => 0)), .inl (.int, 2200, .inl (fun _ => 0)), .inl (.int, 2200, .inl (fun _ => 0)), .inl (.int, 600, .inl (fun _ => 0)), .inl (.int, 1200, .inl (fun _ => 0)), .inl (.int, 600, .inl (fun _ => 0))]) hP rfl rfl mf102 rfl rfl rfl rfl rfl ?_
  refine jEv.steps 2 (s' := (276, [(0, .ref 64)], [.int 600, .ref 64], _)) rfl ?_
  refine mstep (n := 600) (N := 600) (fs' := [.ref 65, .ref 66, .ref 67, .ref 68, .ref 69, .ref 70, .ref 71, .int 0, .int 0, .int (-1), .int 0, .int 0, .int 0, .int 0, .ref 72, .ref 73, .ref 74, .ref 75, .ref 76, .ref 77, .ref 78, .ref 79, .ref 80, .ref 81, .ref 82, .int 0, .int 0, .int 0, .int 0, .int 0, .int 0, .int 0, .int 0, .int 0, .int 0, .int 0, .int 0, .int 0, .int 0, .int 0, .int 0, .ref 83, .ref 84, .ref 85, .ref 86, .ref 87, .ref 88, .ref 89, .ref 90, .ref 91, .ref 92, .ref 93, .ref 94, .ref 95, .null, .null, .null, .null, .null, .null, .null, .null, .null, .int 0]) (arrs' := [.inl (.int, 48, .inl (fun _ => 0)), .inl (.int, 624, .inl (fun _ => 0)), .inl (.int, 12, .inl (fun _ => 0)), .inl (.int, 8, .inl (fun _ => 0)), .inl (.int, 8, .inl (fun _ => 0)), .inl (.int, 26, .inl (fun _ => 0)), .inl (.int, 26, .inl (fun _ => 0)), .inl (.int, 24000, .inl (fun _ => 0)), .inl (.int, 24000, .inl (fun _ => 0)), .inl (.int, 72000, .inl (fun _ => 0)), .inl (.int, 13000, .inl (fun _ => 0)), .inl (.int, 13000, .inl (fun _ => 0)), .inl (.int, 13000, .inl (fun _ => 0)), .inl (.int, 14000, .inl (fun _ => 0)), .inl (.int, 14000, .inl (fun _ => 0)), .inl (.int, 14000, .inl (fun _ => 0)), .inl (.int, 14000, .inl (fun _ => 0)), .inl (.int, 14000, .inl (fun _ => 0)), .inl (.int, 6000, .inl (fun _ => 0)), .inl (.int, 6000, .inl (fun _ => 0)), .inl (.int, 1200, .inl (fun _ => 0)), .inl (.int, 1200, .inl (fun _ => 0)), .inl (.int, 600, .inl (fun _ => 0)), .inl (.int, 600, .inl (fun _ => 0)), .inl (.int, 600, .inl (fun _ => 0)), .inl (.int, 2200, .inl (fun _ => 0)), .inl (.int, 2200, .inl (fun _ => 0)), .inl (.int, 600, .inl (fun _ => 0)), .inl (.int, 1200, .inl (fun _ => 0)), .inl (.int, 600, .inl (fun _ => 0)), .inl (.int, 600, .inl (fun _ => 0))]) hP rfl rfl mf105 rfl rfl rfl rfl rfl ?_
  refine jEv.steps 2 (s' := (285, [(0, .ref 64)], [.int 600, .ref 64], _)) rfl ?_
  refine mstep (n := 600) (N := 600) (fs' := [.ref 65, .ref 66, .ref 67, .ref 68, .ref 69, .ref 70, .ref 71, .int 0, .int 0, .int (-1), .int 0, .int 0, .int 0, .int 0, .ref 72, .ref 73, .ref 74, .ref 75, .ref 76, .ref 77, .ref 78, .ref 79, .ref 80, .ref 81, .ref 82, .int 0, .int 0, .int 0, .int 0, .int 0, .int 0, .int 0, .int 0, .int 0, .int 0, .int 0, .int 0, .int 0, .int 0, .int 0, .int 0, .ref 83, .ref 84, .ref 85, .ref 86, .ref 87, .ref 88, .ref 89, .ref 90, .ref 91, .ref 92, .ref 93, .ref 94, .ref 95, .ref 96, .null, .null, .null, .null, .null, .null, .null, .null, .int 0]) (arrs' := [.inl (.int, 48, .inl (fun _ => 0)), .inl (.int, 624, .inl (fun _ => 0)), .inl (.int, 12, .inl (fun _ => 0)), .inl (.int, 8, .inl (fun _ => 0)), .inl (.int, 8, .inl (fun _ => 0)), .inl (.int, 26, .inl (fun _ => 0)), .inl (.int, 26, .inl (fun _ => 0)), .inl (.int, 24000, .inl (fun _ => 0)), .inl (.int, 24000, .inl (fun _ => 0)), .inl (.int, 72000, .inl (fun _ => 0)), .inl (.int, 13000, .inl (fun _ => 0)), .inl (.int, 13000, .inl (fun _ => 0)), .inl (.int, 13000, .inl (fun _ => 0)), .inl (.int, 14000, .inl (fun _ => 0)), .inl (.int, 14000, .inl (fun _ => 0)), .inl (.int, 14000, .inl (fun _ => 0)), .inl (.int, 14000, .inl (fun _ => 0)), .inl (.int, 14000, .inl (fun _ => 0)), .inl (.int, 6000, .inl (fun _ => 0)), .inl (.int, 6000, .inl (fun _ => 0)), .inl (.int, 1200, .inl (fun _ => 0)), .inl (.int, 1200, .inl (fun _ => 0)), .inl (.int, 600, .inl (fun _ => 0)), .inl (.int, 600, .inl (fun _ => 0)), .inl (.int, 600, .inl (fun _ => 0)), .inl (.int, 2200, .inl (fun _ => 0)), .inl (.int, 2200, .inl (fun _ => 0)), .inl (.int, 600, .inl (fun _ => 0)), .inl (.int, 1200, .inl (fun _ => 0)), .inl (.int, 600, .inl (fun _ => 0)), .inl (.int, 600, .inl (fun _ => 0)), .inl (.int, 600, .inl (fun _ => 0))]) hP rfl rfl mf108 rfl rfl rfl rfl rfl ?_
  refine jEv.steps 2 (s' := (294, [(0, .ref 64)], [.int 600, .ref 64], _)) rfl ?_
  refine mstep (n := 600) (N := 600) (fs' := [.ref 65, .ref 66, .ref 67, .ref 68, .ref 69, .ref 70, .ref 71, .int 0, .int 0, .int (-1), .int 0, .int 0, .int 0, .int 0, .ref 72, .ref 73, .ref 74, .ref 75, .ref 76, .ref 77, .ref 78, .ref 79, .ref 80, .ref 81, .ref 82, .int 0, .int 0, .int 0, .int 0, .int 0, .int 0, .int 0, .int 0, .int 0, .int 0, .int 0, .int 0, .int 0, .int 0, .int 0, .int 0, .ref 83, .ref 84, .ref 85, .ref 86, .ref 87, .ref 88, .ref 89, .ref 90, .ref 91, .ref 92, .ref 93, .ref 94, .ref 95, .ref 96, .ref 97, .null, .null, .null, .null, .null, .null, .null, .int 0]) (arrs' := [.inl (.int, 48, .inl (fun _ => 0)), .inl (.int, 624, .inl (fun _ => 0)), .inl (.int, 12, .inl (fun _ => 0)), .inl (.int, 8, .inl (fun _ => 0)), .inl (.int, 8, .inl (fun _ => 0)), .inl (.int, 26, .inl (fun _ => 0)), .inl (.int, 26, .inl (fun _ => 0)), .inl (.int, 24000, .inl (fun _ => 0)), .inl (.int, 24000, .inl (fun _ => 0)), .inl (.int, 72000, .inl (fun _ => 0)), .inl (.int, 13000, .inl (fun _ => 0)), .inl (.int, 13000, .inl (fun _ => 0)), .inl (.int, 13000, .inl (fun _ => 0)), .inl (.int, 14000, .inl (fun _ => 0)), .inl (.int, 14000, .inl (fun _ => 0)), .inl (.int, 14000, .inl (fun _ => 0)), .inl (.int, 14000, .inl (fun _ => 0)), .inl (.int, 14000, .inl (fun _ => 0)), .inl (.int, 6000, .inl (fun _ => 0)), .inl (.int, 6000, .inl (fun _ => 0)), .inl (.int, 1200, .inl (fun _ => 0)), .inl (.int, 1200, .inl (fun _ => 0)), .inl (.int, 600, .inl (fun _ => 0)), .inl (.int, 600, .inl (fun _ => 0)), .inl (.int, 600, .inl (fun _ => 0)), .inl (.int, 2200, .inl (fun _ => 0)), .inl (.int, 2200, .inl (fun _ => 0)), .inl (.int, 600, .inl (fun _ => 0)), .inl (.int, 1200, .inl (fun _ => 0)), .inl (.int, 600, .inl (fun _ => 0)), .inl (.int, 600, .inl (fun _ => 0)), .inl (.int, 600, .inl (fun _ => 0)), .inl (.int, 600, .inl (fun _ => 0))]) hP rfl rfl mf111 rfl rfl rfl rfl rfl ?_
  refine jEv.steps 2 (s' := (303, [(0, .ref 64)], [.int 600, .ref 64], _)) rfl ?_
  refine mstep (n := 600) (N := 600) (fs' := [.ref 65, .ref 66, .ref 67, .ref 68, .ref 69, .ref 70, .ref 71, .int 0, .int 0, .int (-1), .int 0, .int 0, .int 0, .int 0, .ref 72, .ref 73, .ref 74, .ref 75, .ref 76, .ref 77, .ref 78, .ref 79, .ref 80, .ref 81, .ref 82, .int 0, .int 0, .int 0, .int 0, .int 0, .int 0, .int 0, .int 0, .int 0, .int 0, .int 0, .int 0, .int 0, .int 0, .int 0, .int 0, .ref 83, .ref 84, .ref 85, .ref 86, .ref 87, .ref 88, .ref 89, .ref 90, .ref 91, .ref 92, .ref 93, .ref 94, .ref 95, .ref 96, .ref 97, .ref 98, .null, .null, .null, .null, .null, .null, .int 0]) (arrs' := [.inl (.int, 48, .inl (fun _ => 0)), .inl (.int, 624, .inl (fun _ => 0)), .inl (.int, 12, .inl (fun _ => 0)), .inl (.int, 8, .inl (fun _ => 0)), .inl (.int, 8, .inl (fun _ => 0)), .inl (.int, 26, .inl (fun _ => 0)), .inl (.int, 26, .inl (fun _ => 0)), .inl (.int, 24000, .inl (fun _ => 0)), .inl (.int, 24000, .inl (fun _ => 0)), .inl (.int, 72000, .inl (fun _ => 0)), .inl (.int, 13000, .inl (fun _ => 0)), .inl (.int, 13000, .inl (fun _ => 0)), .inl (.int, 13000, .inl (fun _ => 0)), .inl (.int, 14000, .inl (fun _ => 0)), .inl (.int, 14000, .inl (fun _ => 0)), .inl (.int, 14000, .inl (fun _ => 0)), .inl (.int, 14000, .inl (fun _ => 0)), .inl (.int, 14000, .inl (fun _ => 0)), .inl (.int, 6000, .inl (fun _ => 0)), .inl (.int, 6000, .inl (fun _ => 0)), .inl (.int, 1200, .inl (fun _ => 0)), .inl (.int, 1200, .inl (fun _ => 0)), .inl (.int, 600, .inl (fun _ => 0)), .inl (.int, 600, .inl (fun _ => 0)), .inl (.int, 600, .inl (fun _ => 0)), .inl (.int, 2200, .inl (fun _ => 0)), .inl (.int, 2200, .inl (fun _ => 0)), .inl (.int, 600, .inl (fun _ => 0)), .inl (.int, 1200, .inl (fun _ => 0)), .inl (.int, 600, .inl (fun _ => 0)), .inl (.int, 600, .inl (fun _ => 0)), .inl (.int, 600, .inl (fun _ => 0)), .inl (.int, 600, .inl (fun _ => 0)), .inl (.int, 600, .inl (fun _ => 0))]) hP rfl rfl mf114 rfl rfl rfl rfl rfl ?_
  refine jEv.steps 2 (s' := (312, [(0, .ref 64)], [.int 600, .ref 64], _)) rfl ?_
  refine mstep (n := 600) (N := 600) (fs' := [.ref 65, .ref 66, .ref 67, .ref 68, .ref 69, .ref 70, .ref 71, .int 0, .int 0, .int (-1), .int 0, .int 0, .int 0, .int 0, .ref 72, .ref 73, .ref 74, .ref 75, .ref 76, .ref 77, .ref 78, .ref 79, .ref 80, .ref 81, .ref 82, .int 0, .int 0, .int 0, .int 0, .int 0, .int 0, .int 0, .int 0, .int 0, .int 0, .int 0, .int 0, .int 0, .int 0, .int 0, .int 0, .ref 83, .ref 84, .ref 85, .ref 86, .ref 87, .ref 88, .ref 89, .ref 90, .ref 91, .ref 92, .ref 93, .ref 94, .ref 95, .ref 96, .ref 97, .ref 98, .ref 99, .null, .null, .null, .null, .null, .int 0]) (arrs' := [.inl (.int, 48, .inl (fun _ => 0)), .inl (.int, 624, .inl (fun _ => 0)), .inl (.int, 12, .inl (fun _ => 0)), .inl (.int, 8, .inl (fun _ => 0)), .inl (.int, 8, .inl (fun _ => 0)), .inl (.int, 26, .inl (fun _ => 0)), .inl (.int, 26, .inl (fun _ => 0)), .inl (.int, 24000, .inl (fun _ => 0)), .inl (.int, 24000, .inl (fun _ => 0)), .inl (.int, 72000, .inl (fun _ => 0)), .inl (.int, 13000, .inl (fun _ => 0)), .inl (.int, 13000, .inl (fun _ => 0)), .inl (.int, 13000, .inl (fun _ => 0)), .inl (.int, 14000, .inl (fun _ => 0)), .inl (.int, 14000, .inl (fun _ => 0)), .inl (.int, 14000, .inl (fun _ => 0)), .inl (.int, 14000, .inl (fun _ => 0)), .inl (.int, 14000, .inl (fun _ => 0)), .inl (.int, 6000, .inl (fun _ => 0)), .inl (.int, 6000, .inl (fun _ => 0)), .inl (.int, 1200, .inl (fun _ => 0)), .inl (.int, 1200, .inl (fun _ => 0)), .inl (.int, 600, .inl (fun _ => 0)), .inl (.int, 600, .inl (fun _ => 0)), .inl (.int, 600, .inl (fun _ => 0)), .inl (.int, 2200, .inl (fun _ => 0)), .inl (.int, 2200, .inl (fun _ => 0)), .inl (.int, 600, .inl (fun _ => 0)), .inl (.int, 1200, .inl (fun _ => 0)), .inl (.int, 600, .inl (fun _ => 0)), .inl (.int, 600, .inl (fun _ => 0)), .inl (.int, 600, .inl (fun _ => 0)), .inl (.int, 600, .inl (fun _ => 0)), .inl (.int, 600, .inl (fun _ => 0)), .inl (.int, 600, .inl (fun _ => 0))]) hP rfl rfl mf117 rfl rfl rfl rfl rfl ?_
  refine jEv.steps 2 (s' := (321, [(0, .ref 64)], [.int 600, .ref 64], _)) rfl ?_
  refine mstep (n := 600) (N := 600) (fs' := [.ref 65, .ref 66, .ref 67, .ref 68, .ref 69, .ref 70, .ref 71, .int 0, .int 0, .int (-1), .int 0, .int 0, .int 0, .int 0, .ref 72, .ref 73, .ref 74, .ref 75, .ref 76, .ref 77, .ref 78, .ref 79, .ref 80, .ref 81, .ref 82, .int 0, .int 0, .int 0, .int 0, .int 0, .int 0, .int 0, .int 0, .int 0, .int 0, .int 0, .int 0, .int 0, .int 0, .int 0, .int 0, .ref 83, .ref 84, .ref 85, .ref 86, .ref 87, .ref 88, .ref 89, .ref 90, .ref 91, .ref 92, .ref 93, .ref 94, .ref 95, .ref 96, .ref 97, .ref 98, .ref 99, .ref 100, .null, .null, .null, .null, .int 0]) (arrs' := [.inl (.int, 48, .inl (fun _ => 0)), .inl (.int, 624, .inl (fun _ => 0)), .inl (.int, 12, .inl (fun _ => 0)), .inl (.int, 8, .inl (fun _ => 0)), .inl (.int, 8, .inl (fun _ => 0)), .inl (.int, 26, .inl (fun _ => 0)), .inl (.int, 26, .inl (fun _ => 0)), .inl (.int, 24000, .inl (fun _ => 0)), .inl (.int, 24000, .inl (fun _ => 0)), .inl (.int, 72000, .inl (fun _ => 0)), .inl (.int, 13000, .inl (fun _ => 0)), .inl (.int, 13000, .inl (fun _ => 0)), .inl (.int, 13000, .inl (fun _ => 0)), .inl (.int, 14000, .inl (fun _ => 0)), .inl (.int, 14000, .inl (fun _ => 0)), .inl (.int, 14000, .inl (fun _ => 0)), .inl (.int, 14000, .inl (fun _ => 0)), .inl (.int, 14000, .inl (fun _ => 0)), .inl (.int, 6000, .inl (fun _ => 0)), .inl (.int, 6000, .inl (fun _ => 0)), .inl (.int, 1200, .inl (fun _ => 0)), .inl (.int, 1200, .inl (fun _ => 0)), .inl (.int, 600, .inl (fun _ => 0)), .inl (.int, 600, .inl (fun _ => 0)), .inl (.int, 600, .inl (fun _ => 0)), .inl (.int, 2200, .inl (fun _ => 0)), .inl (.int, 2200, .inl (fun _ => 0)), .inl (.int, 600, .inl (fun _ => 0)), .inl (.int, 1200, .inl (fun _ => 0)), .inl (.int, 600, .inl (fun _ => 0)), .inl (.int, 600, .inl (fun _ => 0)), .inl (.int, 600, .inl (fun _ => 0)), .inl (.int, 600, .inl (fun _ => 0)), .inl (.int, 600, .inl (fun _ => 0)), .inl (.int, 600, .inl (fun _ => 0)), .inl (.int, 600, .inl (fun _ => 0))]) hP rfl rfl mf120 rfl rfl rfl rfl rfl ?_
  refine jEv.steps 2 (s' := (330, [(0, .ref 64)], [.int 600, .ref 64], _)) rfl ?_
  refine mstep (n := 600) (N := 600) (fs' := [.ref 65, .ref 66, .ref 67, .ref 68, .ref 69, .ref 70, .ref 71, .int 0, .int 0, .int (-1), .int 0, .int 0, .int 0, .int 0, .ref 72, .ref 73, .ref 74, .ref 75, .ref 76, .ref 77, .ref 78, .ref 79, .ref 80, .ref 81, .ref 82, .int 0, .int 0, .int 0, .int 0, .int 0, .int 0, .int 0, .int 0, .int 0, .int 0, .int 0, .int 0, .int 0, .int 0, .int 0, .int 0, .ref 83, .ref 84, .ref 85, .ref 86, .ref 87, .ref 88, .ref 89, .ref 90, .ref 91, .ref 92, .ref 93, .ref 94, .ref 95, .ref 96, .ref 97, .ref 98, .ref 99, .ref 100, .ref 101, .null, .null, .null, .int 0]) (arrs' := [.inl (.int, 48, .inl (fun _ => 0)), .inl (.int, 624, .inl (fun _ => 0)), .inl (.int, 12, .inl (fun _ => 0)), .inl (.int, 8, .inl (fun _ => 0)), .inl (.int, 8, .inl (fun _ => 0)), .inl (.int, 26, .inl (fun _ => 0)), .inl (.int, 26, .inl (fun _ => 0)), .inl (.int, 24000, .inl (fun _ => 0)), .inl (.int, 24000, .inl (fun _ => 0)), .inl (.int, 72000, .inl (fun _ => 0)), .inl (.int, 13000, .inl (fun _ => 0)), .inl (.int, 13000, .inl (fun _ => 0)), .inl (.int, 13000, .inl (fun _ => 0)), .inl (.int, 14000, .inl (fun _ => 0)), .inl (.int, 14000, .inl (fun _ => 0)), .inl (.int, 14000, .inl (fun _ => 0)), .inl (.int, 14000, .inl (fun _ => 0)), .inl (.int, 14000, .inl (fun _ => 0)), .inl (.int, 6000, .inl (fun _ => 0)), .inl (.int, 6000, .inl (fun _ => 0)), .inl (.int, 1200, .inl (fun _ => 0)), .inl (.int, 1200, .inl (fun _ => 0)), .inl (.int, 600, .inl (fun _ => 0)), .inl (.int, 600, .inl (fun _ => 0)), .inl (.int, 600, .inl (fun _ => 0)), .inl (.int, 2200, .inl (fun _ => 0)), .inl (.int, 2200, .inl (fun _ => 0)), .inl (.int, 600, .inl (fun _ => 0)), .inl (.int, 1200, .inl (fun _ => 0)), .inl (.int, 600, .inl (fun _ => 0)), .inl (.int, 600, .inl (fun _ => 0)), .inl (.int, 600, .inl (fun _ => 0)), .inl (.int, 600, .inl (fun _ => 0)), .inl (.int, 600, .inl (fun _ => 0)), .inl (.int, 600, .inl (fun _ => 0)), .inl (.int, 600, .inl (fun _ => 0)), .inl (.int, 600, .inl (fun _ => 0))]) hP rfl rfl mf123 rfl rfl rfl rfl rfl ?_
  refine jEv.steps 2 (s' := (339, [(0, .ref 64)], [.int 600, .ref 64], _)) rfl ?_
  refine mstep (n := 600) (N := 600) (fs' := [.ref 65, .ref 66, .ref 67, .ref 68, .ref 69, .ref 70, .ref 71, .int 0, .int 0, .int (-1), .int 0, .int 0, .int 0, .int 0, .ref 72, .ref 73, .ref 74, .ref 75, .ref 76, .ref 77, .ref 78, .ref 79, .ref 80, .ref 81, .ref 82, .int 0, .int 0, .int 0, .int 0, .int 0, .int 0, .int 0, .int 0, .int 0, .int 0, .int 0, .int 0, .int 0, .int 0, .int 0, .int 0, .ref 83, .ref 84, .ref 85, .ref 86, .ref 87, .ref 88, .ref 89, .ref 90, .ref 91, .ref 92, .ref 93, .ref 94, .ref 95, .ref 96, .ref 97, .ref 98, .ref 99, .ref 100, .ref 101, .ref 102, .null, .null, .int 0]) (arrs' := [.inl (.int, 48, .inl (fun _ => 0)), .inl (.int, 624, .inl (fun _ => 0)), .inl (.int, 12, .inl (fun _ => 0)), .inl (.int, 8, .inl (fun _ => 0)), .inl (.int, 8, .inl (fun _ => 0)), .inl (.int, 26, .inl (fun _ => 0)), .inl (.int, 26, .inl (fun _ => 0)), .inl (.int, 24000, .inl (fun _ => 0)), .inl (.int, 24000, .inl (fun _ => 0)), .inl (.int, 72000, .inl (fun _ => 0)), .inl (.int, 13000, .inl (fun _ => 0)), .inl (.int, 13000, .inl (fun _ => 0)), .inl (.int, 13000, .inl (fun _ => 0)), .inl (.int, 14000, .inl (fun _ => 0)), .inl (.int, 14000, .inl (fun _ => 0)), .inl (.int, 14000, .inl (fun _ => 0)), .inl (.int, 14000, .inl (fun _ => 0)), .inl (.int, 14000, .inl (fun _ => 0)), .inl (.int, 6000, .inl (fun _ => 0)), .inl (.int, 6000, .inl (fun _ => 0)), .inl (.int, 1200, .inl (fun _ => 0)), .inl (.int, 1200, .inl (fun _ => 0)), .inl (.int, 600, .inl (fun _ => 0)), .inl (.int, 600, .inl (fun _ => 0)), .inl (.int, 600, .inl (fun _ => 0)), .inl (.int, 2200, .inl (fun _ => 0)), .inl (.int, 2200, .inl (fun _ => 0)), .inl (.int, 600, .inl (fun _ => 0)), .inl (.int, 1200, .inl (fun _ => 0)), .inl (.int, 600, .inl (fun _ => 0)), .inl (.int, 600, .inl (fun _ => 0)), .inl (.int, 600, .inl (fun _ => 0)), .inl (.int, 600, .inl (fun _ => 0)), .inl (.int, 600, .inl (fun _ => 0)), .inl (.int, 600, .inl (fun _ => 0)), .inl (.int, 600, .inl (fun _ => 0)), .inl (.int, 600, .inl (fun _ => 0)), .inl (.int, 600, .inl (fun _ => 0))]) hP rfl rfl mf126 rfl rfl rfl rfl rfl ?_
  refine jEv.steps 2 (s' := (347, [(0, .ref 64)], [.int 80, .ref 64], _)) rfl ?_
  refine mstep (n := 80) (N := 80) (fs' := [.ref 65, .ref 66, .ref 67, .ref 68, .ref 69, .ref 70, .ref 71, .int 0, .int 0, .int (-1), .int 0, .int 0, .int 0, .int 0, .ref 72, .ref 73, .ref 74, .ref 75, .ref 76, .ref 77, .ref 78, .ref 79, .ref 80, .ref 81, .ref 82, .int 0, .int 0, .int 0, .int 0, .int 0, .int 0, .int 0, .int 0, .int 0, .int 0, .int 0, .int 0, .int 0, .int 0, .int 0, .int 0, .ref 83, .ref 84, .ref 85, .ref 86, .ref 87, .ref 88, .ref 89, .ref 90, .ref 91, .ref 92, .ref 93, .ref 94, .ref 95, .ref 96, .ref 97, .ref 98, .ref 99, .ref 100, .ref 101, .ref 102, .ref 103, .null, .int 0]) (arrs' := [.inl (.int, 48, .inl (fun _ => 0)), .inl (.int, 624, .inl (fun _ => 0)), .inl (.int, 12, .inl (fun _ => 0)), .inl (.int, 8, .inl (fun _ => 0)), .inl (.int, 8, .inl (fun _ => 0)), .inl (.int, 26, .inl (fun _ => 0)), .inl (.int, 26, .inl (fun _ => 0)), .inl (.int, 24000, .inl (fun _ => 0)), .inl (.int, 24000, .inl (fun _ => 0)), .inl (.int, 72000, .inl (fun _ => 0)), .inl (.int, 13000, .inl (fun _ => 0)), .inl (.int, 13000, .inl (fun _ => 0)), .inl (.int, 13000, .inl (fun _ => 0)), .inl (.int, 14000, .inl (fun _ => 0)), .inl (.int, 14000, .inl (fun _ => 0)), .inl (.int, 14000, .inl (fun _ => 0)), .inl (.int, 14000, .inl (fun _ => 0)), .inl (.int, 14000, .inl (fun _ => 0)), .inl (.int, 6000, .inl (fun _ => 0)), .inl (.int, 6000, .inl (fun _ => 0)), .inl (.int, 1200, .inl (fun _ => 0)), .inl (.int, 1200, .inl (fun _ => 0)), .inl (.int, 600, .inl (fun _ => 0)), .inl (.int, 600, .inl (fun _ => 0)), .inl (.int, 600, .inl (fun _ => 0)), .inl (.int, 2200, .inl (fun _ => 0)), .inl (.int, 2200, .inl (fun _ => 0)), .inl (.int, 600, .inl (fun _ => 0)), .inl (.int, 1200, .inl (fun _ => 0)), .inl (.int, 600, .inl (fun _ => 0)), .inl (.int, 600, .inl (fun _ => 0)), .inl (.int, 600, .inl (fun _ => 0)), .inl (.int, 600, .inl (fun _ => 0)), .inl (.int, 600, .inl (fun _ => 0)), .inl (.int, 600, .inl (fun _ => 0)), .inl (.int, 600, .inl (fun _ => 0)), .inl (.int, 600, .inl (fun _ => 0)), .inl (.int, 600, .inl (fun _ => 0)), .inl (.int, 80, .inl (fun _ => 0))]) hP rfl rfl mf129 rfl rfl rfl rfl rfl ?_
  refine jEv.steps 2 (s' := (356, [(0, .ref 64)], [.int 800, .ref 64], _)) rfl ?_
  refine mstep (n := 800) (N := 800) (fs' := [.ref 65, .ref 66, .ref 67, .ref 68, .ref 69, .ref 70, .ref 71, .int 0, .int 0, .int (-1), .int 0, .int 0, .int 0, .int 0, .ref 72, .ref 73, .ref 74, .ref 75, .ref 76, .ref 77, .ref 78, .ref 79, .ref 80, .ref 81, .ref 82, .int 0, .int 0, .int 0, .int 0, .int 0, .int 0, .int 0, .int 0, .int 0, .int 0, .int 0, .int 0, .int 0, .int 0, .int 0, .int 0, .ref 83, .ref 84, .ref 85, .ref 86, .ref 87, .ref 88, .ref 89, .ref 90, .ref 91, .ref 92, .ref 93, .ref 94, .ref 95, .ref 96, .ref 97, .ref 98, .ref 99, .ref 100, .ref 101, .ref 102, .ref 103, .ref 104, .int 0]) (arrs' := [.inl (.int, 48, .inl (fun _ => 0)), .inl (.int, 624, .inl (fun _ => 0)), .inl (.int, 12, .inl (fun _ => 0)), .inl (.int, 8, .inl (fun _ => 0)), .inl (.int, 8, .inl (fun _ => 0)), .inl (.int, 26, .inl (fun _ => 0)), .inl (.int, 26, .inl (fun _ => 0)), .inl (.int, 24000, .inl (fun _ => 0)), .inl (.int, 24000, .inl (fun _ => 0)), .inl (.int, 72000, .inl (fun _ => 0)), .inl (.int, 13000, .inl (fun _ => 0)), .inl (.int, 13000, .inl (fun _ => 0)), .inl (.int, 13000, .inl (fun _ => 0)), .inl (.int, 14000, .inl (fun _ => 0)), .inl (.int, 14000, .inl (fun _ => 0)), .inl (.int, 14000, .inl (fun _ => 0)), .inl (.int, 14000, .inl (fun _ => 0)), .inl (.int, 14000, .inl (fun _ => 0)), .inl (.int, 6000, .inl (fun _ => 0)), .inl (.int, 6000, .inl (fun _ => 0)), .inl (.int, 1200, .inl (fun _ => 0)), .inl (.int, 1200, .inl (fun _ => 0)), .inl (.int, 600, .inl (fun _ => 0)), .inl (.int, 600, .inl (fun _ => 0)), .inl (.int, 600, .inl (fun _ => 0)), .inl (.int, 2200, .inl (fun _ => 0)), .inl (.int, 2200, .inl (fun _ => 0)), .inl (.int, 600, .inl (fun _ => 0)), .inl (.int, 1200, .inl (fun _ => 0)), .inl (.int, 600, .inl (fun _ => 0)), .inl (.int, 600, .inl (fun _ => 0)), .inl (.int, 600, .inl (fun _ => 0)), .inl (.int, 600, .inl (fun _ => 0)), .inl (.int, 600, .inl (fun _ => 0)), .inl (.int, 600, .inl (fun _ => 0)), .inl (.int, 600, .inl (fun _ => 0)), .inl (.int, 600, .inl (fun _ => 0)), .inl (.int, 600, .inl (fun _ => 0)), .inl (.int, 80, .inl (fun _ => 0)), .inl (.int, 800, .inl (fun _ => 0))]) hP rfl rfl mf132 rfl rfl rfl rfl rfl ?_
  refine jEv.ret (T := jT0) (K := 24) (M := jm_12_init_126) (v := none) (s := (361, [(0, .ref 64)], [], P ++ .inr (11, qmod) :: qarrs)) ?_
  rfl
end MIni
end
section
/-! RULES of the second small machine: what a method comes to -/
section QE
variable {T : jT} {S : Nat × (Nat → Int32)} {d : Nat} {M : jM} {s s' : qS} {r : qO}
theorem qbody_mono {f g : Nat → jM → qS → Option qO} (hfg : ∀ d M s r, f d M s = some r → g d M s = some r) (h : qbody T S f d M s = some r) : qbody T S g d M s = some r := by
  unfold qbody at h ⊢
  by_cases hd : d < 9
  · rw [if_pos hd] at h; cases h
  rw [if_neg hd] at h ⊢
  cases h1 : qstep T S M s with
  | some s' => simp only [h1] at h ⊢; exact hfg _ _ _ _ h
  | none =>
    simp only [h1] at h ⊢
    cases h2 : qat T M s with
    | none => simp only [h2] at h ⊢; exact h
    | some q =>
      cases q with
      | inl v => simp only [h2] at h ⊢; exact h
      | inr q =>
        obtain ⟨z, as, r0⟩ := q
        simp only [h2] at h ⊢
        cases h3 : T.2.2.1 z with
        | none => simp only [h3] at h; cases h
        | some Z =>
          simp only [h3] at h ⊢
          by_cases h4 : Z.2.2.1 < (lg_sl as).length
          · rw [if_pos h4] at h; cases h
          rw [if_neg h4] at h ⊢
          cases h5 : f (d - 1) Z (0, lv_args 0 as, [], s.2.2.2) with
          | none => simp only [h5] at h; cases h
          | some q =>
            obtain ⟨o, g'⟩ := q
            simp only [h5] at h
            rw [hfg _ _ _ _ h5]
            cases o with
            | inl v => exact hfg _ _ _ _ h
            | inr ci => exact h
theorem qrun_mono : ∀ (n : Nat) {d : Nat} {M : jM} {s : qS} {r : qO}, qrun T S n d M s = some r → qrun T S (n + 1) d M s = some r
  | 0, _, _, _, _, h => by cases h
  | n + 1, _, _, _, _, h => qbody_mono (fun _ _ _ _ h => qrun_mono n h) h
theorem qrun_le {n : Nat} (k : Nat) (h : qrun T S n d M s = some r) : qrun T S (n + k) d M s = some r := by
  induction k with
  | zero => exact h
  | succ k ih => exact qrun_mono _ ih
/-- the method comes to this end -/
def qE (S : Nat × (Nat → Int32)) (d : Nat) (M : jM) (s : qS) (r : qO) : Prop := ∃ n, qrun jT0 S n d M s = some r
/-- k plain steps -/
def qit (S : Nat × (Nat → Int32)) (M : jM) : Nat → qS → Option qS
  | 0, s => some s
  | k + 1, s => match qstep jT0 S M s with
    | some s' => qit S M k s'
    | none => none
theorem qE.step (hd : 9 ≤ d) (h : qstep jT0 S M s = some s') (e : qE S d M s' r) : qE S d M s r := by
  obtain ⟨n, hn⟩ := e
  refine ⟨n + 1, ?_⟩
  show qbody jT0 S (qrun jT0 S n) d M s = some r
  unfold qbody
  rw [if_neg (by omega), h]
  exact hn
theorem qE.steps (k : Nat) (hd : 9 ≤ d) (h : qit S M k s = some s') (e : qE S d M s' r) : qE S d M s r := by
  induction k generalizing s with
  | zero => cases h; exact e
  | succ k ih =>
    unfold qit at h
    split at h
    · rename_i s1 h1
      exact qE.step hd h1 (ih h)
    · cases h
theorem qE.ret {v : Option Value} (hd : 9 ≤ d) (h1 : qstep jT0 S M s = none) (h2 : qat jT0 M s = some (.inl v)) : qE S d M s (.inl v, s.2.2.2) := by
  refine ⟨1, ?_⟩
  show qbody jT0 S _ d M s = _
  unfold qbody
  rw [if_neg (by omega), h1]
  try dsimp only
  rw [h2]
theorem qE.call0 {z : Nat} {as r0 : List Value} {Z : jM} {q : qO} (hd : 9 ≤ d) (h1 : qstep jT0 S M s = none) (h2 : qat jT0 M s = some (.inr (z, as, r0))) (h3 : jT0.2.2.1 z = some Z) (h4 : Nat.ble (lg_sl as).length Z.2.2.1 = true) (e : qE S (d - 1) Z (0, lv_args 0 as, [], s.2.2.2) q)
    (e2 : ∃ n0, ∀ n, n0 ≤ n → (match some q with
        | some (.inl v, g') => qrun jT0 S n d M (s.1 + 3, s.2.1, v.toList ++ r0, g')
        | some (.inr ci, g') => match M.2.2.2.2.2.2.2 with
          | [] => some (.inr ci, g')
          | _ :: _ => match qhand M s.1 ci with
            | some c => some (.inl (some (.int c)), g')
            | none => none
        | none => none) = some r) : qE S d M s r := by
  obtain ⟨n, hn⟩ := e
  obtain ⟨n0, e2⟩ := e2
  refine ⟨n + n0 + 1, ?_⟩
  show qbody jT0 S (qrun jT0 S (n + n0)) d M s = _
  unfold qbody
  rw [if_neg (by omega), h1]
  try dsimp only
  rw [h2]
  try dsimp only
  rw [h3]
  try dsimp only
  rw [if_neg (by have := Nat.le_of_ble_eq_true h4; omega), qrun_le n0 hn]
  exact e2 (n + n0) (by omega)
theorem qE.call {z : Nat} {as r0 : List Value} {Z : jM} {v : Option Value} {g' : qG} (hd : 9 ≤ d) (h1 : qstep jT0 S M s = none) (h2 : qat jT0 M s = some (.inr (z, as, r0))) (h3 : jT0.2.2.1 z = some Z) (h4 : Nat.ble (lg_sl as).length Z.2.2.1 = true) (e : qE S (d - 1) Z (0, lv_args 0 as, [], s.2.2.2) (.inl v, g'))
    (e2 : qE S d M (s.1 + 3, s.2.1, v.toList ++ r0, g') r) : qE S d M s r := by
  refine qE.call0 hd h1 h2 h3 h4 e ?_
  obtain ⟨n, hn⟩ := e2
  refine ⟨n, fun m hm => ?_⟩
  obtain ⟨k, rfl⟩ : ∃ k, m = n + k := ⟨m - n, by omega⟩
  exact qrun_le k hn
theorem qE.callT {z : Nat} {as r0 : List Value} {Z : jM} {ci : Nat} {g' : qG} (hd : 9 ≤ d) (h1 : qstep jT0 S M s = none) (h2 : qat jT0 M s = some (.inr (z, as, r0))) (h3 : jT0.2.2.1 z = some Z) (h4 : Nat.ble (lg_sl as).length Z.2.2.1 = true) (e : qE S (d - 1) Z (0, lv_args 0 as, [], s.2.2.2) (.inr ci, g'))
    (h5 : M.2.2.2.2.2.2.2 = []) : qE S d M s (.inr ci, g') := by
  refine qE.call0 hd h1 h2 h3 h4 e ⟨0, fun n _ => ?_⟩
  try dsimp only
  rw [h5]
theorem qE.callC {z : Nat} {as r0 : List Value} {Z : jM} {ci : Nat} {g' : qG} {b : (Nat × Nat × Nat × Nat) × List Nat} {bs : List ((Nat × Nat × Nat × Nat) × List Nat)} {c : Int32} (hd : 9 ≤ d) (h1 : qstep jT0 S M s = none) (h2 : qat jT0 M s = some (.inr (z, as, r0))) (h3 : jT0.2.2.1 z = some Z) (h4 : Nat.ble (lg_sl as).length Z.2.2.1 = true) (e : qE S (d - 1) Z (0, lv_args 0 as, [], s.2.2.2) (.inr ci, g'))
    (h5 : M.2.2.2.2.2.2.2 = b :: bs) (h6 : qhand M s.1 ci = some c) : qE S d M s (.inl (some (.int c)), g') := by
  refine qE.call0 hd h1 h2 h3 h4 e ⟨0, fun n _ => ?_⟩
  try dsimp only
  rw [h5]
  try dsimp only
  rw [h6]
theorem qE.thr {ci : Nat} (hd : 9 ≤ d) (h1 : qstep jT0 S M s = none) (h2 : qat jT0 M s = none) (h3 : qthr jT0 M s = some ci) : qE S d M s (.inr ci, (s.2.2.2.1, s.2.2.2.2.1, s.2.2.2.2.2.1, s.2.2.2.2.2.2 + 1)) := by
  refine ⟨1, ?_⟩
  show qbody jT0 S _ d M s = _
  unfold qbody
  rw [if_neg (by omega), h1]
  try dsimp only
  rw [h2]
  try dsimp only
  rw [h3]
/-- a word of the memory -/
theorem qE.hp {i : Instr} {len pc : Nat} {lv : List (Nat × Value)} {st st' : List Value} {g g' : qG} (hd : 9 ≤ d) (f : M.2.2.2.2.2.2.1 pc = some (i, len)) (a1 : jstk i st = none) (a2 : jloc i M.2.2.1 lv st = none) (a3 : jjmp i pc len st = none) (a4 : qhp jT0.1 S M.2.2.2.2.1 i st g = some (st', g', len)) (e : qE S d M (pc + len, lv, st', g') r) : qE S d M (pc, lv, st, g) r := by
  refine qE.step hd ?_ e
  unfold qstep
  try dsimp only
  rw [f]
  try dsimp only
  rw [a1]
  try dsimp only
  rw [a2]
  try dsimp only
  rw [a3]
  try dsimp only
  rw [a4]
  try dsimp only
  rw [show Nat.beq len len = true from Nat.beq_refl len]
  rfl
def aget (A : Nat → Int32) (n : Nat) (j : Int32) : Option Int32 := if qob n j = true then none else some (A j.toNatClampNeg)
def aput (σ : qC) (a n : Nat) (j v : Int32) : Option qC := if qob n j = true then none else some (upA σ a j.toNatClampNeg v)
def tputO (σ : qC) (t w : Nat) (row col v : Int32) : Option qC := if tputB w row col = true then none else some (tput σ t w row col v)
def tappO (σ : qC) (t w : Nat) (a b c d : Int32) : Option qC := if tappB σ t w = true then none else some (tapp σ t w a b c d)
def qlet {α β : Type} (x : α) (f : α → Option β) : Option β := f x
theorem qlet_ex {α β : Type} {x : α} {f : α → Option β} {p : β} (h : qlet x f = some p) : ∃ y, y = x ∧ f y = some p := ⟨x, rfl, h⟩
theorem obind {α β : Type} {x : Option α} {f : α → Option β} {p : β} (h : x.bind f = some p) : ∃ y, x = some y ∧ f y = some p := Option.bind_eq_some_iff.mp h
theorem aget_inv {A : Nat → Int32} {n : Nat} {j v : Int32} (h : aget A n j = some v) : ¬ qob n j = true ∧ v = A j.toNatClampNeg := by
  unfold aget at h
  split at h
  · cases h
  · rename_i hq; cases h; exact ⟨hq, rfl⟩
theorem aput_inv {σ σ' : qC} {a n : Nat} {j v : Int32} (h : aput σ a n j v = some σ') : ¬ qob n j = true ∧ σ' = upA σ a j.toNatClampNeg v := by
  unfold aput at h
  split at h
  · cases h
  · rename_i hq; cases h; exact ⟨hq, rfl⟩
variable {pc a n t w : Nat} {lv : List (Nat × Value)} {r0 : List Value} {x : List Nat} {j v : Int32} {g : qG} {σ σ' x1 : qC} {y : qC × Int64 × Nat} {y1 : Int64 × Nat}
theorem qE.iald (hd : 9 ≤ d) (hv : aget (qga g a) n j = some v) (f : M.2.2.2.2.2.2.1 pc = some (.iaload, 1)) (hq : qd[a]? = some (5, n, x)) (e : qE S d M (pc + 1, lv, .int v :: r0, g) r) : qE S d M (pc, lv, .int j :: .ref a :: r0, g) r := by
  obtain ⟨h1, rfl⟩ := aget_inv hv
  refine qE.hp hd f rfl rfl rfl ?_ e
  unfold qhp
  try dsimp only
  rw [hq]
  exact if_neg h1
theorem qE.cald (hd : 9 ≤ d) (hv : aget (qga g a) n j = some v) (f : M.2.2.2.2.2.2.1 pc = some (.caload, 1)) (hq : qd[a]? = some (4, n, x)) (e : qE S d M (pc + 1, lv, .int v :: r0, g) r) : qE S d M (pc, lv, .int j :: .ref a :: r0, g) r := by
  obtain ⟨h1, rfl⟩ := aget_inv hv
  refine qE.hp hd f rfl rfl rfl ?_ e
  unfold qhp
  try dsimp only
  rw [hq]
  exact if_neg h1
/-- the script's own -/
theorem qE.sald {k : Nat} (hd : 9 ≤ d) (hv : aget S.2 S.1 j = some v) (f : M.2.2.2.2.2.2.1 pc = some (.iaload, 1)) (hq : qd[a]? = some (0, k, x)) (e : qE S d M (pc + 1, lv, .int v :: r0, g) r) : qE S d M (pc, lv, .int j :: .ref a :: r0, g) r := by
  obtain ⟨h1, rfl⟩ := aget_inv hv
  refine qE.hp hd f rfl rfl rfl ?_ e
  unfold qhp
  try dsimp only
  rw [hq]
  exact if_neg h1
theorem qE.iastC (hd : 9 ≤ d) (hv : aput σ a n j v = some σ') (f : M.2.2.2.2.2.2.1 pc = some (.iastore, 1)) (hq : (qd[a]?, Nat.blt a 64) = (some (5, n, x), true)) (e : qE S d M (pc + 1, lv, r0, (σ', y)) r) : qE S d M (pc, lv, .int v :: .int j :: .ref a :: r0, (σ, y)) r := by
  obtain ⟨h1, rfl⟩ := aput_inv hv
  have hq1 : qd[a]? = some (5, n, x) := congrArg Prod.fst hq
  have hq2 : Nat.blt a 64 = true := congrArg Prod.snd hq
  refine qE.hp hd f rfl rfl rfl ?_ e
  unfold qhp
  try dsimp only
  rw [hq1]
  refine (if_neg h1).trans ?_
  unfold qpa
  rw [hq2]
  rfl
theorem qE.iastM (hd : 9 ≤ d) (hv : aput σ a n j v = some σ') (f : M.2.2.2.2.2.2.1 pc = some (.iastore, 1)) (hq : (qd[a]?, Nat.blt a 64) = (some (5, n, x), false)) (e : qE S d M (pc + 1, lv, r0, (x1, σ', y1)) r) : qE S d M (pc, lv, .int v :: .int j :: .ref a :: r0, (x1, σ, y1)) r := by
  obtain ⟨h1, rfl⟩ := aput_inv hv
  have hq1 : qd[a]? = some (5, n, x) := congrArg Prod.fst hq
  have hq2 : Nat.blt a 64 = false := congrArg Prod.snd hq
  refine qE.hp hd f rfl rfl rfl ?_ e
  unfold qhp
  try dsimp only
  rw [hq1]
  refine (if_neg h1).trans ?_
  unfold qpa
  rw [hq2]
  rfl
theorem qE.castC (hd : 9 ≤ d) (hv : aput σ a n j (vp_nar .char v) = some σ') (f : M.2.2.2.2.2.2.1 pc = some (.castore, 1)) (hq : (qd[a]?, Nat.blt a 64) = (some (4, n, x), true)) (e : qE S d M (pc + 1, lv, r0, (σ', y)) r) : qE S d M (pc, lv, .int v :: .int j :: .ref a :: r0, (σ, y)) r := by
  obtain ⟨h1, rfl⟩ := aput_inv hv
  have hq1 : qd[a]? = some (4, n, x) := congrArg Prod.fst hq
  have hq2 : Nat.blt a 64 = true := congrArg Prod.snd hq
  refine qE.hp hd f rfl rfl rfl ?_ e
  unfold qhp
  try dsimp only
  rw [hq1]
  refine (if_neg h1).trans ?_
  unfold qpa
  rw [hq2]
  rfl
/-- a Table's word that may fail -/
theorem qE.tab {idx z : Nat} {st as : List Value} {o : Option Value} {g' : qG} (hd : 9 ≤ d) (hv : qtab z as g = some (o, g')) (f : M.2.2.2.2.2.2.1 pc = some (.invokevirtual idx, 3)) (hq : qcall jT0.2.1 M.2.2.2.2.1 (.invokevirtual idx) 3 st = some (z, as, r0)) (hc : (qisT z && qcat r0) = true) (e : qE S d M (pc + 3, lv, o.toList ++ r0, g') r) : qE S d M (pc, lv, st, g) r := by
  refine qE.step hd ?_ e
  unfold qstep
  try dsimp only
  rw [f]
  have e1 : jstk (.invokevirtual idx) st = none := rfl
  have e2 : jloc (.invokevirtual idx) M.2.2.1 lv st = none := rfl
  have e3 : jjmp (.invokevirtual idx) pc 3 st = none := rfl
  have e4 : qhp jT0.1 S M.2.2.2.2.1 (.invokevirtual idx) st g = none := rfl
  simp only [e1, e2, e3, e4, hq, hc, hv]
  rfl
theorem qtab_put {row col : Int32} (hv : tputO σ t w row col v = some σ') (hq : qd[t]? = some (6, w, x)) : qtab 30 [.ref t, .int row, .int col, .int v] (σ, y) = some (none, (σ', y)) := by
  unfold tputO at hv
  split at hv
  · cases hv
  · rename_i hb
    cases hv
    unfold qtab
    try dsimp only
    rw [hq]
    exact if_neg hb
theorem qtab_app {b1 b2 b3 b4 : Int32} (hv : tappO σ t w b1 b2 b3 b4 = some σ') (hq : qd[t]? = some (6, w, x)) : qtab 61 [.ref t, .int b1, .int b2, .int b3, .int b4] (σ, y) = some (some (.int (σ.1 (100 * t + 2))), (σ', y)) := by
  unfold tappO at hv
  split at hv
  · cases hv
  · rename_i hb
    cases hv
    unfold qtab
    try dsimp only
    rw [hq]
    exact if_neg hb
/-- a jump that must be looked at -/
theorem qE.jmp {i : Instr} {len pc' : Nat} {st st' : List Value} (hd : 9 ≤ d) (a3 : jjmp i pc len st = some (pc', st')) (f : M.2.2.2.2.2.2.1 pc = some (i, len)) (a1 : jstk i st = none) (a2 : jloc i M.2.2.1 lv st = none) (e : qE S d M (pc', lv, st', g) r) : qE S d M (pc, lv, st, g) r := by
  refine qE.step hd ?_ e
  unfold qstep
  try dsimp only
  rw [f]
  try dsimp only
  rw [a1]
  try dsimp only
  rw [a2]
  try dsimp only
  rw [a3]
theorem qE.stk {i : Instr} {len : Nat} {st st' : List Value} (hd : 9 ≤ d) (a1 : jstk i st = some (st', len)) (f : M.2.2.2.2.2.2.1 pc = some (i, len)) (e : qE S d M (pc + len, lv, st', g) r) : qE S d M (pc, lv, st, g) r := by
  refine qE.step hd ?_ e
  unfold qstep
  try dsimp only
  rw [f]
  try dsimp only
  rw [a1]
  try dsimp only
  rw [show Nat.beq len len = true from Nat.beq_refl len]
  rfl
theorem qE.acmp {c : ACond} {off : Int} {o1 o2 tg : Nat} (hd : 9 ≤ d) (hc : (1 ≤ o1 ∧ o1 < 11) ∧ (1 ≤ o2 ∧ o2 < 11)) (f : M.2.2.2.2.2.2.1 pc = some (.if_acmp c off, 3)) (ht : jtgt pc off = some tg) (e : qE S d M (jbrA c o1 o2 tg (pc + 3), lv, r0, g) r) : qE S d M (pc, lv, .ref o2 :: .ref o1 :: r0, g) r := by
  refine qE.jmp hd ?_ f rfl rfl e
  unfold jjmp
  try dsimp only
  rw [if_pos ⟨rfl, hc⟩, ht]
  rfl
theorem aget_of {A : Nat → Int32} (h1 : ¬ j < 0) (h2 : ¬ Int32.ofNat n ≤ j) (hn : n < 1000) : aget A n j = some (A j.toNatClampNeg) := by
  unfold aget
  have e1 : (Int32.ofNat n).toInt = n := by
    rw [Int32.toInt_ofNat_of_lt (by omega)]
  rw [Int32.lt_iff_toInt_lt] at h1
  rw [Int32.le_iff_toInt_le, e1] at h2
  have e0 : (0 : Int32).toInt = 0 := rfl
  rw [if_neg]
  unfold qob
  simp only [Bool.or_eq_true, decide_eq_true_eq, not_or]
  refine ⟨by rw [Int32.lt_iff_toInt_lt]; exact h1, fun z => ?_⟩
  have := Nat.le_of_ble_eq_true z
  have e2 : (j.toNatClampNeg : Int) = j.toInt := by
    show ((j.toInt.toNat : Nat) : Int) = j.toInt
    omega
  omega
end QE
/-! what a run with fewer locals comes to, one with more comes to -/
def jsub : List (Nat × Value) → List (Nat × Value) → Prop
  | [], _ => True
  | q :: r, lv => jld q.1 lv = some q.2 ∧ jsub r lv
def jnd : List (Nat × Value) → Bool
  | [] => true
  | q :: r => r.all (fun p => !(Nat.beq p.1 q.1)) && jnd r
def lsub (a b : List (Nat × Value)) : Prop := ∀ i v, jld i a = some v → jld i b = some v
theorem jsub_lsub : ∀ {a b : List (Nat × Value)}, jsub a b → lsub a b
  | [], _, _ => fun i v h => by cases h
  | q :: r, b, h => fun i v hi => by
    unfold jld at hi
    by_cases e : q.1 = i
    · rw [if_pos e] at hi
      cases hi
      rw [← e]
      exact h.1
    · rw [if_neg e] at hi
      exact jsub_lsub h.2 i v hi
theorem jnd_mem : ∀ {a : List (Nat × Value)} {i : Nat} {v : Value}, jnd a = true → (i, v) ∈ a → jld i a = some v
  | q :: r, i, v, hn, hm => by
    unfold jnd at hn
    rw [Bool.and_eq_true, List.all_eq_true] at hn
    unfold jld
    by_cases e : q.1 = i
    · rw [if_pos e]
      rcases List.mem_cons.mp hm with h | h
      · rw [← h]
      · have := hn.1 _ h
        rw [e] at this
        simp at this
    · rw [if_neg e]
      rcases List.mem_cons.mp hm with h | h
      · rw [← h] at e
        exact absurd rfl e
      · exact jnd_mem hn.2 h
theorem jnd_filter {f : Nat × Value → Bool} : ∀ {a : List (Nat × Value)}, jnd a = true → jnd (a.filter f) = true
  | [], h => h
  | q :: r, h => by
    unfold jnd at h
    rw [Bool.and_eq_true, List.all_eq_true] at h
    rw [List.filter_cons]
    split
    · unfold jnd
      rw [Bool.and_eq_true, List.all_eq_true]
      exact ⟨fun p hp => h.1 p (List.mem_filter.mp hp).1, jnd_filter h.2⟩
    · exact jnd_filter h.2
theorem jld_filter {f : Nat × Value → Bool} {i : Nat} {v : Value} : ∀ {a : List (Nat × Value)}, jld i a = some v → f (i, v) = true → jld i (a.filter f) = some v
  | q :: r, h, hf => by
    unfold jld at h
    rw [List.filter_cons]
    by_cases e : q.1 = i
    · rw [if_pos e] at h
      cases h
      subst e
      rw [if_pos hf]
      unfold jld
      rw [if_pos rfl]
    · rw [if_neg e] at h
      have := jld_filter h hf
      split
      · unfold jld
        rw [if_neg e]
        exact this
      · exact this
theorem jst_sub {f : Nat × Value → Bool} {i : Nat} {v : Value} {a b : List (Nat × Value)} (hn : jnd a = true) (hs : lsub a b) (hf : ∀ q, q.1 = i → f q = false) : jnd ((i, v) :: a.filter f) = true ∧ lsub ((i, v) :: a.filter f) ((i, v) :: b.filter f) := by
  constructor
  · unfold jnd
    rw [Bool.and_eq_true, List.all_eq_true]
    refine ⟨fun p hp => ?_, jnd_filter hn⟩
    have h1 := (List.mem_filter.mp hp).2
    cases h2 : Nat.beq p.1 i with
    | false => rfl
    | true =>
      rw [hf p (Nat.eq_of_beq_eq_true h2)] at h1
      cases h1
  · intro k w h
    unfold jld at h ⊢
    by_cases e : i = k
    · rw [if_pos e] at h ⊢
      exact h
    · rw [if_neg e] at h ⊢
      have h1 := List.mem_filter.mp (jld_mem h)
      exact jld_filter (hs _ _ (jnd_mem hn h1.1)) h1.2
theorem jst1_sub {i : Nat} {v : Value} {a b : List (Nat × Value)} (hn : jnd a = true) (hs : lsub a b) : jnd (jst1 i v a) = true ∧ lsub (jst1 i v a) (jst1 i v b) :=
  jst_sub hn hs (fun q e => by simp [e])
theorem jst2_sub {i : Nat} {v : Value} {a b : List (Nat × Value)} (hn : jnd a = true) (hs : lsub a b) : jnd (jst2 i v a) = true ∧ lsub (jst2 i v a) (jst2 i v b) :=
  jst_sub hn hs (fun q e => by simp [e])
set_option maxHeartbeats 1000000 in
theorem jloc_sub {i : Instr} {nL k : Nat} {a b a' : List (Nat × Value)} {st st' : List Value} (hn : jnd a = true) (hs : lsub a b) (h : jloc i nL a st = some (a', st', k)) : ∃ b', jloc i nL b st = some (b', st', k) ∧ jnd a' = true ∧ lsub a' b' := by
  unfold jloc at h ⊢
  split at h
  · split at h
    · rename_i hq
      cases h
      exact ⟨b, by simp only [hs _ _ hq], hn, hs⟩
    · cases h
  · split at h
    · rename_i hq
      cases h
      exact ⟨b, by simp only [hs _ _ hq], hn, hs⟩
    · cases h
  · split at h
    · rename_i hq
      cases h
      exact ⟨b, by simp only [hs _ _ hq], hn, hs⟩
    · cases h
  · split at h
    · rename_i hq
      cases h
      exact ⟨b, by simp only [hs _ _ hq], hn, hs⟩
    · cases h
  · split at h
    · rename_i hq
      cases h
      exact ⟨b, by simp only [hs _ _ hq], hn, hs⟩
    · rename_i hq
      cases h
      exact ⟨b, by simp only [hs _ _ hq], hn, hs⟩
    · cases h
  · split at h
    · rename_i hq
      cases h
      exact ⟨b, by simp only [hs _ _ hq], hn, hs⟩
    · rename_i hq
      cases h
      exact ⟨b, by simp only [hs _ _ hq], hn, hs⟩
    · cases h
  · split at h
    · split at h
      · rename_i hk
        cases h
        exact ⟨_, if_pos hk, jst1_sub hn hs⟩
      · cases h
    · cases h
  · split at h
    · split at h
      · rename_i hk
        cases h
        exact ⟨_, if_pos hk, jst1_sub hn hs⟩
      · cases h
    · cases h
  · split at h
    · split at h
      · rename_i hk
        cases h
        exact ⟨_, if_pos hk, jst2_sub hn hs⟩
      · cases h
    · cases h
  · split at h
    · split at h
      · rename_i hk
        cases h
        exact ⟨_, if_pos hk, jst2_sub hn hs⟩
      · cases h
    · cases h
  · split at h
    · split at h
      · rename_i hk
        cases h
        exact ⟨_, if_pos hk, jst1_sub hn hs⟩
      · cases h
    · split at h
      · rename_i hk
        cases h
        exact ⟨_, if_pos hk, jst1_sub hn hs⟩
      · cases h
    · cases h
  · split at h
    · split at h
      · rename_i hk
        cases h
        exact ⟨_, if_pos hk, jst1_sub hn hs⟩
      · cases h
    · split at h
      · rename_i hk
        cases h
        exact ⟨_, if_pos hk, jst1_sub hn hs⟩
      · cases h
    · cases h
  · split at h
    · rename_i hq
      split at h
      · rename_i hk
        cases h
        refine ⟨_, ?_, jst1_sub hn hs⟩
        simp only [hs _ _ hq]
        exact if_pos hk
      · cases h
    · cases h
  · cases h
section QW
variable {S : Nat × (Nat → Int32)} {M : jM} {i : Instr} {nL len pc : Nat} {a b : List (Nat × Value)} {st : List Value} {g : qG}
theorem jloc_end {ret : Option FieldType} {v : Option Value} (h : jend ret i len st = some v) : jloc i nL b st = none := by
  unfold jend at h
  split at h
  · rfl
  · rfl
  · rfl
  · rfl
  · cases h
theorem jloc_qcall {gM : jL} {cn : Nat} {q : Nat × List Value × List Value} (h : qcall gM cn i len st = some q) : jloc i nL b st = none := by
  unfold qcall at h
  split at h
  · rfl
  · rfl
  · cases h
theorem jloc_jthr {T : jT} {K ci : Nat} (h : jthr T K M i len pc st = some ci) : jloc i nL b st = none := by
  unfold jthr at h
  split at h
  · rfl
  · cases h
theorem jloc_qat {q : Option Value ⊕ (Nat × List Value × List Value)} (h : qat jT0 M (pc, a, st, g) = some q) (f : M.2.2.2.2.2.2.1 pc = some (i, len)) : jloc i nL b st = none := by
  unfold qat at h
  try dsimp only at h
  rw [f] at h
  try dsimp only at h
  cases h1 : jend M.2.2.2.1 i len st with
  | some v => exact jloc_end h1
  | none =>
    rw [h1] at h
    try dsimp only at h
    cases h2 : qcall jT0.2.1 M.2.2.2.2.1 i len st with
    | some q => exact jloc_qcall h2
    | none => rw [h2] at h; cases h
theorem jloc_qthr {ci : Nat} (h : qthr jT0 M (pc, a, st, g) = some ci) (f : M.2.2.2.2.2.2.1 pc = some (i, len)) : jloc i nL b st = none := by
  unfold qthr at h
  try dsimp only at h
  rw [f] at h
  exact jloc_jthr h
theorem qstep_sub {pc1 : Nat} {a1 : List (Nat × Value)} {st1 : List Value} {g1 : qG} (hn : jnd a = true) (hs : lsub a b) (h : qstep jT0 S M (pc, a, st, g) = some (pc1, a1, st1, g1)) : ∃ b1, qstep jT0 S M (pc, b, st, g) = some (pc1, b1, st1, g1) ∧ jnd a1 = true ∧ lsub a1 b1 := by
  unfold qstep at h ⊢
  try dsimp only at h ⊢
  cases f : M.2.2.2.2.2.2.1 pc with
  | none => rw [f] at h; cases h
  | some q =>
    obtain ⟨i, len⟩ := q
    rw [f] at h
    try dsimp only at h ⊢
    cases h1 : jstk i st with
    | some q =>
      obtain ⟨st', k⟩ := q
      rw [h1] at h
      try dsimp only at h ⊢
      cases hk : Nat.beq k len with
      | false => rw [hk] at h; cases h
      | true => rw [hk] at h; cases h; exact ⟨b, rfl, hn, hs⟩
    | none =>
      rw [h1] at h
      try dsimp only at h ⊢
      cases h2 : jloc i M.2.2.1 a st with
      | some q =>
        obtain ⟨a', st', k⟩ := q
        rw [h2] at h
        try dsimp only at h ⊢
        obtain ⟨b', e, n1, s1⟩ := jloc_sub hn hs h2
        rw [e]
        try dsimp only
        cases hk : Nat.beq k len with
        | false => rw [hk] at h; cases h
        | true => rw [hk] at h; cases h; exact ⟨b', rfl, n1, s1⟩
      | none =>
        rw [h2] at h
        try dsimp only at h ⊢
        cases h3 : jloc i M.2.2.1 b st with
        | none =>
          try dsimp only
          cases h4 : jjmp i pc len st with
          | some q => rw [h4] at h; dsimp only at h ⊢; cases h; exact ⟨b, rfl, hn, hs⟩
          | none =>
            rw [h4] at h
            try dsimp only at h ⊢
            cases h5 : qhp jT0.1 S M.2.2.2.2.1 i st g with
            | some q =>
              rw [h5] at h
              try dsimp only at h ⊢
              cases hk : Nat.beq q.2.2 len with
              | false => rw [hk] at h; cases h
              | true => rw [hk] at h; cases h; exact ⟨b, rfl, hn, hs⟩
            | none =>
              rw [h5] at h
              try dsimp only at h ⊢
              cases h6 : qcall jT0.2.1 M.2.2.2.2.1 i len st with
              | none => rw [h6] at h; cases h
              | some q =>
                rw [h6] at h
                try dsimp only at h ⊢
                cases h7 : (qisT q.1 && qcat q.2.2) with
                | false => rw [h7] at h; cases h
                | true =>
                  rw [h7] at h
                  try dsimp only [cond] at h ⊢
                  cases h8 : qtab q.1 q.2.1 g with
                  | none => rw [h8] at h; cases h
                  | some q => rw [h8] at h; cases h; exact ⟨b, rfl, hn, hs⟩
        | some q3 =>
          exfalso
          have hh : ∀ {x : Option qS}, x = some (pc1, a1, st1, g1) → x ≠ none := fun e e2 => by rw [e2] at e; cases e
          have e4 : jjmp i pc len st = none := by
            unfold jloc at h3
            split at h3 <;> first | rfl | (cases h3; done)
          have e5 : qhp jT0.1 S M.2.2.2.2.1 i st g = none := by
            unfold jloc at h3
            split at h3 <;> first | rfl | (cases h3; done)
          have e6 : qcall jT0.2.1 M.2.2.2.2.1 i len st = none := by
            unfold jloc at h3
            split at h3 <;> first | rfl | (cases h3; done)
          rw [e4] at h
          try dsimp only at h
          rw [e5] at h
          try dsimp only at h
          rw [e6] at h
          cases h
theorem qstep_none_sub (hn : jnd a = true) (hs : lsub a b) (h : qstep jT0 S M (pc, a, st, g) = none) (hl : ∀ i len, M.2.2.2.2.2.2.1 pc = some (i, len) → jloc i M.2.2.1 b st = none ∧ jloc i M.2.2.1 a st = none) : qstep jT0 S M (pc, b, st, g) = none := by
  unfold qstep at h ⊢
  try dsimp only at h ⊢
  cases f : M.2.2.2.2.2.2.1 pc with
  | none => rfl
  | some q =>
    obtain ⟨i, len⟩ := q
    rw [f] at h
    try dsimp only at h ⊢
    obtain ⟨l1, l2⟩ := hl i len f
    rw [l2] at h
    rw [l1]
    cases h1 : jstk i st with
    | some q =>
      rw [h1] at h
      try dsimp only at h ⊢
      cases hk : Nat.beq q.2 len with
      | false => rfl
      | true => rw [hk] at h; cases h
    | none =>
      rw [h1] at h
      try dsimp only at h ⊢
      cases h4 : jjmp i pc len st with
      | some q => rw [h4] at h; cases h
      | none =>
        rw [h4] at h
        try dsimp only at h ⊢
        cases h5 : qhp jT0.1 S M.2.2.2.2.1 i st g with
        | some q =>
          rw [h5] at h
          try dsimp only at h ⊢
          cases hk : Nat.beq q.2.2 len with
          | false => rfl
          | true => rw [hk] at h; cases h
        | none =>
          rw [h5] at h
          try dsimp only at h ⊢
          cases h6 : qcall jT0.2.1 M.2.2.2.2.1 i len st with
          | none => rfl
          | some q =>
            rw [h6] at h
            try dsimp only at h ⊢
            cases h7 : (qisT q.1 && qcat q.2.2) with
            | false => rfl
            | true =>
              rw [h7] at h
              try dsimp only [cond] at h ⊢
              cases h8 : qtab q.1 q.2.1 g with
              | none => rfl
              | some q => rw [h8] at h; cases h
theorem qrun_weak : ∀ (n : Nat) {d : Nat} {M : jM} {pc : Nat} {a b : List (Nat × Value)} {st : List Value} {g : qG} {r : qO}, jnd a = true → lsub a b → qrun jT0 S n d M (pc, a, st, g) = some r → qrun jT0 S n d M (pc, b, st, g) = some r
  | 0, _, _, _, _, _, _, _, _, _, _, h => by cases h
  | n + 1, d, M, pc, a, b, st, g, r, hn, hs, h => by
    have h : qbody jT0 S (qrun jT0 S n) d M (pc, a, st, g) = some r := h
    show qbody jT0 S (qrun jT0 S n) d M (pc, b, st, g) = some r
    unfold qbody at h ⊢
    by_cases hd : d < 9
    · rw [if_pos hd] at h; cases h
    rw [if_neg hd] at h ⊢
    cases h1 : qstep jT0 S M (pc, a, st, g) with
    | some s1 =>
      obtain ⟨pc1, a1, st1, g1⟩ := s1
      obtain ⟨b1, e, n1, s1⟩ := qstep_sub hn hs h1
      rw [h1] at h
      rw [e]
      exact qrun_weak n n1 s1 h
    | none =>
      rw [h1] at h
      try dsimp only at h
      have eq : qat jT0 M (pc, b, st, g) = qat jT0 M (pc, a, st, g) := rfl
      have et : qthr jT0 M (pc, b, st, g) = qthr jT0 M (pc, a, st, g) := rfl
      cases h2 : qat jT0 M (pc, a, st, g) with
      | some q =>
        have e0 := qstep_none_sub hn hs h1 (fun i len f => ⟨jloc_qat h2 f, jloc_qat h2 f⟩)
        rw [e0]
        try dsimp only
        rw [eq, h2]
        rw [h2] at h
        try dsimp only at h ⊢
        cases q with
        | inl v => exact h
        | inr q =>
          obtain ⟨z, as, r0⟩ := q
          try dsimp only at h ⊢
          cases h3 : jT0.2.2.1 z with
          | none => rw [h3] at h; cases h
          | some Z =>
            rw [h3] at h
            try dsimp only at h ⊢
            by_cases h4 : Z.2.2.1 < (lg_sl as).length
            · rw [if_pos h4] at h; cases h
            rw [if_neg h4] at h ⊢
            cases h5 : qrun jT0 S n (d - 1) Z (0, lv_args 0 as, [], g) with
            | none => rw [h5] at h; cases h
            | some q =>
              obtain ⟨o, g'⟩ := q
              rw [h5] at h
              cases o with
              | inl v => exact qrun_weak n hn hs h
              | inr ci => exact h
      | none =>
        rw [h2] at h
        try dsimp only at h
        cases h3 : qthr jT0 M (pc, a, st, g) with
        | none => rw [h3] at h; cases h
        | some ci =>
          have e0 := qstep_none_sub hn hs h1 (fun i len f => ⟨jloc_qthr h3 f, jloc_qthr h3 f⟩)
          rw [e0]
          try dsimp only
          rw [eq, h2]
          try dsimp only
          rw [et, h3]
          rw [h3] at h
          exact h
theorem qE.weak {d : Nat} {r : qO} (hs : jsub a b) (hn : jnd a = true) (e : qE S d M (pc, a, st, g) r) : qE S d M (pc, b, st, g) r := by
  obtain ⟨n, h⟩ := e
  exact ⟨n, qrun_weak n hn (jsub_lsub hs) h⟩
end QW
end
section
/-! what the decompiled methods need -/
def qF : Nat := 16777216
def qres (p : (Int32 ⊕ Nat) × qC) (y : qC × Int64 × Nat) : qO := match p.1 with
  | .inl v => (.inl (some (.int v)), (p.2, y))
  | .inr c => (.inr c, (p.2, y.1, y.2.1, y.2.2 + 1))
def qresV (p : (Int32 ⊕ Nat) × qC) (y : qC × Int64 × Nat) : qO := match p.1 with
  | .inl _ => (.inl none, (p.2, y))
  | .inr c => (.inr c, (p.2, y.1, y.2.1, y.2.2 + 1))
theorem jsw_def {pc len t : Nat} {d lo hi : Int} {offs : Array Int} {x : Int32} {r : List Value} (h : ∀ k : Int, lo ≤ k → k ≤ hi → ¬ x = Int32.ofInt k) (ht : jtgt pc d = some t) : jjmp (.tableswitch d lo hi offs) pc len (.int x :: r) = some (t, r) := by
  unfold jjmp
  dsimp only
  unfold jsw
  rw [if_pos, ht]
  · rfl
  · by_cases h1 : x.toInt < lo
    · exact Or.inl h1
    · by_cases h2 : hi < x.toInt
      · exact Or.inr h2
      · exact absurd (Int32.ofInt_toInt x).symm (h x.toInt (by omega) (by omega))
theorem jlw_def5 {pc len t : Nat} {d a1 a2 a3 a4 a5 o1 o2 o3 o4 o5 : Int} {x : Int32} {r : List Value} (hp : ((#[(a1, o1), (a2, o2), (a3, o3), (a4, o4), (a5, o5)] : Array (Int × Int)).toList.zip ((#[(a1, o1), (a2, o2), (a3, o3), (a4, o4), (a5, o5)] : Array (Int × Int)).toList.drop 1)).all (fun (a, next) => a.1 < next.1) = true) (ht : jtgt pc d = some t)
    (c1 : ¬ x = Int32.ofInt a1) (c2 : ¬ x = Int32.ofInt a2) (c3 : ¬ x = Int32.ofInt a3) (c4 : ¬ x = Int32.ofInt a4) (c5 : ¬ x = Int32.ofInt a5) : jjmp (.lookupswitch d #[(a1, o1), (a2, o2), (a3, o3), (a4, o4), (a5, o5)]) pc len (.int x :: r) = some (t, r) := by
  unfold jjmp
  dsimp only
  have e : ∀ a : Int, ¬ x = Int32.ofInt a → ¬ a = x.toInt := fun a h z => h (by rw [z, Int32.ofInt_toInt])
  have e0 : Op.lookupswitch.offset [(a1, o1), (a2, o2), (a3, o3), (a4, o4), (a5, o5)] d x.toInt = d := by
    rw [Op.lookupswitch.offset_cons, if_neg (e _ c1), Op.lookupswitch.offset_cons, if_neg (e _ c2), Op.lookupswitch.offset_cons, if_neg (e _ c3), Op.lookupswitch.offset_cons, if_neg (e _ c4), Op.lookupswitch.offset_cons, if_neg (e _ c5), Op.lookupswitch.offset_nil]
  rw [if_pos hp]
  show (jtgt pc (Op.lookupswitch.offset [(a1, o1), (a2, o2), (a3, o3), (a4, o4), (a5, o5)] d x.toInt)).map _ = _
  rw [e0, ht]
  rfl
theorem qE.wk {S : Nat × (Nat → Int32)} {d pc : Nat} {M : jM} {a b : List (Nat × Value)} {st : List Value} {g : qG} {r : qO} (e : qE S d M (pc, a, st, g) r) (hs : jsub a b) (hn : jnd a = true) : qE S d M (pc, b, st, g) r := qE.weak hs hn e
end
section
/-! BY PROGRAM (wip/whole/gendc.py): each method as a function over the numbers -/
def c_length_12 (σ : qC) : Int32 := σ.1 2501
theorem t_c_length_12 {S : Nat × (Nat → Int32)} {d : Nat} {y : qC × Int64 × Nat} {σ : qC} {p : Int32} (hd : 9 ≤ d) (h : c_length_12 σ = p) : qE S d jm_9_length_12 (0, [(0, .ref 25)], [], (σ, y)) ((.inl (some (.int p)), (σ, y))) := by
  have hd9 : 9 ≤ d := by omega
  unfold c_length_12 at h
  refine qE.steps 2 hd9 (s' := (4, [(0, .ref 25)], [.int (σ.1 2501)], (σ, y))) rfl ?_
  subst h
  exact qE.ret hd9 rfl rfl
def c_byteOf_21 (l0 : Int64) (i2 : Int32) : Int32 := (((l0.toUInt64 >>> (i2.toInt64.toUInt64 &&& Int64.toUInt64 63)).toInt64).toInt32) &&& (Int32.ofInt 255)
theorem t_c_byteOf_21 {S : Nat × (Nat → Int32)} {d : Nat} {y : qC × Int64 × Nat} {l0 : Int64} {i2 : Int32} {σ : qC} {p : Int32} (hd : 9 ≤ d) (h : c_byteOf_21 l0 i2 = p) : qE S d jm_0_byteOf_21 (0, [(0, .long l0), (2, .int i2)], [], (σ, y)) ((.inl (some (.int p)), (σ, y))) := by
  have hd9 : 9 ≤ d := by omega
  unfold c_byteOf_21 at h
  refine qE.steps 6 hd9 (s' := (8, [(0, .long l0), (2, .int i2)], [.int ((((l0.toUInt64 >>> (i2.toInt64.toUInt64 &&& Int64.toUInt64 63)).toInt64).toInt32) &&& (Int32.ofInt 255))], (σ, y))) rfl ?_
  subst h
  exact qE.ret hd9 rfl rfl
def c_append_22 (i1 : Int32) (σ : qC) : Option qC := if i1 = 0 then some σ else if Int32.ofNat 48 ≤ σ.1 2501 then some σ else (aput σ 26 48 (σ.1 2501) ((i1.toUInt32 % 65536).toInt32).toUInt32.toUInt16.toUInt32.toInt32).bind (fun σ3 => qlet (upS σ3 2501 ((σ3.1 2501) + (Int32.ofInt 1))) (fun σ5 => some σ5))
theorem t_c_append_22 {S : Nat × (Nat → Int32)} {d : Nat} {y : qC × Int64 × Nat} {i1 : Int32} {σ : qC} {p : qC} (hd : 9 ≤ d) (h : c_append_22 i1 σ = some p) : qE S d jm_9_append_22 (0, [(0, .ref 25), (1, .int i1)], [], (σ, y)) ((.inl none, (p, y))) := by
  have hd9 : 9 ≤ d := by omega
  unfold c_append_22 at h
  refine qE.steps 2 hd9 (s' := (if i1 = 0 then 37 else 4, [(0, .ref 25), (1, .int i1)], [], (σ, y))) rfl ?_
  by_cases c1 : i1 = 0
  · rw [if_pos c1] at h
    rw [if_pos c1]
    obtain rfl := Option.some.inj h
    exact qE.ret hd9 rfl rfl
  · rw [if_neg c1] at h
    rw [if_neg c1]
    refine qE.steps 6 hd9 (s' := (if Int32.ofNat 48 ≤ σ.1 2501 then 37 else 16, [(0, .ref 25), (1, .int i1)], [], (σ, y))) rfl ?_
    by_cases c2 : Int32.ofNat 48 ≤ σ.1 2501
    · rw [if_pos c2] at h
      rw [if_pos c2]
      obtain rfl := Option.some.inj h
      exact qE.ret hd9 rfl rfl
    · rw [if_neg c2] at h
      rw [if_neg c2]
      refine qE.steps 6 hd9 (s' := (26, [(0, .ref 25), (1, .int i1)], [.int ((i1.toUInt32 % 65536).toInt32), .int (σ.1 2501), .ref 26], (σ, y))) rfl ?_
      obtain ⟨σ3, e4, h⟩ := obind h
      refine qE.castC hd9 e4 rfl rfl ?_
      obtain ⟨σ5, e6, h⟩ := qlet_ex h
      refine qE.steps 6 hd9 (s' := (37, [(0, .ref 25), (1, .int i1)], [], (σ5, y))) (by subst e6; rfl) ?_
      obtain rfl := Option.some.inj h
      exact qE.ret hd9 rfl rfl
def c_type_20_j48 (K6 : Int64 → Int32 → Int32 → qC → Option ((Int32 ⊕ Nat) × qC)) (l1 : Int64) (i3 : Int32) (i4 : Int32) (i5 : Int32) (σ : qC) : Option ((Int32 ⊕ Nat) × qC) := if i5 = 0 then K6 l1 (i3 + (Int32.ofInt 0)) (i4 + Int32.ofInt (-8)) σ else K6 l1 (i3 + (Int32.ofInt 1)) (i4 + Int32.ofInt (-8)) σ
def c_type_20_l95 : Nat → Int64 → Int32 → qC → Option ((Int32 ⊕ Nat) × qC)
  | 0, _, _, _ => none
  | n + 1, l1, i4, σ => if i4 < 0 then some (.inl (c_length_12 σ), σ) else (c_append_22 (c_byteOf_21 l1 i4) σ).bind (fun p2 => (c_type_20_l95 n) l1 (i4 + Int32.ofInt (-8)) p2)
def c_type_20_l6 : Nat → Int64 → Int32 → Int32 → qC → Option ((Int32 ⊕ Nat) × qC)
  | 0, _, _, _, _ => none
  | n + 1, l1, i3, i4, σ => if i4 < 0 then if (c_length_12 σ) + i3 ≤ Int32.ofInt 48 then c_type_20_l95 qF l1 (Int32.ofInt 56) σ else some (.inr 13, σ) else if c_byteOf_21 l1 i4 = 0 then c_type_20_j48 (c_type_20_l6 n) l1 i3 i4 (c_byteOf_21 l1 i4) σ else if c_byteOf_21 l1 i4 < Int32.ofInt 33 then some (.inr 12, σ) else if c_byteOf_21 l1 i4 ≤ Int32.ofInt 126 then c_type_20_j48 (c_type_20_l6 n) l1 i3 i4 (c_byteOf_21 l1 i4) σ else some (.inr 12, σ)
def c_type_20 (l1 : Int64) (σ : qC) : Option ((Int32 ⊕ Nat) × qC) := c_type_20_l6 qF l1 (Int32.ofInt 0) (Int32.ofInt 56) σ
theorem t_c_type_20_j48 {S : Nat × (Nat → Int32)} {d : Nat} {y : qC × Int64 × Nat} (hd : 10 ≤ d) {K6 : Int64 → Int32 → Int32 → qC → Option ((Int32 ⊕ Nat) × qC)} (hK6 : ∀ {l1 : Int64} {i3 : Int32} {i4 : Int32} {σ : qC} {p : ((Int32 ⊕ Nat) × qC)}, K6 l1 i3 i4 σ = some p → qE S d jm_0_type_20 (6, [(0, .ref 24), (1, .long l1), (3, .int i3), (4, .int i4)], [], (σ, y)) (qres p y)) {l1 : Int64} {i3 : Int32} {i4 : Int32} {i5 : Int32} {σ : qC} {p : ((Int32 ⊕ Nat) × qC)} (h : c_type_20_j48 K6 l1 i3 i4 i5 σ = some p) : qE S d jm_0_type_20 (48, [(0, .ref 24), (1, .long l1), (3, .int i3), (4, .int i4), (5, .int i5)], [], (σ, y)) (qres p y) := by
  have hd9 : 9 ≤ d := by omega
  unfold c_type_20_j48 at h
  refine qE.steps 3 hd9 (s' := (if ¬ (i5 = 0) then 58 else 54, [(0, .ref 24), (1, .long l1), (3, .int i3), (4, .int i4), (5, .int i5)], [.int i3], (σ, y))) rfl ?_
  by_cases c1 : i5 = 0
  · rw [if_pos c1] at h
    rw [if_neg (not_not_intro c1)]
    refine qE.steps 6 hd9 (s' := (6, [(4, .int (i4 + Int32.ofInt (-8))), (3, .int (i3 + (Int32.ofInt 0))), (0, .ref 24), (1, .long l1), (5, .int i5)], [], (σ, y))) rfl ?_
    exact qE.wk (hK6 h) ⟨rfl, rfl, rfl, rfl, trivial⟩ rfl
  · rw [if_neg c1] at h
    rw [if_pos c1]
    refine qE.steps 5 hd9 (s' := (6, [(4, .int (i4 + Int32.ofInt (-8))), (3, .int (i3 + (Int32.ofInt 1))), (0, .ref 24), (1, .long l1), (5, .int i5)], [], (σ, y))) rfl ?_
    exact qE.wk (hK6 h) ⟨rfl, rfl, rfl, rfl, trivial⟩ rfl
theorem t_c_type_20_l95 {S : Nat × (Nat → Int32)} {d : Nat} {y : qC × Int64 × Nat} (hd : 10 ≤ d) : ∀ (n : Nat) {l1 : Int64} {i4 : Int32} {σ : qC} {p : ((Int32 ⊕ Nat) × qC)}, c_type_20_l95 n l1 i4 σ = some p → qE S d jm_0_type_20 (95, [(0, .ref 24), (1, .long l1), (4, .int i4)], [], (σ, y)) (qres p y) := by
  have hd9 : 9 ≤ d := by omega
  intro n
  induction n with
  | zero =>
    intros
    rename_i h
    unfold c_type_20_l95 at h
    cases h
  | succ n ih =>
    intro l1 i4 σ p h
    unfold c_type_20_l95 at h
    refine qE.steps 2 hd9 (s' := (if i4 < 0 then 119 else 100, [(0, .ref 24), (1, .long l1), (4, .int i4)], [], (σ, y))) rfl ?_
    by_cases c1 : i4 < 0
    · rw [if_pos c1] at h
      rw [if_pos c1]
      refine qE.steps 2 hd9 (s' := (123, [(0, .ref 24), (1, .long l1), (4, .int i4)], [.ref 25], (σ, y))) rfl ?_
      refine qE.call hd9 rfl rfl rfl rfl (t_c_length_12 (by omega) rfl) ?_
      refine qE.steps 0 hd9 (s' := (126, [(0, .ref 24), (1, .long l1), (4, .int i4)], [.int (c_length_12 σ)], (σ, y))) rfl ?_
      obtain rfl := Option.some.inj h
      exact qE.ret hd9 rfl rfl
    · rw [if_neg c1] at h
      rw [if_neg c1]
      refine qE.steps 4 hd9 (s' := (107, [(0, .ref 24), (1, .long l1), (4, .int i4)], [.int i4, .long l1, .ref 25], (σ, y))) rfl ?_
      refine qE.call hd9 rfl rfl rfl rfl (t_c_byteOf_21 (by omega) rfl) ?_
      refine qE.steps 0 hd9 (s' := (110, [(0, .ref 24), (1, .long l1), (4, .int i4)], [.int (c_byteOf_21 l1 i4), .ref 25], (σ, y))) rfl ?_
      obtain ⟨p2, e3, h⟩ := obind h
      refine qE.call hd9 rfl rfl rfl rfl (t_c_append_22 (by omega) e3) ?_
      refine qE.steps 0 hd9 (s' := (113, [(0, .ref 24), (1, .long l1), (4, .int i4)], [], (p2, y))) rfl ?_
      refine qE.steps 2 hd9 (s' := (95, [(4, .int (i4 + Int32.ofInt (-8))), (0, .ref 24), (1, .long l1)], [], (p2, y))) rfl ?_
      exact qE.wk (ih h) ⟨rfl, rfl, rfl, trivial⟩ rfl
theorem t_c_type_20_l6 {S : Nat × (Nat → Int32)} {d : Nat} {y : qC × Int64 × Nat} (hd : 10 ≤ d) : ∀ (n : Nat) {l1 : Int64} {i3 : Int32} {i4 : Int32} {σ : qC} {p : ((Int32 ⊕ Nat) × qC)}, c_type_20_l6 n l1 i3 i4 σ = some p → qE S d jm_0_type_20 (6, [(0, .ref 24), (1, .long l1), (3, .int i3), (4, .int i4)], [], (σ, y)) (qres p y) := by
  have hd9 : 9 ≤ d := by omega
  intro n
  induction n with
  | zero =>
    intros
    rename_i h
    unfold c_type_20_l6 at h
    cases h
  | succ n ih =>
    intro l1 i3 i4 σ p h
    unfold c_type_20_l6 at h
    refine qE.steps 2 hd9 (s' := (if i4 < 0 then 67 else 11, [(0, .ref 24), (1, .long l1), (3, .int i3), (4, .int i4)], [], (σ, y))) rfl ?_
    by_cases c1 : i4 < 0
    · rw [if_pos c1] at h
      rw [if_pos c1]
      refine qE.steps 2 hd9 (s' := (71, [(0, .ref 24), (1, .long l1), (3, .int i3), (4, .int i4)], [.ref 25], (σ, y))) rfl ?_
      refine qE.call hd9 rfl rfl rfl rfl (t_c_length_12 (by omega) rfl) ?_
      refine qE.steps 0 hd9 (s' := (74, [(0, .ref 24), (1, .long l1), (3, .int i3), (4, .int i4)], [.int (c_length_12 σ)], (σ, y))) rfl ?_
      refine qE.steps 4 hd9 (s' := (if (c_length_12 σ) + i3 ≤ Int32.ofInt 48 then 91 else 81, [(0, .ref 24), (1, .long l1), (3, .int i3), (4, .int i4)], [], (σ, y))) rfl ?_
      by_cases c2 : (c_length_12 σ) + i3 ≤ Int32.ofInt 48
      · rw [if_pos c2] at h
        rw [if_pos c2]
        refine qE.steps 2 hd9 (s' := (95, [(4, .int (Int32.ofInt 56)), (0, .ref 24), (1, .long l1), (3, .int i3)], [], (σ, y))) rfl ?_
        exact qE.wk (t_c_type_20_l95 hd qF h) ⟨rfl, rfl, rfl, trivial⟩ rfl
      · rw [if_neg c2] at h
        rw [if_neg c2]
        obtain rfl := Option.some.inj h
        exact qE.thr hd9 rfl rfl rfl
    · rw [if_neg c1] at h
      rw [if_neg c1]
      refine qE.steps 2 hd9 (s' := (14, [(0, .ref 24), (1, .long l1), (3, .int i3), (4, .int i4)], [.int i4, .long l1], (σ, y))) rfl ?_
      refine qE.call hd9 rfl rfl rfl rfl (t_c_byteOf_21 (by omega) rfl) ?_
      refine qE.steps 0 hd9 (s' := (17, [(0, .ref 24), (1, .long l1), (3, .int i3), (4, .int i4)], [.int (c_byteOf_21 l1 i4)], (σ, y))) rfl ?_
      refine qE.steps 3 hd9 (s' := (if c_byteOf_21 l1 i4 = 0 then 48 else 24, [(5, .int (c_byteOf_21 l1 i4)), (0, .ref 24), (1, .long l1), (3, .int i3), (4, .int i4)], [], (σ, y))) rfl ?_
      by_cases c3 : c_byteOf_21 l1 i4 = 0
      · rw [if_pos c3] at h
        rw [if_pos c3]
        exact qE.wk (t_c_type_20_j48 hd ih h) ⟨rfl, rfl, rfl, rfl, rfl, trivial⟩ rfl
      · rw [if_neg c3] at h
        rw [if_neg c3]
        refine qE.steps 3 hd9 (s' := (if c_byteOf_21 l1 i4 < Int32.ofInt 33 then 38 else 31, [(5, .int (c_byteOf_21 l1 i4)), (0, .ref 24), (1, .long l1), (3, .int i3), (4, .int i4)], [], (σ, y))) rfl ?_
        by_cases c4 : c_byteOf_21 l1 i4 < Int32.ofInt 33
        · rw [if_pos c4] at h
          rw [if_pos c4]
          obtain rfl := Option.some.inj h
          exact qE.thr hd9 rfl rfl rfl
        · rw [if_neg c4] at h
          rw [if_neg c4]
          refine qE.steps 3 hd9 (s' := (if c_byteOf_21 l1 i4 ≤ Int32.ofInt 126 then 48 else 38, [(5, .int (c_byteOf_21 l1 i4)), (0, .ref 24), (1, .long l1), (3, .int i3), (4, .int i4)], [], (σ, y))) rfl ?_
          by_cases c5 : c_byteOf_21 l1 i4 ≤ Int32.ofInt 126
          · rw [if_pos c5] at h
            rw [if_pos c5]
            exact qE.wk (t_c_type_20_j48 hd ih h) ⟨rfl, rfl, rfl, rfl, rfl, trivial⟩ rfl
          · rw [if_neg c5] at h
            rw [if_neg c5]
            obtain rfl := Option.some.inj h
            exact qE.thr hd9 rfl rfl rfl
theorem t_c_type_20 {S : Nat × (Nat → Int32)} {d : Nat} {y : qC × Int64 × Nat} {l1 : Int64} {σ : qC} {p : ((Int32 ⊕ Nat) × qC)} (hd : 10 ≤ d) (h : c_type_20 l1 σ = some p) : qE S d jm_0_type_20 (0, [(0, .ref 24), (1, .long l1)], [], (σ, y)) (qres p y) := by
  have hd9 : 9 ≤ d := by omega
  unfold c_type_20 at h
  refine qE.steps 4 hd9 (s' := (6, [(4, .int (Int32.ofInt 56)), (3, .int (Int32.ofInt 0)), (0, .ref 24), (1, .long l1)], [], (σ, y))) rfl ?_
  exact qE.wk (t_c_type_20_l6 hd qF h) ⟨rfl, rfl, rfl, rfl, trivial⟩ rfl
def c_size_13 (σ : qC) : Int32 := σ.1 3302
theorem t_c_size_13 {S : Nat × (Nat → Int32)} {d : Nat} {y : qC × Int64 × Nat} {σ : qC} {p : Int32} (hd : 9 ≤ d) (h : c_size_13 σ = p) : qE S d jm_2_size_13 (0, [(0, .ref 33)], [], (σ, y)) ((.inl (some (.int p)), (σ, y))) := by
  have hd9 : 9 ≤ d := by omega
  unfold c_size_13 at h
  refine qE.steps 2 hd9 (s' := (4, [(0, .ref 33)], [.int (σ.1 3302)], (σ, y))) rfl ?_
  subst h
  exact qE.ret hd9 rfl rfl
def c_page_26 (i1 : Int32) (σ : qC) : Int32 := if i1 < 0 then Int32.ofInt (-1) else if Int32.ofNat 12 ≤ i1 then Int32.ofInt (-1) else σ.2 34 i1.toNatClampNeg
theorem t_c_page_26 {S : Nat × (Nat → Int32)} {d : Nat} {y : qC × Int64 × Nat} {i1 : Int32} {σ : qC} {p : Int32} (hd : 9 ≤ d) (h : c_page_26 i1 σ = p) : qE S d jm_2_page_26 (0, [(0, .ref 33), (1, .int i1)], [], (σ, y)) ((.inl (some (.int p)), (σ, y))) := by
  have hd9 : 9 ≤ d := by omega
  unfold c_page_26 at h
  refine qE.steps 2 hd9 (s' := (if i1 < 0 then 22 else 4, [(0, .ref 33), (1, .int i1)], [], (σ, y))) rfl ?_
  by_cases c1 : i1 < 0
  · rw [if_pos c1] at h
    rw [if_pos c1]
    refine qE.steps 1 hd9 (s' := (23, [(0, .ref 33), (1, .int i1)], [.int (Int32.ofInt (-1))], (σ, y))) rfl ?_
    subst h
    exact qE.ret hd9 rfl rfl
  · rw [if_neg c1] at h
    rw [if_neg c1]
    refine qE.steps 5 hd9 (s' := (if Int32.ofNat 12 ≤ i1 then 22 else 13, [(0, .ref 33), (1, .int i1)], [], (σ, y))) rfl ?_
    by_cases c2 : Int32.ofNat 12 ≤ i1
    · rw [if_pos c2] at h
      rw [if_pos c2]
      refine qE.steps 1 hd9 (s' := (23, [(0, .ref 33), (1, .int i1)], [.int (Int32.ofInt (-1))], (σ, y))) rfl ?_
      subst h
      exact qE.ret hd9 rfl rfl
    · rw [if_neg c2] at h
      rw [if_neg c2]
      refine qE.steps 3 hd9 (s' := (18, [(0, .ref 33), (1, .int i1)], [.int i1, .ref 34], (σ, y))) rfl ?_
      refine qE.iald hd9 (aget_of c1 c2 (by decide)) rfl rfl ?_
      refine qE.steps 1 hd9 (s' := (23, [(0, .ref 33), (1, .int i1)], [.int (σ.2 34 i1.toNatClampNeg)], (σ, y))) rfl ?_
      subst h
      exact qE.ret hd9 rfl rfl
def c_freePage_25 (σ : qC) : Int32 := c_page_26 (σ.1 3302) σ
theorem t_c_freePage_25 {S : Nat × (Nat → Int32)} {d : Nat} {y : qC × Int64 × Nat} {σ : qC} {p : Int32} (hd : 10 ≤ d) (h : c_freePage_25 σ = p) : qE S d jm_2_freePage_25 (0, [(0, .ref 33)], [], (σ, y)) ((.inl (some (.int p)), (σ, y))) := by
  have hd9 : 9 ≤ d := by omega
  unfold c_freePage_25 at h
  refine qE.steps 3 hd9 (s' := (5, [(0, .ref 33)], [.int (σ.1 3302), .ref 33], (σ, y))) rfl ?_
  refine qE.call hd9 rfl rfl rfl rfl (t_c_page_26 (by omega) rfl) ?_
  refine qE.steps 0 hd9 (s' := (8, [(0, .ref 33)], [.int (c_page_26 (σ.1 3302) σ)], (σ, y))) rfl ?_
  subst h
  exact qE.ret hd9 rfl rfl
def c_firstNode_31 (i0 : Int32) : Int32 := i0 * (Int32.ofInt 48)
theorem t_c_firstNode_31 {S : Nat × (Nat → Int32)} {d : Nat} {y : qC × Int64 × Nat} {i0 : Int32} {σ : qC} {p : Int32} (hd : 9 ≤ d) (h : c_firstNode_31 i0 = p) : qE S d jm_1_firstNode_31 (0, [(0, .int i0)], [], (σ, y)) ((.inl (some (.int p)), (σ, y))) := by
  have hd9 : 9 ≤ d := by omega
  unfold c_firstNode_31 at h
  refine qE.steps 3 hd9 (s' := (4, [(0, .int i0)], [.int (i0 * (Int32.ofInt 48))], (σ, y))) rfl ?_
  subst h
  exact qE.ret hd9 rfl rfl
def c_clearPage_29_l22 : Nat → Int32 → Int32 → qC → Option qC
  | 0, _, _, _ => none
  | n + 1, i1, i2, σ => if Int32.ofInt 48 ≤ i2 then some σ else (tputO σ 28 9 ((c_firstNode_31 i1) + i2) (Int32.ofInt 0) (Int32.ofInt 0)).bind (fun σ2 => (c_clearPage_29_l22 n) i1 (i2 + Int32.ofInt 1) σ2)
def c_clearPage_29 (i1 : Int32) (σ : qC) : Option qC := (tputO σ 30 4 i1 (Int32.ofInt 0) (Int32.ofInt 0)).bind (fun σ1 => (tputO σ1 30 4 i1 (Int32.ofInt 1) (Int32.ofInt (-1))).bind (fun σ3 => c_clearPage_29_l22 qF i1 (Int32.ofInt 0) σ3))
theorem t_c_clearPage_29_l22 {S : Nat × (Nat → Int32)} {d : Nat} {y : qC × Int64 × Nat} (hd : 10 ≤ d) : ∀ (n : Nat) {i1 : Int32} {i2 : Int32} {σ : qC} {p : qC}, c_clearPage_29_l22 n i1 i2 σ = some p → qE S d jm_1_clearPage_29 (22, [(0, .ref 27), (1, .int i1), (2, .int i2)], [], (σ, y)) ((.inl none, (p, y))) := by
  have hd9 : 9 ≤ d := by omega
  intro n
  induction n with
  | zero =>
    intros
    rename_i h
    unfold c_clearPage_29_l22 at h
    cases h
  | succ n ih =>
    intro i1 i2 σ p h
    unfold c_clearPage_29_l22 at h
    refine qE.steps 3 hd9 (s' := (if Int32.ofInt 48 ≤ i2 then 49 else 28, [(0, .ref 27), (1, .int i1), (2, .int i2)], [], (σ, y))) rfl ?_
    by_cases c1 : Int32.ofInt 48 ≤ i2
    · rw [if_pos c1] at h
      rw [if_pos c1]
      obtain rfl := Option.some.inj h
      exact qE.ret hd9 rfl rfl
    · rw [if_neg c1] at h
      rw [if_neg c1]
      refine qE.steps 3 hd9 (s' := (33, [(0, .ref 27), (1, .int i1), (2, .int i2)], [.int i1, .ref 28], (σ, y))) rfl ?_
      refine qE.call hd9 rfl rfl rfl rfl (t_c_firstNode_31 (by omega) rfl) ?_
      refine qE.steps 0 hd9 (s' := (36, [(0, .ref 27), (1, .int i1), (2, .int i2)], [.int (c_firstNode_31 i1), .ref 28], (σ, y))) rfl ?_
      refine qE.steps 4 hd9 (s' := (40, [(0, .ref 27), (1, .int i1), (2, .int i2)], [.int (Int32.ofInt 0), .int (Int32.ofInt 0), .int ((c_firstNode_31 i1) + i2), .ref 28], (σ, y))) rfl ?_
      obtain ⟨σ2, e3, h⟩ := obind h
      refine qE.tab hd9 (qtab_put e3 rfl) rfl rfl rfl ?_
      refine qE.steps 2 hd9 (s' := (22, [(2, .int (i2 + Int32.ofInt 1)), (0, .ref 27), (1, .int i1)], [], (σ2, y))) rfl ?_
      exact qE.wk (ih h) ⟨rfl, rfl, rfl, trivial⟩ rfl
theorem t_c_clearPage_29 {S : Nat × (Nat → Int32)} {d : Nat} {y : qC × Int64 × Nat} {i1 : Int32} {σ : qC} {p : qC} (hd : 10 ≤ d) (h : c_clearPage_29 i1 σ = some p) : qE S d jm_1_clearPage_29 (0, [(0, .ref 27), (1, .int i1)], [], (σ, y)) ((.inl none, (p, y))) := by
  have hd9 : 9 ≤ d := by omega
  unfold c_clearPage_29 at h
  refine qE.steps 5 hd9 (s' := (7, [(0, .ref 27), (1, .int i1)], [.int (Int32.ofInt 0), .int (Int32.ofInt 0), .int i1, .ref 30], (σ, y))) rfl ?_
  obtain ⟨σ1, e2, h⟩ := obind h
  refine qE.tab hd9 (qtab_put e2 rfl) rfl rfl rfl ?_
  refine qE.steps 5 hd9 (s' := (17, [(0, .ref 27), (1, .int i1)], [.int (Int32.ofInt (-1)), .int (Int32.ofInt 1), .int i1, .ref 30], (σ1, y))) rfl ?_
  obtain ⟨σ3, e4, h⟩ := obind h
  refine qE.tab hd9 (qtab_put e4 rfl) rfl rfl rfl ?_
  refine qE.steps 2 hd9 (s' := (22, [(2, .int (Int32.ofInt 0)), (0, .ref 27), (1, .int i1)], [], (σ3, y))) rfl ?_
  exact qE.wk (t_c_clearPage_29_l22 hd qF h) ⟨rfl, rfl, rfl, trivial⟩ rfl
def c_begin_28 (i1 : Int32) (σ : qC) : Option qC := qlet (upS σ 3202 i1) (fun σ1 => qlet (upS σ1 3203 (Int32.ofInt 0)) (fun σ3 => (c_clearPage_29 (σ3.1 3202) σ3).bind (fun p5 => some p5)))
theorem t_c_begin_28 {S : Nat × (Nat → Int32)} {d : Nat} {y : qC × Int64 × Nat} {i1 : Int32} {σ : qC} {p : qC} (hd : 11 ≤ d) (h : c_begin_28 i1 σ = some p) : qE S d jm_5_begin_28 (0, [(0, .ref 32), (1, .int i1)], [], (σ, y)) ((.inl none, (p, y))) := by
  have hd9 : 9 ≤ d := by omega
  unfold c_begin_28 at h
  obtain ⟨σ1, e2, h⟩ := qlet_ex h
  refine qE.steps 3 hd9 (s' := (5, [(0, .ref 32), (1, .int i1)], [], (σ1, y))) (by subst e2; rfl) ?_
  obtain ⟨σ3, e4, h⟩ := qlet_ex h
  refine qE.steps 3 hd9 (s' := (10, [(0, .ref 32), (1, .int i1)], [], (σ3, y))) (by subst e4; rfl) ?_
  refine qE.steps 4 hd9 (s' := (18, [(0, .ref 32), (1, .int i1)], [.int (σ3.1 3202), .ref 27], (σ3, y))) rfl ?_
  obtain ⟨p5, e6, h⟩ := obind h
  refine qE.call hd9 rfl rfl rfl rfl (t_c_clearPage_29 (by omega) e6) ?_
  refine qE.steps 0 hd9 (s' := (21, [(0, .ref 32), (1, .int i1)], [], (p5, y))) rfl ?_
  obtain rfl := Option.some.inj h
  exact qE.ret hd9 rfl rfl
def c_at_32 (i1 : Int32) (σ : qC) : Int32 := if i1 < 0 then Int32.ofInt 0 else if σ.1 2501 ≤ i1 then Int32.ofInt 0 else if Int32.ofNat 48 ≤ i1 then Int32.ofInt 0 else σ.2 26 i1.toNatClampNeg
theorem t_c_at_32 {S : Nat × (Nat → Int32)} {d : Nat} {y : qC × Int64 × Nat} {i1 : Int32} {σ : qC} {p : Int32} (hd : 9 ≤ d) (h : c_at_32 i1 σ = p) : qE S d jm_9_at_32 (0, [(0, .ref 25), (1, .int i1)], [], (σ, y)) ((.inl (some (.int p)), (σ, y))) := by
  have hd9 : 9 ≤ d := by omega
  unfold c_at_32 at h
  refine qE.steps 2 hd9 (s' := (if i1 < 0 then 30 else 4, [(0, .ref 25), (1, .int i1)], [], (σ, y))) rfl ?_
  by_cases c1 : i1 < 0
  · rw [if_pos c1] at h
    rw [if_pos c1]
    refine qE.steps 1 hd9 (s' := (31, [(0, .ref 25), (1, .int i1)], [.int (Int32.ofInt 0)], (σ, y))) rfl ?_
    subst h
    exact qE.ret hd9 rfl rfl
  · rw [if_neg c1] at h
    rw [if_neg c1]
    refine qE.steps 4 hd9 (s' := (if σ.1 2501 ≤ i1 then 30 else 12, [(0, .ref 25), (1, .int i1)], [], (σ, y))) rfl ?_
    by_cases c2 : σ.1 2501 ≤ i1
    · rw [if_pos c2] at h
      rw [if_pos c2]
      refine qE.steps 1 hd9 (s' := (31, [(0, .ref 25), (1, .int i1)], [.int (Int32.ofInt 0)], (σ, y))) rfl ?_
      subst h
      exact qE.ret hd9 rfl rfl
    · rw [if_neg c2] at h
      rw [if_neg c2]
      refine qE.steps 5 hd9 (s' := (if Int32.ofNat 48 ≤ i1 then 30 else 21, [(0, .ref 25), (1, .int i1)], [], (σ, y))) rfl ?_
      by_cases c3 : Int32.ofNat 48 ≤ i1
      · rw [if_pos c3] at h
        rw [if_pos c3]
        refine qE.steps 1 hd9 (s' := (31, [(0, .ref 25), (1, .int i1)], [.int (Int32.ofInt 0)], (σ, y))) rfl ?_
        subst h
        exact qE.ret hd9 rfl rfl
      · rw [if_neg c3] at h
        rw [if_neg c3]
        refine qE.steps 3 hd9 (s' := (26, [(0, .ref 25), (1, .int i1)], [.int i1, .ref 26], (σ, y))) rfl ?_
        refine qE.cald hd9 (aget_of c1 c3 (by decide)) rfl rfl ?_
        refine qE.steps 1 hd9 (s' := (31, [(0, .ref 25), (1, .int i1)], [.int (σ.2 26 i1.toNatClampNeg)], (σ, y))) rfl ?_
        subst h
        exact qE.ret hd9 rfl rfl
def c_isSmall_33 (i0 : Int32) : Int32 := if i0 < Int32.ofInt 97 then Int32.ofInt 0 else if Int32.ofInt 122 < i0 then Int32.ofInt 0 else Int32.ofInt 1
theorem t_c_isSmall_33 {S : Nat × (Nat → Int32)} {d : Nat} {y : qC × Int64 × Nat} {i0 : Int32} {σ : qC} {p : Int32} (hd : 9 ≤ d) (h : c_isSmall_33 i0 = p) : qE S d jm_1_isSmall_33 (0, [(0, .int i0)], [], (σ, y)) ((.inl (some (.int p)), (σ, y))) := by
  have hd9 : 9 ≤ d := by omega
  unfold c_isSmall_33 at h
  refine qE.steps 3 hd9 (s' := (if i0 < Int32.ofInt 97 then 16 else 6, [(0, .int i0)], [], (σ, y))) rfl ?_
  by_cases c1 : i0 < Int32.ofInt 97
  · rw [if_pos c1] at h
    rw [if_pos c1]
    refine qE.steps 1 hd9 (s' := (17, [(0, .int i0)], [.int (Int32.ofInt 0)], (σ, y))) rfl ?_
    subst h
    exact qE.ret hd9 rfl rfl
  · rw [if_neg c1] at h
    rw [if_neg c1]
    refine qE.steps 3 hd9 (s' := (if Int32.ofInt 122 < i0 then 16 else 12, [(0, .int i0)], [], (σ, y))) rfl ?_
    by_cases c2 : Int32.ofInt 122 < i0
    · rw [if_pos c2] at h
      rw [if_pos c2]
      refine qE.steps 1 hd9 (s' := (17, [(0, .int i0)], [.int (Int32.ofInt 0)], (σ, y))) rfl ?_
      subst h
      exact qE.ret hd9 rfl rfl
    · rw [if_neg c2] at h
      rw [if_neg c2]
      refine qE.steps 2 hd9 (s' := (17, [(0, .int i0)], [.int (Int32.ofInt 1)], (σ, y))) rfl ?_
      subst h
      exact qE.ret hd9 rfl rfl
def c_sign_48 (i1 : Int32) (σ : qC) : Int32 := tat σ 28 9 i1 (Int32.ofInt 0)
theorem t_c_sign_48 {S : Nat × (Nat → Int32)} {d : Nat} {y : qC × Int64 × Nat} {i1 : Int32} {σ : qC} {p : Int32} (hd : 9 ≤ d) (h : c_sign_48 i1 σ = p) : qE S d jm_1_sign_48 (0, [(0, .ref 27), (1, .int i1)], [], (σ, y)) ((.inl (some (.int p)), (σ, y))) := by
  have hd9 : 9 ≤ d := by omega
  unfold c_sign_48 at h
  refine qE.steps 5 hd9 (s' := (9, [(0, .ref 27), (1, .int i1)], [.int (tat σ 28 9 i1 (Int32.ofInt 0))], (σ, y))) rfl ?_
  subst h
  exact qE.ret hd9 rfl rfl
def c_isCapital_35 (i0 : Int32) : Int32 := if i0 < Int32.ofInt 65 then Int32.ofInt 0 else if Int32.ofInt 90 < i0 then Int32.ofInt 0 else Int32.ofInt 1
theorem t_c_isCapital_35 {S : Nat × (Nat → Int32)} {d : Nat} {y : qC × Int64 × Nat} {i0 : Int32} {σ : qC} {p : Int32} (hd : 9 ≤ d) (h : c_isCapital_35 i0 = p) : qE S d jm_1_isCapital_35 (0, [(0, .int i0)], [], (σ, y)) ((.inl (some (.int p)), (σ, y))) := by
  have hd9 : 9 ≤ d := by omega
  unfold c_isCapital_35 at h
  refine qE.steps 3 hd9 (s' := (if i0 < Int32.ofInt 65 then 16 else 6, [(0, .int i0)], [], (σ, y))) rfl ?_
  by_cases c1 : i0 < Int32.ofInt 65
  · rw [if_pos c1] at h
    rw [if_pos c1]
    refine qE.steps 1 hd9 (s' := (17, [(0, .int i0)], [.int (Int32.ofInt 0)], (σ, y))) rfl ?_
    subst h
    exact qE.ret hd9 rfl rfl
  · rw [if_neg c1] at h
    rw [if_neg c1]
    refine qE.steps 3 hd9 (s' := (if Int32.ofInt 90 < i0 then 16 else 12, [(0, .int i0)], [], (σ, y))) rfl ?_
    by_cases c2 : Int32.ofInt 90 < i0
    · rw [if_pos c2] at h
      rw [if_pos c2]
      refine qE.steps 1 hd9 (s' := (17, [(0, .int i0)], [.int (Int32.ofInt 0)], (σ, y))) rfl ?_
      subst h
      exact qE.ret hd9 rfl rfl
    · rw [if_neg c2] at h
      rw [if_neg c2]
      refine qE.steps 2 hd9 (s' := (17, [(0, .int i0)], [.int (Int32.ofInt 1)], (σ, y))) rfl ?_
      subst h
      exact qE.ret hd9 rfl rfl
def c_bitCount_183 (i0 : Int32) : Int32 := (((((((i0 - (((i0.toUInt32 >>> ((Int32.ofInt 1).toUInt32 &&& Int32.toUInt32 31)).toInt32) &&& (Int32.ofInt 1431655765))) &&& (Int32.ofInt 858993459)) + ((((i0 - (((i0.toUInt32 >>> ((Int32.ofInt 1).toUInt32 &&& Int32.toUInt32 31)).toInt32) &&& (Int32.ofInt 1431655765))).toUInt32 >>> ((Int32.ofInt 2).toUInt32 &&& Int32.toUInt32 31)).toInt32) &&& (Int32.ofInt 858993459))) + (((((i0 - (((i0.toUInt32 >>> ((Int32.ofInt 1).toUInt32 &&& Int32.toUInt32 31)).toInt32) &&& (Int32.ofInt 1431655765))) &&& (Int32.ofInt 858993459)) + ((((i0 - (((i0.toUInt32 >>> ((Int32.ofInt 1).toUInt32 &&& Int32.toUInt32 31)).toInt32) &&& (Int32.ofInt 1431655765))).toUInt32 >>> ((Int32.ofInt 2).toUInt32 &&& Int32.toUInt32 31)).toInt32) &&& (Int32.ofInt 858993459))).toUInt32 >>> ((Int32.ofInt 4).toUInt32 &&& Int32.toUInt32 31)).toInt32)) &&& (Int32.ofInt 252645135)) + (((((((i0 - (((i0.toUInt32 >>> ((Int32.ofInt 1).toUInt32 &&& Int32.toUInt32 31)).toInt32) &&& (Int32.ofInt 1431655765))) &&& (Int32.ofInt 858993459)) + ((((i0 - (((i0.toUInt32 >>> ((Int32.ofInt 1).toUInt32 &&& Int32.toUInt32 31)).toInt32) &&& (Int32.ofInt 1431655765))).toUInt32 >>> ((Int32.ofInt 2).toUInt32 &&& Int32.toUInt32 31)).toInt32) &&& (Int32.ofInt 858993459))) + (((((i0 - (((i0.toUInt32 >>> ((Int32.ofInt 1).toUInt32 &&& Int32.toUInt32 31)).toInt32) &&& (Int32.ofInt 1431655765))) &&& (Int32.ofInt 858993459)) + ((((i0 - (((i0.toUInt32 >>> ((Int32.ofInt 1).toUInt32 &&& Int32.toUInt32 31)).toInt32) &&& (Int32.ofInt 1431655765))).toUInt32 >>> ((Int32.ofInt 2).toUInt32 &&& Int32.toUInt32 31)).toInt32) &&& (Int32.ofInt 858993459))).toUInt32 >>> ((Int32.ofInt 4).toUInt32 &&& Int32.toUInt32 31)).toInt32)) &&& (Int32.ofInt 252645135)).toUInt32 >>> ((Int32.ofInt 8).toUInt32 &&& Int32.toUInt32 31)).toInt32)) + ((((((((i0 - (((i0.toUInt32 >>> ((Int32.ofInt 1).toUInt32 &&& Int32.toUInt32 31)).toInt32) &&& (Int32.ofInt 1431655765))) &&& (Int32.ofInt 858993459)) + ((((i0 - (((i0.toUInt32 >>> ((Int32.ofInt 1).toUInt32 &&& Int32.toUInt32 31)).toInt32) &&& (Int32.ofInt 1431655765))).toUInt32 >>> ((Int32.ofInt 2).toUInt32 &&& Int32.toUInt32 31)).toInt32) &&& (Int32.ofInt 858993459))) + (((((i0 - (((i0.toUInt32 >>> ((Int32.ofInt 1).toUInt32 &&& Int32.toUInt32 31)).toInt32) &&& (Int32.ofInt 1431655765))) &&& (Int32.ofInt 858993459)) + ((((i0 - (((i0.toUInt32 >>> ((Int32.ofInt 1).toUInt32 &&& Int32.toUInt32 31)).toInt32) &&& (Int32.ofInt 1431655765))).toUInt32 >>> ((Int32.ofInt 2).toUInt32 &&& Int32.toUInt32 31)).toInt32) &&& (Int32.ofInt 858993459))).toUInt32 >>> ((Int32.ofInt 4).toUInt32 &&& Int32.toUInt32 31)).toInt32)) &&& (Int32.ofInt 252645135)) + (((((((i0 - (((i0.toUInt32 >>> ((Int32.ofInt 1).toUInt32 &&& Int32.toUInt32 31)).toInt32) &&& (Int32.ofInt 1431655765))) &&& (Int32.ofInt 858993459)) + ((((i0 - (((i0.toUInt32 >>> ((Int32.ofInt 1).toUInt32 &&& Int32.toUInt32 31)).toInt32) &&& (Int32.ofInt 1431655765))).toUInt32 >>> ((Int32.ofInt 2).toUInt32 &&& Int32.toUInt32 31)).toInt32) &&& (Int32.ofInt 858993459))) + (((((i0 - (((i0.toUInt32 >>> ((Int32.ofInt 1).toUInt32 &&& Int32.toUInt32 31)).toInt32) &&& (Int32.ofInt 1431655765))) &&& (Int32.ofInt 858993459)) + ((((i0 - (((i0.toUInt32 >>> ((Int32.ofInt 1).toUInt32 &&& Int32.toUInt32 31)).toInt32) &&& (Int32.ofInt 1431655765))).toUInt32 >>> ((Int32.ofInt 2).toUInt32 &&& Int32.toUInt32 31)).toInt32) &&& (Int32.ofInt 858993459))).toUInt32 >>> ((Int32.ofInt 4).toUInt32 &&& Int32.toUInt32 31)).toInt32)) &&& (Int32.ofInt 252645135)).toUInt32 >>> ((Int32.ofInt 8).toUInt32 &&& Int32.toUInt32 31)).toInt32)).toUInt32 >>> ((Int32.ofInt 16).toUInt32 &&& Int32.toUInt32 31)).toInt32)) &&& (Int32.ofInt 63)
theorem t_c_bitCount_183 {S : Nat × (Nat → Int32)} {d : Nat} {y : qG} {i0 : Int32} {p : Int32} (hd : 9 ≤ d) (h : c_bitCount_183 i0 = p) : qE S d jm_15_bitCount_183 (0, [(0, .int i0)], [], y) ((.inl (some (.int p)), y)) := by
  have hd9 : 9 ≤ d := by omega
  unfold c_bitCount_183 at h
  refine qE.steps 41 hd9 (s' := (52, [(0, .int (((((((i0 - (((i0.toUInt32 >>> ((Int32.ofInt 1).toUInt32 &&& Int32.toUInt32 31)).toInt32) &&& (Int32.ofInt 1431655765))) &&& (Int32.ofInt 858993459)) + ((((i0 - (((i0.toUInt32 >>> ((Int32.ofInt 1).toUInt32 &&& Int32.toUInt32 31)).toInt32) &&& (Int32.ofInt 1431655765))).toUInt32 >>> ((Int32.ofInt 2).toUInt32 &&& Int32.toUInt32 31)).toInt32) &&& (Int32.ofInt 858993459))) + (((((i0 - (((i0.toUInt32 >>> ((Int32.ofInt 1).toUInt32 &&& Int32.toUInt32 31)).toInt32) &&& (Int32.ofInt 1431655765))) &&& (Int32.ofInt 858993459)) + ((((i0 - (((i0.toUInt32 >>> ((Int32.ofInt 1).toUInt32 &&& Int32.toUInt32 31)).toInt32) &&& (Int32.ofInt 1431655765))).toUInt32 >>> ((Int32.ofInt 2).toUInt32 &&& Int32.toUInt32 31)).toInt32) &&& (Int32.ofInt 858993459))).toUInt32 >>> ((Int32.ofInt 4).toUInt32 &&& Int32.toUInt32 31)).toInt32)) &&& (Int32.ofInt 252645135)) + (((((((i0 - (((i0.toUInt32 >>> ((Int32.ofInt 1).toUInt32 &&& Int32.toUInt32 31)).toInt32) &&& (Int32.ofInt 1431655765))) &&& (Int32.ofInt 858993459)) + ((((i0 - (((i0.toUInt32 >>> ((Int32.ofInt 1).toUInt32 &&& Int32.toUInt32 31)).toInt32) &&& (Int32.ofInt 1431655765))).toUInt32 >>> ((Int32.ofInt 2).toUInt32 &&& Int32.toUInt32 31)).toInt32) &&& (Int32.ofInt 858993459))) + (((((i0 - (((i0.toUInt32 >>> ((Int32.ofInt 1).toUInt32 &&& Int32.toUInt32 31)).toInt32) &&& (Int32.ofInt 1431655765))) &&& (Int32.ofInt 858993459)) + ((((i0 - (((i0.toUInt32 >>> ((Int32.ofInt 1).toUInt32 &&& Int32.toUInt32 31)).toInt32) &&& (Int32.ofInt 1431655765))).toUInt32 >>> ((Int32.ofInt 2).toUInt32 &&& Int32.toUInt32 31)).toInt32) &&& (Int32.ofInt 858993459))).toUInt32 >>> ((Int32.ofInt 4).toUInt32 &&& Int32.toUInt32 31)).toInt32)) &&& (Int32.ofInt 252645135)).toUInt32 >>> ((Int32.ofInt 8).toUInt32 &&& Int32.toUInt32 31)).toInt32)) + ((((((((i0 - (((i0.toUInt32 >>> ((Int32.ofInt 1).toUInt32 &&& Int32.toUInt32 31)).toInt32) &&& (Int32.ofInt 1431655765))) &&& (Int32.ofInt 858993459)) + ((((i0 - (((i0.toUInt32 >>> ((Int32.ofInt 1).toUInt32 &&& Int32.toUInt32 31)).toInt32) &&& (Int32.ofInt 1431655765))).toUInt32 >>> ((Int32.ofInt 2).toUInt32 &&& Int32.toUInt32 31)).toInt32) &&& (Int32.ofInt 858993459))) + (((((i0 - (((i0.toUInt32 >>> ((Int32.ofInt 1).toUInt32 &&& Int32.toUInt32 31)).toInt32) &&& (Int32.ofInt 1431655765))) &&& (Int32.ofInt 858993459)) + ((((i0 - (((i0.toUInt32 >>> ((Int32.ofInt 1).toUInt32 &&& Int32.toUInt32 31)).toInt32) &&& (Int32.ofInt 1431655765))).toUInt32 >>> ((Int32.ofInt 2).toUInt32 &&& Int32.toUInt32 31)).toInt32) &&& (Int32.ofInt 858993459))).toUInt32 >>> ((Int32.ofInt 4).toUInt32 &&& Int32.toUInt32 31)).toInt32)) &&& (Int32.ofInt 252645135)) + (((((((i0 - (((i0.toUInt32 >>> ((Int32.ofInt 1).toUInt32 &&& Int32.toUInt32 31)).toInt32) &&& (Int32.ofInt 1431655765))) &&& (Int32.ofInt 858993459)) + ((((i0 - (((i0.toUInt32 >>> ((Int32.ofInt 1).toUInt32 &&& Int32.toUInt32 31)).toInt32) &&& (Int32.ofInt 1431655765))).toUInt32 >>> ((Int32.ofInt 2).toUInt32 &&& Int32.toUInt32 31)).toInt32) &&& (Int32.ofInt 858993459))) + (((((i0 - (((i0.toUInt32 >>> ((Int32.ofInt 1).toUInt32 &&& Int32.toUInt32 31)).toInt32) &&& (Int32.ofInt 1431655765))) &&& (Int32.ofInt 858993459)) + ((((i0 - (((i0.toUInt32 >>> ((Int32.ofInt 1).toUInt32 &&& Int32.toUInt32 31)).toInt32) &&& (Int32.ofInt 1431655765))).toUInt32 >>> ((Int32.ofInt 2).toUInt32 &&& Int32.toUInt32 31)).toInt32) &&& (Int32.ofInt 858993459))).toUInt32 >>> ((Int32.ofInt 4).toUInt32 &&& Int32.toUInt32 31)).toInt32)) &&& (Int32.ofInt 252645135)).toUInt32 >>> ((Int32.ofInt 8).toUInt32 &&& Int32.toUInt32 31)).toInt32)).toUInt32 >>> ((Int32.ofInt 16).toUInt32 &&& Int32.toUInt32 31)).toInt32)))], [.int ((((((((i0 - (((i0.toUInt32 >>> ((Int32.ofInt 1).toUInt32 &&& Int32.toUInt32 31)).toInt32) &&& (Int32.ofInt 1431655765))) &&& (Int32.ofInt 858993459)) + ((((i0 - (((i0.toUInt32 >>> ((Int32.ofInt 1).toUInt32 &&& Int32.toUInt32 31)).toInt32) &&& (Int32.ofInt 1431655765))).toUInt32 >>> ((Int32.ofInt 2).toUInt32 &&& Int32.toUInt32 31)).toInt32) &&& (Int32.ofInt 858993459))) + (((((i0 - (((i0.toUInt32 >>> ((Int32.ofInt 1).toUInt32 &&& Int32.toUInt32 31)).toInt32) &&& (Int32.ofInt 1431655765))) &&& (Int32.ofInt 858993459)) + ((((i0 - (((i0.toUInt32 >>> ((Int32.ofInt 1).toUInt32 &&& Int32.toUInt32 31)).toInt32) &&& (Int32.ofInt 1431655765))).toUInt32 >>> ((Int32.ofInt 2).toUInt32 &&& Int32.toUInt32 31)).toInt32) &&& (Int32.ofInt 858993459))).toUInt32 >>> ((Int32.ofInt 4).toUInt32 &&& Int32.toUInt32 31)).toInt32)) &&& (Int32.ofInt 252645135)) + (((((((i0 - (((i0.toUInt32 >>> ((Int32.ofInt 1).toUInt32 &&& Int32.toUInt32 31)).toInt32) &&& (Int32.ofInt 1431655765))) &&& (Int32.ofInt 858993459)) + ((((i0 - (((i0.toUInt32 >>> ((Int32.ofInt 1).toUInt32 &&& Int32.toUInt32 31)).toInt32) &&& (Int32.ofInt 1431655765))).toUInt32 >>> ((Int32.ofInt 2).toUInt32 &&& Int32.toUInt32 31)).toInt32) &&& (Int32.ofInt 858993459))) + (((((i0 - (((i0.toUInt32 >>> ((Int32.ofInt 1).toUInt32 &&& Int32.toUInt32 31)).toInt32) &&& (Int32.ofInt 1431655765))) &&& (Int32.ofInt 858993459)) + ((((i0 - (((i0.toUInt32 >>> ((Int32.ofInt 1).toUInt32 &&& Int32.toUInt32 31)).toInt32) &&& (Int32.ofInt 1431655765))).toUInt32 >>> ((Int32.ofInt 2).toUInt32 &&& Int32.toUInt32 31)).toInt32) &&& (Int32.ofInt 858993459))).toUInt32 >>> ((Int32.ofInt 4).toUInt32 &&& Int32.toUInt32 31)).toInt32)) &&& (Int32.ofInt 252645135)).toUInt32 >>> ((Int32.ofInt 8).toUInt32 &&& Int32.toUInt32 31)).toInt32)) + ((((((((i0 - (((i0.toUInt32 >>> ((Int32.ofInt 1).toUInt32 &&& Int32.toUInt32 31)).toInt32) &&& (Int32.ofInt 1431655765))) &&& (Int32.ofInt 858993459)) + ((((i0 - (((i0.toUInt32 >>> ((Int32.ofInt 1).toUInt32 &&& Int32.toUInt32 31)).toInt32) &&& (Int32.ofInt 1431655765))).toUInt32 >>> ((Int32.ofInt 2).toUInt32 &&& Int32.toUInt32 31)).toInt32) &&& (Int32.ofInt 858993459))) + (((((i0 - (((i0.toUInt32 >>> ((Int32.ofInt 1).toUInt32 &&& Int32.toUInt32 31)).toInt32) &&& (Int32.ofInt 1431655765))) &&& (Int32.ofInt 858993459)) + ((((i0 - (((i0.toUInt32 >>> ((Int32.ofInt 1).toUInt32 &&& Int32.toUInt32 31)).toInt32) &&& (Int32.ofInt 1431655765))).toUInt32 >>> ((Int32.ofInt 2).toUInt32 &&& Int32.toUInt32 31)).toInt32) &&& (Int32.ofInt 858993459))).toUInt32 >>> ((Int32.ofInt 4).toUInt32 &&& Int32.toUInt32 31)).toInt32)) &&& (Int32.ofInt 252645135)) + (((((((i0 - (((i0.toUInt32 >>> ((Int32.ofInt 1).toUInt32 &&& Int32.toUInt32 31)).toInt32) &&& (Int32.ofInt 1431655765))) &&& (Int32.ofInt 858993459)) + ((((i0 - (((i0.toUInt32 >>> ((Int32.ofInt 1).toUInt32 &&& Int32.toUInt32 31)).toInt32) &&& (Int32.ofInt 1431655765))).toUInt32 >>> ((Int32.ofInt 2).toUInt32 &&& Int32.toUInt32 31)).toInt32) &&& (Int32.ofInt 858993459))) + (((((i0 - (((i0.toUInt32 >>> ((Int32.ofInt 1).toUInt32 &&& Int32.toUInt32 31)).toInt32) &&& (Int32.ofInt 1431655765))) &&& (Int32.ofInt 858993459)) + ((((i0 - (((i0.toUInt32 >>> ((Int32.ofInt 1).toUInt32 &&& Int32.toUInt32 31)).toInt32) &&& (Int32.ofInt 1431655765))).toUInt32 >>> ((Int32.ofInt 2).toUInt32 &&& Int32.toUInt32 31)).toInt32) &&& (Int32.ofInt 858993459))).toUInt32 >>> ((Int32.ofInt 4).toUInt32 &&& Int32.toUInt32 31)).toInt32)) &&& (Int32.ofInt 252645135)).toUInt32 >>> ((Int32.ofInt 8).toUInt32 &&& Int32.toUInt32 31)).toInt32)).toUInt32 >>> ((Int32.ofInt 16).toUInt32 &&& Int32.toUInt32 31)).toInt32)) &&& (Int32.ofInt 63))], y)) rfl ?_
  subst h
  exact qE.ret hd9 rfl rfl
def c_rankVariables_47_l12 : Nat → Int32 → Int32 → Int32 → qC → Option qC
  | 0, _, _, _, _ => none
  | n + 1, i1, i2, i3, σ => if Int32.ofInt 48 ≤ i3 then some σ else if c_isCapital_35 (c_sign_48 ((c_firstNode_31 i1) + i3) σ) = 0 then (c_rankVariables_47_l12 n) i1 i2 (i3 + Int32.ofInt 1) σ else (tputO σ 28 9 ((c_firstNode_31 i1) + i3) (Int32.ofInt 8) (c_bitCount_183 (i2 &&& (((Int32.ofInt 1) <<< (((c_sign_48 ((c_firstNode_31 i1) + i3) σ) - (Int32.ofInt 65)) &&& 31)) - (Int32.ofInt 1))))).bind (fun σ3 => (c_rankVariables_47_l12 n) i1 i2 (i3 + Int32.ofInt 1) σ3)
def c_rankVariables_47 (i1 : Int32) (σ : qC) : Option qC := c_rankVariables_47_l12 qF i1 (tat σ 30 4 i1 (Int32.ofInt 0)) (Int32.ofInt 0) σ
theorem t_c_rankVariables_47_l12 {S : Nat × (Nat → Int32)} {d : Nat} {y : qC × Int64 × Nat} (hd : 10 ≤ d) : ∀ (n : Nat) {i1 : Int32} {i2 : Int32} {i3 : Int32} {σ : qC} {p : qC}, c_rankVariables_47_l12 n i1 i2 i3 σ = some p → qE S d jm_1_rankVariables_47 (12, [(0, .ref 27), (1, .int i1), (2, .int i2), (3, .int i3)], [], (σ, y)) ((.inl none, (p, y))) := by
  have hd9 : 9 ≤ d := by omega
  intro n
  induction n with
  | zero =>
    intros
    rename_i h
    unfold c_rankVariables_47_l12 at h
    cases h
  | succ n ih =>
    intro i1 i2 i3 σ p h
    unfold c_rankVariables_47_l12 at h
    refine qE.steps 3 hd9 (s' := (if Int32.ofInt 48 ≤ i3 then 73 else 18, [(0, .ref 27), (1, .int i1), (2, .int i2), (3, .int i3)], [], (σ, y))) rfl ?_
    by_cases c1 : Int32.ofInt 48 ≤ i3
    · rw [if_pos c1] at h
      rw [if_pos c1]
      obtain rfl := Option.some.inj h
      exact qE.ret hd9 rfl rfl
    · rw [if_neg c1] at h
      rw [if_neg c1]
      refine qE.steps 1 hd9 (s' := (19, [(0, .ref 27), (1, .int i1), (2, .int i2), (3, .int i3)], [.int i1], (σ, y))) rfl ?_
      refine qE.call hd9 rfl rfl rfl rfl (t_c_firstNode_31 (by omega) rfl) ?_
      refine qE.steps 0 hd9 (s' := (22, [(0, .ref 27), (1, .int i1), (2, .int i2), (3, .int i3)], [.int (c_firstNode_31 i1)], (σ, y))) rfl ?_
      refine qE.steps 5 hd9 (s' := (29, [(4, .int ((c_firstNode_31 i1) + i3)), (0, .ref 27), (1, .int i1), (2, .int i2), (3, .int i3)], [.int ((c_firstNode_31 i1) + i3), .ref 27], (σ, y))) rfl ?_
      refine qE.call hd9 rfl rfl rfl rfl (t_c_sign_48 (by omega) rfl) ?_
      refine qE.steps 0 hd9 (s' := (32, [(4, .int ((c_firstNode_31 i1) + i3)), (0, .ref 27), (1, .int i1), (2, .int i2), (3, .int i3)], [.int (c_sign_48 ((c_firstNode_31 i1) + i3) σ)], (σ, y))) rfl ?_
      refine qE.steps 2 hd9 (s' := (36, [(5, .int (c_sign_48 ((c_firstNode_31 i1) + i3) σ)), (4, .int ((c_firstNode_31 i1) + i3)), (0, .ref 27), (1, .int i1), (2, .int i2), (3, .int i3)], [.int (c_sign_48 ((c_firstNode_31 i1) + i3) σ)], (σ, y))) rfl ?_
      refine qE.call hd9 rfl rfl rfl rfl (t_c_isCapital_35 (by omega) rfl) ?_
      refine qE.steps 0 hd9 (s' := (39, [(5, .int (c_sign_48 ((c_firstNode_31 i1) + i3) σ)), (4, .int ((c_firstNode_31 i1) + i3)), (0, .ref 27), (1, .int i1), (2, .int i2), (3, .int i3)], [.int (c_isCapital_35 (c_sign_48 ((c_firstNode_31 i1) + i3) σ))], (σ, y))) rfl ?_
      refine qE.steps 1 hd9 (s' := (if c_isCapital_35 (c_sign_48 ((c_firstNode_31 i1) + i3) σ) = 0 then 67 else 42, [(5, .int (c_sign_48 ((c_firstNode_31 i1) + i3) σ)), (4, .int ((c_firstNode_31 i1) + i3)), (0, .ref 27), (1, .int i1), (2, .int i2), (3, .int i3)], [], (σ, y))) rfl ?_
      by_cases c2 : c_isCapital_35 (c_sign_48 ((c_firstNode_31 i1) + i3) σ) = 0
      · rw [if_pos c2] at h
        rw [if_pos c2]
        refine qE.steps 2 hd9 (s' := (12, [(3, .int (i3 + Int32.ofInt 1)), (5, .int (c_sign_48 ((c_firstNode_31 i1) + i3) σ)), (4, .int ((c_firstNode_31 i1) + i3)), (0, .ref 27), (1, .int i1), (2, .int i2)], [], (σ, y))) rfl ?_
        exact qE.wk (ih h) ⟨rfl, rfl, rfl, rfl, trivial⟩ rfl
      · rw [if_neg c2] at h
        rw [if_neg c2]
        refine qE.steps 13 hd9 (s' := (61, [(5, .int (c_sign_48 ((c_firstNode_31 i1) + i3) σ)), (4, .int ((c_firstNode_31 i1) + i3)), (0, .ref 27), (1, .int i1), (2, .int i2), (3, .int i3)], [.int (i2 &&& (((Int32.ofInt 1) <<< (((c_sign_48 ((c_firstNode_31 i1) + i3) σ) - (Int32.ofInt 65)) &&& 31)) - (Int32.ofInt 1))), .int (Int32.ofInt 8), .int ((c_firstNode_31 i1) + i3), .ref 28], (σ, y))) rfl ?_
        refine qE.call hd9 rfl rfl rfl rfl (t_c_bitCount_183 (by omega) rfl) ?_
        refine qE.steps 0 hd9 (s' := (64, [(5, .int (c_sign_48 ((c_firstNode_31 i1) + i3) σ)), (4, .int ((c_firstNode_31 i1) + i3)), (0, .ref 27), (1, .int i1), (2, .int i2), (3, .int i3)], [.int (c_bitCount_183 (i2 &&& (((Int32.ofInt 1) <<< (((c_sign_48 ((c_firstNode_31 i1) + i3) σ) - (Int32.ofInt 65)) &&& 31)) - (Int32.ofInt 1)))), .int (Int32.ofInt 8), .int ((c_firstNode_31 i1) + i3), .ref 28], (σ, y))) rfl ?_
        obtain ⟨σ3, e4, h⟩ := obind h
        refine qE.tab hd9 (qtab_put e4 rfl) rfl rfl rfl ?_
        refine qE.steps 2 hd9 (s' := (12, [(3, .int (i3 + Int32.ofInt 1)), (5, .int (c_sign_48 ((c_firstNode_31 i1) + i3) σ)), (4, .int ((c_firstNode_31 i1) + i3)), (0, .ref 27), (1, .int i1), (2, .int i2)], [], (σ3, y))) rfl ?_
        exact qE.wk (ih h) ⟨rfl, rfl, rfl, rfl, trivial⟩ rfl
theorem t_c_rankVariables_47 {S : Nat × (Nat → Int32)} {d : Nat} {y : qC × Int64 × Nat} {i1 : Int32} {σ : qC} {p : qC} (hd : 10 ≤ d) (h : c_rankVariables_47 i1 σ = some p) : qE S d jm_1_rankVariables_47 (0, [(0, .ref 27), (1, .int i1)], [], (σ, y)) ((.inl none, (p, y))) := by
  have hd9 : 9 ≤ d := by omega
  unfold c_rankVariables_47 at h
  refine qE.steps 8 hd9 (s' := (12, [(3, .int (Int32.ofInt 0)), (2, .int (tat σ 30 4 i1 (Int32.ofInt 0))), (0, .ref 27), (1, .int i1)], [], (σ, y))) rfl ?_
  exact qE.wk (t_c_rankVariables_47_l12 hd qF h) ⟨rfl, rfl, rfl, rfl, trivial⟩ rfl
def c_node_37 (σ : qC) : Int32 := (c_firstNode_31 (σ.1 3202)) + (σ.1 3203)
theorem t_c_node_37 {S : Nat × (Nat → Int32)} {d : Nat} {y : qC × Int64 × Nat} {σ : qC} {p : Int32} (hd : 10 ≤ d) (h : c_node_37 σ = p) : qE S d jm_5_node_37 (0, [(0, .ref 32)], [], (σ, y)) ((.inl (some (.int p)), (σ, y))) := by
  have hd9 : 9 ≤ d := by omega
  unfold c_node_37 at h
  refine qE.steps 2 hd9 (s' := (4, [(0, .ref 32)], [.int (σ.1 3202)], (σ, y))) rfl ?_
  refine qE.call hd9 rfl rfl rfl rfl (t_c_firstNode_31 (by omega) rfl) ?_
  refine qE.steps 0 hd9 (s' := (7, [(0, .ref 32)], [.int (c_firstNode_31 (σ.1 3202))], (σ, y))) rfl ?_
  refine qE.steps 3 hd9 (s' := (12, [(0, .ref 32)], [.int ((c_firstNode_31 (σ.1 3202)) + (σ.1 3203))], (σ, y))) rfl ?_
  subst h
  exact qE.ret hd9 rfl rfl
def c_noteArgument_40 (i1 : Int32) (i2 : Int32) (i3 : Int32) (σ : qC) : Option qC := (tputO σ 28 9 i1 ((Int32.ofInt 2) + i2) i3).bind (fun σ1 => (tputO σ1 28 9 i1 (Int32.ofInt 1) (i2 + (Int32.ofInt 1))).bind (fun σ3 => some σ3))
theorem t_c_noteArgument_40 {S : Nat × (Nat → Int32)} {d : Nat} {y : qC × Int64 × Nat} {i1 : Int32} {i2 : Int32} {i3 : Int32} {σ : qC} {p : qC} (hd : 9 ≤ d) (h : c_noteArgument_40 i1 i2 i3 σ = some p) : qE S d jm_1_noteArgument_40 (0, [(0, .ref 27), (1, .int i1), (2, .int i2), (3, .int i3)], [], (σ, y)) ((.inl none, (p, y))) := by
  have hd9 : 9 ≤ d := by omega
  unfold c_noteArgument_40 at h
  refine qE.steps 7 hd9 (s' := (9, [(0, .ref 27), (1, .int i1), (2, .int i2), (3, .int i3)], [.int i3, .int ((Int32.ofInt 2) + i2), .int i1, .ref 28], (σ, y))) rfl ?_
  obtain ⟨σ1, e2, h⟩ := obind h
  refine qE.tab hd9 (qtab_put e2 rfl) rfl rfl rfl ?_
  refine qE.steps 7 hd9 (s' := (21, [(0, .ref 27), (1, .int i1), (2, .int i2), (3, .int i3)], [.int (i2 + (Int32.ofInt 1)), .int (Int32.ofInt 1), .int i1, .ref 28], (σ1, y))) rfl ?_
  obtain ⟨σ3, e4, h⟩ := obind h
  refine qE.tab hd9 (qtab_put e4 rfl) rfl rfl rfl ?_
  obtain rfl := Option.some.inj h
  exact qE.ret hd9 rfl rfl
def c_readSign_39 (i1 : Int32) (σ : qC) : Option (Int32 × qC) := if c_at_32 (σ.1 3203) σ = i1 then qlet (upS σ 3203 ((σ.1 3203) + (Int32.ofInt 1))) (fun σ2 => some (Int32.ofInt 1, σ2)) else some (Int32.ofInt 0, σ)
theorem t_c_readSign_39 {S : Nat × (Nat → Int32)} {d : Nat} {y : qC × Int64 × Nat} {i1 : Int32} {σ : qC} {p : (Int32 × qC)} (hd : 10 ≤ d) (h : c_readSign_39 i1 σ = some p) : qE S d jm_5_readSign_39 (0, [(0, .ref 32), (1, .int i1)], [], (σ, y)) ((.inl (some (.int p.1)), (p.2, y))) := by
  have hd9 : 9 ≤ d := by omega
  unfold c_readSign_39 at h
  refine qE.steps 4 hd9 (s' := (8, [(0, .ref 32), (1, .int i1)], [.int (σ.1 3203), .ref 25], (σ, y))) rfl ?_
  refine qE.call hd9 rfl rfl rfl rfl (t_c_at_32 (by omega) rfl) ?_
  refine qE.steps 0 hd9 (s' := (11, [(0, .ref 32), (1, .int i1)], [.int (c_at_32 (σ.1 3203) σ)], (σ, y))) rfl ?_
  refine qE.steps 2 hd9 (s' := (if c_at_32 (σ.1 3203) σ = i1 then 17 else 15, [(0, .ref 32), (1, .int i1)], [], (σ, y))) rfl ?_
  by_cases c1 : c_at_32 (σ.1 3203) σ = i1
  · rw [if_pos c1] at h
    rw [if_pos c1]
    obtain ⟨σ2, e3, h⟩ := qlet_ex h
    refine qE.steps 6 hd9 (s' := (27, [(0, .ref 32), (1, .int i1)], [], (σ2, y))) (by subst e3; rfl) ?_
    refine qE.steps 1 hd9 (s' := (28, [(0, .ref 32), (1, .int i1)], [.int (Int32.ofInt 1)], (σ2, y))) rfl ?_
    obtain rfl := Option.some.inj h
    exact qE.ret hd9 rfl rfl
  · rw [if_neg c1] at h
    rw [if_neg c1]
    refine qE.steps 1 hd9 (s' := (16, [(0, .ref 32), (1, .int i1)], [.int (Int32.ofInt 0)], (σ, y))) rfl ?_
    obtain rfl := Option.some.inj h
    exact qE.ret hd9 rfl rfl
end
