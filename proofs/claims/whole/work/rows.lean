section
-- ===== PART A: goes FIRST, ahead of the names: the tables' words, and 'selects' of the private methods out of them =====
/-- a private method of a class that the tables say can be made, by its rows of tables_1 -/
def lw_okq (q : MethodName × Nat) : Prop := (q.1.cls ≠ "java/lang/invoke/MethodHandle" ∧ q.1.cls ≠ "java/lang/invoke/VarHandle") ∧ Cond.instantiable q.1.cls q.2 ∈ tables_1 ∧ Cond.privateMethod q.1 ∈ tables_1 ∧ Cond.instanceMethod q.1 ∈ tables_1
theorem lw_p0 : lw_okq (⟨"BellRope$Reader", "skipBlanks", "()V"⟩, 6) := ⟨⟨by decide +kernel, by decide +kernel⟩, List.mem_of_getElem? (i := 24) (by decide +kernel), List.mem_of_getElem? (i := 355) (by decide +kernel), List.mem_of_getElem? (i := 356) (by decide +kernel)⟩
theorem lw_p1 : lw_okq (⟨"BellRope$Reader", "readClause", "(LBellRope$Inn;)V"⟩, 6) := ⟨⟨by decide +kernel, by decide +kernel⟩, List.mem_of_getElem? (i := 24) (by decide +kernel), List.mem_of_getElem? (i := 362) (by decide +kernel), List.mem_of_getElem? (i := 363) (by decide +kernel)⟩
theorem lw_p2 : lw_okq (⟨"BellRope$Reader", "wrong", "(II)V"⟩, 6) := ⟨⟨by decide +kernel, by decide +kernel⟩, List.mem_of_getElem? (i := 24) (by decide +kernel), List.mem_of_getElem? (i := 366) (by decide +kernel), List.mem_of_getElem? (i := 367) (by decide +kernel)⟩
theorem lw_p3 : lw_okq (⟨"BellRope$Reader", "readBell", "(LBellRope$Inn;)V"⟩, 6) := ⟨⟨by decide +kernel, by decide +kernel⟩, List.mem_of_getElem? (i := 24) (by decide +kernel), List.mem_of_getElem? (i := 370) (by decide +kernel), List.mem_of_getElem? (i := 371) (by decide +kernel)⟩
theorem lw_p4 : lw_okq (⟨"BellRope$Reader", "startClause", "(Z)V"⟩, 6) := ⟨⟨by decide +kernel, by decide +kernel⟩, List.mem_of_getElem? (i := 24) (by decide +kernel), List.mem_of_getElem? (i := 374) (by decide +kernel), List.mem_of_getElem? (i := 375) (by decide +kernel)⟩
theorem lw_p5 : lw_okq (⟨"BellRope$Reader", "readNumber", "(II)I"⟩, 6) := ⟨⟨by decide +kernel, by decide +kernel⟩, List.mem_of_getElem? (i := 24) (by decide +kernel), List.mem_of_getElem? (i := 378) (by decide +kernel), List.mem_of_getElem? (i := 379) (by decide +kernel)⟩
theorem lw_p6 : lw_okq (⟨"BellRope$Reader", "endClause", "()V"⟩, 6) := ⟨⟨by decide +kernel, by decide +kernel⟩, List.mem_of_getElem? (i := 24) (by decide +kernel), List.mem_of_getElem? (i := 385) (by decide +kernel), List.mem_of_getElem? (i := 386) (by decide +kernel)⟩
theorem lw_p7 : lw_okq (⟨"BellRope$Reader", "readDrinker", "(LBellRope$Inn;)V"⟩, 6) := ⟨⟨by decide +kernel, by decide +kernel⟩, List.mem_of_getElem? (i := 24) (by decide +kernel), List.mem_of_getElem? (i := 389) (by decide +kernel), List.mem_of_getElem? (i := 390) (by decide +kernel)⟩
theorem lw_p8 : lw_okq (⟨"BellRope$Reader", "readSexton", "(LBellRope$Inn;)V"⟩, 6) := ⟨⟨by decide +kernel, by decide +kernel⟩, List.mem_of_getElem? (i := 24) (by decide +kernel), List.mem_of_getElem? (i := 393) (by decide +kernel), List.mem_of_getElem? (i := 394) (by decide +kernel)⟩
theorem lw_p9 : lw_okq (⟨"BellRope$Reader", "readGoer", "(LBellRope$Inn;)V"⟩, 6) := ⟨⟨by decide +kernel, by decide +kernel⟩, List.mem_of_getElem? (i := 24) (by decide +kernel), List.mem_of_getElem? (i := 400) (by decide +kernel), List.mem_of_getElem? (i := 401) (by decide +kernel)⟩
theorem lw_p10 : lw_okq (⟨"BellRope$Reader", "readSignal", "(LBellRope$Inn;)V"⟩, 6) := ⟨⟨by decide +kernel, by decide +kernel⟩, List.mem_of_getElem? (i := 24) (by decide +kernel), List.mem_of_getElem? (i := 404) (by decide +kernel), List.mem_of_getElem? (i := 405) (by decide +kernel)⟩
theorem lw_p11 : lw_okq (⟨"BellRope", "refusedQuarters", "(I)I"⟩, 12) := ⟨⟨by decide +kernel, by decide +kernel⟩, List.mem_of_getElem? (i := 16) (by decide +kernel), List.mem_of_getElem? (i := 494) (by decide +kernel), List.mem_of_getElem? (i := 495) (by decide +kernel)⟩
theorem lw_p12 : lw_okq (⟨"BellRope", "refused", "(Z)I"⟩, 12) := ⟨⟨by decide +kernel, by decide +kernel⟩, List.mem_of_getElem? (i := 16) (by decide +kernel), List.mem_of_getElem? (i := 498) (by decide +kernel), List.mem_of_getElem? (i := 499) (by decide +kernel)⟩
theorem lw_p13 : lw_okq (⟨"BellRope$Past", "loseOldest", "()V"⟩, 2) := ⟨⟨by decide +kernel, by decide +kernel⟩, List.mem_of_getElem? (i := 98) (by decide +kernel), List.mem_of_getElem? (i := 508) (by decide +kernel), List.mem_of_getElem? (i := 509) (by decide +kernel)⟩
theorem lw_p14 : lw_okq (⟨"BellRope$Past", "evening", "(I)LBellRope$Evening;"⟩, 2) := ⟨⟨by decide +kernel, by decide +kernel⟩, List.mem_of_getElem? (i := 98) (by decide +kernel), List.mem_of_getElem? (i := 512) (by decide +kernel), List.mem_of_getElem? (i := 513) (by decide +kernel)⟩
theorem lw_p15 : lw_okq (⟨"BellRope", "stir", "()V"⟩, 12) := ⟨⟨by decide +kernel, by decide +kernel⟩, List.mem_of_getElem? (i := 16) (by decide +kernel), List.mem_of_getElem? (i := 582) (by decide +kernel), List.mem_of_getElem? (i := 583) (by decide +kernel)⟩
def lw_privs_1 : List (MethodName × Nat) := [(⟨"BellRope$Reader", "skipBlanks", "()V"⟩, 6), (⟨"BellRope$Reader", "readClause", "(LBellRope$Inn;)V"⟩, 6), (⟨"BellRope$Reader", "wrong", "(II)V"⟩, 6), (⟨"BellRope$Reader", "readBell", "(LBellRope$Inn;)V"⟩, 6), (⟨"BellRope$Reader", "startClause", "(Z)V"⟩, 6), (⟨"BellRope$Reader", "readNumber", "(II)I"⟩, 6), (⟨"BellRope$Reader", "endClause", "()V"⟩, 6), (⟨"BellRope$Reader", "readDrinker", "(LBellRope$Inn;)V"⟩, 6), (⟨"BellRope$Reader", "readSexton", "(LBellRope$Inn;)V"⟩, 6), (⟨"BellRope$Reader", "readGoer", "(LBellRope$Inn;)V"⟩, 6), (⟨"BellRope$Reader", "readSignal", "(LBellRope$Inn;)V"⟩, 6), (⟨"BellRope", "refusedQuarters", "(I)I"⟩, 12), (⟨"BellRope", "refused", "(Z)I"⟩, 12), (⟨"BellRope$Past", "loseOldest", "()V"⟩, 2), (⟨"BellRope$Past", "evening", "(I)LBellRope$Evening;"⟩, 2), (⟨"BellRope", "stir", "()V"⟩, 12)]
theorem lw_r1 : ∀ q ∈ lw_privs_1, lw_okq q := List.forall_mem_cons.mpr ⟨lw_p0, List.forall_mem_cons.mpr ⟨lw_p1, List.forall_mem_cons.mpr ⟨lw_p2, List.forall_mem_cons.mpr ⟨lw_p3, List.forall_mem_cons.mpr ⟨lw_p4, List.forall_mem_cons.mpr ⟨lw_p5, List.forall_mem_cons.mpr ⟨lw_p6, List.forall_mem_cons.mpr ⟨lw_p7, List.forall_mem_cons.mpr ⟨lw_p8, List.forall_mem_cons.mpr ⟨lw_p9, List.forall_mem_cons.mpr ⟨lw_p10, List.forall_mem_cons.mpr ⟨lw_p11, List.forall_mem_cons.mpr ⟨lw_p12, List.forall_mem_cons.mpr ⟨lw_p13, List.forall_mem_cons.mpr ⟨lw_p14, List.forall_mem_cons.mpr ⟨lw_p15, fun _ h => absurd h List.not_mem_nil⟩⟩⟩⟩⟩⟩⟩⟩⟩⟩⟩⟩⟩⟩⟩⟩
theorem lw_p16 : lw_okq (⟨"BellRope", "draw", "(I)I"⟩, 12) := ⟨⟨by decide +kernel, by decide +kernel⟩, List.mem_of_getElem? (i := 16) (by decide +kernel), List.mem_of_getElem? (i := 586) (by decide +kernel), List.mem_of_getElem? (i := 587) (by decide +kernel)⟩
theorem lw_p17 : lw_okq (⟨"BellRope", "lateBy", "(I)I"⟩, 12) := ⟨⟨by decide +kernel, by decide +kernel⟩, List.mem_of_getElem? (i := 16) (by decide +kernel), List.mem_of_getElem? (i := 633) (by decide +kernel), List.mem_of_getElem? (i := 634) (by decide +kernel)⟩
theorem lw_p18 : lw_okq (⟨"BellRope", "payersAhead", "(I)I"⟩, 12) := ⟨⟨by decide +kernel, by decide +kernel⟩, List.mem_of_getElem? (i := 16) (by decide +kernel), List.mem_of_getElem? (i := 714) (by decide +kernel), List.mem_of_getElem? (i := 715) (by decide +kernel)⟩
theorem lw_p19 : lw_okq (⟨"BellRope", "imageOf", "(I)LBellRope$Image;"⟩, 12) := ⟨⟨by decide +kernel, by decide +kernel⟩, List.mem_of_getElem? (i := 16) (by decide +kernel), List.mem_of_getElem? (i := 806) (by decide +kernel), List.mem_of_getElem? (i := 807) (by decide +kernel)⟩
theorem lw_p20 : lw_okq (⟨"BellRopeModel", "here", "()I"⟩, 54) := ⟨⟨by decide +kernel, by decide +kernel⟩, List.mem_of_getElem? (i := 815) (by decide +kernel), List.mem_of_getElem? (i := 999) (by decide +kernel), List.mem_of_getElem? (i := 1000) (by decide +kernel)⟩
theorem lw_p21 : lw_okq (⟨"BellRopeModel", "takeClause", "()I"⟩, 54) := ⟨⟨by decide +kernel, by decide +kernel⟩, List.mem_of_getElem? (i := 815) (by decide +kernel), List.mem_of_getElem? (i := 1003) (by decide +kernel), List.mem_of_getElem? (i := 1004) (by decide +kernel)⟩
theorem lw_p22 : lw_okq (⟨"BellRopeModel", "whichClause", "(I)I"⟩, 54) := ⟨⟨by decide +kernel, by decide +kernel⟩, List.mem_of_getElem? (i := 815) (by decide +kernel), List.mem_of_getElem? (i := 1007) (by decide +kernel), List.mem_of_getElem? (i := 1008) (by decide +kernel)⟩
theorem lw_p23 : lw_okq (⟨"BellRopeModel", "fails", "(II)I"⟩, 54) := ⟨⟨by decide +kernel, by decide +kernel⟩, List.mem_of_getElem? (i := 815) (by decide +kernel), List.mem_of_getElem? (i := 1011) (by decide +kernel), List.mem_of_getElem? (i := 1012) (by decide +kernel)⟩
theorem lw_p24 : lw_okq (⟨"BellRopeModel", "isFull", "(I)Z"⟩, 54) := ⟨⟨by decide +kernel, by decide +kernel⟩, List.mem_of_getElem? (i := 815) (by decide +kernel), List.mem_of_getElem? (i := 1015) (by decide +kernel), List.mem_of_getElem? (i := 1016) (by decide +kernel)⟩
theorem lw_p25 : lw_okq (⟨"BellRopeModel", "takeBody", "(I)I"⟩, 54) := ⟨⟨by decide +kernel, by decide +kernel⟩, List.mem_of_getElem? (i := 815) (by decide +kernel), List.mem_of_getElem? (i := 1019) (by decide +kernel), List.mem_of_getElem? (i := 1020) (by decide +kernel)⟩
theorem lw_p26 : lw_okq (⟨"BellRopeModel", "takeLaw", "()I"⟩, 54) := ⟨⟨by decide +kernel, by decide +kernel⟩, List.mem_of_getElem? (i := 815) (by decide +kernel), List.mem_of_getElem? (i := 1023) (by decide +kernel), List.mem_of_getElem? (i := 1024) (by decide +kernel)⟩
theorem lw_p27 : lw_okq (⟨"BellRopeModel", "into", "([IIII)I"⟩, 54) := ⟨⟨by decide +kernel, by decide +kernel⟩, List.mem_of_getElem? (i := 815) (by decide +kernel), List.mem_of_getElem? (i := 1027) (by decide +kernel), List.mem_of_getElem? (i := 1028) (by decide +kernel)⟩
theorem lw_p28 : lw_okq (⟨"BellRopeModel", "takeNumber", "(II)I"⟩, 54) := ⟨⟨by decide +kernel, by decide +kernel⟩, List.mem_of_getElem? (i := 815) (by decide +kernel), List.mem_of_getElem? (i := 1031) (by decide +kernel), List.mem_of_getElem? (i := 1032) (by decide +kernel)⟩
theorem lw_p29 : lw_okq (⟨"BellRopeModel", "takeDrinker", "()I"⟩, 54) := ⟨⟨by decide +kernel, by decide +kernel⟩, List.mem_of_getElem? (i := 815) (by decide +kernel), List.mem_of_getElem? (i := 1037) (by decide +kernel), List.mem_of_getElem? (i := 1038) (by decide +kernel)⟩
theorem lw_p30 : lw_okq (⟨"BellRopeModel", "takeTime", "()I"⟩, 54) := ⟨⟨by decide +kernel, by decide +kernel⟩, List.mem_of_getElem? (i := 815) (by decide +kernel), List.mem_of_getElem? (i := 1041) (by decide +kernel), List.mem_of_getElem? (i := 1042) (by decide +kernel)⟩
theorem lw_p31 : lw_okq (⟨"BellRopeModel", "takeGoer", "()I"⟩, 54) := ⟨⟨by decide +kernel, by decide +kernel⟩, List.mem_of_getElem? (i := 815) (by decide +kernel), List.mem_of_getElem? (i := 1045) (by decide +kernel), List.mem_of_getElem? (i := 1046) (by decide +kernel)⟩
def lw_privs_2 : List (MethodName × Nat) := [(⟨"BellRope", "draw", "(I)I"⟩, 12), (⟨"BellRope", "lateBy", "(I)I"⟩, 12), (⟨"BellRope", "payersAhead", "(I)I"⟩, 12), (⟨"BellRope", "imageOf", "(I)LBellRope$Image;"⟩, 12), (⟨"BellRopeModel", "here", "()I"⟩, 54), (⟨"BellRopeModel", "takeClause", "()I"⟩, 54), (⟨"BellRopeModel", "whichClause", "(I)I"⟩, 54), (⟨"BellRopeModel", "fails", "(II)I"⟩, 54), (⟨"BellRopeModel", "isFull", "(I)Z"⟩, 54), (⟨"BellRopeModel", "takeBody", "(I)I"⟩, 54), (⟨"BellRopeModel", "takeLaw", "()I"⟩, 54), (⟨"BellRopeModel", "into", "([IIII)I"⟩, 54), (⟨"BellRopeModel", "takeNumber", "(II)I"⟩, 54), (⟨"BellRopeModel", "takeDrinker", "()I"⟩, 54), (⟨"BellRopeModel", "takeTime", "()I"⟩, 54), (⟨"BellRopeModel", "takeGoer", "()I"⟩, 54)]
theorem lw_r2 : ∀ q ∈ lw_privs_2, lw_okq q := List.forall_mem_cons.mpr ⟨lw_p16, List.forall_mem_cons.mpr ⟨lw_p17, List.forall_mem_cons.mpr ⟨lw_p18, List.forall_mem_cons.mpr ⟨lw_p19, List.forall_mem_cons.mpr ⟨lw_p20, List.forall_mem_cons.mpr ⟨lw_p21, List.forall_mem_cons.mpr ⟨lw_p22, List.forall_mem_cons.mpr ⟨lw_p23, List.forall_mem_cons.mpr ⟨lw_p24, List.forall_mem_cons.mpr ⟨lw_p25, List.forall_mem_cons.mpr ⟨lw_p26, List.forall_mem_cons.mpr ⟨lw_p27, List.forall_mem_cons.mpr ⟨lw_p28, List.forall_mem_cons.mpr ⟨lw_p29, List.forall_mem_cons.mpr ⟨lw_p30, List.forall_mem_cons.mpr ⟨lw_p31, fun _ h => absurd h List.not_mem_nil⟩⟩⟩⟩⟩⟩⟩⟩⟩⟩⟩⟩⟩⟩⟩⟩
theorem lw_p32 : lw_okq (⟨"BellRopeModel", "takeSignal", "()I"⟩, 54) := ⟨⟨by decide +kernel, by decide +kernel⟩, List.mem_of_getElem? (i := 815) (by decide +kernel), List.mem_of_getElem? (i := 1049) (by decide +kernel), List.mem_of_getElem? (i := 1050) (by decide +kernel)⟩
theorem lw_p33 : lw_okq (⟨"BellRopeModel", "takeRead", "()V"⟩, 54) := ⟨⟨by decide +kernel, by decide +kernel⟩, List.mem_of_getElem? (i := 815) (by decide +kernel), List.mem_of_getElem? (i := 1053) (by decide +kernel), List.mem_of_getElem? (i := 1054) (by decide +kernel)⟩
theorem lw_p34 : lw_okq (⟨"BellRopeModel", "whoIsIn", "()I"⟩, 54) := ⟨⟨by decide +kernel, by decide +kernel⟩, List.mem_of_getElem? (i := 815) (by decide +kernel), List.mem_of_getElem? (i := 1068) (by decide +kernel), List.mem_of_getElem? (i := 1069) (by decide +kernel)⟩
theorem lw_p35 : lw_okq (⟨"BellRopeModel", "isWet", "()Z"⟩, 54) := ⟨⟨by decide +kernel, by decide +kernel⟩, List.mem_of_getElem? (i := 815) (by decide +kernel), List.mem_of_getElem? (i := 1072) (by decide +kernel), List.mem_of_getElem? (i := 1073) (by decide +kernel)⟩
theorem lw_p36 : lw_okq (⟨"BellRopeModel", "isDrinker", "(I)Z"⟩, 54) := ⟨⟨by decide +kernel, by decide +kernel⟩, List.mem_of_getElem? (i := 815) (by decide +kernel), List.mem_of_getElem? (i := 1083) (by decide +kernel), List.mem_of_getElem? (i := 1084) (by decide +kernel)⟩
theorem lw_p37 : lw_okq (⟨"BellRopeModel", "wouldRing", "(I)Z"⟩, 54) := ⟨⟨by decide +kernel, by decide +kernel⟩, List.mem_of_getElem? (i := 815) (by decide +kernel), List.mem_of_getElem? (i := 1088) (by decide +kernel), List.mem_of_getElem? (i := 1089) (by decide +kernel)⟩
theorem lw_p38 : lw_okq (⟨"BellRopeModel", "isFirstOfDay", "()Z"⟩, 54) := ⟨⟨by decide +kernel, by decide +kernel⟩, List.mem_of_getElem? (i := 815) (by decide +kernel), List.mem_of_getElem? (i := 1092) (by decide +kernel), List.mem_of_getElem? (i := 1093) (by decide +kernel)⟩
theorem lw_p39 : lw_okq (⟨"BellRopeModel", "isTurn", "(II)Z"⟩, 54) := ⟨⟨by decide +kernel, by decide +kernel⟩, List.mem_of_getElem? (i := 815) (by decide +kernel), List.mem_of_getElem? (i := 1096) (by decide +kernel), List.mem_of_getElem? (i := 1097) (by decide +kernel)⟩
theorem lw_p40 : lw_okq (⟨"BellRopeModel", "isGoer", "(I)Z"⟩, 54) := ⟨⟨by decide +kernel, by decide +kernel⟩, List.mem_of_getElem? (i := 815) (by decide +kernel), List.mem_of_getElem? (i := 1104) (by decide +kernel), List.mem_of_getElem? (i := 1105) (by decide +kernel)⟩
theorem lw_p41 : lw_okq (⟨"BellRopeModel", "quartersRefused", "(I)I"⟩, 54) := ⟨⟨by decide +kernel, by decide +kernel⟩, List.mem_of_getElem? (i := 815) (by decide +kernel), List.mem_of_getElem? (i := 1120) (by decide +kernel), List.mem_of_getElem? (i := 1121) (by decide +kernel)⟩
theorem lw_p42 : lw_okq (⟨"BellRopeModel", "remember", "()V"⟩, 54) := ⟨⟨by decide +kernel, by decide +kernel⟩, List.mem_of_getElem? (i := 815) (by decide +kernel), List.mem_of_getElem? (i := 1127) (by decide +kernel), List.mem_of_getElem? (i := 1128) (by decide +kernel)⟩
theorem lw_p43 : lw_okq (⟨"BellRopeModel", "pass", "()I"⟩, 54) := ⟨⟨by decide +kernel, by decide +kernel⟩, List.mem_of_getElem? (i := 815) (by decide +kernel), List.mem_of_getElem? (i := 1131) (by decide +kernel), List.mem_of_getElem? (i := 1132) (by decide +kernel)⟩
theorem lw_p44 : lw_okq (⟨"BellRopeModel", "heardOf", "(I)I"⟩, 54) := ⟨⟨by decide +kernel, by decide +kernel⟩, List.mem_of_getElem? (i := 815) (by decide +kernel), List.mem_of_getElem? (i := 1135) (by decide +kernel), List.mem_of_getElem? (i := 1136) (by decide +kernel)⟩
theorem lw_p45 : lw_okq (⟨"BellRopeModel", "isBlanketed", "(I)Z"⟩, 54) := ⟨⟨by decide +kernel, by decide +kernel⟩, List.mem_of_getElem? (i := 815) (by decide +kernel), List.mem_of_getElem? (i := 1139) (by decide +kernel), List.mem_of_getElem? (i := 1140) (by decide +kernel)⟩
theorem lw_p46 : lw_okq (⟨"BellRopeModel", "muffle", "(II)I"⟩, 54) := ⟨⟨by decide +kernel, by decide +kernel⟩, List.mem_of_getElem? (i := 815) (by decide +kernel), List.mem_of_getElem? (i := 1143) (by decide +kernel), List.mem_of_getElem? (i := 1144) (by decide +kernel)⟩
theorem lw_p47 : lw_okq (⟨"BellRopeModel", "log", "(II)V"⟩, 54) := ⟨⟨by decide +kernel, by decide +kernel⟩, List.mem_of_getElem? (i := 815) (by decide +kernel), List.mem_of_getElem? (i := 1147) (by decide +kernel), List.mem_of_getElem? (i := 1148) (by decide +kernel)⟩
def lw_privs_3 : List (MethodName × Nat) := [(⟨"BellRopeModel", "takeSignal", "()I"⟩, 54), (⟨"BellRopeModel", "takeRead", "()V"⟩, 54), (⟨"BellRopeModel", "whoIsIn", "()I"⟩, 54), (⟨"BellRopeModel", "isWet", "()Z"⟩, 54), (⟨"BellRopeModel", "isDrinker", "(I)Z"⟩, 54), (⟨"BellRopeModel", "wouldRing", "(I)Z"⟩, 54), (⟨"BellRopeModel", "isFirstOfDay", "()Z"⟩, 54), (⟨"BellRopeModel", "isTurn", "(II)Z"⟩, 54), (⟨"BellRopeModel", "isGoer", "(I)Z"⟩, 54), (⟨"BellRopeModel", "quartersRefused", "(I)I"⟩, 54), (⟨"BellRopeModel", "remember", "()V"⟩, 54), (⟨"BellRopeModel", "pass", "()I"⟩, 54), (⟨"BellRopeModel", "heardOf", "(I)I"⟩, 54), (⟨"BellRopeModel", "isBlanketed", "(I)Z"⟩, 54), (⟨"BellRopeModel", "muffle", "(II)I"⟩, 54), (⟨"BellRopeModel", "log", "(II)V"⟩, 54)]
theorem lw_r3 : ∀ q ∈ lw_privs_3, lw_okq q := List.forall_mem_cons.mpr ⟨lw_p32, List.forall_mem_cons.mpr ⟨lw_p33, List.forall_mem_cons.mpr ⟨lw_p34, List.forall_mem_cons.mpr ⟨lw_p35, List.forall_mem_cons.mpr ⟨lw_p36, List.forall_mem_cons.mpr ⟨lw_p37, List.forall_mem_cons.mpr ⟨lw_p38, List.forall_mem_cons.mpr ⟨lw_p39, List.forall_mem_cons.mpr ⟨lw_p40, List.forall_mem_cons.mpr ⟨lw_p41, List.forall_mem_cons.mpr ⟨lw_p42, List.forall_mem_cons.mpr ⟨lw_p43, List.forall_mem_cons.mpr ⟨lw_p44, List.forall_mem_cons.mpr ⟨lw_p45, List.forall_mem_cons.mpr ⟨lw_p46, List.forall_mem_cons.mpr ⟨lw_p47, fun _ h => absurd h List.not_mem_nil⟩⟩⟩⟩⟩⟩⟩⟩⟩⟩⟩⟩⟩⟩⟩⟩
theorem lw_p48 : lw_okq (⟨"BellRopeModel", "happen", "()V"⟩, 54) := ⟨⟨by decide +kernel, by decide +kernel⟩, List.mem_of_getElem? (i := 815) (by decide +kernel), List.mem_of_getElem? (i := 1182) (by decide +kernel), List.mem_of_getElem? (i := 1183) (by decide +kernel)⟩
theorem lw_p49 : lw_okq (⟨"BellRopeModel", "draw", "(I)I"⟩, 54) := ⟨⟨by decide +kernel, by decide +kernel⟩, List.mem_of_getElem? (i := 815) (by decide +kernel), List.mem_of_getElem? (i := 1186) (by decide +kernel), List.mem_of_getElem? (i := 1187) (by decide +kernel)⟩
theorem lw_p50 : lw_okq (⟨"BellRopeModel", "lookAhead", "()V"⟩, 54) := ⟨⟨by decide +kernel, by decide +kernel⟩, List.mem_of_getElem? (i := 815) (by decide +kernel), List.mem_of_getElem? (i := 1203) (by decide +kernel), List.mem_of_getElem? (i := 1204) (by decide +kernel)⟩
theorem lw_p51 : lw_okq (⟨"BellRopeModel", "firstHeard", "(II)I"⟩, 54) := ⟨⟨by decide +kernel, by decide +kernel⟩, List.mem_of_getElem? (i := 815) (by decide +kernel), List.mem_of_getElem? (i := 1212) (by decide +kernel), List.mem_of_getElem? (i := 1213) (by decide +kernel)⟩
theorem lw_p52 : lw_okq (⟨"BellRopeModel", "lateOnes", "(I)I"⟩, 54) := ⟨⟨by decide +kernel, by decide +kernel⟩, List.mem_of_getElem? (i := 815) (by decide +kernel), List.mem_of_getElem? (i := 1229) (by decide +kernel), List.mem_of_getElem? (i := 1230) (by decide +kernel)⟩
theorem lw_p53 : lw_okq (⟨"BellRopeModel", "isLate", "(II)Z"⟩, 54) := ⟨⟨by decide +kernel, by decide +kernel⟩, List.mem_of_getElem? (i := 815) (by decide +kernel), List.mem_of_getElem? (i := 1233) (by decide +kernel), List.mem_of_getElem? (i := 1234) (by decide +kernel)⟩
theorem lw_p54 : lw_okq (⟨"BellRopeModel", "costs", "(I)I"⟩, 54) := ⟨⟨by decide +kernel, by decide +kernel⟩, List.mem_of_getElem? (i := 815) (by decide +kernel), List.mem_of_getElem? (i := 1261) (by decide +kernel), List.mem_of_getElem? (i := 1262) (by decide +kernel)⟩
theorem lw_p55 : lw_okq (⟨"BellRopeModel", "costOf", "(I)I"⟩, 54) := ⟨⟨by decide +kernel, by decide +kernel⟩, List.mem_of_getElem? (i := 815) (by decide +kernel), List.mem_of_getElem? (i := 1265) (by decide +kernel), List.mem_of_getElem? (i := 1266) (by decide +kernel)⟩
theorem lw_p56 : lw_okq (⟨"BellRopeModel", "rungWith", "(I)I"⟩, 54) := ⟨⟨by decide +kernel, by decide +kernel⟩, List.mem_of_getElem? (i := 815) (by decide +kernel), List.mem_of_getElem? (i := 1269) (by decide +kernel), List.mem_of_getElem? (i := 1270) (by decide +kernel)⟩
theorem lw_p57 : lw_okq (⟨"BellRopeModel", "isAhead", "(II)Z"⟩, 54) := ⟨⟨by decide +kernel, by decide +kernel⟩, List.mem_of_getElem? (i := 815) (by decide +kernel), List.mem_of_getElem? (i := 1304) (by decide +kernel), List.mem_of_getElem? (i := 1305) (by decide +kernel)⟩
theorem lw_p58 : lw_okq (⟨"BellRopeModel", "couldBe", "(II)Z"⟩, 54) := ⟨⟨by decide +kernel, by decide +kernel⟩, List.mem_of_getElem? (i := 815) (by decide +kernel), List.mem_of_getElem? (i := 1318) (by decide +kernel), List.mem_of_getElem? (i := 1319) (by decide +kernel)⟩
theorem lw_p59 : lw_okq (⟨"BellRopeModel", "heardBy", "(III)I"⟩, 54) := ⟨⟨by decide +kernel, by decide +kernel⟩, List.mem_of_getElem? (i := 815) (by decide +kernel), List.mem_of_getElem? (i := 1322) (by decide +kernel), List.mem_of_getElem? (i := 1323) (by decide +kernel)⟩
theorem lw_p60 : lw_okq (⟨"BellRopeModel", "greatestPart", "(I)I"⟩, 54) := ⟨⟨by decide +kernel, by decide +kernel⟩, List.mem_of_getElem? (i := 815) (by decide +kernel), List.mem_of_getElem? (i := 1330) (by decide +kernel), List.mem_of_getElem? (i := 1331) (by decide +kernel)⟩
def lw_privs_4 : List (MethodName × Nat) := [(⟨"BellRopeModel", "happen", "()V"⟩, 54), (⟨"BellRopeModel", "draw", "(I)I"⟩, 54), (⟨"BellRopeModel", "lookAhead", "()V"⟩, 54), (⟨"BellRopeModel", "firstHeard", "(II)I"⟩, 54), (⟨"BellRopeModel", "lateOnes", "(I)I"⟩, 54), (⟨"BellRopeModel", "isLate", "(II)Z"⟩, 54), (⟨"BellRopeModel", "costs", "(I)I"⟩, 54), (⟨"BellRopeModel", "costOf", "(I)I"⟩, 54), (⟨"BellRopeModel", "rungWith", "(I)I"⟩, 54), (⟨"BellRopeModel", "isAhead", "(II)Z"⟩, 54), (⟨"BellRopeModel", "couldBe", "(II)Z"⟩, 54), (⟨"BellRopeModel", "heardBy", "(III)I"⟩, 54), (⟨"BellRopeModel", "greatestPart", "(I)I"⟩, 54)]
theorem lw_r4 : ∀ q ∈ lw_privs_4, lw_okq q := List.forall_mem_cons.mpr ⟨lw_p48, List.forall_mem_cons.mpr ⟨lw_p49, List.forall_mem_cons.mpr ⟨lw_p50, List.forall_mem_cons.mpr ⟨lw_p51, List.forall_mem_cons.mpr ⟨lw_p52, List.forall_mem_cons.mpr ⟨lw_p53, List.forall_mem_cons.mpr ⟨lw_p54, List.forall_mem_cons.mpr ⟨lw_p55, List.forall_mem_cons.mpr ⟨lw_p56, List.forall_mem_cons.mpr ⟨lw_p57, List.forall_mem_cons.mpr ⟨lw_p58, List.forall_mem_cons.mpr ⟨lw_p59, List.forall_mem_cons.mpr ⟨lw_p60, fun _ h => absurd h List.not_mem_nil⟩⟩⟩⟩⟩⟩⟩⟩⟩⟩⟩⟩⟩
def lw_privs : List (MethodName × Nat) := lw_privs_1 ++ (lw_privs_2 ++ (lw_privs_3 ++ (lw_privs_4)))
def lw_tbl : List Cond := k2_sels lw_privs ++ tables_1
theorem lw_privs_ok : ∀ q ∈ lw_privs, lw_okq q := by
  show ∀ q ∈ lw_privs_1 ++ (lw_privs_2 ++ (lw_privs_3 ++ (lw_privs_4))), lw_okq q
  exact List.forall_mem_append.mpr ⟨lw_r1, List.forall_mem_append.mpr ⟨lw_r2, List.forall_mem_append.mpr ⟨lw_r3, lw_r4⟩⟩⟩
end
section
def RX0 : String := "BellRope$Book"
def TX0 : u_T := fun k => match k with
  | 0 => ("BellRope$Book", "drinkers", "[I", true)
  | 1 => ("BellRope$Book", "pints", "[I", true)
  | _ => ("BellRope$Book", "many", "I", false)
def tyX0 : Nat → FieldType := fun k => match k with
  | 0 => .array .int
  | 1 => .array .int
  | _ => .int
theorem nmX0 : ∀ a, a < 3 → ∀ b, b < 3 → a ≠ b → (TX0 a).2.1 ≠ (TX0 b).2.1 := by decide +kernel
theorem tyX0_ok : ∀ k, k < 3 → parseFieldDescriptor (TX0 k).2.2.1 = some (tyX0 k) := by decide +kernel
abbrev cX0_init : ByteArray := prog_2_method_1_code
def yX0_init : MethodName := ⟨RX0, "<init>", "()V"⟩
abbrev cX0_append : ByteArray := prog_2_method_2_code
def yX0_append : MethodName := ⟨RX0, "append", "(II)Z"⟩
abbrev cX0_firstWrong : ByteArray := prog_2_method_3_code
def yX0_firstWrong : MethodName := ⟨RX0, "firstWrong", "(LBellRope$Evening;)I"⟩
def RX1 : String := "BellRope$Chances"
def TX1 : u_T := fun k => match k with
  | _ => ("BellRope$Chances", "lies", "[I", true)
def tyX1 : Nat → FieldType := fun k => match k with
  | _ => .array .int
theorem nmX1 : ∀ a, a < 1 → ∀ b, b < 1 → a ≠ b → (TX1 a).2.1 ≠ (TX1 b).2.1 := by decide +kernel
theorem tyX1_ok : ∀ k, k < 1 → parseFieldDescriptor (TX1 k).2.2.1 = some (tyX1 k) := by decide +kernel
abbrev cX1_init : ByteArray := prog_3_method_1_code
def yX1_init : MethodName := ⟨RX1, "<init>", "()V"⟩
abbrev cX1_restart : ByteArray := prog_3_method_2_code
def yX1_restart : MethodName := ⟨RX1, "restart", "()V"⟩
abbrev cX1_lift : ByteArray := prog_3_method_3_code
def yX1_lift : MethodName := ⟨RX1, "lift", "(I)V"⟩
abbrev cX1_above : ByteArray := prog_3_method_4_code
def yX1_above : MethodName := ⟨RX1, "above", "(I)I"⟩
def RX2 : String := "BellRope$Evening"
def TX2 : u_T := fun k => match k with
  | 0 => ("BellRope$Evening", "pints", "[I", true)
  | 1 => ("BellRope$Evening", "turns", "[I", true)
  | 2 => ("BellRope$Evening", "heards", "[I", true)
  | 3 => ("BellRope$Evening", "rungs", "[I", true)
  | 4 => ("BellRope$Evening", "gone", "I", false)
  | 5 => ("BellRope$Evening", "inside", "I", false)
  | 6 => ("BellRope$Evening", "bell", "I", false)
  | 7 => ("BellRope$Evening", "hung", "I", false)
  | 8 => ("BellRope$Evening", "paid", "I", false)
  | _ => ("BellRope$Evening", "weather", "I", false)
def tyX2 : Nat → FieldType := fun k => match k with
  | 0 => .array .int
  | 1 => .array .int
  | 2 => .array .int
  | 3 => .array .int
  | 4 => .int
  | 5 => .int
  | 6 => .int
  | 7 => .int
  | 8 => .int
  | _ => .int
theorem nmX2 : ∀ a, a < 10 → ∀ b, b < 10 → a ≠ b → (TX2 a).2.1 ≠ (TX2 b).2.1 := by decide +kernel
theorem tyX2_ok : ∀ k, k < 10 → parseFieldDescriptor (TX2 k).2.2.1 = some (tyX2 k) := by decide +kernel
abbrev cX2_init : ByteArray := prog_4_method_1_code
def yX2_init : MethodName := ⟨RX2, "<init>", "()V"⟩
abbrev cX2_empty : ByteArray := prog_4_method_2_code
def yX2_empty : MethodName := ⟨RX2, "empty", "()V"⟩
abbrev cX2_become : ByteArray := prog_4_method_3_code
def yX2_become : MethodName := ⟨RX2, "become", "(LBellRope$Evening;)V"⟩
abbrev cX2_logs : ByteArray := prog_4_method_4_code
def yX2_logs : MethodName := ⟨RX2, "logs", "()I"⟩
abbrev cX2_heardAgo : ByteArray := prog_4_method_5_code
def yX2_heardAgo : MethodName := ⟨RX2, "heardAgo", "(I)I"⟩
abbrev cX2_rungAgo : ByteArray := prog_4_method_6_code
def yX2_rungAgo : MethodName := ⟨RX2, "rungAgo", "(I)I"⟩
abbrev cX2_startsDay : ByteArray := prog_4_method_7_code
def yX2_startsDay : MethodName := ⟨RX2, "startsDay", "()Z"⟩
abbrev cX2_isWet : ByteArray := prog_4_method_8_code
def yX2_isWet : MethodName := ⟨RX2, "isWet", "(LBellRope$Inn;)Z"⟩
abbrev cX2_due : ByteArray := prog_4_method_9_code
def yX2_due : MethodName := ⟨RX2, "due", "(LBellRope$Inn;I)I"⟩
abbrev cX2_full : ByteArray := prog_4_method_10_code
def yX2_full : MethodName := ⟨RX2, "full", "(LBellRope$Inn;)I"⟩
abbrev cX2_thirsty : ByteArray := prog_4_method_11_code
def yX2_thirsty : MethodName := ⟨RX2, "thirsty", "(LBellRope$Inn;)I"⟩
abbrev cX2_heardOf : ByteArray := prog_4_method_12_code
def yX2_heardOf : MethodName := ⟨RX2, "heardOf", "(LBellRope$Inn;I)I"⟩
abbrev cX2_pass : ByteArray := prog_4_method_13_code
def yX2_pass : MethodName := ⟨RX2, "pass", "(LBellRope$Inn;)I"⟩
def RX3 : String := "BellRope$Image"
def TX3 : u_T := fun k => match k with
  | 0 => ("BellRope$Image", "evening", "LBellRope$Evening;", true)
  | 1 => ("BellRope$Image", "seedThen", "I", false)
  | _ => ("BellRope$Image", "kept", "Z", false)
def tyX3 : Nat → FieldType := fun k => match k with
  | 0 => .object "BellRope$Evening"
  | 1 => .int
  | _ => .boolean
theorem nmX3 : ∀ a, a < 3 → ∀ b, b < 3 → a ≠ b → (TX3 a).2.1 ≠ (TX3 b).2.1 := by decide +kernel
theorem tyX3_ok : ∀ k, k < 3 → parseFieldDescriptor (TX3 k).2.2.1 = some (tyX3 k) := by decide +kernel
abbrev cX3_init : ByteArray := prog_5_method_1_code
def yX3_init : MethodName := ⟨RX3, "<init>", "()V"⟩
def RX4 : String := "BellRope$Inn"
def TX4 : u_T := fun k => match k with
  | 0 => ("BellRope$Inn", "every", "[I", true)
  | 1 => ("BellRope$Inn", "bears", "[I", true)
  | 2 => ("BellRope$Inn", "hundredths", "[I", true)
  | 3 => ("BellRope$Inn", "mustBe", "[I", true)
  | 4 => ("BellRope$Inn", "walks", "[I", true)
  | 5 => ("BellRope$Inn", "signs", "[I", true)
  | 6 => ("BellRope$Inn", "blanket", "[I", true)
  | 7 => ("BellRope$Inn", "open", "Z", false)
  | 8 => ("BellRope$Inn", "echo", "I", false)
  | 9 => ("BellRope$Inn", "takes", "I", false)
  | 10 => ("BellRope$Inn", "wetDays", "I", false)
  | 11 => ("BellRope$Inn", "drinkers", "I", false)
  | 12 => ("BellRope$Inn", "sextons", "I", false)
  | 13 => ("BellRope$Inn", "goers", "I", false)
  | _ => ("BellRope$Inn", "signals", "I", false)
def tyX4 : Nat → FieldType := fun k => match k with
  | 0 => .array .int
  | 1 => .array .int
  | 2 => .array .int
  | 3 => .array .int
  | 4 => .array .int
  | 5 => .array .int
  | 6 => .array .int
  | 7 => .boolean
  | 8 => .int
  | 9 => .int
  | 10 => .int
  | 11 => .int
  | 12 => .int
  | 13 => .int
  | _ => .int
theorem nmX4 : ∀ a, a < 15 → ∀ b, b < 15 → a ≠ b → (TX4 a).2.1 ≠ (TX4 b).2.1 := by decide +kernel
theorem tyX4_ok : ∀ k, k < 15 → parseFieldDescriptor (TX4 k).2.2.1 = some (tyX4 k) := by decide +kernel
abbrev cX4_init : ByteArray := prog_6_method_1_code
def yX4_init : MethodName := ⟨RX4, "<init>", "()V"⟩
abbrev cX4_empty : ByteArray := prog_6_method_2_code
def yX4_empty : MethodName := ⟨RX4, "empty", "()V"⟩
abbrev cX4_hasDrinker : ByteArray := prog_6_method_3_code
def yX4_hasDrinker : MethodName := ⟨RX4, "hasDrinker", "(I)Z"⟩
abbrev cX4_hasGoer : ByteArray := prog_6_method_4_code
def yX4_hasGoer : MethodName := ⟨RX4, "hasGoer", "(I)Z"⟩
abbrev cX4_sets : ByteArray := prog_6_method_5_code
def yX4_sets : MethodName := ⟨RX4, "sets", "()I"⟩
abbrev cX4_signalsOf : ByteArray := prog_6_method_6_code
def yX4_signalsOf : MethodName := ⟨RX4, "signalsOf", "(I)I"⟩
abbrev cX4_sextonAt : ByteArray := prog_6_method_7_code
def yX4_sextonAt : MethodName := ⟨RX4, "sextonAt", "(I)Z"⟩
abbrev cX4_echoed : ByteArray := prog_6_method_8_code
def yX4_echoed : MethodName := ⟨RX4, "echoed", "(II)I"⟩
def RX5 : String := "BellRope$Known"
def TX5 : u_T := fun k => match k with
  | 0 => ("BellRope$Known", "quarters", "[I", true)
  | 1 => ("BellRope$Known", "heards", "[I", true)
  | 2 => ("BellRope$Known", "sets", "[I", true)
  | 3 => ("BellRope$Known", "alike", "[I", true)
  | 4 => ("BellRope$Known", "many", "I", false)
  | _ => ("BellRope$Known", "fitting", "I", false)
def tyX5 : Nat → FieldType := fun k => match k with
  | 0 => .array .int
  | 1 => .array .int
  | 2 => .array .int
  | 3 => .array .int
  | 4 => .int
  | _ => .int
theorem nmX5 : ∀ a, a < 6 → ∀ b, b < 6 → a ≠ b → (TX5 a).2.1 ≠ (TX5 b).2.1 := by decide +kernel
theorem tyX5_ok : ∀ k, k < 6 → parseFieldDescriptor (TX5 k).2.2.1 = some (tyX5 k) := by decide +kernel
abbrev cX5_init : ByteArray := prog_7_method_1_code
def yX5_init : MethodName := ⟨RX5, "<init>", "()V"⟩
abbrev cX5_append : ByteArray := prog_7_method_2_code
def yX5_append : MethodName := ⟨RX5, "append", "(II)Z"⟩
abbrev cX5_findSets : ByteArray := prog_7_method_3_code
def yX5_findSets : MethodName := ⟨RX5, "findSets", "(LBellRope$Inn;LBellRope$Evening;)V"⟩
abbrev cX5_fits : ByteArray := prog_7_method_4_code
def yX5_fits : MethodName := ⟨RX5, "fits", "(LBellRope$Inn;LBellRope$Evening;II)Z"⟩
abbrev cX5_leastSet : ByteArray := prog_7_method_5_code
def yX5_leastSet : MethodName := ⟨RX5, "leastSet", "()I"⟩
abbrev cX5_sureIn : ByteArray := prog_7_method_6_code
def yX5_sureIn : MethodName := ⟨RX5, "sureIn", "()I"⟩
abbrev cX5_sureOut : ByteArray := prog_7_method_7_code
def yX5_sureOut : MethodName := ⟨RX5, "sureOut", "(LBellRope$Inn;)I"⟩
abbrev cX5_greatestAlike : ByteArray := prog_7_method_8_code
def yX5_greatestAlike : MethodName := ⟨RX5, "greatestAlike", "(LBellRope$Inn;LBellRope$Evening;I)I"⟩
abbrev cX5_heardBy : ByteArray := prog_7_method_9_code
def yX5_heardBy : MethodName := ⟨RX5, "heardBy", "(LBellRope$Inn;III)I"⟩
def RX6 : String := "BellRope$Past"
def TX6 : u_T := fun k => match k with
  | 0 => ("BellRope$Past", "evenings", "[LBellRope$Evening;", true)
  | _ => ("BellRope$Past", "many", "I", false)
def tyX6 : Nat → FieldType := fun k => match k with
  | 0 => .array (.object "BellRope$Evening")
  | _ => .int
theorem nmX6 : ∀ a, a < 2 → ∀ b, b < 2 → a ≠ b → (TX6 a).2.1 ≠ (TX6 b).2.1 := by decide +kernel
theorem tyX6_ok : ∀ k, k < 2 → parseFieldDescriptor (TX6 k).2.2.1 = some (tyX6 k) := by decide +kernel
abbrev cX6_init : ByteArray := prog_8_method_1_code
def yX6_init : MethodName := ⟨RX6, "<init>", "()V"⟩
abbrev cX6_note : ByteArray := prog_8_method_2_code
def yX6_note : MethodName := ⟨RX6, "note", "(LBellRope$Evening;)V"⟩
abbrev cX6_restore : ByteArray := prog_8_method_3_code
def yX6_restore : MethodName := ⟨RX6, "restore", "(LBellRope$Evening;)Z"⟩
abbrev cX6_evening : ByteArray := prog_8_method_4_code
def yX6_evening : MethodName := ⟨RX6, "evening", "(I)LBellRope$Evening;"⟩
abbrev cX6_loseOldest : ByteArray := prog_8_method_5_code
def yX6_loseOldest : MethodName := ⟨RX6, "loseOldest", "()V"⟩
def RX7 : String := "BellRope$Reader"
def TX7 : u_T := fun k => match k with
  | 0 => ("BellRope$Reader", "letters", "[I", true)
  | 1 => ("BellRope$Reader", "at", "I", false)
  | 2 => ("BellRope$Reader", "numberAt", "I", false)
  | 3 => ("BellRope$Reader", "fault", "I", false)
  | 4 => ("BellRope$Reader", "many", "I", false)
  | _ => ("BellRope$Reader", "faultAt", "I", false)
def tyX7 : Nat → FieldType := fun k => match k with
  | 0 => .array .int
  | 1 => .int
  | 2 => .int
  | 3 => .int
  | 4 => .int
  | _ => .int
theorem nmX7 : ∀ a, a < 6 → ∀ b, b < 6 → a ≠ b → (TX7 a).2.1 ≠ (TX7 b).2.1 := by decide +kernel
theorem tyX7_ok : ∀ k, k < 6 → parseFieldDescriptor (TX7 k).2.2.1 = some (tyX7 k) := by decide +kernel
abbrev cX7_init : ByteArray := prog_9_method_1_code
def yX7_init : MethodName := ⟨RX7, "<init>", "()V"⟩
abbrev cX7_append : ByteArray := prog_9_method_2_code
def yX7_append : MethodName := ⟨RX7, "append", "(I)Z"⟩
abbrev cX7_read : ByteArray := prog_9_method_3_code
def yX7_read : MethodName := ⟨RX7, "read", "(LBellRope$Inn;)I"⟩
abbrev cX7_readClause : ByteArray := prog_9_method_4_code
def yX7_readClause : MethodName := ⟨RX7, "readClause", "(LBellRope$Inn;)V"⟩
abbrev cX7_readBell : ByteArray := prog_9_method_5_code
def yX7_readBell : MethodName := ⟨RX7, "readBell", "(LBellRope$Inn;)V"⟩
abbrev cX7_readDrinker : ByteArray := prog_9_method_6_code
def yX7_readDrinker : MethodName := ⟨RX7, "readDrinker", "(LBellRope$Inn;)V"⟩
abbrev cX7_readSexton : ByteArray := prog_9_method_7_code
def yX7_readSexton : MethodName := ⟨RX7, "readSexton", "(LBellRope$Inn;)V"⟩
abbrev cX7_readGoer : ByteArray := prog_9_method_8_code
def yX7_readGoer : MethodName := ⟨RX7, "readGoer", "(LBellRope$Inn;)V"⟩
abbrev cX7_readSignal : ByteArray := prog_9_method_9_code
def yX7_readSignal : MethodName := ⟨RX7, "readSignal", "(LBellRope$Inn;)V"⟩
abbrev cX7_startClause : ByteArray := prog_9_method_10_code
def yX7_startClause : MethodName := ⟨RX7, "startClause", "(Z)V"⟩
abbrev cX7_endClause : ByteArray := prog_9_method_11_code
def yX7_endClause : MethodName := ⟨RX7, "endClause", "()V"⟩
abbrev cX7_readNumber : ByteArray := prog_9_method_12_code
def yX7_readNumber : MethodName := ⟨RX7, "readNumber", "(II)I"⟩
abbrev cX7_skipBlanks : ByteArray := prog_9_method_13_code
def yX7_skipBlanks : MethodName := ⟨RX7, "skipBlanks", "()V"⟩
abbrev cX7_wrong : ByteArray := prog_9_method_14_code
def yX7_wrong : MethodName := ⟨RX7, "wrong", "(II)V"⟩
abbrev cX7_isFigure : ByteArray := prog_9_method_15_code
def yX7_isFigure : MethodName := ⟨RX7, "isFigure", "(I)Z"⟩
def RX8 : String := "BellRope$Rows"
def TX8 : u_T := fun k => match k with
  | _ => ("", "", "", false)
def tyX8 : Nat → FieldType := fun k => match k with
  | _ => .int
theorem nmX8 : ∀ a, a < 0 → ∀ b, b < 0 → a ≠ b → (TX8 a).2.1 ≠ (TX8 b).2.1 := by decide +kernel
theorem tyX8_ok : ∀ k, k < 0 → parseFieldDescriptor (TX8 k).2.2.1 = some (tyX8 k) := by decide +kernel
abbrev cX8_at : ByteArray := prog_10_method_2_code
def yX8_at : MethodName := ⟨RX8, "at", "([II)I"⟩
abbrev cX8_put : ByteArray := prog_10_method_3_code
def yX8_put : MethodName := ⟨RX8, "put", "([III)V"⟩
abbrev cX8_zero : ByteArray := prog_10_method_4_code
def yX8_zero : MethodName := ⟨RX8, "zero", "([I)V"⟩
abbrev cX8_copy : ByteArray := prog_10_method_5_code
def yX8_copy : MethodName := ⟨RX8, "copy", "([I[I)V"⟩
abbrev cX8_sum : ByteArray := prog_10_method_6_code
def yX8_sum : MethodName := ⟨RX8, "sum", "([I)I"⟩
def RX9 : String := "BellRope$Trial"
def TX9 : u_T := fun k => match k with
  | 0 => ("BellRope$Trial", "evening", "LBellRope$Evening;", true)
  | _ => ("BellRope$Trial", "heards", "[I", true)
def tyX9 : Nat → FieldType := fun k => match k with
  | 0 => .object "BellRope$Evening"
  | _ => .array .int
theorem nmX9 : ∀ a, a < 2 → ∀ b, b < 2 → a ≠ b → (TX9 a).2.1 ≠ (TX9 b).2.1 := by decide +kernel
theorem tyX9_ok : ∀ k, k < 2 → parseFieldDescriptor (TX9 k).2.2.1 = some (tyX9 k) := by decide +kernel
abbrev cX9_init : ByteArray := prog_11_method_1_code
def yX9_init : MethodName := ⟨RX9, "<init>", "()V"⟩
abbrev cX9_run : ByteArray := prog_11_method_2_code
def yX9_run : MethodName := ⟨RX9, "run", "(LBellRope$Inn;LBellRope$Evening;I)V"⟩
abbrev cX9_firstHeard : ByteArray := prog_11_method_3_code
def yX9_firstHeard : MethodName := ⟨RX9, "firstHeard", "(II)I"⟩
def RX10 : String := "BellRope"
def TX10 : u_T := fun k => match k with
  | 0 => ("BellRope", "reader", "LBellRope$Reader;", true)
  | 1 => ("BellRope", "now", "LBellRope$Evening;", true)
  | 2 => ("BellRope", "past", "LBellRope$Past;", true)
  | 3 => ("BellRope", "firstImage", "LBellRope$Image;", true)
  | 4 => ("BellRope", "secondImage", "LBellRope$Image;", true)
  | 5 => ("BellRope", "trial", "LBellRope$Trial;", true)
  | 6 => ("BellRope", "known", "LBellRope$Known;", true)
  | 7 => ("BellRope", "book", "LBellRope$Book;", true)
  | 8 => ("BellRope", "chances", "LBellRope$Chances;", true)
  | 9 => ("BellRope", "house", "LBellRope$Inn;", false)
  | 10 => ("BellRope", "draft", "LBellRope$Inn;", false)
  | _ => ("BellRope", "drawn", "I", false)
def tyX10 : Nat → FieldType := fun k => match k with
  | 0 => .object "BellRope$Reader"
  | 1 => .object "BellRope$Evening"
  | 2 => .object "BellRope$Past"
  | 3 => .object "BellRope$Image"
  | 4 => .object "BellRope$Image"
  | 5 => .object "BellRope$Trial"
  | 6 => .object "BellRope$Known"
  | 7 => .object "BellRope$Book"
  | 8 => .object "BellRope$Chances"
  | 9 => .object "BellRope$Inn"
  | 10 => .object "BellRope$Inn"
  | _ => .int
theorem nmX10 : ∀ a, a < 12 → ∀ b, b < 12 → a ≠ b → (TX10 a).2.1 ≠ (TX10 b).2.1 := by decide +kernel
theorem tyX10_ok : ∀ k, k < 12 → parseFieldDescriptor (TX10 k).2.2.1 = some (tyX10 k) := by decide +kernel
abbrev cX10_init : ByteArray := prog_1_method_1_code
def yX10_init : MethodName := ⟨RX10, "<init>", "()V"⟩
abbrev cX10_feed : ByteArray := prog_1_method_2_code
def yX10_feed : MethodName := ⟨RX10, "feed", "(I)I"⟩
abbrev cX10_inn : ByteArray := prog_1_method_3_code
def yX10_inn : MethodName := ⟨RX10, "inn", "()I"⟩
abbrev cX10_fault : ByteArray := prog_1_method_4_code
def yX10_fault : MethodName := ⟨RX10, "fault", "()I"⟩
abbrev cX10_told : ByteArray := prog_1_method_5_code
def yX10_told : MethodName := ⟨RX10, "told", "(I)I"⟩
abbrev cX10_drinker : ByteArray := prog_1_method_6_code
def yX10_drinker : MethodName := ⟨RX10, "drinker", "(II)I"⟩
abbrev cX10_goer : ByteArray := prog_1_method_7_code
def yX10_goer : MethodName := ⟨RX10, "goer", "(II)I"⟩
abbrev cX10_signal : ByteArray := prog_1_method_8_code
def yX10_signal : MethodName := ⟨RX10, "signal", "(I)I"⟩
abbrev cX10_logged : ByteArray := prog_1_method_9_code
def yX10_logged : MethodName := ⟨RX10, "logged", "(II)I"⟩
abbrev cX10_quarter : ByteArray := prog_1_method_10_code
def yX10_quarter : MethodName := ⟨RX10, "quarter", "(I)I"⟩
abbrev cX10_come : ByteArray := prog_1_method_11_code
def yX10_come : MethodName := ⟨RX10, "come", "(I)I"⟩
abbrev cX10_go : ByteArray := prog_1_method_12_code
def yX10_go : MethodName := ⟨RX10, "go", "(I)I"⟩
abbrev cX10_treat : ByteArray := prog_1_method_13_code
def yX10_treat : MethodName := ⟨RX10, "treat", "(II)I"⟩
abbrev cX10_turn : ByteArray := prog_1_method_14_code
def yX10_turn : MethodName := ⟨RX10, "turn", "(II)I"⟩
abbrev cX10_hang : ByteArray := prog_1_method_15_code
def yX10_hang : MethodName := ⟨RX10, "hang", "(I)I"⟩
abbrev cX10_rain : ByteArray := prog_1_method_16_code
def yX10_rain : MethodName := ⟨RX10, "rain", "(I)I"⟩
abbrev cX10_drift : ByteArray := prog_1_method_17_code
def yX10_drift : MethodName := ⟨RX10, "drift", "(I)I"⟩
abbrev cX10_undo : ByteArray := prog_1_method_18_code
def yX10_undo : MethodName := ⟨RX10, "undo", "()I"⟩
abbrev cX10_strikes : ByteArray := prog_1_method_19_code
def yX10_strikes : MethodName := ⟨RX10, "strikes", "(I)I"⟩
abbrev cX10_when : ByteArray := prog_1_method_20_code
def yX10_when : MethodName := ⟨RX10, "when", "(I)I"⟩
abbrev cX10_hour : ByteArray := prog_1_method_21_code
def yX10_hour : MethodName := ⟨RX10, "hour", "(I)I"⟩
abbrev cX10_noon : ByteArray := prog_1_method_22_code
def yX10_noon : MethodName := ⟨RX10, "noon", "()I"⟩
abbrev cX10_late : ByteArray := prog_1_method_23_code
def yX10_late : MethodName := ⟨RX10, "late", "(I)I"⟩
abbrev cX10_best : ByteArray := prog_1_method_24_code
def yX10_best : MethodName := ⟨RX10, "best", "(I)I"⟩
abbrev cX10_alone : ByteArray := prog_1_method_25_code
def yX10_alone : MethodName := ⟨RX10, "alone", "(I)I"⟩
abbrev cX10_given : ByteArray := prog_1_method_26_code
def yX10_given : MethodName := ⟨RX10, "given", "(I)I"⟩
abbrev cX10_mistaken : ByteArray := prog_1_method_27_code
def yX10_mistaken : MethodName := ⟨RX10, "mistaken", "()I"⟩
abbrev cX10_vespers : ByteArray := prog_1_method_28_code
def yX10_vespers : MethodName := ⟨RX10, "vespers", "(II)I"⟩
abbrev cX10_ship : ByteArray := prog_1_method_29_code
def yX10_ship : MethodName := ⟨RX10, "ship", "(I)I"⟩
abbrev cX10_widows : ByteArray := prog_1_method_30_code
def yX10_widows : MethodName := ⟨RX10, "widows", "(I)I"⟩
abbrev cX10_odds : ByteArray := prog_1_method_31_code
def yX10_odds : MethodName := ⟨RX10, "odds", "(I)I"⟩
abbrev cX10_most : ByteArray := prog_1_method_32_code
def yX10_most : MethodName := ⟨RX10, "most", "()I"⟩
abbrev cX10_round : ByteArray := prog_1_method_33_code
def yX10_round : MethodName := ⟨RX10, "round", "()I"⟩
abbrev cX10_share : ByteArray := prog_1_method_34_code
def yX10_share : MethodName := ⟨RX10, "share", "(I)I"⟩
abbrev cX10_was : ByteArray := prog_1_method_35_code
def yX10_was : MethodName := ⟨RX10, "was", "(II)I"⟩
abbrev cX10_could : ByteArray := prog_1_method_36_code
def yX10_could : MethodName := ⟨RX10, "could", "(I)I"⟩
abbrev cX10_listen : ByteArray := prog_1_method_37_code
def yX10_listen : MethodName := ⟨RX10, "listen", "()I"⟩
abbrev cX10_muffled : ByteArray := prog_1_method_38_code
def yX10_muffled : MethodName := ⟨RX10, "muffled", "()I"⟩
abbrev cX10_write : ByteArray := prog_1_method_39_code
def yX10_write : MethodName := ⟨RX10, "write", "(II)I"⟩
abbrev cX10_tear : ByteArray := prog_1_method_40_code
def yX10_tear : MethodName := ⟨RX10, "tear", "()I"⟩
abbrev cX10_judge : ByteArray := prog_1_method_41_code
def yX10_judge : MethodName := ⟨RX10, "judge", "()I"⟩
abbrev cX10_seed : ByteArray := prog_1_method_42_code
def yX10_seed : MethodName := ⟨RX10, "seed", "(I)I"⟩
abbrev cX10_keep : ByteArray := prog_1_method_43_code
def yX10_keep : MethodName := ⟨RX10, "keep", "(I)I"⟩
abbrev cX10_goBack : ByteArray := prog_1_method_44_code
def yX10_goBack : MethodName := ⟨RX10, "goBack", "(I)I"⟩
abbrev cX10_bit : ByteArray := prog_1_method_45_code
def yX10_bit : MethodName := ⟨RX10, "bit", "(II)I"⟩
abbrev cX10_refused : ByteArray := prog_1_method_46_code
def yX10_refused : MethodName := ⟨RX10, "refused", "(Z)I"⟩
abbrev cX10_refusedQuarters : ByteArray := prog_1_method_47_code
def yX10_refusedQuarters : MethodName := ⟨RX10, "refusedQuarters", "(I)I"⟩
abbrev cX10_stir : ByteArray := prog_1_method_48_code
def yX10_stir : MethodName := ⟨RX10, "stir", "()V"⟩
abbrev cX10_draw : ByteArray := prog_1_method_49_code
def yX10_draw : MethodName := ⟨RX10, "draw", "(I)I"⟩
abbrev cX10_lateBy : ByteArray := prog_1_method_50_code
def yX10_lateBy : MethodName := ⟨RX10, "lateBy", "(I)I"⟩
abbrev cX10_leastCommon : ByteArray := prog_1_method_51_code
def yX10_leastCommon : MethodName := ⟨RX10, "leastCommon", "(II)I"⟩
abbrev cX10_payersAhead : ByteArray := prog_1_method_52_code
def yX10_payersAhead : MethodName := ⟨RX10, "payersAhead", "(I)I"⟩
abbrev cX10_imageOf : ByteArray := prog_1_method_53_code
def yX10_imageOf : MethodName := ⟨RX10, "imageOf", "(I)LBellRope$Image;"⟩
def RX11 : String := "BellRopeModel"
def TX11 : u_T := fun k => match k with
  | 0 => ("BellRopeModel", "isInn", "Z", false)
  | 1 => ("BellRopeModel", "echo", "I", false)
  | 2 => ("BellRopeModel", "blanket", "I", false)
  | 3 => ("BellRopeModel", "wetDays", "I", false)
  | 4 => ("BellRopeModel", "drinkers", "I", false)
  | 5 => ("BellRopeModel", "thirst", "[I", true)
  | 6 => ("BellRopeModel", "bears", "[I", true)
  | 7 => ("BellRopeModel", "chance", "[I", true)
  | 8 => ("BellRopeModel", "times", "I", false)
  | 9 => ("BellRopeModel", "begins", "[I", true)
  | 10 => ("BellRopeModel", "lasts", "[I", true)
  | 11 => ("BellRopeModel", "goers", "I", false)
  | 12 => ("BellRopeModel", "due", "[I", true)
  | 13 => ("BellRopeModel", "way", "[I", true)
  | 14 => ("BellRopeModel", "signals", "I", false)
  | 15 => ("BellRopeModel", "strokes", "[I", true)
  | 16 => ("BellRopeModel", "now", "[I", true)
  | 17 => ("BellRopeModel", "seed", "I", false)
  | 18 => ("BellRopeModel", "text", "[I", true)
  | 19 => ("BellRopeModel", "texted", "I", false)
  | 20 => ("BellRopeModel", "faultPlace", "I", false)
  | 21 => ("BellRopeModel", "at0", "I", false)
  | 22 => ("BellRopeModel", "number", "I", false)
  | 23 => ("BellRopeModel", "numberAt", "I", false)
  | 24 => ("BellRopeModel", "readInn", "Z", false)
  | 25 => ("BellRopeModel", "readLaw", "[I", true)
  | 26 => ("BellRopeModel", "readDrinkers", "I", false)
  | 27 => ("BellRopeModel", "readThirst", "[I", true)
  | 28 => ("BellRopeModel", "readBears", "[I", true)
  | 29 => ("BellRopeModel", "readChance", "[I", true)
  | 30 => ("BellRopeModel", "readTimes", "I", false)
  | 31 => ("BellRopeModel", "readBegins", "[I", true)
  | 32 => ("BellRopeModel", "readLasts", "[I", true)
  | 33 => ("BellRopeModel", "readGoers", "I", false)
  | 34 => ("BellRopeModel", "readDue", "[I", true)
  | 35 => ("BellRopeModel", "readWay", "[I", true)
  | 36 => ("BellRopeModel", "readSignals", "I", false)
  | 37 => ("BellRopeModel", "readStrokes", "[I", true)
  | 38 => ("BellRopeModel", "undos", "I", false)
  | 39 => ("BellRopeModel", "past", "[I", true)
  | 40 => ("BellRopeModel", "before", "[I", true)
  | 41 => ("BellRopeModel", "comes", "[I", true)
  | 42 => ("BellRopeModel", "hours", "[I", true)
  | 43 => ("BellRopeModel", "lies", "[I", true)
  | 44 => ("BellRopeModel", "known", "I", false)
  | 45 => ("BellRopeModel", "knownAt", "[I", true)
  | 46 => ("BellRopeModel", "knownIs", "[I", true)
  | 47 => ("BellRopeModel", "fits", "[Z", true)
  | 48 => ("BellRopeModel", "parts", "[I", true)
  | 49 => ("BellRopeModel", "booked", "I", false)
  | 50 => ("BellRopeModel", "bookOf", "[I", true)
  | 51 => ("BellRopeModel", "bookIs", "[I", true)
  | 52 => ("BellRopeModel", "images", "[I", true)
  | _ => ("BellRopeModel", "isKept", "[Z", true)
def tyX11 : Nat → FieldType := fun k => match k with
  | 0 => .boolean
  | 1 => .int
  | 2 => .int
  | 3 => .int
  | 4 => .int
  | 5 => .array .int
  | 6 => .array .int
  | 7 => .array .int
  | 8 => .int
  | 9 => .array .int
  | 10 => .array .int
  | 11 => .int
  | 12 => .array .int
  | 13 => .array .int
  | 14 => .int
  | 15 => .array .int
  | 16 => .array .int
  | 17 => .int
  | 18 => .array .int
  | 19 => .int
  | 20 => .int
  | 21 => .int
  | 22 => .int
  | 23 => .int
  | 24 => .boolean
  | 25 => .array .int
  | 26 => .int
  | 27 => .array .int
  | 28 => .array .int
  | 29 => .array .int
  | 30 => .int
  | 31 => .array .int
  | 32 => .array .int
  | 33 => .int
  | 34 => .array .int
  | 35 => .array .int
  | 36 => .int
  | 37 => .array .int
  | 38 => .int
  | 39 => .array .int
  | 40 => .array .int
  | 41 => .array .int
  | 42 => .array .int
  | 43 => .array .int
  | 44 => .int
  | 45 => .array .int
  | 46 => .array .int
  | 47 => .array .boolean
  | 48 => .array .int
  | 49 => .int
  | 50 => .array .int
  | 51 => .array .int
  | 52 => .array .int
  | _ => .array .boolean
theorem nmX11 : ∀ a, a < 54 → ∀ b, b < 54 → a ≠ b → (TX11 a).2.1 ≠ (TX11 b).2.1 := by decide +kernel
theorem tyX11_ok : ∀ k, k < 54 → parseFieldDescriptor (TX11 k).2.2.1 = some (tyX11 k) := by decide +kernel
abbrev cX11_init : ByteArray := prog_13_method_1_code
def yX11_init : MethodName := ⟨RX11, "<init>", "()V"⟩
abbrev cX11_in : ByteArray := prog_13_method_3_code
def yX11_in : MethodName := ⟨RX11, "in", "(JJJ)Z"⟩
abbrev cX11_has : ByteArray := prog_13_method_4_code
def yX11_has : MethodName := ⟨RX11, "has", "(II)Z"⟩
abbrev cX11_bits : ByteArray := prog_13_method_5_code
def yX11_bits : MethodName := ⟨RX11, "bits", "(I)I"⟩
abbrev cX11_isDrinker : ByteArray := prog_13_method_6_code
def yX11_isDrinker : MethodName := ⟨RX11, "isDrinker", "(I)Z"⟩
abbrev cX11_isGoer : ByteArray := prog_13_method_7_code
def yX11_isGoer : MethodName := ⟨RX11, "isGoer", "(I)Z"⟩
abbrev cX11_feed : ByteArray := prog_13_method_8_code
def yX11_feed : MethodName := ⟨RX11, "feed", "(I)I"⟩
abbrev cX11_here : ByteArray := prog_13_method_9_code
def yX11_here : MethodName := ⟨RX11, "here", "()I"⟩
abbrev cX11_fails : ByteArray := prog_13_method_10_code
def yX11_fails : MethodName := ⟨RX11, "fails", "(II)I"⟩
abbrev cX11_takeNumber : ByteArray := prog_13_method_11_code
def yX11_takeNumber : MethodName := ⟨RX11, "takeNumber", "(II)I"⟩
abbrev cX11_into : ByteArray := prog_13_method_12_code
def yX11_into : MethodName := ⟨RX11, "into", "([IIII)I"⟩
abbrev cX11_takeLaw : ByteArray := prog_13_method_13_code
def yX11_takeLaw : MethodName := ⟨RX11, "takeLaw", "()I"⟩
abbrev cX11_takeDrinker : ByteArray := prog_13_method_14_code
def yX11_takeDrinker : MethodName := ⟨RX11, "takeDrinker", "()I"⟩
abbrev cX11_takeTime : ByteArray := prog_13_method_15_code
def yX11_takeTime : MethodName := ⟨RX11, "takeTime", "()I"⟩
abbrev cX11_takeGoer : ByteArray := prog_13_method_16_code
def yX11_takeGoer : MethodName := ⟨RX11, "takeGoer", "()I"⟩
abbrev cX11_takeSignal : ByteArray := prog_13_method_17_code
def yX11_takeSignal : MethodName := ⟨RX11, "takeSignal", "()I"⟩
abbrev cX11_whichClause : ByteArray := prog_13_method_18_code
def yX11_whichClause : MethodName := ⟨RX11, "whichClause", "(I)I"⟩
abbrev cX11_isFull : ByteArray := prog_13_method_19_code
def yX11_isFull : MethodName := ⟨RX11, "isFull", "(I)Z"⟩
abbrev cX11_takeBody : ByteArray := prog_13_method_20_code
def yX11_takeBody : MethodName := ⟨RX11, "takeBody", "(I)I"⟩
abbrev cX11_takeClause : ByteArray := prog_13_method_21_code
def yX11_takeClause : MethodName := ⟨RX11, "takeClause", "()I"⟩
abbrev cX11_copyRow : ByteArray := prog_13_method_22_code
def yX11_copyRow : MethodName := ⟨RX11, "copyRow", "([I[II)V"⟩
abbrev cX11_takeRead : ByteArray := prog_13_method_23_code
def yX11_takeRead : MethodName := ⟨RX11, "takeRead", "()V"⟩
abbrev cX11_inn : ByteArray := prog_13_method_24_code
def yX11_inn : MethodName := ⟨RX11, "inn", "()I"⟩
abbrev cX11_fault : ByteArray := prog_13_method_25_code
def yX11_fault : MethodName := ⟨RX11, "fault", "()I"⟩
abbrev cX11_whoIsIn : ByteArray := prog_13_method_26_code
def yX11_whoIsIn : MethodName := ⟨RX11, "whoIsIn", "()I"⟩
abbrev cX11_isWet : ByteArray := prog_13_method_27_code
def yX11_isWet : MethodName := ⟨RX11, "isWet", "()Z"⟩
abbrev cX11_isFirstOfDay : ByteArray := prog_13_method_28_code
def yX11_isFirstOfDay : MethodName := ⟨RX11, "isFirstOfDay", "()Z"⟩
abbrev cX11_isBlanketed : ByteArray := prog_13_method_29_code
def yX11_isBlanketed : MethodName := ⟨RX11, "isBlanketed", "(I)Z"⟩
abbrev cX11_isTurn : ByteArray := prog_13_method_30_code
def yX11_isTurn : MethodName := ⟨RX11, "isTurn", "(II)Z"⟩
abbrev cX11_wouldRing : ByteArray := prog_13_method_31_code
def yX11_wouldRing : MethodName := ⟨RX11, "wouldRing", "(I)Z"⟩
abbrev cX11_muffle : ByteArray := prog_13_method_32_code
def yX11_muffle : MethodName := ⟨RX11, "muffle", "(II)I"⟩
abbrev cX11_heardOf : ByteArray := prog_13_method_33_code
def yX11_heardOf : MethodName := ⟨RX11, "heardOf", "(I)I"⟩
abbrev cX11_told : ByteArray := prog_13_method_34_code
def yX11_told : MethodName := ⟨RX11, "told", "(I)I"⟩
abbrev cX11_drinker : ByteArray := prog_13_method_35_code
def yX11_drinker : MethodName := ⟨RX11, "drinker", "(II)I"⟩
abbrev cX11_goer : ByteArray := prog_13_method_36_code
def yX11_goer : MethodName := ⟨RX11, "goer", "(II)I"⟩
abbrev cX11_signal : ByteArray := prog_13_method_37_code
def yX11_signal : MethodName := ⟨RX11, "signal", "(I)I"⟩
abbrev cX11_logged : ByteArray := prog_13_method_38_code
def yX11_logged : MethodName := ⟨RX11, "logged", "(II)I"⟩
abbrev cX11_log : ByteArray := prog_13_method_39_code
def yX11_log : MethodName := ⟨RX11, "log", "(II)V"⟩
abbrev cX11_pass : ByteArray := prog_13_method_40_code
def yX11_pass : MethodName := ⟨RX11, "pass", "()I"⟩
abbrev cX11_remember : ByteArray := prog_13_method_41_code
def yX11_remember : MethodName := ⟨RX11, "remember", "()V"⟩
abbrev cX11_quartersRefused : ByteArray := prog_13_method_42_code
def yX11_quartersRefused : MethodName := ⟨RX11, "quartersRefused", "(I)I"⟩
abbrev cX11_quarter : ByteArray := prog_13_method_43_code
def yX11_quarter : MethodName := ⟨RX11, "quarter", "(I)I"⟩
abbrev cX11_come : ByteArray := prog_13_method_44_code
def yX11_come : MethodName := ⟨RX11, "come", "(I)I"⟩
abbrev cX11_go : ByteArray := prog_13_method_45_code
def yX11_go : MethodName := ⟨RX11, "go", "(I)I"⟩
abbrev cX11_treat : ByteArray := prog_13_method_46_code
def yX11_treat : MethodName := ⟨RX11, "treat", "(II)I"⟩
abbrev cX11_turn : ByteArray := prog_13_method_47_code
def yX11_turn : MethodName := ⟨RX11, "turn", "(II)I"⟩
abbrev cX11_hang : ByteArray := prog_13_method_48_code
def yX11_hang : MethodName := ⟨RX11, "hang", "(I)I"⟩
abbrev cX11_rain : ByteArray := prog_13_method_49_code
def yX11_rain : MethodName := ⟨RX11, "rain", "(I)I"⟩
abbrev cX11_draw : ByteArray := prog_13_method_50_code
def yX11_draw : MethodName := ⟨RX11, "draw", "(I)I"⟩
abbrev cX11_happen : ByteArray := prog_13_method_51_code
def yX11_happen : MethodName := ⟨RX11, "happen", "()V"⟩
abbrev cX11_drift : ByteArray := prog_13_method_52_code
def yX11_drift : MethodName := ⟨RX11, "drift", "(I)I"⟩
abbrev cX11_undo : ByteArray := prog_13_method_53_code
def yX11_undo : MethodName := ⟨RX11, "undo", "()I"⟩
abbrev cX11_lookAhead : ByteArray := prog_13_method_54_code
def yX11_lookAhead : MethodName := ⟨RX11, "lookAhead", "()V"⟩
abbrev cX11_strikes : ByteArray := prog_13_method_55_code
def yX11_strikes : MethodName := ⟨RX11, "strikes", "(I)I"⟩
abbrev cX11_firstHeard : ByteArray := prog_13_method_56_code
def yX11_firstHeard : MethodName := ⟨RX11, "firstHeard", "(II)I"⟩
abbrev cX11_when : ByteArray := prog_13_method_57_code
def yX11_when : MethodName := ⟨RX11, "when", "(I)I"⟩
abbrev cX11_hour : ByteArray := prog_13_method_58_code
def yX11_hour : MethodName := ⟨RX11, "hour", "(I)I"⟩
abbrev cX11_noon : ByteArray := prog_13_method_59_code
def yX11_noon : MethodName := ⟨RX11, "noon", "()I"⟩
abbrev cX11_isLate : ByteArray := prog_13_method_60_code
def yX11_isLate : MethodName := ⟨RX11, "isLate", "(II)Z"⟩
abbrev cX11_lateOnes : ByteArray := prog_13_method_61_code
def yX11_lateOnes : MethodName := ⟨RX11, "lateOnes", "(I)I"⟩
abbrev cX11_late : ByteArray := prog_13_method_62_code
def yX11_late : MethodName := ⟨RX11, "late", "(I)I"⟩
abbrev cX11_best : ByteArray := prog_13_method_63_code
def yX11_best : MethodName := ⟨RX11, "best", "(I)I"⟩
abbrev cX11_alone : ByteArray := prog_13_method_64_code
def yX11_alone : MethodName := ⟨RX11, "alone", "(I)I"⟩
abbrev cX11_given : ByteArray := prog_13_method_65_code
def yX11_given : MethodName := ⟨RX11, "given", "(I)I"⟩
abbrev cX11_mistaken : ByteArray := prog_13_method_66_code
def yX11_mistaken : MethodName := ⟨RX11, "mistaken", "()I"⟩
abbrev cX11_costOf : ByteArray := prog_13_method_67_code
def yX11_costOf : MethodName := ⟨RX11, "costOf", "(I)I"⟩
abbrev cX11_costs : ByteArray := prog_13_method_68_code
def yX11_costs : MethodName := ⟨RX11, "costs", "(I)I"⟩
abbrev cX11_rungWith : ByteArray := prog_13_method_69_code
def yX11_rungWith : MethodName := ⟨RX11, "rungWith", "(I)I"⟩
abbrev cX11_vespers : ByteArray := prog_13_method_70_code
def yX11_vespers : MethodName := ⟨RX11, "vespers", "(II)I"⟩
abbrev cX11_ship : ByteArray := prog_13_method_71_code
def yX11_ship : MethodName := ⟨RX11, "ship", "(I)I"⟩
abbrev cX11_widows : ByteArray := prog_13_method_72_code
def yX11_widows : MethodName := ⟨RX11, "widows", "(I)I"⟩
abbrev cX11_odds : ByteArray := prog_13_method_73_code
def yX11_odds : MethodName := ⟨RX11, "odds", "(I)I"⟩
abbrev cX11_most : ByteArray := prog_13_method_74_code
def yX11_most : MethodName := ⟨RX11, "most", "()I"⟩
abbrev cX11_common : ByteArray := prog_13_method_75_code
def yX11_common : MethodName := ⟨RX11, "common", "(II)I"⟩
abbrev cX11_round : ByteArray := prog_13_method_76_code
def yX11_round : MethodName := ⟨RX11, "round", "()I"⟩
abbrev cX11_isAhead : ByteArray := prog_13_method_77_code
def yX11_isAhead : MethodName := ⟨RX11, "isAhead", "(II)Z"⟩
abbrev cX11_share : ByteArray := prog_13_method_78_code
def yX11_share : MethodName := ⟨RX11, "share", "(I)I"⟩
abbrev cX11_was : ByteArray := prog_13_method_79_code
def yX11_was : MethodName := ⟨RX11, "was", "(II)I"⟩
abbrev cX11_heardBy : ByteArray := prog_13_method_80_code
def yX11_heardBy : MethodName := ⟨RX11, "heardBy", "(III)I"⟩
abbrev cX11_couldBe : ByteArray := prog_13_method_81_code
def yX11_couldBe : MethodName := ⟨RX11, "couldBe", "(II)Z"⟩
abbrev cX11_could : ByteArray := prog_13_method_82_code
def yX11_could : MethodName := ⟨RX11, "could", "(I)I"⟩
abbrev cX11_greatestPart : ByteArray := prog_13_method_83_code
def yX11_greatestPart : MethodName := ⟨RX11, "greatestPart", "(I)I"⟩
abbrev cX11_listen : ByteArray := prog_13_method_84_code
def yX11_listen : MethodName := ⟨RX11, "listen", "()I"⟩
abbrev cX11_muffled : ByteArray := prog_13_method_85_code
def yX11_muffled : MethodName := ⟨RX11, "muffled", "()I"⟩
abbrev cX11_write : ByteArray := prog_13_method_86_code
def yX11_write : MethodName := ⟨RX11, "write", "(II)I"⟩
abbrev cX11_tear : ByteArray := prog_13_method_87_code
def yX11_tear : MethodName := ⟨RX11, "tear", "()I"⟩
abbrev cX11_judge : ByteArray := prog_13_method_88_code
def yX11_judge : MethodName := ⟨RX11, "judge", "()I"⟩
abbrev cX11_seed : ByteArray := prog_13_method_89_code
def yX11_seed : MethodName := ⟨RX11, "seed", "(I)I"⟩
abbrev cX11_keep : ByteArray := prog_13_method_90_code
def yX11_keep : MethodName := ⟨RX11, "keep", "(I)I"⟩
abbrev cX11_goBack : ByteArray := prog_13_method_91_code
def yX11_goBack : MethodName := ⟨RX11, "goBack", "(I)I"⟩
def RJ6 : String := "java/lang/Integer"
abbrev cJ6_bitCount_0f7a4 : ByteArray := prog_14_method_49_code
def yJ6_bitCount_0f7a4 : MethodName := ⟨RJ6, "bitCount", "(I)I"⟩
def RJ9 : String := "java/lang/Math"
abbrev cJ9_max_7cf53 : ByteArray := prog_15_method_65_code
def yJ9_max_7cf53 : MethodName := ⟨RJ9, "max", "(II)I"⟩
abbrev cJ9_min_7cf53 : ByteArray := prog_15_method_69_code
def yJ9_min_7cf53 : MethodName := ⟨RJ9, "min", "(II)I"⟩
def RL : String := "BellRopeLaw"
abbrev cL_law : ByteArray := code
def yL_law : MethodName := ⟨RL, "law", "([I)Z"⟩
end
section
/-! ONE MEMORY: object n, place k. Its cells at the addresses of g; what a method's row does to it. -/
abbrev bo_M : Type := Nat → Nat → Int32
def bo_up (σ : bo_M) (o k : Nat) (v : Int32) : bo_M := fun a => if a = o then upd (σ o) k v else σ a
abbrev bo_cl : List vw_C := [(RX0, TX0, 3), (RX1, TX1, 1), (RX2, TX2, 10), (RX3, TX3, 3), (RX4, TX4, 15), (RX5, TX5, 6), (RX6, TX6, 2), (RX7, TX7, 6), (RX9, TX9, 2), (RX10, TX10, 12), (RX11, TX11, 54)]
abbrev bo_G : Type := (Nat → ClassId) × va_G × (Nat → Nat)
abbrev bo_tys (c3 : Nat → ClassId) : List (ClassId × FieldType) := [(c3 0, .int), (c3 1, .boolean), (c3 2, .object "BellRope$Evening")]
abbrev bo_Lay : Type := (Nat × Nat) ⊕ (Nat × List (Nat × Nat))
abbrev bo_LEv : List (Nat × Nat) := [(2,1),(2,2),(2,3),(2,4),(0,0),(0,0),(0,0),(0,0),(0,0),(0,0)]
abbrev bo_LInn : List (Nat × Nat) := [(2,1),(2,2),(2,3),(2,4),(2,5),(2,6),(2,7),(1,0),(0,0),(0,0),(0,0),(0,0),(0,0),(0,0),(0,0)]
abbrev bo_LIm : List (Nat × Nat) := [(2,1),(0,0),(1,0)]
abbrev bo_LTop : List (Nat × Nat) := [(2,1),(2,50),(2,3),(2,5),(2,11),(2,17),(2,24),(2,29),(2,32),(3,0),(3,0),(0,0)]
abbrev bo_LRead : List (Nat × Nat) := [(2,1),(0,0),(0,0),(0,0),(0,0),(0,0)]
abbrev bo_LPast : List (Nat × Nat) := [(2,1),(0,0)]
abbrev bo_LTri : List (Nat × Nat) := [(2,1),(2,6)]
abbrev bo_LKno : List (Nat × Nat) := [(2,1),(2,2),(2,3),(2,4),(0,0),(0,0)]
abbrev bo_LBook : List (Nat × Nat) := [(2,1),(2,2),(0,0)]
abbrev bo_LCha : List (Nat × Nat) := [(2,1)]
abbrev bo_LMod : List (Nat × Nat) := [(1,0),(0,0),(0,0),(0,0),(0,0),(2,1),(2,2),(2,3),(0,0),(2,4),(2,5),(0,0),(2,6),(2,7),(0,0),(2,8),(2,9),(0,0),(2,10),(0,0),(0,0),(0,0),(0,0),(0,0),(1,0),(2,11),(0,0),(2,12),(2,13),(2,14),(0,0),(2,15),(2,16),(0,0),(2,17),(2,18),(0,0),(2,19),(0,0),(2,20),(2,21),(2,22),(2,23),(2,24),(0,0),(2,25),(2,26),(2,27),(2,28),(0,0),(2,29),(2,30),(2,31),(2,32)]
def bo_evL : List bo_Lay := [.inr (2, bo_LEv), .inl (0,7), .inl (0,7), .inl (0,40), .inl (0,40)]
def bo_innL : List bo_Lay := [.inr (4, bo_LInn), .inl (0,7), .inl (0,7), .inl (0,7), .inl (0,6), .inl (0,6), .inl (0,5), .inl (0,96)]
def bo_ev4 : List bo_Lay := bo_evL ++ (bo_evL ++ (bo_evL ++ bo_evL))
def bo_lays : List bo_Lay :=
  [.inr (9, bo_LTop), .inr (7, bo_LRead), .inl (0,240), .inr (6, bo_LPast), .inl (2,16), .inr (3, bo_LIm)] ++ (bo_evL ++ ([.inr (3, bo_LIm)] ++ (bo_evL ++ ([.inr (8, bo_LTri)] ++ (bo_evL ++
  ([.inl (0,192), .inr (5, bo_LKno), .inl (0,6), .inl (0,6), .inl (0,128), .inl (0,17), .inr (0, bo_LBook), .inl (0,15), .inl (0,15), .inr (1, bo_LCha), .inl (0,8)] ++ (bo_innL ++ (bo_innL ++ (bo_evL ++ (bo_ev4 ++ (bo_ev4 ++ (bo_ev4 ++ (bo_ev4 ++
  [.inr (10, bo_LMod), .inl (0,7), .inl (0,7), .inl (0,7), .inl (0,4), .inl (0,4), .inl (0,6), .inl (0,6), .inl (0,5), .inl (0,107), .inl (0,240), .inl (0,3), .inl (0,7), .inl (0,7), .inl (0,7), .inl (0,4), .inl (0,4), .inl (0,6), .inl (0,6), .inl (0,5), .inl (0,1712), .inl (0,107), .inl (0,192), .inl (0,192), .inl (0,8), .inl (0,6), .inl (0,6), .inl (1,128), .inl (0,20), .inl (0,15), .inl (0,15), .inl (0,216), .inl (1,2)])))))))))))))
def bo_lay (n : Nat) : bo_Lay := bo_lays.getD n (.inl (0,0))
theorem bo_lays_len : bo_lays.length = 168 := by decide +kernel
/-- the INN and the evening that a number in the memory names -/
def bo_inn (x : Int32) : Nat := if x = 0 then 34 else 42
def bo_ev (x : Int32) : Nat := 55 + 5 * (x.toNatClampNeg % 16)
def bo_isInn (i : Nat) : Prop := i = 34 ∨ i = 42
def bo_isEv (e : Nat) : Prop := e = 6 ∨ e = 12 ∨ e = 18 ∨ ∃ j, j < 17 ∧ e = 50 + 5 * j
def bo_isIm (i : Nat) : Prop := i = 5 ∨ i = 11
/-- an array of ints of that length -/
def bo_isA (o n : Nat) : Prop := o < 168 ∧ bo_lay o = .inl (0, n)
def bo_isO (o ci : Nat) (ts : List (Nat × Nat)) : Prop := o < 168 ∧ bo_lay o = .inr (ci, ts)
theorem bo_inn_ok (x : Int32) : bo_isInn (bo_inn x) := by unfold bo_inn bo_isInn; split <;> simp
theorem bo_ev_ok (x : Int32) : bo_isEv (bo_ev x) := Or.inr (Or.inr (Or.inr ⟨x.toNatClampNeg % 16 + 1, by omega, by unfold bo_ev; omega⟩))
theorem bo_isInn.o {i : Nat} (h : bo_isInn i) : bo_isO i 4 bo_LInn := by rcases h with rfl | rfl <;> exact ⟨by decide, by decide +kernel⟩
theorem bo_isInn.a1 {i : Nat} (h : bo_isInn i) : bo_isA (i + 1) 7 := by rcases h with rfl | rfl <;> exact ⟨by decide, by decide +kernel⟩
theorem bo_isInn.a2 {i : Nat} (h : bo_isInn i) : bo_isA (i + 2) 7 := by rcases h with rfl | rfl <;> exact ⟨by decide, by decide +kernel⟩
theorem bo_isInn.a3 {i : Nat} (h : bo_isInn i) : bo_isA (i + 3) 7 := by rcases h with rfl | rfl <;> exact ⟨by decide, by decide +kernel⟩
theorem bo_isInn.a4 {i : Nat} (h : bo_isInn i) : bo_isA (i + 4) 6 := by rcases h with rfl | rfl <;> exact ⟨by decide, by decide +kernel⟩
theorem bo_isInn.a5 {i : Nat} (h : bo_isInn i) : bo_isA (i + 5) 6 := by rcases h with rfl | rfl <;> exact ⟨by decide, by decide +kernel⟩
theorem bo_isInn.a6 {i : Nat} (h : bo_isInn i) : bo_isA (i + 6) 5 := by rcases h with rfl | rfl <;> exact ⟨by decide, by decide +kernel⟩
theorem bo_isInn.a7 {i : Nat} (h : bo_isInn i) : bo_isA (i + 7) 96 := by rcases h with rfl | rfl <;> exact ⟨by decide, by decide +kernel⟩
theorem bo_ev_all (j : Nat) (hj : j < 17) : bo_isO (50 + 5 * j) 2 bo_LEv ∧ bo_isA (50 + 5 * j + 1) 7 ∧ bo_isA (50 + 5 * j + 2) 7 ∧ bo_isA (50 + 5 * j + 3) 40 ∧ bo_isA (50 + 5 * j + 4) 40 := by
  have h : j = 0 ∨ j = 1 ∨ j = 2 ∨ j = 3 ∨ j = 4 ∨ j = 5 ∨ j = 6 ∨ j = 7 ∨ j = 8 ∨ j = 9 ∨ j = 10 ∨ j = 11 ∨ j = 12 ∨ j = 13 ∨ j = 14 ∨ j = 15 ∨ j = 16 := by omega
  rcases h with rfl | rfl | rfl | rfl | rfl | rfl | rfl | rfl | rfl | rfl | rfl | rfl | rfl | rfl | rfl | rfl | rfl <;> exact ⟨⟨by decide, by decide +kernel⟩, ⟨by decide, by decide +kernel⟩, ⟨by decide, by decide +kernel⟩, ⟨by decide, by decide +kernel⟩, ⟨by decide, by decide +kernel⟩⟩
theorem bo_isEv.all {e : Nat} (h : bo_isEv e) : bo_isO e 2 bo_LEv ∧ bo_isA (e + 1) 7 ∧ bo_isA (e + 2) 7 ∧ bo_isA (e + 3) 40 ∧ bo_isA (e + 4) 40 := by
  rcases h with rfl | rfl | rfl | ⟨j, hj, rfl⟩
  · exact ⟨⟨by decide, by decide +kernel⟩, ⟨by decide, by decide +kernel⟩, ⟨by decide, by decide +kernel⟩, ⟨by decide, by decide +kernel⟩, ⟨by decide, by decide +kernel⟩⟩
  · exact ⟨⟨by decide, by decide +kernel⟩, ⟨by decide, by decide +kernel⟩, ⟨by decide, by decide +kernel⟩, ⟨by decide, by decide +kernel⟩, ⟨by decide, by decide +kernel⟩⟩
  · exact ⟨⟨by decide, by decide +kernel⟩, ⟨by decide, by decide +kernel⟩, ⟨by decide, by decide +kernel⟩, ⟨by decide, by decide +kernel⟩, ⟨by decide, by decide +kernel⟩⟩
  · exact bo_ev_all j hj
theorem bo_isEv.o {e : Nat} (h : bo_isEv e) : bo_isO e 2 bo_LEv := h.all.1
theorem bo_isEv.a1 {e : Nat} (h : bo_isEv e) : bo_isA (e + 1) 7 := h.all.2.1
theorem bo_isEv.a2 {e : Nat} (h : bo_isEv e) : bo_isA (e + 2) 7 := h.all.2.2.1
theorem bo_isEv.a3 {e : Nat} (h : bo_isEv e) : bo_isA (e + 3) 40 := h.all.2.2.2.1
theorem bo_isEv.a4 {e : Nat} (h : bo_isEv e) : bo_isA (e + 4) 40 := h.all.2.2.2.2
theorem bo_isIm.o {i : Nat} (h : bo_isIm i) : bo_isO i 3 bo_LIm := by rcases h with rfl | rfl <;> exact ⟨by decide, by decide +kernel⟩
theorem bo_isIm.ev {i : Nat} (h : bo_isIm i) : bo_isEv (i + 1) := by rcases h with rfl | rfl; exact Or.inl rfl; exact Or.inr (Or.inl rfl)
def bo_im (c : Int32) : Nat := if c = 0 then 5 else 11
theorem bo_im_ok (c : Int32) : bo_isIm (bo_im c) := by unfold bo_im bo_isIm; split <;> simp
theorem bo_im5 : bo_isIm 5 := Or.inl rfl
theorem bo_im11 : bo_isIm 11 := Or.inr rfl
theorem bo_ev18 : bo_isEv 18 := Or.inr (Or.inr (Or.inl rfl))
theorem bo_ev50 : bo_isEv 50 := Or.inr (Or.inr (Or.inr ⟨0, by decide, rfl⟩))
/-! the world -/
def bo_fv (ad : Nat → Nat) (n : Nat) (f : Nat → Int32) (k : Nat) (t : Nat × Nat) : Value := match t.1 with
  | 0 => .int (f k)
  | 1 => .int (f k &&& 1)
  | 2 => .ref (ad (n + t.2))
  | _ => .ref (ad (bo_inn (f k)))
def bo_fvs (ad : Nat → Nat) (n : Nat) (f : Nat → Int32) : Nat → List (Nat × Nat) → List Value
  | _, [] => []
  | k, t :: ts => bo_fv ad n f k t :: bo_fvs ad n f (k + 1) ts
def bo_cell (g : bo_G) (n : Nat) (f : Nat → Int32) (L : bo_Lay) : va_E := match L with
  | .inl (0, len) => .inl (g.1 0, len, .inl f)
  | .inl (1, len) => .inl (g.1 1, len, .inl f)
  | .inl (_, len) => .inl (g.1 2, len, .inr (.inr (.inr (.inr (fun k => some (g.2.2 (bo_ev (f k))))))))
  | .inr (ci, ts) => .inr (ci, bo_fvs g.2.2 n f 0 ts)
def bo_ws (g : bo_G) (σ : bo_M) : va_W := (List.range 168).map fun n => (g.2.2 n, bo_cell g n (σ n) (bo_lay n))
def bo_inj (g : bo_G) : Prop := ∀ i j, i < 168 → j < 168 → g.2.2 i = g.2.2 j → i = j
theorem bo_ws_get {g : bo_G} {σ : bo_M} {n : Nat} (h : n < 168) : (bo_ws g σ)[n]? = some (g.2.2 n, bo_cell g n (σ n) (bo_lay n)) := by
  unfold bo_ws
  rw [List.getElem?_map, List.getElem?_range h]
  rfl
theorem bo_ws_len {g : bo_G} {σ : bo_M} : (bo_ws g σ).length = 168 := by unfold bo_ws; simp
theorem bo_ws_set {g : bo_G} {σ : bo_M} {n k : Nat} {v : Int32} {e : va_E} (h : n < 168) (he : bo_cell g n (upd (σ n) k v) (bo_lay n) = e) : (bo_ws g σ).set n (g.2.2 n, e) = bo_ws g (bo_up σ n k v) := by
  apply List.ext_getElem?
  intro j
  by_cases hj : j < 168
  · by_cases hn : j = n
    · subst hn
      rw [List.getElem?_set_self (by rw [bo_ws_len]; exact hj), bo_ws_get hj, ← he]
      simp [bo_up]
    · rw [List.getElem?_set_ne (Ne.symm hn), bo_ws_get hj, bo_ws_get hj]
      simp [bo_up, hn]
  · rw [List.getElem?_eq_none (by rw [List.length_set, bo_ws_len]; omega), List.getElem?_eq_none (by rw [bo_ws_len]; omega)]
def bo_A (g : bo_G) : Nat → Prop := fun q => ∃ n, n < 168 ∧ q = g.2.2 n
theorem bo_ws_D {g : bo_G} {σ : bo_M} {A : Nat → Prop} (hi : bo_inj g) (hA : ∀ n, n < 168 → A (g.2.2 n)) : va_D A (bo_ws g σ) := by
  have key : ∀ (k : Nat) (q : Nat × va_E), (bo_ws g σ)[k]? = some q → k < 168 ∧ q.1 = g.2.2 k := by
    intro k q hk
    have hl : k < 168 := by
      have := (List.getElem?_eq_some_iff.mp hk).1
      rwa [bo_ws_len] at this
    rw [bo_ws_get hl] at hk
    cases hk
    exact ⟨hl, rfl⟩
  refine ⟨fun i j p q h1 h2 h3 => ?_, fun k q h => ?_⟩
  · obtain ⟨a1, a2⟩ := key i p h1
    obtain ⟨b1, b2⟩ := key j q h2
    exact hi i j a1 b1 (by rw [← a2, ← b2]; exact h3)
  · obtain ⟨a1, a2⟩ := key k q h
    rw [a2]
    exact hA k a1
def bo_tb : List Cond := lw_tbl.filter goodWord
theorem bo_tb_in {w : Cond} (h : w ∈ bo_tb) : w ∈ lw_tbl := (List.mem_filter.mp h).1
theorem bo_mem {w : Cond} (i : Nat) (h : lw_tbl[i]? = some w) (hg : goodWord w = true) : w ∈ bo_tb := List.mem_filter.mpr ⟨List.mem_of_getElem? h, hg⟩
theorem bo_goodIn {ws : List Cond} (h : ∀ w ∈ ws, w ∈ bo_tb) : GoodIn bo_tb ws := fun w hw => ⟨h w hw, good_of_word (List.mem_filter.mp (h w hw)).2⟩
/-- links to private members of a nest mate: they ride in the world -/
def bo_nests : List (String × Nat × MethodName) := [(RX2, 68, yX10_bit), (RX10, 9, yX7_init), (RX10, 18, yX2_init), (RX6, 17, yX2_init), (RX10, 32, yX3_init), (RX3, 9, yX2_init), (RX10, 42, yX9_init), (RX9, 11, yX2_init), (RX10, 49, yX5_init), (RX10, 56, yX0_init), (RX10, 63, yX1_init), (RX10, 70, yX4_init)]
def bo_NW (U : State) : Prop := ∀ q ∈ bo_nests, va_Nw (.methodLinkNest q.1 q.2.1 q.2.2 "BellRope") U
theorem bo_NW.warm {s U : State} (hW : s.WarmedH U.vm) (h : bo_NW s) : bo_NW U := fun q hq => va_Nw.warmM hW (h q hq)
theorem bo_NW.same {u U : State} (e : u.vm = U.vm) (h : bo_NW u) : bo_NW U := fun q hq => va_Nw.same rfl e (h q hq)
/-- what a method of a finished world starts with and ends with -/
def bo_Pre (g : bo_G) (σ : bo_M) : State → Prop := fun U => va_P g.2.1 bo_cl (bo_ws g σ) U.heap ∧ va_K g.2.1 bo_cl (bo_tys g.1) U ∧ bo_NW U
/-! the walk -/
abbrev bo_X : Type := Program × Launch × Env × Room × State × MethodId × Array Value × List Frame × Method × Code × bo_G × (Nat → Prop) × Nat × Nat × (State → Prop)
def bo_l (x : bo_X) : Launch := x.2.1
def bo_g (x : bo_X) : bo_G := x.2.2.2.2.2.2.2.2.2.2.1
abbrev bo_a (x : bo_X) (n : Nat) : Nat := (bo_g x).2.2 n
def bo_N (x : bo_X) (pc : Nat) (L : List (Nat × Value)) (S : List Value) (σ : bo_M) : Prop := match x with
  | (p, l, e, R, s, m, args, below, meth, c, g, A, cells, slots, Q) => ∀ (H : Heap) (locs : List Loc) (ls : Array Slot), va_P g.2.1 bo_cl (bo_ws g σ) H → va_S A s.heap H locs → lv_has ls c.maxLocals L → W p l e R s m args below meth c H locs cells slots Q (F0 m pc ls S)
def bo_OK (x : bo_X) (cc : ByteArray) (own : String) (nL fr lo : Nat) : Prop := match x with
  | (p, l, e, R, s, m, args, below, meth, c, g, A, cells, slots, Q) => p.tables.exec = Jvm.exec ∧ c.code = cc ∧ c.maxLocals = nL ∧ s.vm.findClass own = some m.cls ∧ (∀ w ∈ bo_tb, w.before args s = true) ∧ va_K g.2.1 bo_cl (bo_tys g.1) s ∧ bo_NW s ∧ bo_inj g ∧ (∀ n, n < 168 → A (g.2.2 n)) ∧ fr ≤ R.frames ∧ lo ≤ R.locals ∧ cells ≤ R.cells ∧ slots ≤ R.slots
/-- if the function M answers a, and from what k says of a it goes on, then it goes on from here -/
def bo_D {α : Type} (x : bo_X) (pc : Nat) (L : List (Nat × Value)) (S : List Value) (σ : bo_M) (M : Option α) (k : α → Prop) : Prop := ∀ a, M = some a → k a → bo_N x pc L S σ
def bo_B (v : Int32) : Prop := v = 0 ∨ v = 1
theorem bo_b1 (v : Int32) : bo_B (v &&& 1) := by
  unfold bo_B
  have h : (v &&& 1).toBitVec = 0#32 ∨ (v &&& 1).toBitVec = 1#32 := by
    rw [Int32.toBitVec_and]
    have : (1 : Int32).toBitVec = 1#32 := by decide
    rw [this]
    rcases Nat.mod_two_eq_zero_or_one v.toBitVec.toNat with h | h
    · left
      apply BitVec.eq_of_toNat_eq
      rw [BitVec.toNat_and]
      show v.toBitVec.toNat &&& 1 = 0
      rw [Nat.and_one_is_mod, h]
    · right
      apply BitVec.eq_of_toNat_eq
      rw [BitVec.toNat_and]
      show v.toBitVec.toNat &&& 1 = 1
      rw [Nat.and_one_is_mod, h]
  rcases h with h | h
  · left; exact Int32.toBitVec_inj.mp (by rw [h]; decide)
  · right; exact Int32.toBitVec_inj.mp (by rw [h]; decide)
theorem bo_B.and {v : Int32} (h : bo_B v) : v &&& 1 = v := by rcases h with rfl | rfl <;> decide
theorem bo_B.fit {v : Int32} (h : bo_B v) : fits .boolean (.int v) = true := by rcases h with rfl | rfl <;> decide
theorem bo_b_0 : bo_B 0 := Or.inl rfl
theorem bo_b_1 : bo_B 1 := Or.inr rfl
theorem bo_bind {α β : Type} {M : Option α} {K : α → Option β} {b : β} (h : M.bind K = some b) : ∃ a, M = some a ∧ K a = some b := by
  cases M with
  | none => cases h
  | some a => exact ⟨a, rfl, h⟩
end
section
/-! the rows of the machine over the one memory -/
section BO
variable {x : bo_X} {cc : ByteArray} {own : String} {nL fr lo : Nat} {pc : Nat} {L : List (Nat × Value)} {S : List Value} {σ : bo_M} {α β : Type} {M M1 M2 : Option α} {k : α → Prop}
theorem bo_iadd (hx : bo_OK x cc own nL fr lo) {a b : Int32} (hd : decode cc pc = .ok (.iadd, 1)) (kk : bo_D x (pc + 1) L (.int (a + b) :: S) σ M k) : bo_D x pc L (.int b :: .int a :: S) σ M k := by
  obtain ⟨p, l, e, R, s, m, args, below, meth, c, g, A, cells, slots, Q⟩ := x
  obtain ⟨hex, hb, hml, hown, hts, hK, hNW, hi, hA, hfr, hlo, hce, hsl⟩ := hx
  intro r h1 h2 H locs ls hP hS hl
  exact lv_iadd hex hb hd (kk r h1 h2 H locs ls hP hS hl)
theorem bo_isub (hx : bo_OK x cc own nL fr lo) {a b : Int32} (hd : decode cc pc = .ok (.isub, 1)) (kk : bo_D x (pc + 1) L (.int (a - b) :: S) σ M k) : bo_D x pc L (.int b :: .int a :: S) σ M k := by
  obtain ⟨p, l, e, R, s, m, args, below, meth, c, g, A, cells, slots, Q⟩ := x
  obtain ⟨hex, hb, hml, hown, hts, hK, hNW, hi, hA, hfr, hlo, hce, hsl⟩ := hx
  intro r h1 h2 H locs ls hP hS hl
  exact lv_isub hex hb hd (kk r h1 h2 H locs ls hP hS hl)
theorem bo_imul (hx : bo_OK x cc own nL fr lo) {a b : Int32} (hd : decode cc pc = .ok (.imul, 1)) (kk : bo_D x (pc + 1) L (.int (a * b) :: S) σ M k) : bo_D x pc L (.int b :: .int a :: S) σ M k := by
  obtain ⟨p, l, e, R, s, m, args, below, meth, c, g, A, cells, slots, Q⟩ := x
  obtain ⟨hex, hb, hml, hown, hts, hK, hNW, hi, hA, hfr, hlo, hce, hsl⟩ := hx
  intro r h1 h2 H locs ls hP hS hl
  exact lv_imul hex hb hd (kk r h1 h2 H locs ls hP hS hl)
theorem bo_iand (hx : bo_OK x cc own nL fr lo) {a b : Int32} (hd : decode cc pc = .ok (.iand, 1)) (kk : bo_D x (pc + 1) L (.int (a &&& b) :: S) σ M k) : bo_D x pc L (.int b :: .int a :: S) σ M k := by
  obtain ⟨p, l, e, R, s, m, args, below, meth, c, g, A, cells, slots, Q⟩ := x
  obtain ⟨hex, hb, hml, hown, hts, hK, hNW, hi, hA, hfr, hlo, hce, hsl⟩ := hx
  intro r h1 h2 H locs ls hP hS hl
  exact lv_iand hex hb hd (kk r h1 h2 H locs ls hP hS hl)
theorem bo_ior (hx : bo_OK x cc own nL fr lo) {a b : Int32} (hd : decode cc pc = .ok (.ior, 1)) (kk : bo_D x (pc + 1) L (.int (a ||| b) :: S) σ M k) : bo_D x pc L (.int b :: .int a :: S) σ M k := by
  obtain ⟨p, l, e, R, s, m, args, below, meth, c, g, A, cells, slots, Q⟩ := x
  obtain ⟨hex, hb, hml, hown, hts, hK, hNW, hi, hA, hfr, hlo, hce, hsl⟩ := hx
  intro r h1 h2 H locs ls hP hS hl
  exact lv_ior hex hb hd (kk r h1 h2 H locs ls hP hS hl)
theorem bo_ixor (hx : bo_OK x cc own nL fr lo) {a b : Int32} (hd : decode cc pc = .ok (.ixor, 1)) (kk : bo_D x (pc + 1) L (.int (a ^^^ b) :: S) σ M k) : bo_D x pc L (.int b :: .int a :: S) σ M k := by
  obtain ⟨p, l, e, R, s, m, args, below, meth, c, g, A, cells, slots, Q⟩ := x
  obtain ⟨hex, hb, hml, hown, hts, hK, hNW, hi, hA, hfr, hlo, hce, hsl⟩ := hx
  intro r h1 h2 H locs ls hP hS hl
  exact lv_ixor hex hb hd (kk r h1 h2 H locs ls hP hS hl)
theorem bo_ishl (hx : bo_OK x cc own nL fr lo) {a b : Int32} (hd : decode cc pc = .ok (.ishl, 1)) (kk : bo_D x (pc + 1) L (.int (a <<< (b &&& 31)) :: S) σ M k) : bo_D x pc L (.int b :: .int a :: S) σ M k := by
  obtain ⟨p, l, e, R, s, m, args, below, meth, c, g, A, cells, slots, Q⟩ := x
  obtain ⟨hex, hb, hml, hown, hts, hK, hNW, hi, hA, hfr, hlo, hce, hsl⟩ := hx
  intro r h1 h2 H locs ls hP hS hl
  exact lv_ishl hex hb hd (kk r h1 h2 H locs ls hP hS hl)
theorem bo_ishr (hx : bo_OK x cc own nL fr lo) {a b : Int32} (hd : decode cc pc = .ok (.ishr, 1)) (kk : bo_D x (pc + 1) L (.int (a >>> (b &&& 31)) :: S) σ M k) : bo_D x pc L (.int b :: .int a :: S) σ M k := by
  obtain ⟨p, l, e, R, s, m, args, below, meth, c, g, A, cells, slots, Q⟩ := x
  obtain ⟨hex, hb, hml, hown, hts, hK, hNW, hi, hA, hfr, hlo, hce, hsl⟩ := hx
  intro r h1 h2 H locs ls hP hS hl
  exact lv_ishr hex hb hd (kk r h1 h2 H locs ls hP hS hl)
theorem bo_iushr (hx : bo_OK x cc own nL fr lo) {a b : Int32} (hd : decode cc pc = .ok (.iushr, 1)) (kk : bo_D x (pc + 1) L (.int ((a.toUInt32 >>> (b.toUInt32 &&& Int32.toUInt32 31)).toInt32) :: S) σ M k) : bo_D x pc L (.int b :: .int a :: S) σ M k := by
  obtain ⟨p, l, e, R, s, m, args, below, meth, c, g, A, cells, slots, Q⟩ := x
  obtain ⟨hex, hb, hml, hown, hts, hK, hNW, hi, hA, hfr, hlo, hce, hsl⟩ := hx
  intro r h1 h2 H locs ls hP hS hl
  exact t_iushr hex hb hd rfl (kk r h1 h2 H locs ls hP hS hl)
theorem bo_ladd (hx : bo_OK x cc own nL fr lo) {a b : Int64} (hd : decode cc pc = .ok (.ladd, 1)) (kk : bo_D x (pc + 1) L (.long (a + b) :: S) σ M k) : bo_D x pc L (.long b :: .long a :: S) σ M k := by
  obtain ⟨p, l, e, R, s, m, args, below, meth, c, g, A, cells, slots, Q⟩ := x
  obtain ⟨hex, hb, hml, hown, hts, hK, hNW, hi, hA, hfr, hlo, hce, hsl⟩ := hx
  intro r h1 h2 H locs ls hP hS hl
  exact lv_ladd hex hb hd (kk r h1 h2 H locs ls hP hS hl)
theorem bo_lmul (hx : bo_OK x cc own nL fr lo) {a b : Int64} (hd : decode cc pc = .ok (.lmul, 1)) (kk : bo_D x (pc + 1) L (.long (a * b) :: S) σ M k) : bo_D x pc L (.long b :: .long a :: S) σ M k := by
  obtain ⟨p, l, e, R, s, m, args, below, meth, c, g, A, cells, slots, Q⟩ := x
  obtain ⟨hex, hb, hml, hown, hts, hK, hNW, hi, hA, hfr, hlo, hce, hsl⟩ := hx
  intro r h1 h2 H locs ls hP hS hl
  exact lv_lmul hex hb hd (kk r h1 h2 H locs ls hP hS hl)
theorem bo_i2l (hx : bo_OK x cc own nL fr lo) {a : Int32} (hd : decode cc pc = .ok (.i2l, 1)) (kk : bo_D x (pc + 1) L (.long a.toInt64 :: S) σ M k) : bo_D x pc L (.int a :: S) σ M k := by
  obtain ⟨p, l, e, R, s, m, args, below, meth, c, g, A, cells, slots, Q⟩ := x
  obtain ⟨hex, hb, hml, hown, hts, hK, hNW, hi, hA, hfr, hlo, hce, hsl⟩ := hx
  intro r h1 h2 H locs ls hP hS hl
  exact lv_i2l hex hb hd rfl (kk r h1 h2 H locs ls hP hS hl)
theorem bo_l2i (hx : bo_OK x cc own nL fr lo) {a : Int64} (hd : decode cc pc = .ok (.l2i, 1)) (kk : bo_D x (pc + 1) L (.int a.toInt32 :: S) σ M k) : bo_D x pc L (.long a :: S) σ M k := by
  obtain ⟨p, l, e, R, s, m, args, below, meth, c, g, A, cells, slots, Q⟩ := x
  obtain ⟨hex, hb, hml, hown, hts, hK, hNW, hi, hA, hfr, hlo, hce, hsl⟩ := hx
  intro r h1 h2 H locs ls hP hS hl
  exact lv_l2i hex hb hd rfl (kk r h1 h2 H locs ls hP hS hl)
theorem bo_lcmp (hx : bo_OK x cc own nL fr lo) {a b : Int64} (hd : decode cc pc = .ok (.lcmp, 1)) (kk : bo_D x (pc + 1) L (.int (lg_cmp a b) :: S) σ M k) : bo_D x pc L (.long b :: .long a :: S) σ M k := by
  obtain ⟨p, l, e, R, s, m, args, below, meth, c, g, A, cells, slots, Q⟩ := x
  obtain ⟨hex, hb, hml, hown, hts, hK, hNW, hi, hA, hfr, hlo, hce, hsl⟩ := hx
  intro r h1 h2 H locs ls hP hS hl
  exact W.lcmp hex hb hd (kk r h1 h2 H locs ls hP hS hl)
theorem bo_iconst (hx : bo_OK x cc own nL fr lo) {n : Int} {v : Int32} (hd : decode cc pc = .ok (.iconst n, 1)) (hv : Int32.ofInt n = v) (kk : bo_D x (pc + 1) L (.int v :: S) σ M k) : bo_D x pc L (S) σ M k := by
  obtain ⟨p, l, e, R, s, m, args, below, meth, c, g, A, cells, slots, Q⟩ := x
  obtain ⟨hex, hb, hml, hown, hts, hK, hNW, hi, hA, hfr, hlo, hce, hsl⟩ := hx
  intro r h1 h2 H locs ls hP hS hl
  exact lv_iconst hex hb hd hv (kk r h1 h2 H locs ls hP hS hl)
theorem bo_bipush (hx : bo_OK x cc own nL fr lo) {n : Int} {v : Int32} (hd : decode cc pc = .ok (.bipush n, 2)) (hv : (Int8.ofInt n).toInt32 = v) (kk : bo_D x (pc + 2) L (.int v :: S) σ M k) : bo_D x pc L (S) σ M k := by
  obtain ⟨p, l, e, R, s, m, args, below, meth, c, g, A, cells, slots, Q⟩ := x
  obtain ⟨hex, hb, hml, hown, hts, hK, hNW, hi, hA, hfr, hlo, hce, hsl⟩ := hx
  intro r h1 h2 H locs ls hP hS hl
  exact lv_bipush hex hb hd hv (kk r h1 h2 H locs ls hP hS hl)
theorem bo_sipush (hx : bo_OK x cc own nL fr lo) {n : Int} {v : Int32} (hd : decode cc pc = .ok (.sipush n, 3)) (hv : (Int16.ofInt n).toInt32 = v) (kk : bo_D x (pc + 3) L (.int v :: S) σ M k) : bo_D x pc L (S) σ M k := by
  obtain ⟨p, l, e, R, s, m, args, below, meth, c, g, A, cells, slots, Q⟩ := x
  obtain ⟨hex, hb, hml, hown, hts, hK, hNW, hi, hA, hfr, hlo, hce, hsl⟩ := hx
  intro r h1 h2 H locs ls hP hS hl
  exact lv_sipush hex hb hd hv (kk r h1 h2 H locs ls hP hS hl)
theorem bo_lconst (hx : bo_OK x cc own nL fr lo) {n : Fin 2} {v : Int64} (hd : decode cc pc = .ok (.lconst n, 1)) (hv : Int64.ofNat (n : Nat) = v) (kk : bo_D x (pc + 1) L (.long v :: S) σ M k) : bo_D x pc L (S) σ M k := by
  obtain ⟨p, l, e, R, s, m, args, below, meth, c, g, A, cells, slots, Q⟩ := x
  obtain ⟨hex, hb, hml, hown, hts, hK, hNW, hi, hA, hfr, hlo, hce, hsl⟩ := hx
  intro r h1 h2 H locs ls hP hS hl
  exact lv_lconst hex hb hd hv (kk r h1 h2 H locs ls hP hS hl)
theorem bo_ldc (hx : bo_OK x cc own nL fr lo) {i : Nat} {v : Int32} (hd : decode cc pc = .ok (.ldc i, 2)) (hc : Cond.constant own i v ∈ bo_tb) (kk : bo_D x (pc + 2) L (.int v :: S) σ M k) : bo_D x pc L (S) σ M k := by
  obtain ⟨p, l, e, R, s, m, args, below, meth, c, g, A, cells, slots, Q⟩ := x
  obtain ⟨hex, hb, hml, hown, hts, hK, hNW, hi, hA, hfr, hlo, hce, hsl⟩ := hx
  intro r h1 h2 H locs ls hP hS hl
  exact lv_ldc hex hb hown (hts _ hc) hd (kk r h1 h2 H locs ls hP hS hl)
theorem bo_ldcw (hx : bo_OK x cc own nL fr lo) {i : Nat} {v : Int32} (hd : decode cc pc = .ok (.ldc_w i, 3)) (hc : Cond.constant own i v ∈ bo_tb) (kk : bo_D x (pc + 3) L (.int v :: S) σ M k) : bo_D x pc L (S) σ M k := by
  obtain ⟨p, l, e, R, s, m, args, below, meth, c, g, A, cells, slots, Q⟩ := x
  obtain ⟨hex, hb, hml, hown, hts, hK, hNW, hi, hA, hfr, hlo, hce, hsl⟩ := hx
  intro r h1 h2 H locs ls hP hS hl
  exact lv_ldcw hex hb hown (hts _ hc) hd (kk r h1 h2 H locs ls hP hS hl)
theorem bo_ldc2 (hx : bo_OK x cc own nL fr lo) {i : Nat} {v : Int64} (hd : decode cc pc = .ok (.ldc2_w i, 3)) (hc : Cond.constantLong own i v ∈ bo_tb) (kk : bo_D x (pc + 3) L (.long v :: S) σ M k) : bo_D x pc L (S) σ M k := by
  obtain ⟨p, l, e, R, s, m, args, below, meth, c, g, A, cells, slots, Q⟩ := x
  obtain ⟨hex, hb, hml, hown, hts, hK, hNW, hi, hA, hfr, hlo, hce, hsl⟩ := hx
  intro r h1 h2 H locs ls hP hS hl
  exact lv_ldc2 hex hb hown (hts _ hc) hd (kk r h1 h2 H locs ls hP hS hl)
theorem bo_null (hx : bo_OK x cc own nL fr lo) (hd : decode cc pc = .ok (.aconst_null, 1)) (kk : bo_D x (pc + 1) L (.null :: S) σ M k) : bo_D x pc L (S) σ M k := by
  obtain ⟨p, l, e, R, s, m, args, below, meth, c, g, A, cells, slots, Q⟩ := x
  obtain ⟨hex, hb, hml, hown, hts, hK, hNW, hi, hA, hfr, hlo, hce, hsl⟩ := hx
  intro r h1 h2 H locs ls hP hS hl
  exact lv_null hex hb hd (kk r h1 h2 H locs ls hP hS hl)
theorem bo_dup (hx : bo_OK x cc own nL fr lo) {v : Value} (hd : decode cc pc = .ok (.dup, 1)) (hv : v.category = 1) (kk : bo_D x (pc + 1) L (v :: v :: S) σ M k) : bo_D x pc L (v :: S) σ M k := by
  obtain ⟨p, l, e, R, s, m, args, below, meth, c, g, A, cells, slots, Q⟩ := x
  obtain ⟨hex, hb, hml, hown, hts, hK, hNW, hi, hA, hfr, hlo, hce, hsl⟩ := hx
  intro r h1 h2 H locs ls hP hS hl
  exact lv_dup hex hb hd hv (kk r h1 h2 H locs ls hP hS hl)
theorem bo_pop (hx : bo_OK x cc own nL fr lo) {v : Value} (hd : decode cc pc = .ok (.pop, 1)) (hv : v.category = 1) (kk : bo_D x (pc + 1) L (S) σ M k) : bo_D x pc L (v :: S) σ M k := by
  obtain ⟨p, l, e, R, s, m, args, below, meth, c, g, A, cells, slots, Q⟩ := x
  obtain ⟨hex, hb, hml, hown, hts, hK, hNW, hi, hA, hfr, hlo, hce, hsl⟩ := hx
  intro r h1 h2 H locs ls hP hS hl
  exact lv_pop hex hb hd hv (kk r h1 h2 H locs ls hP hS hl)
theorem bo_dup2 (hx : bo_OK x cc own nL fr lo) {v w : Value} (hd : decode cc pc = .ok (.dup2, 1)) (hv : v.category = 1) (hw : w.category = 1) (kk : bo_D x (pc + 1) L (v :: w :: v :: w :: S) σ M k) : bo_D x pc L (v :: w :: S) σ M k := by
  obtain ⟨p, l, e, R, s, m, args, below, meth, c, g, A, cells, slots, Q⟩ := x
  obtain ⟨hex, hb, hml, hown, hts, hK, hNW, hi, hA, hfr, hlo, hce, hsl⟩ := hx
  intro r h1 h2 H locs ls hP hS hl
  exact lv_dup2_11 hex hb hd hv hw (kk r h1 h2 H locs ls hP hS hl)
theorem bo_iload_n (hx : bo_OK x cc own nL fr lo) {n : Fin 4} {i : Nat} {v : Int32} (hd : decode cc pc = .ok (.iload_n n, 1)) (hi0 : (n : Nat) = i) (j : Nat) (hj : L[j]? = some (i, .int v)) (kk : bo_D x (pc + 1) L (.int v :: S) σ M k) : bo_D x pc L (S) σ M k := by
  obtain ⟨p, l, e, R, s, m, args, below, meth, c, g, A, cells, slots, Q⟩ := x
  obtain ⟨hex, hb, hml, hown, hts, hK, hNW, hi, hA, hfr, hlo, hce, hsl⟩ := hx
  intro r h1 h2 H locs ls hP hS hl
  exact lv_iload_n hex hb hd hi0 (lv_at hl j hj) (kk r h1 h2 H locs ls hP hS hl)
theorem bo_iload (hx : bo_OK x cc own nL fr lo) {i : Nat} {v : Int32} (hd : decode cc pc = .ok (.iload i, 2)) (j : Nat) (hj : L[j]? = some (i, .int v)) (kk : bo_D x (pc + 2) L (.int v :: S) σ M k) : bo_D x pc L (S) σ M k := by
  obtain ⟨p, l, e, R, s, m, args, below, meth, c, g, A, cells, slots, Q⟩ := x
  obtain ⟨hex, hb, hml, hown, hts, hK, hNW, hi, hA, hfr, hlo, hce, hsl⟩ := hx
  intro r h1 h2 H locs ls hP hS hl
  exact lv_iload hex hb hd (lv_at hl j hj) (kk r h1 h2 H locs ls hP hS hl)
theorem bo_lload_n (hx : bo_OK x cc own nL fr lo) {n : Fin 4} {i : Nat} {v : Int64} (hd : decode cc pc = .ok (.lload_n n, 1)) (hi0 : (n : Nat) = i) (j : Nat) (hj : L[j]? = some (i, .long v)) (kk : bo_D x (pc + 1) L (.long v :: S) σ M k) : bo_D x pc L (S) σ M k := by
  obtain ⟨p, l, e, R, s, m, args, below, meth, c, g, A, cells, slots, Q⟩ := x
  obtain ⟨hex, hb, hml, hown, hts, hK, hNW, hi, hA, hfr, hlo, hce, hsl⟩ := hx
  intro r h1 h2 H locs ls hP hS hl
  exact lv_lload_n hex hb hd hi0 (lv_at hl j hj) (kk r h1 h2 H locs ls hP hS hl)
theorem bo_lload (hx : bo_OK x cc own nL fr lo) {i : Nat} {v : Int64} (hd : decode cc pc = .ok (.lload i, 2)) (j : Nat) (hj : L[j]? = some (i, .long v)) (kk : bo_D x (pc + 2) L (.long v :: S) σ M k) : bo_D x pc L (S) σ M k := by
  obtain ⟨p, l, e, R, s, m, args, below, meth, c, g, A, cells, slots, Q⟩ := x
  obtain ⟨hex, hb, hml, hown, hts, hK, hNW, hi, hA, hfr, hlo, hce, hsl⟩ := hx
  intro r h1 h2 H locs ls hP hS hl
  exact lv_lload hex hb hd (lv_at hl j hj) (kk r h1 h2 H locs ls hP hS hl)
theorem bo_aload_n (hx : bo_OK x cc own nL fr lo) {n : Fin 4} {i : Nat} {v : Nat} (hd : decode cc pc = .ok (.aload_n n, 1)) (hi0 : (n : Nat) = i) (j : Nat) (hj : L[j]? = some (i, .ref v)) (kk : bo_D x (pc + 1) L (.ref v :: S) σ M k) : bo_D x pc L (S) σ M k := by
  obtain ⟨p, l, e, R, s, m, args, below, meth, c, g, A, cells, slots, Q⟩ := x
  obtain ⟨hex, hb, hml, hown, hts, hK, hNW, hi, hA, hfr, hlo, hce, hsl⟩ := hx
  intro r h1 h2 H locs ls hP hS hl
  exact lv_aload_n hex hb hd hi0 (lv_at hl j hj) (kk r h1 h2 H locs ls hP hS hl)
theorem bo_aload (hx : bo_OK x cc own nL fr lo) {i : Nat} {v : Nat} (hd : decode cc pc = .ok (.aload i, 2)) (j : Nat) (hj : L[j]? = some (i, .ref v)) (kk : bo_D x (pc + 2) L (.ref v :: S) σ M k) : bo_D x pc L (S) σ M k := by
  obtain ⟨p, l, e, R, s, m, args, below, meth, c, g, A, cells, slots, Q⟩ := x
  obtain ⟨hex, hb, hml, hown, hts, hK, hNW, hi, hA, hfr, hlo, hce, hsl⟩ := hx
  intro r h1 h2 H locs ls hP hS hl
  exact lv_aload hex hb hd (lv_at hl j hj) (kk r h1 h2 H locs ls hP hS hl)
theorem bo_aload_nN (hx : bo_OK x cc own nL fr lo) {n : Fin 4} {i : Nat} (hd : decode cc pc = .ok (.aload_n n, 1)) (hi0 : (n : Nat) = i) (j : Nat) (hj : L[j]? = some (i, .null)) (kk : bo_D x (pc + 1) L (.null :: S) σ M k) : bo_D x pc L (S) σ M k := by
  obtain ⟨p, l, e, R, s, m, args, below, meth, c, g, A, cells, slots, Q⟩ := x
  obtain ⟨hex, hb, hml, hown, hts, hK, hNW, hi, hA, hfr, hlo, hce, hsl⟩ := hx
  intro r h1 h2 H locs ls hP hS hl
  exact lv_aload_nN hex hb hd hi0 (lv_at hl j hj) (kk r h1 h2 H locs ls hP hS hl)
theorem bo_istore_n (hx : bo_OK x cc own nL fr lo) {n : Fin 4} {i : Nat} {v : Int32} (hd : decode cc pc = .ok (.istore_n n, 1)) (hi0 : (n : Nat) = i) {L' : List (Nat × Value)} (hn : i < nL) (hL : (i, Value.int v) :: L.filter (fun q => !(q.1 == i) && !(q.1 + 1 == i && q.2.category == 2)) = L') (kk : bo_D x (pc + 1) L' S σ M k) : bo_D x pc L (Value.int v :: S) σ M k := by
  obtain ⟨p, l, e, R, s, m, args, below, meth, c, g, A, cells, slots, Q⟩ := x
  obtain ⟨hex, hb, hml, hown, hts, hK, hNW, hi, hA, hfr, hlo, hce, hsl⟩ := hx
  intro r h1 h2 H locs ls hP hS hl
  exact lv_istore_n hex hb hd hi0 hl (by rw [hml]; exact hn) hL (fun ls' hl' => kk r h1 h2 H locs ls' hP hS hl')
theorem bo_istore (hx : bo_OK x cc own nL fr lo) {i : Nat} {v : Int32} (hd : decode cc pc = .ok (.istore i, 2)) {L' : List (Nat × Value)} (hn : i < nL) (hL : (i, Value.int v) :: L.filter (fun q => !(q.1 == i) && !(q.1 + 1 == i && q.2.category == 2)) = L') (kk : bo_D x (pc + 2) L' S σ M k) : bo_D x pc L (Value.int v :: S) σ M k := by
  obtain ⟨p, l, e, R, s, m, args, below, meth, c, g, A, cells, slots, Q⟩ := x
  obtain ⟨hex, hb, hml, hown, hts, hK, hNW, hi, hA, hfr, hlo, hce, hsl⟩ := hx
  intro r h1 h2 H locs ls hP hS hl
  exact lv_istore hex hb hd hl (by rw [hml]; exact hn) hL (fun ls' hl' => kk r h1 h2 H locs ls' hP hS hl')
theorem bo_astore_n (hx : bo_OK x cc own nL fr lo) {n : Fin 4} {i : Nat} {v : Nat} (hd : decode cc pc = .ok (.astore_n n, 1)) (hi0 : (n : Nat) = i) {L' : List (Nat × Value)} (hn : i < nL) (hL : (i, Value.ref v) :: L.filter (fun q => !(q.1 == i) && !(q.1 + 1 == i && q.2.category == 2)) = L') (kk : bo_D x (pc + 1) L' S σ M k) : bo_D x pc L (Value.ref v :: S) σ M k := by
  obtain ⟨p, l, e, R, s, m, args, below, meth, c, g, A, cells, slots, Q⟩ := x
  obtain ⟨hex, hb, hml, hown, hts, hK, hNW, hi, hA, hfr, hlo, hce, hsl⟩ := hx
  intro r h1 h2 H locs ls hP hS hl
  exact lv_astore_n hex hb hd hi0 hl (by rw [hml]; exact hn) hL (fun ls' hl' => kk r h1 h2 H locs ls' hP hS hl')
theorem bo_astore (hx : bo_OK x cc own nL fr lo) {i : Nat} {v : Nat} (hd : decode cc pc = .ok (.astore i, 2)) {L' : List (Nat × Value)} (hn : i < nL) (hL : (i, Value.ref v) :: L.filter (fun q => !(q.1 == i) && !(q.1 + 1 == i && q.2.category == 2)) = L') (kk : bo_D x (pc + 2) L' S σ M k) : bo_D x pc L (Value.ref v :: S) σ M k := by
  obtain ⟨p, l, e, R, s, m, args, below, meth, c, g, A, cells, slots, Q⟩ := x
  obtain ⟨hex, hb, hml, hown, hts, hK, hNW, hi, hA, hfr, hlo, hce, hsl⟩ := hx
  intro r h1 h2 H locs ls hP hS hl
  exact lv_astore hex hb hd hl (by rw [hml]; exact hn) hL (fun ls' hl' => kk r h1 h2 H locs ls' hP hS hl')
theorem bo_astore_nN (hx : bo_OK x cc own nL fr lo) {n : Fin 4} {i : Nat} (hd : decode cc pc = .ok (.astore_n n, 1)) (hi0 : (n : Nat) = i) {L' : List (Nat × Value)} (hn : i < nL) (hL : (i, Value.null) :: L.filter (fun q => !(q.1 == i) && !(q.1 + 1 == i && q.2.category == 2)) = L') (kk : bo_D x (pc + 1) L' S σ M k) : bo_D x pc L (Value.null :: S) σ M k := by
  obtain ⟨p, l, e, R, s, m, args, below, meth, c, g, A, cells, slots, Q⟩ := x
  obtain ⟨hex, hb, hml, hown, hts, hK, hNW, hi, hA, hfr, hlo, hce, hsl⟩ := hx
  intro r h1 h2 H locs ls hP hS hl
  exact lv_astore_nN hex hb hd hi0 hl (by rw [hml]; exact hn) hL (fun ls' hl' => kk r h1 h2 H locs ls' hP hS hl')
theorem bo_lstore_n (hx : bo_OK x cc own nL fr lo) {n : Fin 4} {i : Nat} {v : Int64} (hd : decode cc pc = .ok (.lstore_n n, 1)) (hi0 : (n : Nat) = i) {L' : List (Nat × Value)} (hn : i + 1 < nL) (hL : (i, Value.long v) :: L.filter (fun q => !(q.1 == i) && (!(q.1 == i + 1) && !(q.1 + 1 == i && q.2.category == 2))) = L') (kk : bo_D x (pc + 1) L' S σ M k) : bo_D x pc L (Value.long v :: S) σ M k := by
  obtain ⟨p, l, e, R, s, m, args, below, meth, c, g, A, cells, slots, Q⟩ := x
  obtain ⟨hex, hb, hml, hown, hts, hK, hNW, hi, hA, hfr, hlo, hce, hsl⟩ := hx
  intro r h1 h2 H locs ls hP hS hl
  exact lv_lstore_n hex hb hd hi0 hl (by rw [hml]; exact hn) hL (fun ls' hl' => kk r h1 h2 H locs ls' hP hS hl')
theorem bo_iinc (hx : bo_OK x cc own nL fr lo) {i : Nat} {n : Int} {v w : Int32} {L' : List (Nat × Value)} (hd : decode cc pc = .ok (.iinc i n, 3)) (j : Nat) (hj : L[j]? = some (i, .int v)) (hv : v + Int32.ofInt n = w) (hn : i < nL) (hL : (i, Value.int w) :: L.filter (fun q => !(q.1 == i) && !(q.1 + 1 == i && q.2.category == 2)) = L') (kk : bo_D x (pc + 3) L' S σ M k) : bo_D x pc L S σ M k := by
  obtain ⟨p, l, e, R, s, m, args, below, meth, c, g, A, cells, slots, Q⟩ := x
  obtain ⟨hex, hb, hml, hown, hts, hK, hNW, hi, hA, hfr, hlo, hce, hsl⟩ := hx
  intro r h1 h2 H locs ls hP hS hl
  exact lv_iinc hex hb hd hl hj hv (by rw [hml]; exact hn) hL (fun ls' hl' => kk r h1 h2 H locs ls' hP hS hl')
theorem bo_sub {L' : List (Nat × Value)} (ks : List Nat) (hL : lv_pick L ks = L') (kk : bo_D x pc L' S σ M k) : bo_D x pc L S σ M k := by
  obtain ⟨p, l, e, R, s, m, args, below, meth, c, g, A, cells, slots, Q⟩ := x
  intro r h1 h2 H locs ls hP hS hl
  exact kk r h1 h2 H locs ls hP hS (lv_sub hl ks hL)
theorem bo_icmp_eq (hx : bo_OK x cc own nL fr lo) {a b : Int32} {off : Int} (tgt : Nat) (hd : decode cc pc = .ok (.if_icmp .eq off, 3)) (ht : (pc : Int) + off = (tgt : Int)) (kt : bo_D x tgt L S σ M1 k) (kf : bo_D x (pc + 3) L S σ M2 k) : bo_D x pc L (.int b :: .int a :: S) σ (if a = b then M1 else M2) k := by
  obtain ⟨p, l, e, R, s, m, args, below, meth, c, g, A, cells, slots, Q⟩ := x
  obtain ⟨hex, hb, hml, hown, hts, hK, hNW, hi, hA, hfr, hlo, hce, hsl⟩ := hx
  intro r h1 h2 H locs ls hP hS hl
  exact lv_icmp_eq hex hb hd ht (fun q => kt r (by rw [if_pos q] at h1; exact h1) h2 H locs ls hP hS hl) (fun q => kf r (by rw [if_neg q] at h1; exact h1) h2 H locs ls hP hS hl)
theorem bo_if_eq (hx : bo_OK x cc own nL fr lo) {a : Int32} {off : Int} (tgt : Nat) (hd : decode cc pc = .ok (.ifCond .eq off, 3)) (ht : (pc : Int) + off = (tgt : Int)) (kt : bo_D x tgt L S σ M1 k) (kf : bo_D x (pc + 3) L S σ M2 k) : bo_D x pc L (.int a :: S) σ (if a = 0 then M1 else M2) k := by
  obtain ⟨p, l, e, R, s, m, args, below, meth, c, g, A, cells, slots, Q⟩ := x
  obtain ⟨hex, hb, hml, hown, hts, hK, hNW, hi, hA, hfr, hlo, hce, hsl⟩ := hx
  intro r h1 h2 H locs ls hP hS hl
  exact lv_if_eq hex hb hd ht (fun q => kt r (by rw [if_pos q] at h1; exact h1) h2 H locs ls hP hS hl) (fun q => kf r (by rw [if_neg q] at h1; exact h1) h2 H locs ls hP hS hl)
theorem bo_icmp_ne (hx : bo_OK x cc own nL fr lo) {a b : Int32} {off : Int} (tgt : Nat) (hd : decode cc pc = .ok (.if_icmp .ne off, 3)) (ht : (pc : Int) + off = (tgt : Int)) (kt : bo_D x tgt L S σ M1 k) (kf : bo_D x (pc + 3) L S σ M2 k) : bo_D x pc L (.int b :: .int a :: S) σ (if a = b then M2 else M1) k := by
  obtain ⟨p, l, e, R, s, m, args, below, meth, c, g, A, cells, slots, Q⟩ := x
  obtain ⟨hex, hb, hml, hown, hts, hK, hNW, hi, hA, hfr, hlo, hce, hsl⟩ := hx
  intro r h1 h2 H locs ls hP hS hl
  exact lv_icmp_ne hex hb hd ht (fun q => kt r (by rw [if_neg q] at h1; exact h1) h2 H locs ls hP hS hl) (fun q => kf r (by rw [if_pos q] at h1; exact h1) h2 H locs ls hP hS hl)
theorem bo_if_ne (hx : bo_OK x cc own nL fr lo) {a : Int32} {off : Int} (tgt : Nat) (hd : decode cc pc = .ok (.ifCond .ne off, 3)) (ht : (pc : Int) + off = (tgt : Int)) (kt : bo_D x tgt L S σ M1 k) (kf : bo_D x (pc + 3) L S σ M2 k) : bo_D x pc L (.int a :: S) σ (if a = 0 then M2 else M1) k := by
  obtain ⟨p, l, e, R, s, m, args, below, meth, c, g, A, cells, slots, Q⟩ := x
  obtain ⟨hex, hb, hml, hown, hts, hK, hNW, hi, hA, hfr, hlo, hce, hsl⟩ := hx
  intro r h1 h2 H locs ls hP hS hl
  exact lv_if_ne hex hb hd ht (fun q => kt r (by rw [if_neg q] at h1; exact h1) h2 H locs ls hP hS hl) (fun q => kf r (by rw [if_pos q] at h1; exact h1) h2 H locs ls hP hS hl)
theorem bo_icmp_lt (hx : bo_OK x cc own nL fr lo) {a b : Int32} {off : Int} (tgt : Nat) (hd : decode cc pc = .ok (.if_icmp .lt off, 3)) (ht : (pc : Int) + off = (tgt : Int)) (kt : bo_D x tgt L S σ M1 k) (kf : bo_D x (pc + 3) L S σ M2 k) : bo_D x pc L (.int b :: .int a :: S) σ (if a < b then M1 else M2) k := by
  obtain ⟨p, l, e, R, s, m, args, below, meth, c, g, A, cells, slots, Q⟩ := x
  obtain ⟨hex, hb, hml, hown, hts, hK, hNW, hi, hA, hfr, hlo, hce, hsl⟩ := hx
  intro r h1 h2 H locs ls hP hS hl
  exact lv_icmp_lt hex hb hd ht (fun q => kt r (by rw [if_pos q] at h1; exact h1) h2 H locs ls hP hS hl) (fun q => kf r (by rw [if_neg q] at h1; exact h1) h2 H locs ls hP hS hl)
theorem bo_if_lt (hx : bo_OK x cc own nL fr lo) {a : Int32} {off : Int} (tgt : Nat) (hd : decode cc pc = .ok (.ifCond .lt off, 3)) (ht : (pc : Int) + off = (tgt : Int)) (kt : bo_D x tgt L S σ M1 k) (kf : bo_D x (pc + 3) L S σ M2 k) : bo_D x pc L (.int a :: S) σ (if a < 0 then M1 else M2) k := by
  obtain ⟨p, l, e, R, s, m, args, below, meth, c, g, A, cells, slots, Q⟩ := x
  obtain ⟨hex, hb, hml, hown, hts, hK, hNW, hi, hA, hfr, hlo, hce, hsl⟩ := hx
  intro r h1 h2 H locs ls hP hS hl
  exact lv_if_lt hex hb hd ht (fun q => kt r (by rw [if_pos q] at h1; exact h1) h2 H locs ls hP hS hl) (fun q => kf r (by rw [if_neg q] at h1; exact h1) h2 H locs ls hP hS hl)
theorem bo_icmp_ge (hx : bo_OK x cc own nL fr lo) {a b : Int32} {off : Int} (tgt : Nat) (hd : decode cc pc = .ok (.if_icmp .ge off, 3)) (ht : (pc : Int) + off = (tgt : Int)) (kt : bo_D x tgt L S σ M1 k) (kf : bo_D x (pc + 3) L S σ M2 k) : bo_D x pc L (.int b :: .int a :: S) σ (if b ≤ a then M1 else M2) k := by
  obtain ⟨p, l, e, R, s, m, args, below, meth, c, g, A, cells, slots, Q⟩ := x
  obtain ⟨hex, hb, hml, hown, hts, hK, hNW, hi, hA, hfr, hlo, hce, hsl⟩ := hx
  intro r h1 h2 H locs ls hP hS hl
  exact lv_icmp_ge hex hb hd ht (fun q => kt r (by rw [if_pos q] at h1; exact h1) h2 H locs ls hP hS hl) (fun q => kf r (by rw [if_neg q] at h1; exact h1) h2 H locs ls hP hS hl)
theorem bo_if_ge (hx : bo_OK x cc own nL fr lo) {a : Int32} {off : Int} (tgt : Nat) (hd : decode cc pc = .ok (.ifCond .ge off, 3)) (ht : (pc : Int) + off = (tgt : Int)) (kt : bo_D x tgt L S σ M1 k) (kf : bo_D x (pc + 3) L S σ M2 k) : bo_D x pc L (.int a :: S) σ (if 0 ≤ a then M1 else M2) k := by
  obtain ⟨p, l, e, R, s, m, args, below, meth, c, g, A, cells, slots, Q⟩ := x
  obtain ⟨hex, hb, hml, hown, hts, hK, hNW, hi, hA, hfr, hlo, hce, hsl⟩ := hx
  intro r h1 h2 H locs ls hP hS hl
  exact lv_if_ge hex hb hd ht (fun q => kt r (by rw [if_pos q] at h1; exact h1) h2 H locs ls hP hS hl) (fun q => kf r (by rw [if_neg q] at h1; exact h1) h2 H locs ls hP hS hl)
theorem bo_icmp_gt (hx : bo_OK x cc own nL fr lo) {a b : Int32} {off : Int} (tgt : Nat) (hd : decode cc pc = .ok (.if_icmp .gt off, 3)) (ht : (pc : Int) + off = (tgt : Int)) (kt : bo_D x tgt L S σ M1 k) (kf : bo_D x (pc + 3) L S σ M2 k) : bo_D x pc L (.int b :: .int a :: S) σ (if b < a then M1 else M2) k := by
  obtain ⟨p, l, e, R, s, m, args, below, meth, c, g, A, cells, slots, Q⟩ := x
  obtain ⟨hex, hb, hml, hown, hts, hK, hNW, hi, hA, hfr, hlo, hce, hsl⟩ := hx
  intro r h1 h2 H locs ls hP hS hl
  exact lv_icmp_gt hex hb hd ht (fun q => kt r (by rw [if_pos q] at h1; exact h1) h2 H locs ls hP hS hl) (fun q => kf r (by rw [if_neg q] at h1; exact h1) h2 H locs ls hP hS hl)
theorem bo_if_gt (hx : bo_OK x cc own nL fr lo) {a : Int32} {off : Int} (tgt : Nat) (hd : decode cc pc = .ok (.ifCond .gt off, 3)) (ht : (pc : Int) + off = (tgt : Int)) (kt : bo_D x tgt L S σ M1 k) (kf : bo_D x (pc + 3) L S σ M2 k) : bo_D x pc L (.int a :: S) σ (if 0 < a then M1 else M2) k := by
  obtain ⟨p, l, e, R, s, m, args, below, meth, c, g, A, cells, slots, Q⟩ := x
  obtain ⟨hex, hb, hml, hown, hts, hK, hNW, hi, hA, hfr, hlo, hce, hsl⟩ := hx
  intro r h1 h2 H locs ls hP hS hl
  exact lv_if_gt hex hb hd ht (fun q => kt r (by rw [if_pos q] at h1; exact h1) h2 H locs ls hP hS hl) (fun q => kf r (by rw [if_neg q] at h1; exact h1) h2 H locs ls hP hS hl)
theorem bo_icmp_le (hx : bo_OK x cc own nL fr lo) {a b : Int32} {off : Int} (tgt : Nat) (hd : decode cc pc = .ok (.if_icmp .le off, 3)) (ht : (pc : Int) + off = (tgt : Int)) (kt : bo_D x tgt L S σ M1 k) (kf : bo_D x (pc + 3) L S σ M2 k) : bo_D x pc L (.int b :: .int a :: S) σ (if a ≤ b then M1 else M2) k := by
  obtain ⟨p, l, e, R, s, m, args, below, meth, c, g, A, cells, slots, Q⟩ := x
  obtain ⟨hex, hb, hml, hown, hts, hK, hNW, hi, hA, hfr, hlo, hce, hsl⟩ := hx
  intro r h1 h2 H locs ls hP hS hl
  exact lv_icmp_le hex hb hd ht (fun q => kt r (by rw [if_pos q] at h1; exact h1) h2 H locs ls hP hS hl) (fun q => kf r (by rw [if_neg q] at h1; exact h1) h2 H locs ls hP hS hl)
theorem bo_if_le (hx : bo_OK x cc own nL fr lo) {a : Int32} {off : Int} (tgt : Nat) (hd : decode cc pc = .ok (.ifCond .le off, 3)) (ht : (pc : Int) + off = (tgt : Int)) (kt : bo_D x tgt L S σ M1 k) (kf : bo_D x (pc + 3) L S σ M2 k) : bo_D x pc L (.int a :: S) σ (if a ≤ 0 then M1 else M2) k := by
  obtain ⟨p, l, e, R, s, m, args, below, meth, c, g, A, cells, slots, Q⟩ := x
  obtain ⟨hex, hb, hml, hown, hts, hK, hNW, hi, hA, hfr, hlo, hce, hsl⟩ := hx
  intro r h1 h2 H locs ls hP hS hl
  exact lv_if_le hex hb hd ht (fun q => kt r (by rw [if_pos q] at h1; exact h1) h2 H locs ls hP hS hl) (fun q => kf r (by rw [if_neg q] at h1; exact h1) h2 H locs ls hP hS hl)
theorem bo_goto (hx : bo_OK x cc own nL fr lo) {off : Int} (tgt : Nat) (hd : decode cc pc = .ok (.goto off, 3)) (ht : (pc : Int) + off = (tgt : Int)) (kk : bo_D x tgt L S σ M k) : bo_D x pc L S σ M k := by
  obtain ⟨p, l, e, R, s, m, args, below, meth, c, g, A, cells, slots, Q⟩ := x
  obtain ⟨hex, hb, hml, hown, hts, hK, hNW, hi, hA, hfr, hlo, hce, hsl⟩ := hx
  intro r h1 h2 H locs ls hP hS hl
  exact lv_goto hex hb hd ht (kk r h1 h2 H locs ls hP hS hl)
theorem bo_ifnull (hx : bo_OK x cc own nL fr lo) {a : Nat} {off : Int} (hd : decode cc pc = .ok (.ifnull off, 3)) (kk : bo_D x (pc + 3) L S σ M k) : bo_D x pc L (.ref a :: S) σ M k := by
  obtain ⟨p, l, e, R, s, m, args, below, meth, c, g, A, cells, slots, Q⟩ := x
  obtain ⟨hex, hb, hml, hown, hts, hK, hNW, hi, hA, hfr, hlo, hce, hsl⟩ := hx
  intro r h1 h2 H locs ls hP hS hl
  exact lv_ifnull hex hb hd (kk r h1 h2 H locs ls hP hS hl)
theorem bo_ifnonnull (hx : bo_OK x cc own nL fr lo) {a : Nat} {off : Int} (tgt : Nat) (hd : decode cc pc = .ok (.ifnonnull off, 3)) (ht : (pc : Int) + off = (tgt : Int)) (kk : bo_D x tgt L S σ M k) : bo_D x pc L (.ref a :: S) σ M k := by
  obtain ⟨p, l, e, R, s, m, args, below, meth, c, g, A, cells, slots, Q⟩ := x
  obtain ⟨hex, hb, hml, hown, hts, hK, hNW, hi, hA, hfr, hlo, hce, hsl⟩ := hx
  intro r h1 h2 H locs ls hP hS hl
  exact lv_ifnonnull hex hb hd ht (kk r h1 h2 H locs ls hP hS hl)
theorem bo_ifnullN (hx : bo_OK x cc own nL fr lo) {off : Int} (tgt : Nat) (hd : decode cc pc = .ok (.ifnull off, 3)) (ht : (pc : Int) + off = (tgt : Int)) (kk : bo_D x tgt L S σ M k) : bo_D x pc L (.null :: S) σ M k := by
  obtain ⟨p, l, e, R, s, m, args, below, meth, c, g, A, cells, slots, Q⟩ := x
  obtain ⟨hex, hb, hml, hown, hts, hK, hNW, hi, hA, hfr, hlo, hce, hsl⟩ := hx
  intro r h1 h2 H locs ls hP hS hl
  exact lv_ifnullN hex hb hd ht (kk r h1 h2 H locs ls hP hS hl)
theorem bo_ifnonnullN (hx : bo_OK x cc own nL fr lo) {off : Int} (hd : decode cc pc = .ok (.ifnonnull off, 3)) (kk : bo_D x (pc + 3) L S σ M k) : bo_D x pc L (.null :: S) σ M k := by
  obtain ⟨p, l, e, R, s, m, args, below, meth, c, g, A, cells, slots, Q⟩ := x
  obtain ⟨hex, hb, hml, hown, hts, hK, hNW, hi, hA, hfr, hlo, hce, hsl⟩ := hx
  intro r h1 h2 H locs ls hP hS hl
  exact lv_ifnonnullN hex hb hd (kk r h1 h2 H locs ls hP hS hl)
def bo_irm (a b : Int32) : Int32 := a - a / b * b
def bo_lrm (a b : Int64) : Int64 := a - a / b * b
theorem bo_ne_n {a v : Int32} {n : Int} (h : ¬ a = v) (e : v.toInt = n) : a.toInt ≠ n := fun q => h (Int32.toInt_inj.mp (q.trans e.symm))
theorem bo_idivc (hx : bo_OK x cc own nL fr lo) {a b : Int32} (hd : decode cc pc = .ok (.idiv, 1)) (hb0 : ¬ b = 0) (kk : bo_D x (pc + 1) L (.int (a / b) :: S) σ M k) : bo_D x pc L (.int b :: .int a :: S) σ M k := by
  obtain ⟨p, l, e, R, s, m, args, below, meth, c, g, A, cells, slots, Q⟩ := x
  obtain ⟨hex, hb, hml, hown, hts, hK, hNW, hi, hA, hfr, hlo, hce, hsl⟩ := hx
  intro r h1 h2 H locs ls hP hS hl
  exact lv_idiv hex hb hd hb0 (kk r h1 h2 H locs ls hP hS hl)
def bo_idivo (a b : Int32) : Option Int32 := if b = 0 then none else some (a / b)
theorem bo_idiv (hx : bo_OK x cc own nL fr lo) {a b : Int32} {K : Int32 → Option α} (hd : decode cc pc = .ok (.idiv, 1)) (kk : ∀ v : Int32, bo_D x (pc + 1) L (.int v :: S) σ (K v) k) : bo_D x pc L (.int b :: .int a :: S) σ ((bo_idivo a b).bind K) k := by
  intro r h1 h2
  obtain ⟨v, hv, hK0⟩ := bo_bind h1
  unfold bo_idivo at hv
  by_cases hb0 : b = 0
  · rw [if_pos hb0] at hv; cases hv
  · rw [if_neg hb0] at hv
    cases hv
    exact bo_idivc hx hd hb0 (kk _) r hK0 h2
theorem bo_iremc (hx : bo_OK x cc own nL fr lo) {a b : Int32} (hd : decode cc pc = .ok (.irem, 1)) (hb0 : ¬ b = 0) (kk : bo_D x (pc + 1) L (.int (bo_irm a b) :: S) σ M k) : bo_D x pc L (.int b :: .int a :: S) σ M k := by
  obtain ⟨p, l, e, R, s, m, args, below, meth, c, g, A, cells, slots, Q⟩ := x
  obtain ⟨hex, hb, hml, hown, hts, hK, hNW, hi, hA, hfr, hlo, hce, hsl⟩ := hx
  intro r h1 h2 H locs ls hP hS hl
  exact lv_irem hex hb hd hb0 (kk r h1 h2 H locs ls hP hS hl)
def bo_iremo (a b : Int32) : Option Int32 := if b = 0 then none else some (bo_irm a b)
theorem bo_irem (hx : bo_OK x cc own nL fr lo) {a b : Int32} {K : Int32 → Option α} (hd : decode cc pc = .ok (.irem, 1)) (kk : ∀ v : Int32, bo_D x (pc + 1) L (.int v :: S) σ (K v) k) : bo_D x pc L (.int b :: .int a :: S) σ ((bo_iremo a b).bind K) k := by
  intro r h1 h2
  obtain ⟨v, hv, hK0⟩ := bo_bind h1
  unfold bo_iremo at hv
  by_cases hb0 : b = 0
  · rw [if_pos hb0] at hv; cases hv
  · rw [if_neg hb0] at hv
    cases hv
    exact bo_iremc hx hd hb0 (kk _) r hK0 h2
theorem bo_ldivc (hx : bo_OK x cc own nL fr lo) {a b : Int64} (hd : decode cc pc = .ok (.ldiv, 1)) (hb0 : ¬ b = 0) (kk : bo_D x (pc + 1) L (.long (a / b) :: S) σ M k) : bo_D x pc L (.long b :: .long a :: S) σ M k := by
  obtain ⟨p, l, e, R, s, m, args, below, meth, c, g, A, cells, slots, Q⟩ := x
  obtain ⟨hex, hb, hml, hown, hts, hK, hNW, hi, hA, hfr, hlo, hce, hsl⟩ := hx
  intro r h1 h2 H locs ls hP hS hl
  exact lv_ldiv hex hb hd hb0 (kk r h1 h2 H locs ls hP hS hl)
def bo_ldivo (a b : Int64) : Option Int64 := if b = 0 then none else some (a / b)
theorem bo_ldiv (hx : bo_OK x cc own nL fr lo) {a b : Int64} {K : Int64 → Option α} (hd : decode cc pc = .ok (.ldiv, 1)) (kk : ∀ v : Int64, bo_D x (pc + 1) L (.long v :: S) σ (K v) k) : bo_D x pc L (.long b :: .long a :: S) σ ((bo_ldivo a b).bind K) k := by
  intro r h1 h2
  obtain ⟨v, hv, hK0⟩ := bo_bind h1
  unfold bo_ldivo at hv
  by_cases hb0 : b = 0
  · rw [if_pos hb0] at hv; cases hv
  · rw [if_neg hb0] at hv
    cases hv
    exact bo_ldivc hx hd hb0 (kk _) r hK0 h2
theorem bo_lremc (hx : bo_OK x cc own nL fr lo) {a b : Int64} (hd : decode cc pc = .ok (.lrem, 1)) (hb0 : ¬ b = 0) (kk : bo_D x (pc + 1) L (.long (bo_lrm a b) :: S) σ M k) : bo_D x pc L (.long b :: .long a :: S) σ M k := by
  obtain ⟨p, l, e, R, s, m, args, below, meth, c, g, A, cells, slots, Q⟩ := x
  obtain ⟨hex, hb, hml, hown, hts, hK, hNW, hi, hA, hfr, hlo, hce, hsl⟩ := hx
  intro r h1 h2 H locs ls hP hS hl
  exact lv_lrem hex hb hd hb0 (kk r h1 h2 H locs ls hP hS hl)
def bo_lremo (a b : Int64) : Option Int64 := if b = 0 then none else some (bo_lrm a b)
theorem bo_lrem (hx : bo_OK x cc own nL fr lo) {a b : Int64} {K : Int64 → Option α} (hd : decode cc pc = .ok (.lrem, 1)) (kk : ∀ v : Int64, bo_D x (pc + 1) L (.long v :: S) σ (K v) k) : bo_D x pc L (.long b :: .long a :: S) σ ((bo_lremo a b).bind K) k := by
  intro r h1 h2
  obtain ⟨v, hv, hK0⟩ := bo_bind h1
  unfold bo_lremo at hv
  by_cases hb0 : b = 0
  · rw [if_pos hb0] at hv; cases hv
  · rw [if_neg hb0] at hv
    cases hv
    exact bo_lremc hx hd hb0 (kk _) r hK0 h2
theorem bo_seq {M0 : Option β} {K : β → Option α} (pcJ : Nat) (LJ : β → List (Nat × Value)) (SJ : β → List Value) (σJ : β → bo_M) (h1 : bo_D x pc L S σ M0 (fun a => bo_N x pcJ (LJ a) (SJ a) (σJ a))) (h2 : ∀ a, bo_D x pcJ (LJ a) (SJ a) (σJ a) (K a) k) : bo_D x pc L S σ (M0.bind K) k := by
  intro r h3 h4
  obtain ⟨a, ha, hK0⟩ := bo_bind h3
  exact h1 a ha (h2 a r hK0 h4)
theorem bo_arr {a : β} {J : β → Prop} (h : J a → bo_N x pc L S σ) : bo_D x pc L S σ (some a) J := fun _ h1 h2 => by cases h1; exact h h2
theorem bo_none {J : β → Prop} : bo_D x pc L S σ none J := fun _ h1 _ => by cases h1
theorem bo_by {q : Prop} [Decidable q] (kt : q → bo_D x pc L S σ M1 k) (kf : ¬ q → bo_D x pc L S σ M2 k) : bo_D x pc L S σ (if q then M1 else M2) k := by
  intro r h1 h2
  by_cases h : q
  · rw [if_pos h] at h1; exact kt h r h1 h2
  · rw [if_neg h] at h1; exact kf h r h1 h2
end BO
section BO2
variable {x : bo_X} {cc : ByteArray} {own : String} {nL fr lo : Nat} {pc : Nat} {L : List (Nat × Value)} {S : List Value} {σ : bo_M} {α β : Type} {M M1 M2 : Option α} {k : α → Prop}
theorem bo_tabIn (hx : bo_OK x cc own nL fr lo) {a v : Int32} {dflt lo' hi : Int} {offs : Array Int} {len : Nat} {off : Int} (tgt : Nat) (hd : decode cc pc = .ok (.tableswitch dflt lo' hi offs, len)) (hv : a = v) (h1' : ¬ v.toInt < lo') (h2' : ¬ hi < v.toInt) (ho : offs[(v.toInt - lo').toNat]? = some off) (ht : (pc : Int) + off = (tgt : Int)) (kk : bo_D x tgt L S σ M k) : bo_D x pc L (.int a :: S) σ M k := by
  subst hv
  obtain ⟨p, l, e, R, s, m, args, below, meth, c, g, A, cells, slots, Q⟩ := x
  obtain ⟨hex, hb, hml, hown, hts, hK, hNW, hi, hA, hfr, hlo, hce, hsl⟩ := hx
  intro r h1 h2 H locs ls hP hS hl
  exact lv_tableIn hex hb hd h1' h2' ho ht (kk r h1 h2 H locs ls hP hS hl)
theorem bo_tabOut (hx : bo_OK x cc own nL fr lo) {a : Int32} {dflt lo' hi : Int} {offs : Array Int} {len : Nat} (tgt : Nat) (hd : decode cc pc = .ok (.tableswitch dflt lo' hi offs, len)) (h : a.toInt < lo' ∨ hi < a.toInt) (ht : (pc : Int) + dflt = (tgt : Int)) (kk : bo_D x tgt L S σ M k) : bo_D x pc L (.int a :: S) σ M k := by
  obtain ⟨p, l, e, R, s, m, args, below, meth, c, g, A, cells, slots, Q⟩ := x
  obtain ⟨hex, hb, hml, hown, hts, hK, hNW, hi, hA, hfr, hlo, hce, hsl⟩ := hx
  intro r h1 h2 H locs ls hP hS hl
  exact lv_tableOut hex hb hd h ht (kk r h1 h2 H locs ls hP hS hl)
theorem bo_look (hx : bo_OK x cc own nL fr lo) {a : Int32} {dflt : Int} {ps : Array (Int × Int)} {len : Nat} {off : Int} (tgt : Nat) (hd : decode cc pc = .ok (.lookupswitch dflt ps, len)) (hp : (ps.toList.zip (ps.toList.drop 1)).all (fun (a, next) => a.1 < next.1) = true) (ho : Op.lookupswitch.offset ps.toList dflt a.toInt = off) (ht : (pc : Int) + off = (tgt : Int)) (kk : bo_D x tgt L S σ M k) : bo_D x pc L (.int a :: S) σ M k := by
  obtain ⟨p, l, e, R, s, m, args, below, meth, c, g, A, cells, slots, Q⟩ := x
  obtain ⟨hex, hb, hml, hown, hts, hK, hNW, hi, hA, hfr, hlo, hce, hsl⟩ := hx
  intro r h1 h2 H locs ls hP hS hl
  exact lv_lookup hex hb hd hp ho ht (kk r h1 h2 H locs ls hP hS hl)
theorem bo_neI {a v : Int32} (h : ¬ a = v) : a.toInt ≠ v.toInt := fun e => h (Int32.toInt_inj.mp e)
/-! fields -/
theorem bo_fvs_get {ad : Nat → Nat} {o : Nat} {f : Nat → Int32} {t : Nat × Nat} : ∀ (ts : List (Nat × Nat)) (j i : Nat), ts[i]? = some t → (bo_fvs ad o f j ts)[i]? = some (bo_fv ad o f (j + i) t)
  | [], j, i, h => by simp at h
  | u :: ts, j, 0, h => by
    simp only [List.getElem?_cons_zero, Option.some.injEq] at h
    subst h
    rfl
  | u :: ts, j, i + 1, h => by
    simp only [List.getElem?_cons_succ] at h
    have := bo_fvs_get (ad := ad) (o := o) (f := f) ts (j + 1) i h
    rw [show j + (i + 1) = j + 1 + i by omega, ← this]
    rfl
theorem bo_fvs_len {ad : Nat → Nat} {o : Nat} {f : Nat → Int32} : ∀ (ts : List (Nat × Nat)) (j : Nat), (bo_fvs ad o f j ts).length = ts.length
  | [], _ => rfl
  | _ :: ts, j => congrArg (· + 1) (bo_fvs_len ts (j + 1))
theorem bo_fv_ne {ad : Nat → Nat} {o : Nat} {f : Nat → Int32} {i j : Nat} {v : Int32} {t : Nat × Nat} (h : i ≠ j) : bo_fv ad o (upd f j v) i t = bo_fv ad o f i t := by
  have : upd f j v i = f i := by unfold upd; rw [if_neg h]
  unfold bo_fv
  rw [this]
theorem bo_fvs_upd {ad : Nat → Nat} {o : Nat} {f : Nat → Int32} {i : Nat} {v : Int32} : ∀ (ts : List (Nat × Nat)) (j : Nat), i < j → bo_fvs ad o (upd f i v) j ts = bo_fvs ad o f j ts
  | [], _, _ => rfl
  | t :: ts, j, h => by
    show bo_fv ad o (upd f i v) j t :: _ = bo_fv ad o f j t :: _
    rw [bo_fv_ne (by omega), bo_fvs_upd ts (j + 1) (by omega)]
theorem bo_fvs_set {ad : Nat → Nat} {o : Nat} {f : Nat → Int32} {vi : Int32} {v : Value} {t : Nat × Nat} : ∀ (ts : List (Nat × Nat)) (j i : Nat), ts[i]? = some t → bo_fv ad o (upd f (j + i) vi) (j + i) t = v → (bo_fvs ad o f j ts).set i v = bo_fvs ad o (upd f (j + i) vi) j ts
  | [], j, i, h, _ => by simp at h
  | u :: ts, j, 0, h, hv => by
    simp only [List.getElem?_cons_zero, Option.some.injEq] at h
    subst h
    show v :: bo_fvs ad o f (j + 1) ts = bo_fv ad o (upd f (j + 0) vi) j u :: bo_fvs ad o (upd f (j + 0) vi) (j + 1) ts
    rw [bo_fvs_upd ts (j + 1) (by omega)]
    rw [← hv]
    rfl
  | u :: ts, j, i + 1, h, hv => by
    simp only [List.getElem?_cons_succ] at h
    have e : j + (i + 1) = j + 1 + i := by omega
    have := bo_fvs_set (ad := ad) (o := o) (f := f) (vi := vi) (v := v) ts (j + 1) i h (by rw [← e]; exact hv)
    show bo_fv ad o f j u :: (bo_fvs ad o f (j + 1) ts).set i v = bo_fv ad o (upd f (j + (i + 1)) vi) j u :: bo_fvs ad o (upd f (j + (i + 1)) vi) (j + 1) ts
    rw [this, bo_fv_ne (by omega), e]
theorem bo_at_o {g : bo_G} {σ : bo_M} {o ci : Nat} {ts : List (Nat × Nat)} (h : bo_isO o ci ts) : (bo_ws g σ)[o]? = some (g.2.2 o, .inr (ci, bo_fvs g.2.2 o (σ o) 0 ts)) := by
  rw [bo_ws_get h.1, h.2]
  rfl
theorem bo_get (hx : bo_OK x cc own nL fr lo) {o ci i idx N : Nat} {ts : List (Nat × Nat)} {C : String} {T : u_T} {t : Nat × Nat} (ho : bo_isO o ci ts) (hc : bo_cl[ci]? = some (C, T, N)) (hk : i < N) (hin : ∀ w ∈ u_ws C T N, w ∈ bo_tb) (hlink : Cond.fieldLink own idx C (T i).2.1 (T i).2.2.1 ∈ bo_tb) (hsame : (T i).1 = C) (ht : ts[i]? = some t) (hd : decode cc pc = .ok (.getfield idx, 3)) (kk : bo_D x (pc + 3) L (bo_fv (bo_g x).2.2 o (σ o) i t :: S) σ M k) : bo_D x pc L (.ref (bo_a x o) :: S) σ M k := by
  obtain ⟨p, l, e, R, s, m, args, below, meth, c, g, A, cells, slots, Q⟩ := x
  obtain ⟨hex, hb, hml, hown, hts, hK, hNW, hi, hA, hfr, hlo, hce, hsl⟩ := hx
  intro r h1 h2 H locs ls hP hS hl
  have hv := bo_fvs_get (ad := g.2.2) (o := o) (f := σ o) ts 0 i ht
  rw [Nat.zero_add] at hv
  exact va_get hex hb hts hin hown hK hP o (bo_at_o ho) hc i hk (hts _ hlink) (fun z hz => by rw [hsame] at hz; exact hz) hv hd (kk r h1 h2 H locs ls hP hS hl)
theorem bo_put (hx : bo_OK x cc own nL fr lo) {o ci i idx N : Nat} {ts : List (Nat × Nat)} {C : String} {T : u_T} {t : Nat × Nat} (ho : bo_isO o ci ts) (hc : bo_cl[ci]? = some (C, T, N)) (hk : i < N) (hin : ∀ w ∈ u_ws C T N, w ∈ bo_tb) (hlink : Cond.fieldLink own idx C (T i).2.1 (T i).2.2.1 ∈ bo_tb) (hsame : (T i).1 = C) (ht : ts[i]? = some t)
    {ty0 : Nat → FieldType} (hty : ∀ k, k < N → parseFieldDescriptor (T k).2.2.1 = some (ty0 k)) (hnm : ∀ a, a < N → ∀ b, b < N → a ≠ b → (T a).2.1 ≠ (T b).2.1) (hfin : (T i).2.2.2 = false) {ty : FieldType} {v : Value} {vi : Int32} (hd0 : parseFieldDescriptor (T i).2.2.1 = some ty) (hn : narrow ty v = v) (hfit : fits ty v = true) (hset : bo_fv (bo_g x).2.2 o (upd (σ o) i vi) i t = v)
    {K : bo_M → Option α} (hd : decode cc pc = .ok (.putfield idx, 3)) (kk : ∀ σ', bo_D x (pc + 3) L S σ' (K σ') k) : bo_D x pc L (v :: .ref (bo_a x o) :: S) σ ((some (bo_up σ o i vi)).bind K) k := by
  obtain ⟨p, l, e, R, s, m, args, below, meth, c, g, A, cells, slots, Q⟩ := x
  obtain ⟨hex, hb, hml, hown, hts, hK, hNW, hi, hA, hfr, hlo, hce, hsl⟩ := hx
  intro r h1 h2 H locs ls hP hS hl
  have hset' := bo_fvs_set (ad := g.2.2) (o := o) (f := σ o) (vi := vi) (v := v) ts 0 i ht (by rw [Nat.zero_add]; exact hset)
  rw [Nat.zero_add] at hset'
  have hlt : i < ts.length := (List.getElem?_eq_some_iff.mp ht).1
  refine va_put hex hb hts hin ty0 hty hnm hown hK hP (bo_ws_D hi hA) hS o (bo_at_o ho) hc i hk (hts _ hlink) (fun z hz => by rw [hsame] at hz; exact hz) hfin hd0 hn hfit (by rw [bo_fvs_len]; exact hlt) hd (fun H1 locs1 hP1 _ hS1 => ?_)
  have e : (bo_ws g σ).set o (g.2.2 o, .inr (ci, (bo_fvs g.2.2 o (σ o) 0 ts).set i v)) = bo_ws g (bo_up σ o i vi) := bo_ws_set ho.1 (by rw [ho.2, hset']; rfl)
  exact kk _ r h1 h2 H1 locs1 ls (e ▸ hP1) hS1 hl
/-! arrays -/
def bo_ld (n : Nat) (σ : bo_M) (o : Nat) (i : Int32) : Option Int32 := if 0 ≤ i ∧ i.toNatClampNeg < n then some (σ o i.toNatClampNeg) else none
def bo_st (n : Nat) (σ : bo_M) (o : Nat) (i v : Int32) : Option bo_M := if 0 ≤ i ∧ i.toNatClampNeg < n then some (bo_up σ o i.toNatClampNeg v) else none
theorem bo_in {i : Int32} {n : Nat} (h : 0 ≤ i ∧ i.toNatClampNeg < n) : vp_in i n := by
  rintro (h1 | h1)
  · have a := Int32.lt_iff_toInt_lt.mp h1
    have b := Int32.le_iff_toInt_le.mp h.1
    omega
  · omega
theorem bo_at_a {g : bo_G} {σ : bo_M} {o n : Nat} (h : bo_isA o n) : (bo_ws g σ)[o]? = some (g.2.2 o, .inl (g.1 0, n, .inl (σ o))) := by
  rw [bo_ws_get h.1, h.2]
  rfl
def bo_isZ (o n : Nat) : Prop := o < 168 ∧ bo_lay o = .inl (1, n)
def bo_isQ (o n : Nat) : Prop := o < 168 ∧ bo_lay o = .inl (2, n)
theorem bo_at_z {g : bo_G} {σ : bo_M} {o n : Nat} (h : bo_isZ o n) : (bo_ws g σ)[o]? = some (g.2.2 o, .inl (g.1 1, n, .inl (σ o))) := by
  rw [bo_ws_get h.1, h.2]
  rfl
theorem bo_at_q {g : bo_G} {σ : bo_M} {o n : Nat} (h : bo_isQ o n) : (bo_ws g σ)[o]? = some (g.2.2 o, .inl (g.1 2, n, .inr (.inr (.inr (.inr (fun k => some (g.2.2 (bo_ev (σ o k))))))))) := by
  rw [bo_ws_get h.1, h.2]
  rfl
theorem bo_iald (hx : bo_OK x cc own nL fr lo) {o n : Nat} {i : Int32} {K : Int32 → Option α} (ho : bo_isA o n) (hd : decode cc pc = .ok (.iaload, 1)) (kk : ∀ v, bo_D x (pc + 1) L (.int v :: S) σ (K v) k) : bo_D x pc L (.int i :: .ref (bo_a x o) :: S) σ ((bo_ld n σ o i).bind K) k := by
  obtain ⟨p, l, e, R, s, m, args, below, meth, c, g, A, cells, slots, Q⟩ := x
  obtain ⟨hex, hb, hml, hown, hts, hK, hNW, hi, hA, hfr, hlo, hce, hsl⟩ := hx
  intro r h1 h2 H locs ls hP hS hl
  obtain ⟨v, hv, hK0⟩ := bo_bind h1
  unfold bo_ld at hv
  by_cases h : 0 ≤ i ∧ i.toNatClampNeg < n
  · rw [if_pos h] at hv
    cases hv
    exact va_iald hex hb hK hP o 0 (bo_at_a ho) rfl (bo_in h) hd (kk _ r hK0 h2 H locs ls hP hS hl)
  · rw [if_neg h] at hv; cases hv
theorem bo_zald (hx : bo_OK x cc own nL fr lo) {o n : Nat} {i : Int32} {K : Int32 → Option α} (ho : bo_isZ o n) (hd : decode cc pc = .ok (.baload, 1)) (kk : ∀ v, bo_D x (pc + 1) L (.int v :: S) σ (K v) k) : bo_D x pc L (.int i :: .ref (bo_a x o) :: S) σ ((bo_ld n σ o i).bind K) k := by
  obtain ⟨p, l, e, R, s, m, args, below, meth, c, g, A, cells, slots, Q⟩ := x
  obtain ⟨hex, hb, hml, hown, hts, hK, hNW, hi, hA, hfr, hlo, hce, hsl⟩ := hx
  intro r h1 h2 H locs ls hP hS hl
  obtain ⟨v, hv, hK0⟩ := bo_bind h1
  unfold bo_ld at hv
  by_cases h : 0 ≤ i ∧ i.toNatClampNeg < n
  · rw [if_pos h] at hv
    cases hv
    exact va_zald hex hb hK hP o 1 (bo_at_z ho) rfl (bo_in h) hd (kk _ r hK0 h2 H locs ls hP hS hl)
  · rw [if_neg h] at hv; cases hv
theorem bo_aald (hx : bo_OK x cc own nL fr lo) {o n : Nat} {i : Int32} {K : Int32 → Option α} (ho : bo_isQ o n) (hd : decode cc pc = .ok (.aaload, 1)) (kk : ∀ v, bo_D x (pc + 1) L (.ref (bo_a x (bo_ev v)) :: S) σ (K v) k) : bo_D x pc L (.int i :: .ref (bo_a x o) :: S) σ ((bo_ld n σ o i).bind K) k := by
  obtain ⟨p, l, e, R, s, m, args, below, meth, c, g, A, cells, slots, Q⟩ := x
  obtain ⟨hex, hb, hml, hown, hts, hK, hNW, hi, hA, hfr, hlo, hce, hsl⟩ := hx
  intro r h1 h2 H locs ls hP hS hl
  obtain ⟨v, hv, hK0⟩ := bo_bind h1
  unfold bo_ld at hv
  by_cases h : 0 ≤ i ∧ i.toNatClampNeg < n
  · rw [if_pos h] at hv
    cases hv
    exact va_aldq (C := "BellRope$Evening") hex hb hK hP o 2 (bo_at_q ho) rfl (bo_in h) hd (kk _ r hK0 h2 H locs ls hP hS hl)
  · rw [if_neg h] at hv; cases hv
theorem bo_iast (hx : bo_OK x cc own nL fr lo) {o n : Nat} {i v : Int32} {K : bo_M → Option α} (ho : bo_isA o n) (hd : decode cc pc = .ok (.iastore, 1)) (kk : ∀ σ', bo_D x (pc + 1) L S σ' (K σ') k) : bo_D x pc L (.int v :: .int i :: .ref (bo_a x o) :: S) σ ((bo_st n σ o i v).bind K) k := by
  obtain ⟨p, l, e, R, s, m, args, below, meth, c, g, A, cells, slots, Q⟩ := x
  obtain ⟨hex, hb, hml, hown, hts, hK, hNW, hi, hA, hfr, hlo, hce, hsl⟩ := hx
  intro r h1 h2 H locs ls hP hS hl
  obtain ⟨σ', hv, hK0⟩ := bo_bind h1
  unfold bo_st at hv
  by_cases h : 0 ≤ i ∧ i.toNatClampNeg < n
  · rw [if_pos h] at hv
    cases hv
    refine va_iast hex hb hK hP (bo_ws_D hi hA) hS o 0 (bo_at_a ho) rfl (bo_in h) hd (fun H1 locs1 hP1 _ hS1 => ?_)
    rw [bo_ws_set ho.1 (by rw [ho.2]; rfl)] at hP1
    exact kk _ r hK0 h2 H1 locs1 ls hP1 hS1 hl
  · rw [if_neg h] at hv; cases hv
theorem bo_zast (hx : bo_OK x cc own nL fr lo) {o n : Nat} {i v : Int32} {K : bo_M → Option α} (ho : bo_isZ o n) (hd : decode cc pc = .ok (.bastore, 1)) (kk : ∀ σ', bo_D x (pc + 1) L S σ' (K σ') k) : bo_D x pc L (.int v :: .int i :: .ref (bo_a x o) :: S) σ ((bo_st n σ o i (v &&& 1)).bind K) k := by
  obtain ⟨p, l, e, R, s, m, args, below, meth, c, g, A, cells, slots, Q⟩ := x
  obtain ⟨hex, hb, hml, hown, hts, hK, hNW, hi, hA, hfr, hlo, hce, hsl⟩ := hx
  intro r h1 h2 H locs ls hP hS hl
  obtain ⟨σ', hv, hK0⟩ := bo_bind h1
  unfold bo_st at hv
  by_cases h : 0 ≤ i ∧ i.toNatClampNeg < n
  · rw [if_pos h] at hv
    cases hv
    refine va_zast hex hb hK hP (bo_ws_D hi hA) hS o 1 (bo_at_z ho) rfl (bo_in h) hd (fun H1 locs1 hP1 _ hS1 => ?_)
    rw [bo_ws_set (v := v &&& 1) ho.1 (by rw [ho.2]; rfl)] at hP1
    exact kk _ r hK0 h2 H1 locs1 ls hP1 hS1 hl
  · rw [if_neg h] at hv; cases hv
theorem bo_aast (hx : bo_OK x cc own nL fr lo) {o n : Nat} {i v : Int32} {K : bo_M → Option α} (ho : bo_isQ o n) (hd : decode cc pc = .ok (.aastore, 1)) (kk : ∀ σ', bo_D x (pc + 1) L S σ' (K σ') k) : bo_D x pc L (.ref (bo_a x (bo_ev v)) :: .int i :: .ref (bo_a x o) :: S) σ ((bo_st n σ o i v).bind K) k := by
  obtain ⟨p, l, e, R, s, m, args, below, meth, c, g, A, cells, slots, Q⟩ := x
  obtain ⟨hex, hb, hml, hown, hts, hK, hNW, hi, hA, hfr, hlo, hce, hsl⟩ := hx
  intro r h1 h2 H locs ls hP hS hl
  obtain ⟨σ', hv, hK0⟩ := bo_bind h1
  unfold bo_st at hv
  by_cases h : 0 ≤ i ∧ i.toNatClampNeg < n
  · rw [if_pos h] at hv
    cases hv
    refine va_astq (r := (RX2, TX2, 10)) hex hb hK hP (bo_ws_D hi hA) hS o 2 (bo_ev v) 2 (bo_at_q ho) rfl (bo_at_o (bo_ev_ok v).o) rfl (bo_in h) hd (fun H1 locs1 hP1 _ hS1 => ?_)
    have hf : (fun k => some (g.2.2 (bo_ev (upd (σ o) i.toNatClampNeg v k)))) = va_up (fun k => some (g.2.2 (bo_ev (σ o k)))) i.toNatClampNeg (some (g.2.2 (bo_ev v))) := by
      funext j
      unfold upd va_up
      split <;> rfl
    rw [bo_ws_set (n := o) (k := i.toNatClampNeg) (v := v) ho.1 (by
      rw [ho.2, ← hf]
      rfl)] at hP1
    exact kk _ r hK0 h2 H1 locs1 ls hP1 hS1 hl
  · rw [if_neg h] at hv; cases hv
theorem bo_alen (hx : bo_OK x cc own nL fr lo) {o n : Nat} {v : Int32} (ho : bo_isA o n) (hv : Int32.ofNat n = v) (hd : decode cc pc = .ok (.arraylength, 1)) (kk : bo_D x (pc + 1) L (.int v :: S) σ M k) : bo_D x pc L (.ref (bo_a x o) :: S) σ M k := by
  obtain ⟨p, l, e, R, s, m, args, below, meth, c, g, A, cells, slots, Q⟩ := x
  obtain ⟨hex, hb, hml, hown, hts, hK, hNW, hi, hA, hfr, hlo, hce, hsl⟩ := hx
  intro r h1 h2 H locs ls hP hS hl
  exact va_alen hex hb hK hP o 0 (bo_at_a ho) rfl hv hd (kk r h1 h2 H locs ls hP hS hl)
theorem bo_alenQ (hx : bo_OK x cc own nL fr lo) {o n : Nat} {v : Int32} (ho : bo_isQ o n) (hv : Int32.ofNat n = v) (hd : decode cc pc = .ok (.arraylength, 1)) (kk : bo_D x (pc + 1) L (.int v :: S) σ M k) : bo_D x pc L (.ref (bo_a x o) :: S) σ M k := by
  obtain ⟨p, l, e, R, s, m, args, below, meth, c, g, A, cells, slots, Q⟩ := x
  obtain ⟨hex, hb, hml, hown, hts, hK, hNW, hi, hA, hfr, hlo, hce, hsl⟩ := hx
  intro r h1 h2 H locs ls hP hS hl
  exact va_alen hex hb hK hP o 2 (bo_at_q ho) rfl hv hd (kk r h1 h2 H locs ls hP hS hl)
theorem bo_max (hx : bo_OK x cc own nL fr lo) {a b : Int32} {idx : Nat} (hd : decode cc pc = .ok (.invokestatic idx, 3)) (hl0 : Cond.methodLink own idx Lib.Math.max.name ∈ bo_tb) (hs0 : Cond.static Lib.Math.max.name ∈ bo_tb) (hi0 : Cond.initialized "java/lang/Math" ∈ bo_tb) (hc0 : Cond.code Lib.Math.max.name Lib.Math.max.code 2 (some .int) ∈ bo_tb) (hf : 1 ≤ fr) (hr : (S.map fun v => v.category).sum + 13 ≤ lo) (kk : bo_D x (pc + 3) L (.int (if a < b then b else a) :: S) σ M k) : bo_D x pc L (.int b :: .int a :: S) σ M k := by
  obtain ⟨p, l, e, R, s, m, args, below, meth, c, g, A, cells, slots, Q⟩ := x
  obtain ⟨hex, hb, hml, hown, hts, hK, hNW, hi, hA, hfr, hlo, hce, hsl⟩ := hx
  intro r h1 h2 H locs ls hP hS hl
  exact va_mmax hex hb hl.1.symm hown (hts _ hl0) (hts _ hs0) (hts _ hi0) (hts _ hc0) (Nat.le_trans hf hfr) (Nat.le_trans hr hlo) hce hsl hd (kk r h1 h2 H locs ls hP hS hl)
theorem bo_min (hx : bo_OK x cc own nL fr lo) {a b : Int32} {idx : Nat} (hd : decode cc pc = .ok (.invokestatic idx, 3)) (hl0 : Cond.methodLink own idx Lib.Math.min.name ∈ bo_tb) (hs0 : Cond.static Lib.Math.min.name ∈ bo_tb) (hi0 : Cond.initialized "java/lang/Math" ∈ bo_tb) (hc0 : Cond.code Lib.Math.min.name Lib.Math.min.code 2 (some .int) ∈ bo_tb) (hf : 1 ≤ fr) (hr : (S.map fun v => v.category).sum + 13 ≤ lo) (kk : bo_D x (pc + 3) L (.int (if b < a then b else a) :: S) σ M k) : bo_D x pc L (.int b :: .int a :: S) σ M k := by
  obtain ⟨p, l, e, R, s, m, args, below, meth, c, g, A, cells, slots, Q⟩ := x
  obtain ⟨hex, hb, hml, hown, hts, hK, hNW, hi, hA, hfr, hlo, hce, hsl⟩ := hx
  intro r h1 h2 H locs ls hP hS hl
  exact va_mmin hex hb hl.1.symm hown (hts _ hl0) (hts _ hs0) (hts _ hi0) (hts _ hc0) (Nat.le_trans hf hfr) (Nat.le_trans hr hlo) hce hsl hd (kk r h1 h2 H locs ls hP hS hl)
end BO2
end
section
/-! contracts and calls -/
abbrev bo_rm (fr lo : Nat) : Room := { frames := fr, cells := 0, slots := 0, locals := lo }
/-- the continuations at a method's end: an int (z: 0 or 1 alone), an int and a memory, a memory, an object or null -/
def bo_Ri (x : bo_X) (cc : ByteArray) (σ : bo_M) (z : Bool) (r : Int32) : Prop := (z = true → bo_B r) → ∀ (pc : Nat) (L : List (Nat × Value)), decode cc pc = .ok (.ireturn, 1) → bo_N x pc L [.int r] σ
def bo_Rw (x : bo_X) (cc : ByteArray) (z : Bool) (r : Int32 × bo_M) : Prop := (z = true → bo_B r.1) → ∀ (pc : Nat) (L : List (Nat × Value)), decode cc pc = .ok (.ireturn, 1) → bo_N x pc L [.int r.1] r.2
def bo_Rv (x : bo_X) (cc : ByteArray) (σ : bo_M) : Prop := ∀ (pc : Nat) (L : List (Nat × Value)), decode cc pc = .ok (.return_, 1) → bo_N x pc L [] σ
def bo_qv (g : bo_G) (h : Int32 → Nat) (r : Option Int32) : Value := va_rf (r.map fun c => g.2.2 (h c))
def bo_Rq (x : bo_X) (cc : ByteArray) (σ : bo_M) (h : Int32 → Nat) (r : Option Int32) : Prop := ∀ (pc : Nat) (L : List (Nat × Value)), decode cc pc = .ok (.areturn, 1) → bo_N x pc L [bo_qv (bo_g x) h r] σ
def bo_zr (v : Int32) : Option Int32 := if v = 0 ∨ v = 1 then some v else none
section BO3
variable {x : bo_X} {cc : ByteArray} {own : String} {nL fr lo : Nat} {pc : Nat} {L : List (Nat × Value)} {S S0 : List Value} {σ : bo_M} {α β : Type} {M M1 M2 : Option α} {k : α → Prop} {z : Bool}
theorem bo_ret {v : Int32} (hd : decode cc pc = .ok (.ireturn, 1)) (hz : z = true → bo_B v) : bo_D x pc L [.int v] σ (some v) (bo_Ri x cc σ z) := fun _ h1 h2 => by cases h1; exact h2 hz pc L hd
theorem bo_retw {v : Int32} (hd : decode cc pc = .ok (.ireturn, 1)) (hz : z = true → bo_B v) : bo_D x pc L [.int v] σ (some (v, σ)) (bo_Rw x cc z) := fun _ h1 h2 => by cases h1; exact h2 hz pc L hd
theorem bo_retz {v : Int32} (hd : decode cc pc = .ok (.ireturn, 1)) : bo_D x pc L [.int v] σ (bo_zr v) (bo_Ri x cc σ z) := by
  intro r h1 h2
  unfold bo_zr at h1
  by_cases h : v = 0 ∨ v = 1
  · rw [if_pos h] at h1
    cases h1
    exact h2 (fun _ => h) pc L hd
  · rw [if_neg h] at h1; cases h1
theorem bo_retv (hd : decode cc pc = .ok (.return_, 1)) : bo_D x pc L [] σ (some σ) (bo_Rv x cc) := fun _ h1 h2 => by cases h1; exact h2 pc L hd
theorem bo_retq {h : Int32 → Nat} {r : Option Int32} {v : Value} (hd : decode cc pc = .ok (.areturn, 1)) (hv : v = bo_qv (bo_g x) h r) : bo_D x pc L [v] σ (some r) (bo_Rq x cc σ h) := fun _ h1 h2 => by cases h1; rw [hv]; exact h2 pc L hd
end BO3
section BO4
variable {l : Launch} {g : bo_G} {y : MethodName} {cc : ByteArray} {nL fr lo : Nat} {ret : Option FieldType} {As : List Value} {σ : bo_M} {own : String} {z : Bool}
def bo_CR (l : Launch) (g : bo_G) (y : MethodName) (cc : ByteArray) (nL : Nat) (ret : Option FieldType) (fr lo : Nat) (As : List Value) (σ : bo_M) (z : Bool) (m : Option Int32) : Prop := ∀ r0, m = some r0 →
  Met l y (.code y cc nL ret :: bo_tb) (bo_rm fr lo) (va_Pc As (bo_Pre g σ)) (va_Qi (fun (r : Int32) (σ' : bo_M) => r = r0 ∧ σ' = σ ∧ (z = true → bo_B r)) (fun σ' t => bo_Pre g σ' t) (bo_A g)) 0 0 (bo_A g)
def bo_CW (l : Launch) (g : bo_G) (y : MethodName) (cc : ByteArray) (nL : Nat) (ret : Option FieldType) (fr lo : Nat) (As : List Value) (σ : bo_M) (z : Bool) (m : Option (Int32 × bo_M)) : Prop := ∀ r0, m = some r0 →
  Met l y (.code y cc nL ret :: bo_tb) (bo_rm fr lo) (va_Pc As (bo_Pre g σ)) (va_Qi (fun (r : Int32) (σ' : bo_M) => r = r0.1 ∧ σ' = r0.2 ∧ (z = true → bo_B r)) (fun σ' t => bo_Pre g σ' t) (bo_A g)) 0 0 (bo_A g)
def bo_CV (l : Launch) (g : bo_G) (y : MethodName) (cc : ByteArray) (nL : Nat) (ret : Option FieldType) (fr lo : Nat) (As : List Value) (σ : bo_M) (m : Option bo_M) : Prop := ∀ r0, m = some r0 →
  Met l y (.code y cc nL ret :: bo_tb) (bo_rm fr lo) (va_Pc As (bo_Pre g σ)) (va_Qv (fun (σ' : bo_M) => σ' = r0) (fun σ' t => bo_Pre g σ' t) (bo_A g)) 0 0 (bo_A g)
def bo_CQ (l : Launch) (g : bo_G) (y : MethodName) (cc : ByteArray) (nL : Nat) (ret : Option FieldType) (fr lo : Nat) (As : List Value) (σ : bo_M) (h : Int32 → Nat) (m : Option (Option Int32)) : Prop := ∀ r0, m = some r0 →
  Met l y (.code y cc nL ret :: bo_tb) (bo_rm fr lo) (va_Pc As (bo_Pre g σ)) (va_Qq (fun (r : Option Nat) (σ' : bo_M) => r = r0.map (fun c => g.2.2 (h c)) ∧ σ' = σ) (fun σ' t => bo_Pre g σ' t) (bo_A g)) 0 0 (bo_A g)
theorem bo_entry {Qc : Array Value → State → Outcome → State → Prop} (hy : plainName y.cls = true) (hown : y.cls = own) (hi : bo_inj g) (hlen : (lg_sl As).length ≤ nL)
    (hb : ∀ (p : Program) (e : Env) (s : State) (m : MethodId) (below : List Frame) (meth : Method) (c : Code), meth.locks = false → meth.sig.returnType = ret → c.code = cc →
      bo_OK (p, l, e, bo_rm fr lo, s, m, As.toArray, below, meth, c, g, bo_A g, 0, 0, MQ below Qc As.toArray s 0 0 (bo_A g)) cc own nL fr lo →
      bo_N (p, l, e, bo_rm fr lo, s, m, As.toArray, below, meth, c, g, bo_A g, 0, 0, MQ below Qc As.toArray s 0 0 (bo_A g)) 0 (lv_args 0 As) [] σ) :
    Met l y (.code y cc nL ret :: bo_tb) (bo_rm fr lo) (va_Pc As (bo_Pre g σ)) Qc 0 0 (bo_A g) := by
  refine Met.ofW (cc := cc) (maxL := nL) (ret := ret) hy rfl ?_
  intro p e s m args below meth c s₁ B hml hv
  obtain ⟨rfl, hP, hK, hNW⟩ := hv
  have hts := atoms_spec (ws := .code y cc nL ret :: bo_tb) B.pre
  have hown' : s.vm.findClass own = some m.cls := hown ▸ findClass_of_methodNamed B.named
  have hl := lv_entry As (n := nL) hlen
  rw [lg_entry_eq]
  exact hb p e s m below meth c B.notSynchronized B.returns B.bytes ⟨B.exec, B.bytes, hml, hown', fun w hw => hts w (List.mem_cons_of_mem _ hw), hK, hNW, hi, fun n hn => ⟨n, hn, rfl⟩, Nat.le_refl _, Nat.le_refl _, Nat.le_refl _, Nat.le_refl _⟩ s.heap [] _ hP va_S.rf (by rw [hml]; exact hl)
theorem bo_metR {ty : FieldType} {m : Option Int32} (hret : ret = some ty) (hty : (ty = .int ∧ z = false) ∨ (ty = .boolean ∧ z = true)) (hy : plainName y.cls = true) (hown : y.cls = own) (hi : bo_inj g) (hlen : (lg_sl As).length ≤ nL) (hb : ∀ x, bo_l x = l → bo_g x = g → bo_OK x cc own nL fr lo → bo_D x 0 (lv_args 0 As) [] σ m (bo_Ri x cc σ z)) : bo_CR l g y cc nL ret fr lo As σ z m := by
  intro r0 hm
  refine bo_entry hy hown hi hlen ?_
  intro p e s mm below meth c hlocks hr hbc hx
  refine hb _ rfl rfl hx r0 hm ?_
  intro hz pc L hd H locs ls hP hS hl
  have hK := hx.2.2.2.2.2.1
  have hNW := hx.2.2.2.2.2.2.1
  have hq : ∀ t : State, t.heap = H → s.WarmedH t.vm → va_Qi (fun (r : Int32) (σ' : bo_M) => r = r0 ∧ σ' = σ ∧ (z = true → bo_B r)) (fun σ' t => bo_Pre g σ' t) (bo_A g) As.toArray s (.returned (some (.int r0))) t :=
    fun t ht hW => ⟨⟨r0, σ, rfl, ⟨rfl, rfl, hz⟩, ⟨by rw [ht]; exact hP, va_K.moved hW.alike hK, hNW.warm hW⟩⟩, hS.F ht⟩
  rcases hty with ⟨rfl, rfl⟩ | ⟨rfl, rfl⟩
  · exact W.zret (ty := .int) hx.1 hbc (hr.trans hret) rfl hq hS.2.2 hd hlocks
  · exact W.zret (ty := .boolean) hx.1 hbc (hr.trans hret) (by rw [show narrow .boolean (.int r0) = .int (r0 &&& 1) from rfl, (hz rfl).and]) hq hS.2.2 hd hlocks
theorem bo_metW {ty : FieldType} {m : Option (Int32 × bo_M)} (hret : ret = some ty) (hty : (ty = .int ∧ z = false) ∨ (ty = .boolean ∧ z = true)) (hy : plainName y.cls = true) (hown : y.cls = own) (hi : bo_inj g) (hlen : (lg_sl As).length ≤ nL) (hb : ∀ x, bo_l x = l → bo_g x = g → bo_OK x cc own nL fr lo → bo_D x 0 (lv_args 0 As) [] σ m (bo_Rw x cc z)) : bo_CW l g y cc nL ret fr lo As σ z m := by
  intro r0 hm
  refine bo_entry hy hown hi hlen ?_
  intro p e s mm below meth c hlocks hr hbc hx
  refine hb _ rfl rfl hx r0 hm ?_
  intro hz pc L hd H locs ls hP hS hl
  have hK := hx.2.2.2.2.2.1
  have hNW := hx.2.2.2.2.2.2.1
  have hq : ∀ t : State, t.heap = H → s.WarmedH t.vm → va_Qi (fun (r : Int32) (σ' : bo_M) => r = r0.1 ∧ σ' = r0.2 ∧ (z = true → bo_B r)) (fun σ' t => bo_Pre g σ' t) (bo_A g) As.toArray s (.returned (some (.int r0.1))) t :=
    fun t ht hW => ⟨⟨r0.1, r0.2, rfl, ⟨rfl, rfl, hz⟩, ⟨by rw [ht]; exact hP, va_K.moved hW.alike hK, hNW.warm hW⟩⟩, hS.F ht⟩
  rcases hty with ⟨rfl, rfl⟩ | ⟨rfl, rfl⟩
  · exact W.zret (ty := .int) hx.1 hbc (hr.trans hret) rfl hq hS.2.2 hd hlocks
  · exact W.zret (ty := .boolean) hx.1 hbc (hr.trans hret) (by rw [show narrow .boolean (.int r0.1) = .int (r0.1 &&& 1) from rfl, (hz rfl).and]) hq hS.2.2 hd hlocks
theorem bo_metV {m : Option bo_M} (hret : ret = none) (hy : plainName y.cls = true) (hown : y.cls = own) (hi : bo_inj g) (hlen : (lg_sl As).length ≤ nL) (hb : ∀ x, bo_l x = l → bo_g x = g → bo_OK x cc own nL fr lo → bo_D x 0 (lv_args 0 As) [] σ m (bo_Rv x cc)) : bo_CV l g y cc nL ret fr lo As σ m := by
  intro r0 hm
  refine bo_entry hy hown hi hlen ?_
  intro p e s mm below meth c hlocks hr hbc hx
  refine hb _ rfl rfl hx r0 hm ?_
  intro pc L hd H locs ls hP hS hl
  have hK := hx.2.2.2.2.2.1
  have hNW := hx.2.2.2.2.2.2.1
  exact W.vret hx.1 hbc (hr.trans hret) (fun t ht hW => ⟨⟨r0, rfl, rfl, ⟨by rw [ht]; exact hP, va_K.moved hW.alike hK, hNW.warm hW⟩⟩, hS.F ht⟩) hS.2.2 hd hlocks
theorem bo_metQ {n : String} {m : Option (Option Int32)} {h : Int32 → Nat} (hret : ret = some (.object n)) (hy : plainName y.cls = true) (hown : y.cls = own) (hi : bo_inj g) (hlen : (lg_sl As).length ≤ nL) (hb : ∀ x, bo_l x = l → bo_g x = g → bo_OK x cc own nL fr lo → bo_D x 0 (lv_args 0 As) [] σ m (bo_Rq x cc σ h)) : bo_CQ l g y cc nL ret fr lo As σ h m := by
  intro r0 hm
  refine bo_entry hy hown hi hlen ?_
  intro p e s mm below meth c hlocks hr hbc hx
  refine hb _ rfl rfl hx r0 hm ?_
  intro pc L hd H locs ls hP hS hl
  have hK := hx.2.2.2.2.2.1
  have hNW := hx.2.2.2.2.2.2.1
  refine W.aret hx.1 hbc (hr.trans hret) (Or.inl ⟨n, rfl⟩) ?_ (fun t ht hW => ⟨⟨r0.map (fun c => g.2.2 (h c)), σ, rfl, ⟨rfl, rfl⟩, ⟨by rw [ht]; exact hP, va_K.moved hW.alike hK, hNW.warm hW⟩⟩, hS.F ht⟩) hS.2.2 hd hlocks
  cases r0 with
  | none => exact Or.inl rfl
  | some c => exact Or.inr ⟨_, rfl⟩
end BO4
/-! the words of a call -/
def bo_mV (y : MethodName) (cy : ByteArray) (ny : Nat) (rt : Option FieldType) (n : Nat) (C : String) : Prop := Cond.instanceMethod y ∈ bo_tb ∧ Cond.selects C y y ∈ bo_tb ∧ Cond.initialized C ∈ bo_tb ∧ Cond.code y cy ny rt ∈ bo_tb ∧ y.cls = C ∧ y.cls ≠ "java/lang/invoke/MethodHandle" ∧ y.cls ≠ "java/lang/invoke/VarHandle" ∧ (parseMethodDescriptor y.desc).map (fun d => d.parameters.length) = some n
def bo_mS (y : MethodName) (cy : ByteArray) (ny : Nat) (rt : Option FieldType) (n : Nat) : Prop := Cond.static y ∈ bo_tb ∧ Cond.initialized y.cls ∈ bo_tb ∧ Cond.code y cy ny rt ∈ bo_tb ∧ y.cls ≠ "java/lang/invoke/MethodHandle" ∧ y.cls ≠ "java/lang/invoke/VarHandle" ∧ (parseMethodDescriptor y.desc).map (fun d => d.parameters.length) = some n
def bo_Run (x : bo_X) (pc : Nat) (L : List (Nat × Value)) (S0 S : List Value) (σ : bo_M) (Qa : State → Outcome → State → Prop) : Prop := match x with
  | (p, l, e, R, s, m, args, below, meth, c, g, _, cells, slots, _) => ∀ (H : Heap) (locs : List Loc) (ls : Array Slot), va_P g.2.1 bo_cl (bo_ws g σ) H → lv_has ls c.maxLocals L → va_Run p l e R s m args below meth c H locs cells slots 0 0 (F0 m pc ls S0) S Qa (bo_A g)
section BO5
variable {x : bo_X} {cc : ByteArray} {own : String} {nL fr lo : Nat} {pc : Nat} {L : List (Nat × Value)} {S S0 : List Value} {σ : bo_M} {α β : Type} {k : α → Prop} {z : Bool}
  {y : MethodName} {cy : ByteArray} {ny n fy ly idx : Nat} {rt : Option FieldType} {C : String} {As : List Value} {Qc : Array Value → State → Outcome → State → Prop}
theorem bo_blind {As : List Value} {g : bo_G} {σ : bo_M} : FrameBlind (va_Pc As (bo_Pre g σ)) := fun a U f mk q => ⟨q.1, q.2.1, va_K.moved (u := U) (U := U.calling f mk a) (Vm.Alike.refl U.vm) q.2.2.1, bo_NW.same (U := U.calling f mk a) rfl q.2.2.2⟩
theorem bo_runV (hx : bo_OK x cc own nL fr lo) (hd : decode cc pc = .ok (.invokevirtual idx, 3)) (hl0 : Cond.methodLink own idx y ∈ bo_tb) (hm : bo_mV y cy ny rt n C) {o ci : Nat} {ts : List (Nat × Nat)} {q : vw_C} (ho : bo_isO o ci ts) (hc : bo_cl[ci]? = some q) (hq : q.1 = C)
    (hC : Met (bo_l x) y (.code y cy ny rt :: bo_tb) (bo_rm fy ly) (va_Pc (.ref (bo_a x o) :: As) (bo_Pre (bo_g x) σ)) Qc 0 0 (bo_A (bo_g x))) (hroom : fy + 1 ≤ fr ∧ 8 + (ny + 11) + ly ≤ lo) (hn : As.length = n) (hS0 : As.reverse ++ .ref (bo_a x o) :: S = S0) (hcat : (S.map fun v => v.category).sum ≤ 8) :
    bo_Run x pc L S0 S σ (Qc (Value.ref (bo_a x o) :: As).toArray) := by
  obtain ⟨p, l, e, R, s, m, args, below, meth, c, g, A, cells, slots, Q⟩ := x
  obtain ⟨hex, hb, hml, hown, hts, hK, hNW, hi, hA, hfr, hlo, hce, hsl⟩ := hx
  obtain ⟨w1, w2, w3, w4, w5⟩ := hm
  intro H locs ls hP hl
  subst hS0
  refine va_runV (As := As) (rest := S) ⟨hex, hb, hml, hown, hts⟩ hC (cwV n hts (bo_goodIn (fun w hw => ?_)) rfl rfl rfl w5 ⟨Nat.le_trans hroom.1 hfr, Nat.le_trans hroom.2 hlo⟩) ⟨bo_blind, ?_, fun U hU hW => ⟨rfl, by rw [hU]; exact hP, va_K.moved hW.alike hK, hNW.warm hW⟩⟩ rfl hn (hl.1.trans hml) rfl (lv_room hcat) hd ⟨hce, hsl⟩
  · unfold wsV at hw
    rcases List.mem_append.mp hw with h | h
    · simp only [List.mem_cons, List.not_mem_nil, or_false] at h
      rcases h with rfl | rfl | rfl | rfl
      · exact hl0
      · exact w1
      · exact w2
      · exact w3
    · rcases List.mem_cons.mp h with rfl | h
      · exact w4
      · exact h
  · rw [← hq]
    exact va_recv hK hP hc (bo_at_o ho)
theorem bo_runS (hx : bo_OK x cc own nL fr lo) (hd : decode cc pc = .ok (.invokestatic idx, 3)) (hl0 : Cond.methodLink own idx y ∈ bo_tb) (hm : bo_mS y cy ny rt n)
    (hC : Met (bo_l x) y (.code y cy ny rt :: bo_tb) (bo_rm fy ly) (va_Pc As (bo_Pre (bo_g x) σ)) Qc 0 0 (bo_A (bo_g x))) (hroom : fy + 1 ≤ fr ∧ 8 + (ny + 11) + ly ≤ lo) (hn : As.length = n) (hS0 : As.reverse ++ S = S0) (hcat : (S.map fun v => v.category).sum ≤ 8) :
    bo_Run x pc L S0 S σ (Qc As.toArray) := by
  obtain ⟨p, l, e, R, s, m, args, below, meth, c, g, A, cells, slots, Q⟩ := x
  obtain ⟨hex, hb, hml, hown, hts, hK, hNW, hi, hA, hfr, hlo, hce, hsl⟩ := hx
  obtain ⟨w1, w2, w3, w4⟩ := hm
  intro H locs ls hP hl
  subst hS0
  refine va_runS (As := As) (rest := S) ⟨hex, hb, hml, hown, hts⟩ hC (va_cwS n hts (bo_goodIn (fun w hw => ?_)) rfl rfl rfl w4 ⟨Nat.le_trans hroom.1 hfr, Nat.le_trans hroom.2 hlo⟩) ⟨bo_blind, fun U hU hW => ⟨rfl, by rw [hU]; exact hP, va_K.moved hW.alike hK, hNW.warm hW⟩⟩ rfl hn (hl.1.trans hml) rfl (lv_room hcat) hd ⟨hce, hsl⟩
  unfold va_wsS at hw
  rcases List.mem_append.mp hw with h | h
  · simp only [List.mem_cons, List.not_mem_nil, or_false] at h
    rcases h with rfl | rfl | rfl
    · exact hl0
    · exact w1
    · exact w2
  · rcases List.mem_cons.mp h with rfl | h
    · exact w3
    · exact h
theorem bo_runN (hx : bo_OK x cc own nL fr lo) (hd : decode cc pc = .ok (.invokestatic idx, 3)) (hl0 : (own, idx, y) ∈ bo_nests) (hm : bo_mS y cy ny rt n)
    (hC : Met (bo_l x) y (.code y cy ny rt :: bo_tb) (bo_rm fy ly) (va_Pc As (bo_Pre (bo_g x) σ)) Qc 0 0 (bo_A (bo_g x))) (hroom : fy + 1 ≤ fr ∧ 8 + (ny + 11) + ly ≤ lo) (hn : As.length = n) (hS0 : As.reverse ++ S = S0) (hcat : (S.map fun v => v.category).sum ≤ 8) :
    bo_Run x pc L S0 S σ (Qc As.toArray) := by
  obtain ⟨p, l, e, R, s, m, args, below, meth, c, g, A, cells, slots, Q⟩ := x
  obtain ⟨hex, hb, hml, hown, hts, hK, hNW, hi, hA, hfr, hlo, hce, hsl⟩ := hx
  obtain ⟨w1, w2, w3, w4⟩ := hm
  intro H locs ls hP hl
  subst hS0
  refine va_runSN (As := As) (rest := S) ⟨hex, hb, hml, hown, hts⟩ hC ⟨va_cnB (host := "BellRope") n hts (bo_goodIn (fun w hw => ?_)) rfl rfl rfl (hNW _ hl0) (hts _ w2) w4 ⟨Nat.le_trans hroom.1 hfr, Nat.le_trans hroom.2 hlo⟩, hts _ w1, trivial⟩ ⟨bo_blind, fun U hU hW => ⟨rfl, by rw [hU]; exact hP, va_K.moved hW.alike hK, hNW.warm hW⟩⟩ rfl hn (hl.1.trans hml) rfl (lv_room hcat) hd ⟨hce, hsl⟩
  rcases List.mem_cons.mp hw with rfl | h
  · exact w3
  · exact h
theorem bo_sub_A {x : bo_X} {A : Nat → Prop} {g : bo_G} (hA : ∀ n, n < 168 → A (g.2.2 n)) (q : Nat) (h : bo_A g q) : A q := by
  obtain ⟨n, hn, rfl⟩ := h
  exact hA n hn
theorem bo_goR {m : Option Int32} {K : Int32 → Option α} {a : Array Value} (hx : bo_OK x cc own nL fr lo) (hr : ∀ r0, m = some r0 → bo_Run x pc L S0 S σ (va_Qi (fun (r : Int32) (σ' : bo_M) => r = r0 ∧ σ' = σ ∧ (z = true → bo_B r)) (fun σ' t => bo_Pre (bo_g x) σ' t) (bo_A (bo_g x)) a))
    (kk : ∀ r, (z = true → bo_B r) → bo_D x (pc + 3) L (.int r :: S) σ (K r) k) : bo_D x pc L S0 σ (m.bind K) k := by
  obtain ⟨p, l, e, R, s, mm, args, below, meth, c, g, A, cells, slots, Q⟩ := x
  obtain ⟨hex, hb, hml, hown, hts, hK, hNW, hi, hA, hfr, hlo, hce, hsl⟩ := hx
  intro r h1 h2 H locs ls hP hS hl
  obtain ⟨r0, hm0, hK0⟩ := bo_bind h1
  refine va_calli (hr r0 hm0 H locs ls hP hl) hS (fun q _ h => bo_sub_A (x := (p, l, e, R, s, mm, args, below, meth, c, g, A, cells, slots, Q)) hA q h) (fun q h => bo_sub_A (x := (p, l, e, R, s, mm, args, below, meth, c, g, A, cells, slots, Q)) hA q h) (fun v u t H1 locs1 ht hvm hw hB hz1 hk1 hS1 => ?_)
  obtain ⟨rfl, rfl, hz⟩ := hw
  obtain ⟨hP1, -, -⟩ := hB
  rw [ht] at hP1
  exact kk v hz r hK0 h2 H1 locs1 ls hP1 hS1 hl
theorem bo_goW {m : Option (Int32 × bo_M)} {K : Int32 × bo_M → Option α} {a : Array Value} (hx : bo_OK x cc own nL fr lo) (hr : ∀ r0, m = some r0 → bo_Run x pc L S0 S σ (va_Qi (fun (r : Int32) (σ' : bo_M) => r = r0.1 ∧ σ' = r0.2 ∧ (z = true → bo_B r)) (fun σ' t => bo_Pre (bo_g x) σ' t) (bo_A (bo_g x)) a))
    (kk : ∀ r : Int32 × bo_M, (z = true → bo_B r.1) → bo_D x (pc + 3) L (.int r.1 :: S) r.2 (K r) k) : bo_D x pc L S0 σ (m.bind K) k := by
  obtain ⟨p, l, e, R, s, mm, args, below, meth, c, g, A, cells, slots, Q⟩ := x
  obtain ⟨hex, hb, hml, hown, hts, hK, hNW, hi, hA, hfr, hlo, hce, hsl⟩ := hx
  intro r h1 h2 H locs ls hP hS hl
  obtain ⟨r0, hm0, hK0⟩ := bo_bind h1
  refine va_calli (hr r0 hm0 H locs ls hP hl) hS (fun q _ h => bo_sub_A (x := (p, l, e, R, s, mm, args, below, meth, c, g, A, cells, slots, Q)) hA q h) (fun q h => bo_sub_A (x := (p, l, e, R, s, mm, args, below, meth, c, g, A, cells, slots, Q)) hA q h) (fun v u t H1 locs1 ht hvm hw hB hz1 hk1 hS1 => ?_)
  obtain ⟨rfl, rfl, hz⟩ := hw
  obtain ⟨hP1, -, -⟩ := hB
  rw [ht] at hP1
  exact kk r0 hz r hK0 h2 H1 locs1 ls hP1 hS1 hl
theorem bo_goV {m : Option bo_M} {K : bo_M → Option α} {a : Array Value} (hx : bo_OK x cc own nL fr lo) (hr : ∀ r0, m = some r0 → bo_Run x pc L S0 S σ (va_Qv (fun (σ' : bo_M) => σ' = r0) (fun σ' t => bo_Pre (bo_g x) σ' t) (bo_A (bo_g x)) a))
    (kk : ∀ σ', bo_D x (pc + 3) L S σ' (K σ') k) : bo_D x pc L S0 σ (m.bind K) k := by
  obtain ⟨p, l, e, R, s, mm, args, below, meth, c, g, A, cells, slots, Q⟩ := x
  obtain ⟨hex, hb, hml, hown, hts, hK, hNW, hi, hA, hfr, hlo, hce, hsl⟩ := hx
  intro r h1 h2 H locs ls hP hS hl
  obtain ⟨r0, hm0, hK0⟩ := bo_bind h1
  refine va_callv (hr r0 hm0 H locs ls hP hl) hS (fun q _ h => bo_sub_A (x := (p, l, e, R, s, mm, args, below, meth, c, g, A, cells, slots, Q)) hA q h) (fun q h => bo_sub_A (x := (p, l, e, R, s, mm, args, below, meth, c, g, A, cells, slots, Q)) hA q h) (fun u t H1 locs1 ht hvm hw hB hz1 hk1 hS1 => ?_)
  subst hw
  obtain ⟨hP1, -, -⟩ := hB
  rw [ht] at hP1
  exact kk u r hK0 h2 H1 locs1 ls hP1 hS1 hl
abbrev bo_oc {β : Type} (r : Option Int32) (M0 : Option β) (M1 : Int32 → Option β) : Option β := match r with
  | none => M0
  | some c => M1 c
theorem bo_goQ {m : Option (Option Int32)} {M0 : Option α} {M1 : Int32 → Option α} {h : Int32 → Nat} {a : Array Value} (hx : bo_OK x cc own nL fr lo) (hr : ∀ r0, m = some r0 → bo_Run x pc L S0 S σ (va_Qq (fun (r : Option Nat) (σ' : bo_M) => r = r0.map (fun c => (bo_g x).2.2 (h c)) ∧ σ' = σ) (fun σ' t => bo_Pre (bo_g x) σ' t) (bo_A (bo_g x)) a))
    (k0 : bo_D x (pc + 3) L (.null :: S) σ M0 k) (k1 : ∀ c, bo_D x (pc + 3) L (.ref (bo_a x (h c)) :: S) σ (M1 c) k) : bo_D x pc L S0 σ (m.bind fun q => bo_oc q M0 M1) k := by
  obtain ⟨p, l, e, R, s, mm, args, below, meth, c, g, A, cells, slots, Q⟩ := x
  obtain ⟨hex, hb, hml, hown, hts, hK, hNW, hi, hA, hfr, hlo, hce, hsl⟩ := hx
  intro r h1 h2 H locs ls hP hS hl
  obtain ⟨r0, hm0, hK0⟩ := bo_bind h1
  refine va_callq (hr r0 hm0 H locs ls hP hl) hS (fun q _ h => bo_sub_A (x := (p, l, e, R, s, mm, args, below, meth, c, g, A, cells, slots, Q)) hA q h) (fun q h => bo_sub_A (x := (p, l, e, R, s, mm, args, below, meth, c, g, A, cells, slots, Q)) hA q h) (fun v u t H1 locs1 ht hvm hw hB hz1 hk1 hS1 => ?_)
  obtain ⟨rfl, rfl⟩ := hw
  obtain ⟨hP1, -, -⟩ := hB
  rw [ht] at hP1
  cases r0 with
  | none => exact k0 r hK0 h2 H1 locs1 ls hP1 hS1 hl
  | some c0 => exact k1 c0 r hK0 h2 H1 locs1 ls hP1 hS1 hl
theorem bo_OK.inj (hx : bo_OK x cc own nL fr lo) : bo_inj (bo_g x) := by
  obtain ⟨p, l, e, R, s, mm, args, below, meth, c, g, A, cells, slots, Q⟩ := x
  exact hx.2.2.2.2.2.2.2.1
end BO5
/-- more than any loop of the class or the reference needs; nothing unfolds it -/
noncomputable def bo_fuel : Nat := Classical.choose (⟨3000, Nat.le_refl _⟩ : ∃ n : Nat, 3000 ≤ n)
theorem bo_fuel_le : 3000 ≤ bo_fuel := Classical.choose_spec (⟨3000, Nat.le_refl _⟩ : ∃ n : Nat, 3000 ≤ n)
end
section
/-! what each method does to the memory: printed by wip/whole/gen out of the bytecode -/
noncomputable section
-- BellRope$Rows.put
def mX8_put (σ : bo_M) (n0 r0 : Nat) (p1 : Int32) (p2 : Int32) : Option bo_M :=
  if p1 < 0 then
   some σ
  else
   if (Int32.ofNat n0) ≤ p1 then
    some σ
   else
    (bo_st n0 σ r0 p1 p2).bind fun σ1 =>
    some σ1
-- BellRope$Reader.append
def mX7_append (σ : bo_M) (p1 : Int32) : Option (Int32 × bo_M) :=
  if (σ 1 4) < 240 then
   (mX8_put σ 240 2 (σ 1 4) p1).bind fun σ1 =>
   (some (bo_up σ1 1 4 ((σ1 1 4) + 1))).bind fun σ2 =>
   some (1, σ2)
  else
   some (0, σ)
-- BellRope.feed
def mX10_feed (σ : bo_M) (p1 : Int32) : Option (Int32 × bo_M) :=
  if p1 < 0 then
   some ((-1000000002), σ)
  else
   if p1 ≤ 255 then
    (mX7_append σ p1).bind fun a1 =>
    if a1.1 = 0 then
     some ((-1000000004), a1.2)
    else
     some ((a1.2 1 4), a1.2)
   else
    some ((-1000000002), σ)
-- BellRope$Rows.zero
def mX8_zero_L7 (n0 : Nat) (f0 : Nat) : Nat → Int32 → bo_M → Option (bo_M)
  | 0, _, _ => none
  | n + 1, w1, σ =>
    if (Int32.ofNat n0) ≤ w1 then
     some σ
    else
     (bo_st n0 σ f0 w1 0).bind fun σ1 =>
     mX8_zero_L7 n0 f0 n (w1 + 1) σ1
def mX8_zero (σ : bo_M) (n0 r0 : Nat) : Option bo_M :=
  (mX8_zero_L7 n0 r0 bo_fuel 0 σ).bind fun a2 =>
  some a2
-- BellRope$Inn.empty
def mX4_empty (σ : bo_M) (o : Nat) : Option bo_M :=
  (some (bo_up σ o 7 0)).bind fun σ1 =>
  (some (bo_up σ1 o 8 0)).bind fun σ2 =>
  (some (bo_up σ2 o 9 0)).bind fun σ3 =>
  (some (bo_up σ3 o 10 0)).bind fun σ4 =>
  (some (bo_up σ4 o 11 0)).bind fun σ5 =>
  (some (bo_up σ5 o 12 0)).bind fun σ6 =>
  (some (bo_up σ6 o 13 0)).bind fun σ7 =>
  (some (bo_up σ7 o 14 0)).bind fun σ8 =>
  (mX8_zero σ8 96 (o + 7)).bind fun σ9 =>
  some σ9
-- BellRope$Rows.at
def mX8_at (σ : bo_M) (n0 r0 : Nat) (p1 : Int32) : Option Int32 :=
  if p1 < 0 then
   some 0
  else
   if (Int32.ofNat n0) ≤ p1 then
    some 0
   else
    (bo_ld n0 σ r0 p1).bind fun v1 =>
    some v1
-- BellRope$Reader.skipBlanks
def mX7_skipBlanks_L0  : Nat → bo_M → Option (bo_M)
  | 0, _ => none
  | n + 1, σ =>
    if (σ 1 4) ≤ (σ 1 1) then
     some σ
    else
     (mX8_at σ 240 2 (σ 1 1)).bind fun v1 =>
     if v1 = 32 then
      (some (bo_up σ 1 1 ((σ 1 1) + 1))).bind fun σ2 =>
      mX7_skipBlanks_L0 n σ2
     else
      some σ
def mX7_skipBlanks (σ : bo_M) : Option bo_M :=
  (mX7_skipBlanks_L0 bo_fuel σ).bind fun a3 =>
  some a3
-- BellRope$Reader.wrong
def mX7_wrong (σ : bo_M) (p1 : Int32) (p2 : Int32) : Option bo_M :=
  if (σ 1 3) = 0 then
   (some (bo_up σ 1 3 p1)).bind fun σ1 =>
   (some (bo_up σ1 1 5 p2)).bind fun σ2 =>
   some σ2
  else
   some σ
-- BellRope$Reader.startClause
def mX7_startClause (σ : bo_M) (p1 : Int32) : Option bo_M :=
  Option.bind (α := bo_M) (if p1 = 0 then
   some σ
  else
   (mX7_wrong σ 3 (σ 1 1)).bind fun σ2 =>
   some σ2) fun a1 =>
  (some (bo_up a1 1 1 ((a1 1 1) + 1))).bind fun σ3 =>
  some σ3
-- BellRope$Reader.isFigure
def mX7_isFigure (σ : bo_M) (p0 : Int32) : Option Int32 :=
  if p0 < 48 then
   some 0
  else
   if 57 < p0 then
    some 0
   else
    some 1
-- BellRope$Reader.readNumber
def mX7_readNumber_L17 (f1 : Int32) (f2 : Int32) : Nat → Int32 → Int32 → bo_M → Option (Int32 × Int32 × bo_M)
  | 0, _, _, _ => none
  | n + 1, w3, w4, σ =>
    if (σ 1 4) ≤ (σ 1 1) then
     some (w3, w4, σ)
    else
     (mX8_at σ 240 2 (σ 1 1)).bind fun v3 =>
     (mX7_isFigure σ v3).bind fun v4 =>
     if v4 = 0 then
      some (w3, w4, σ)
     else
      Option.bind (α := Int32) (if 3 < (w3 + 1) then
       some w4
      else
       (mX8_at σ 240 2 (σ 1 1)).bind fun v6 =>
       some (((w4 * 10) + v6) - 48)) fun a5 =>
      (some (bo_up σ 1 1 ((σ 1 1) + 1))).bind fun σ7 =>
      mX7_readNumber_L17 f1 f2 n (w3 + 1) a5 σ7
def mX7_readNumber (σ : bo_M) (p1 : Int32) (p2 : Int32) : Option (Int32 × bo_M) :=
  (mX7_skipBlanks σ).bind fun σ1 =>
  (some (bo_up σ1 1 2 (σ1 1 1))).bind fun σ2 =>
  (mX7_readNumber_L17 p1 p2 bo_fuel 0 0 σ2).bind fun a8 =>
  Option.bind (α := bo_M) (if a8.1 = 0 then
   (mX7_wrong a8.2.2 1 (a8.2.2 1 2)).bind fun σ13 =>
   some σ13
  else
   if 3 < a8.1 then
    (mX7_wrong a8.2.2 2 (a8.2.2 1 2)).bind fun σ10 =>
    some σ10
   else
    if a8.2.1 < p1 then
     (mX7_wrong a8.2.2 2 (a8.2.2 1 2)).bind fun σ11 =>
     some σ11
    else
     if a8.2.1 ≤ p2 then
      some a8.2.2
     else
      (mX7_wrong a8.2.2 2 (a8.2.2 1 2)).bind fun σ12 =>
      some σ12) fun a9 =>
  some (a8.2.1, a9)
-- BellRope$Reader.endClause
def mX7_endClause (σ : bo_M) : Option bo_M :=
  (mX7_skipBlanks σ).bind fun σ1 =>
  Option.bind (α := bo_M) (if (σ1 1 4) ≤ (σ1 1 1) then
   (mX7_wrong σ1 1 (σ1 1 1)).bind fun σ3 =>
   some σ3
  else
   (mX8_at σ1 240 2 (σ1 1 1)).bind fun v4 =>
   if v4 = 59 then
    some σ1
   else
    (mX7_wrong σ1 1 (σ1 1 1)).bind fun σ5 =>
    some σ5) fun a2 =>
  (some (bo_up a2 1 1 ((a2 1 1) + 1))).bind fun σ6 =>
  some σ6
-- BellRope$Reader.readBell
def mX7_readBell (σ : bo_M) (r1 : Nat) : Option bo_M :=
  (mX7_startClause σ (σ r1 7 &&& 1)).bind fun σ1 =>
  (some (bo_up σ1 r1 7 1)).bind fun σ2 =>
  (mX7_readNumber σ2 0 1).bind fun a3 =>
  (some (bo_up a3.2 r1 8 a3.1)).bind fun σ4 =>
  (mX7_readNumber σ4 0 9).bind fun a5 =>
  (some (bo_up a5.2 r1 9 a5.1)).bind fun σ6 =>
  (mX7_readNumber σ6 0 127).bind fun a7 =>
  (some (bo_up a7.2 r1 10 a7.1)).bind fun σ8 =>
  (mX7_endClause σ8).bind fun σ9 =>
  some σ9
-- BellRope$Reader.readDrinker
def mX7_readDrinker (σ : bo_M) (r1 : Nat) : Option bo_M :=
  Option.bind (α := Int32) (if (σ r1 11) < 7 then
   some 0
  else
   some 1) fun a1 =>
  (mX7_startClause σ a1).bind fun σ2 =>
  (mX7_readNumber σ2 1 40).bind fun a3 =>
  (mX8_put a3.2 7 (r1 + 1) (σ2 r1 11) a3.1).bind fun σ4 =>
  (mX7_readNumber σ4 1 20).bind fun a5 =>
  (mX8_put a5.2 7 (r1 + 2) (σ4 r1 11) a5.1).bind fun σ6 =>
  (mX7_readNumber σ6 0 100).bind fun a7 =>
  (mX8_put a7.2 7 (r1 + 3) (σ6 r1 11) a7.1).bind fun σ8 =>
  (mX7_endClause σ8).bind fun σ9 =>
  (some (bo_up σ9 r1 11 ((σ9 r1 11) + 1))).bind fun σ10 =>
  some σ10
-- BellRope$Reader.readSexton
def mX7_readSexton_L57 (f1 : Nat) (f2 : Int32) (f3 : Int32) : Nat → Int32 → bo_M → Option (bo_M)
  | 0, _, _ => none
  | n + 1, w4, σ =>
    if f3 ≤ w4 then
     some σ
    else
     if 96 ≤ w4 then
      some σ
     else
      (mX8_put σ 96 (f1 + 7) (f2 + w4) 1).bind fun σ7 =>
      mX7_readSexton_L57 f1 f2 f3 n (w4 + 1) σ7
def mX7_readSexton (σ : bo_M) (r1 : Nat) : Option bo_M :=
  Option.bind (α := Int32) (if (σ r1 12) < 4 then
   some 0
  else
   some 1) fun a1 =>
  (mX7_startClause σ a1).bind fun σ2 =>
  (mX7_readNumber σ2 0 95).bind fun a3 =>
  (mX7_readNumber a3.2 1 (if (96 - a3.1) < 24 then (96 - a3.1) else 24)).bind fun a4 =>
  (mX7_endClause a4.2).bind fun σ5 =>
  (some (bo_up σ5 r1 12 ((σ5 r1 12) + 1))).bind fun σ6 =>
  (mX7_readSexton_L57 r1 a3.1 a4.1 bo_fuel 0 σ6).bind fun a8 =>
  some a8
-- BellRope$Reader.readGoer
def mX7_readGoer (σ : bo_M) (r1 : Nat) : Option bo_M :=
  Option.bind (α := Int32) (if (σ r1 13) < 6 then
   some 0
  else
   some 1) fun a1 =>
  (mX7_startClause σ a1).bind fun σ2 =>
  (mX7_readNumber σ2 0 95).bind fun a3 =>
  (mX8_put a3.2 6 (r1 + 4) (σ2 r1 13) a3.1).bind fun σ4 =>
  (mX7_readNumber σ4 0 40).bind fun a5 =>
  (mX8_put a5.2 6 (r1 + 5) (σ4 r1 13) a5.1).bind fun σ6 =>
  (mX7_endClause σ6).bind fun σ7 =>
  (some (bo_up σ7 r1 13 ((σ7 r1 13) + 1))).bind fun σ8 =>
  some σ8
-- BellRope$Inn.signalsOf
def mX4_signalsOf_L4 (σ : bo_M) (f0 : Nat) (f1 : Int32) : Nat → Int32 → Int32 → Option (Int32)
  | 0, _, _ => none
  | n + 1, w2, w3 =>
    if (σ f0 14) ≤ w3 then
     some w2
    else
     (mX8_at σ 5 (f0 + 6) w3).bind fun v1 =>
     Option.bind (α := Int32) (if v1 = f1 then
      some (w2 ||| (1 <<< (w3 &&& 31)))
     else
      some w2) fun a2 =>
     mX4_signalsOf_L4 σ f0 f1 n a2 (w3 + 1)
def mX4_signalsOf (σ : bo_M) (o : Nat) (p1 : Int32) : Option Int32 :=
  (mX4_signalsOf_L4 σ o p1 bo_fuel 0 0).bind fun a3 =>
  some a3
-- BellRope$Reader.readSignal
def mX7_readSignal (σ : bo_M) (r1 : Nat) : Option bo_M :=
  Option.bind (α := Int32) (if (σ r1 14) < 5 then
   some 0
  else
   some 1) fun a1 =>
  (mX7_startClause σ a1).bind fun σ2 =>
  (mX7_readNumber σ2 1 16).bind fun a3 =>
  (mX4_signalsOf a3.2 r1 a3.1).bind fun v4 =>
  Option.bind (α := bo_M) (if v4 = 0 then
   some a3.2
  else
   (mX7_wrong a3.2 4 (a3.2 1 2)).bind fun σ6 =>
   some σ6) fun a5 =>
  (mX7_endClause a5).bind fun σ7 =>
  (mX8_put σ7 5 (r1 + 6) (σ7 r1 14) a3.1).bind fun σ8 =>
  (some (bo_up σ8 r1 14 ((σ8 r1 14) + 1))).bind fun σ9 =>
  some σ9
-- BellRope$Reader.readClause
def mX7_readClause (σ : bo_M) (r1 : Nat) : Option bo_M :=
  (mX8_at σ 240 2 (σ 1 1)).bind fun v1 =>
  if (σ r1 7 &&& 1) = 0 then
   if v1 = 98 then
    if v1 = 98 then
     (mX7_readBell σ r1).bind fun σ14 =>
     some σ14
    else
     if v1 = 100 then
      (mX7_readDrinker σ r1).bind fun σ16 =>
      some σ16
     else
      if v1 = 103 then
       (mX7_readGoer σ r1).bind fun σ18 =>
       some σ18
      else
       if v1 = 110 then
        (mX7_readSignal σ r1).bind fun σ20 =>
        some σ20
       else
        if v1 = 115 then
         (mX7_readSexton σ r1).bind fun σ22 =>
         some σ22
        else
         (mX7_wrong σ 1 (σ 1 1)).bind fun σ23 =>
         some σ23
   else
    (mX7_wrong σ 1 (σ 1 1)).bind fun σ24 =>
    some σ24
  else
   if v1 = 98 then
    (mX7_readBell σ r1).bind fun σ3 =>
    some σ3
   else
    if v1 = 100 then
     (mX7_readDrinker σ r1).bind fun σ5 =>
     some σ5
    else
     if v1 = 103 then
      (mX7_readGoer σ r1).bind fun σ7 =>
      some σ7
     else
      if v1 = 110 then
       (mX7_readSignal σ r1).bind fun σ9 =>
       some σ9
      else
       if v1 = 115 then
        (mX7_readSexton σ r1).bind fun σ11 =>
        some σ11
       else
        (mX7_wrong σ 1 (σ 1 1)).bind fun σ12 =>
        some σ12
-- BellRope$Reader.read
def mX7_read_L25 (f1 : Nat) : Nat → Int32 → bo_M → Option (bo_M)
  | 0, _, _ => none
  | n + 1, w2, σ =>
    if 240 ≤ w2 then
     some σ
    else
     if (σ 1 4) ≤ (σ 1 1) then
      some σ
     else
      if (σ 1 3) = 0 then
       (mX7_readClause σ f1).bind fun σ6 =>
       (mX7_skipBlanks σ6).bind fun σ7 =>
       mX7_read_L25 f1 n (w2 + 1) σ7
      else
       some σ
def mX7_read (σ : bo_M) (r1 : Nat) : Option (Int32 × bo_M) :=
  (some (bo_up σ 1 1 0)).bind fun σ1 =>
  (some (bo_up σ1 1 3 0)).bind fun σ2 =>
  (some (bo_up σ2 1 5 (-1))).bind fun σ3 =>
  (mX4_empty σ3 r1).bind fun σ4 =>
  (mX7_skipBlanks σ4).bind fun σ5 =>
  (mX7_read_L25 r1 bo_fuel 0 σ5).bind fun a8 =>
  some ((a8 1 3), a8)
-- BellRope$Evening.empty
def mX2_empty (σ : bo_M) (o : Nat) : Option bo_M :=
  (some (bo_up σ o 4 0)).bind fun σ1 =>
  (some (bo_up σ1 o 5 0)).bind fun σ2 =>
  (some (bo_up σ2 o 6 0)).bind fun σ3 =>
  (some (bo_up σ3 o 7 0)).bind fun σ4 =>
  (some (bo_up σ4 o 8 0)).bind fun σ5 =>
  (some (bo_up σ5 o 9 0)).bind fun σ6 =>
  (mX8_zero σ6 7 (o + 1)).bind fun σ7 =>
  (mX8_zero σ7 7 (o + 2)).bind fun σ8 =>
  some σ8
-- BellRope.inn
def mX10_inn (σ : bo_M) : Option (Int32 × bo_M) :=
  (mX7_read σ (bo_inn (σ 0 10))).bind fun a1 =>
  (some (bo_up a1.2 1 4 0)).bind fun σ2 =>
  if a1.1 = 0 then
   (some (bo_up σ2 0 9 (σ2 0 10))).bind fun σ3 =>
   (some (bo_up σ3 0 10 (σ2 0 9))).bind fun σ4 =>
   (mX2_empty σ4 50).bind fun σ5 =>
   (some (bo_up σ5 3 1 0)).bind fun σ6 =>
   (some (bo_up σ6 5 2 0)).bind fun σ7 =>
   (some (bo_up σ7 11 2 0)).bind fun σ8 =>
   (some (bo_up σ8 24 4 0)).bind fun σ9 =>
   (some (bo_up σ9 29 2 0)).bind fun σ10 =>
   some ((σ10 (bo_inn (σ10 0 9)) 11), σ10)
  else
   some (((-10) - a1.1), σ2)
-- BellRope.fault
def mX10_fault (σ : bo_M) : Option Int32 :=
  some (σ 1 5)
-- BellRope.bit
def mX10_bit (σ : bo_M) (p0 : Int32) (p1 : Int32) : Option Int32 :=
  some ((p0 >>> (p1 &&& 31)) &&& 1)
-- BellRope$Evening.isWet
def mX2_isWet (σ : bo_M) (o : Nat) (r1 : Nat) : Option Int32 :=
  if (σ o 9) = 0 then
   (mX10_bit σ (σ r1 10) (bo_irm ((σ o 4) / 96) 7)).bind fun v1 =>
   if v1 = 1 then
    some 1
   else
    some 0
  else
   if (σ o 9) = 1 then
    some 1
   else
    some 0
-- BellRope$Evening.logs
def mX2_logs (σ : bo_M) (o : Nat) : Option Int32 :=
  some (if 40 < (σ o 4) then 40 else (σ o 4))
-- BellRope.told
def mX10_told (σ : bo_M) (p1 : Int32) : Option Int32 :=
  if p1 = 0 then
   some (σ (bo_inn (σ 0 9)) 8)
  else
   if p1 = 1 then
    some (σ (bo_inn (σ 0 9)) 9)
   else
    if p1 = 2 then
     some (σ (bo_inn (σ 0 9)) 11)
    else
     if p1 = 3 then
      some (σ (bo_inn (σ 0 9)) 13)
     else
      if p1 = 4 then
       some (σ (bo_inn (σ 0 9)) 14)
      else
       if p1 = 5 then
        some (σ 1 4)
       else
        if p1 = 6 then
         some (σ 50 4)
        else
         if p1 = 7 then
          some (σ 50 5)
         else
          if p1 = 8 then
           some (σ 50 6)
          else
           if p1 = 9 then
            (mX2_isWet σ 50 (bo_inn (σ 0 9))).bind fun v11 =>
            if v11 = 0 then
             some 0
            else
             some 1
           else
            if p1 = 10 then
             some (σ 50 7)
            else
             if p1 = 11 then
              some (σ 50 8)
             else
              if p1 = 12 then
               (mX2_logs σ 50).bind fun v15 =>
               some v15
              else
               if p1 = 13 then
                some (σ 50 9)
               else
                if p1 = 14 then
                 some (σ 24 4)
                else
                 if p1 = 15 then
                  some (σ 29 2)
                 else
                  if p1 = 16 then
                   some (σ 3 1)
                  else
                   some (-1000000002)
-- BellRope$Inn.hasDrinker
def mX4_hasDrinker (σ : bo_M) (o : Nat) (p1 : Int32) : Option Int32 :=
  if p1 < 0 then
   some 0
  else
   if (σ o 11) ≤ p1 then
    some 0
   else
    some 1
-- BellRope$Evening.due
def mX2_due_L5 (σ : bo_M) (f0 : Nat) (f1 : Nat) (f2 : Int32) : Nat → Int32 → Int32 → Option (Int32)
  | 0, _, _ => none
  | n + 1, w3, w4 =>
    if (σ f1 11) ≤ w4 then
     some w3
    else
     (mX8_at σ 7 (f1 + 1) w4).bind fun v1 =>
     Option.bind (α := Int32) (if v1 ≤ 0 then
      some w3
     else
      (mX8_at σ 7 (f0 + 2) w4).bind fun v3 =>
      (bo_iremo (f2 + v3) v1).bind fun v4 =>
      if v4 = 0 then
       some (w3 ||| (1 <<< (w4 &&& 31)))
      else
       some w3) fun a2 =>
     mX2_due_L5 σ f0 f1 f2 n a2 (w4 + 1)
def mX2_due (σ : bo_M) (o : Nat) (r1 : Nat) (p2 : Int32) : Option Int32 :=
  (mX2_due_L5 σ o r1 p2 bo_fuel 0 0).bind fun a5 =>
  some a5
-- BellRope$Evening.startsDay
def mX2_startsDay (σ : bo_M) (o : Nat) : Option Int32 :=
  if (bo_irm (σ o 4) 96) = 0 then
   some 1
  else
   some 0
-- BellRope$Evening.full
def mX2_full_L13 (σ : bo_M) (f0 : Nat) (f1 : Nat) : Nat → Int32 → Int32 → Option (Int32)
  | 0, _, _ => none
  | n + 1, w2, w3 =>
    if (σ f1 11) ≤ w3 then
     some w2
    else
     (mX8_at σ 7 (f0 + 1) w3).bind fun v2 =>
     (mX8_at σ 7 (f1 + 2) w3).bind fun v3 =>
     Option.bind (α := Int32) (if v2 < v3 then
      some w2
     else
      some (w2 ||| (1 <<< (w3 &&& 31)))) fun a4 =>
     mX2_full_L13 σ f0 f1 n a4 (w3 + 1)
def mX2_full (σ : bo_M) (o : Nat) (r1 : Nat) : Option Int32 :=
  (mX2_startsDay σ o).bind fun v1 =>
  if v1 = 0 then
   (mX2_full_L13 σ o r1 bo_fuel 0 0).bind fun a5 =>
   some a5
  else
   some 0
-- BellRope$Evening.thirsty
def mX2_thirsty (σ : bo_M) (o : Nat) (r1 : Nat) : Option Int32 :=
  (mX2_due σ o r1 (σ o 4)).bind fun v1 =>
  (mX2_full σ o r1).bind fun v2 =>
  some ((v1 &&& (σ o 5)) &&& (v2 ^^^ (-1)))
-- BellRope.drinker
def mX10_drinker (σ : bo_M) (p1 : Int32) (p2 : Int32) : Option Int32 :=
  (mX4_hasDrinker σ (bo_inn (σ 0 9)) p1).bind fun v1 =>
  if v1 = 0 then
   some (-1000000001)
  else
   if p2 = 0 then
    (mX8_at σ 7 ((bo_inn (σ 0 9)) + 1) p1).bind fun v3 =>
    some v3
   else
    if p2 = 1 then
     (mX8_at σ 7 ((bo_inn (σ 0 9)) + 2) p1).bind fun v5 =>
     some v5
    else
     if p2 = 2 then
      (mX8_at σ 7 ((bo_inn (σ 0 9)) + 3) p1).bind fun v7 =>
      some v7
     else
      if p2 = 3 then
       (mX10_bit σ (σ 50 5) p1).bind fun v9 =>
       some v9
      else
       if p2 = 4 then
        (mX8_at σ 7 51 p1).bind fun v11 =>
        some v11
       else
        if p2 = 5 then
         (mX8_at σ 7 52 p1).bind fun v13 =>
         some v13
        else
         if p2 = 6 then
          (mX2_thirsty σ 50 (bo_inn (σ 0 9))).bind fun v15 =>
          (mX10_bit σ v15 p1).bind fun v16 =>
          some v16
         else
          some (-1000000002)
-- BellRope$Inn.hasGoer
def mX4_hasGoer (σ : bo_M) (o : Nat) (p1 : Int32) : Option Int32 :=
  if p1 < 0 then
   some 0
  else
   if (σ o 13) ≤ p1 then
    some 0
   else
    some 1
-- BellRope.goer
def mX10_goer (σ : bo_M) (p1 : Int32) (p2 : Int32) : Option Int32 :=
  (mX4_hasGoer σ (bo_inn (σ 0 9)) p1).bind fun v1 =>
  if v1 = 0 then
   some (-1000000001)
  else
   if p2 = 0 then
    (mX8_at σ 6 ((bo_inn (σ 0 9)) + 4) p1).bind fun v3 =>
    some v3
   else
    if p2 = 1 then
     (mX8_at σ 6 ((bo_inn (σ 0 9)) + 5) p1).bind fun v5 =>
     some v5
    else
     some (-1000000002)
-- BellRope.signal
def mX10_signal (σ : bo_M) (p1 : Int32) : Option Int32 :=
  if p1 < 0 then
   some (-1000000001)
  else
   if p1 < (σ (bo_inn (σ 0 9)) 14) then
    (mX8_at σ 5 ((bo_inn (σ 0 9)) + 6) p1).bind fun v1 =>
    some v1
   else
    some (-1000000001)
-- BellRope$Evening.heardAgo
def mX2_heardAgo (σ : bo_M) (o : Nat) (p1 : Int32) : Option Int32 :=
  (mX8_at σ 40 (o + 3) (bo_irm (((σ o 4) - 1) - p1) 40)).bind fun v1 =>
  some v1
-- BellRope$Evening.rungAgo
def mX2_rungAgo (σ : bo_M) (o : Nat) (p1 : Int32) : Option Int32 :=
  (mX8_at σ 40 (o + 4) (bo_irm (((σ o 4) - 1) - p1) 40)).bind fun v1 =>
  some v1
-- BellRope.logged
def mX10_logged (σ : bo_M) (p1 : Int32) (p2 : Int32) : Option Int32 :=
  if p2 < 0 then
   some (-1000000002)
  else
   if p2 ≤ 1 then
    if p1 < 0 then
     some (-1)
    else
     (mX2_logs σ 50).bind fun v1 =>
     if p1 < v1 then
      if p2 = 0 then
       (mX2_heardAgo σ 50 p1).bind fun v3 =>
       some v3
      else
       (mX2_rungAgo σ 50 p1).bind fun v2 =>
       some v2
     else
      some (-1)
   else
    some (-1000000002)
-- BellRope.refused
def mX10_refused (σ : bo_M) (p1 : Int32) : Option Int32 :=
  if p1 = 0 then
   if (σ (bo_inn (σ 0 9)) 7 &&& 1) = 0 then
    some (-1000000003)
   else
    some 0
  else
   some (-1000000002)
-- BellRope.refusedQuarters
def mX10_refusedQuarters (σ : bo_M) (p1 : Int32) : Option Int32 :=
  Option.bind (α := Int32) (if p1 < 1 then
   some 1
  else
   if p1 ≤ 96 then
    some 0
   else
    some 1) fun a1 =>
  (mX10_refused σ a1).bind fun v2 =>
  if v2 = 0 then
   if (σ 50 4) ≤ 90000 then
    some 0
   else
    some (-1000000004)
  else
   some v2
-- BellRope$Past.evening
def mX6_evening (σ : bo_M) (p1 : Int32) : Option (Option Int32) :=
  if p1 < 0 then
   some none
  else
   if 16 ≤ p1 then
    some none
   else
    (bo_ld 16 σ 4 p1).bind fun v1 =>
    some (some v1)
-- BellRope$Past.loseOldest
def mX6_loseOldest_L8 (f1 : Nat) : Nat → Int32 → bo_M → Option (bo_M)
  | 0, _, _ => none
  | n + 1, w2, σ =>
    if 16 ≤ w2 then
     some σ
    else
     (bo_ld 16 σ 4 w2).bind fun v2 =>
     (bo_st 16 σ 4 (w2 - 1) v2).bind fun σ3 =>
     mX6_loseOldest_L8 f1 n (w2 + 1) σ3
def mX6_loseOldest (σ : bo_M) : Option bo_M :=
  (mX6_evening σ 0).bind fun qc1 =>
  bo_oc qc1
   (none)
   (fun c1 =>
  (mX6_loseOldest_L8 (bo_ev c1) bo_fuel 1 σ).bind fun a4 =>
  (bo_st 16 a4 4 (16 - 1) c1).bind fun σ5 =>
  (some (bo_up σ5 3 1 ((σ5 3 1) - 1))).bind fun σ6 =>
  some σ6)
-- BellRope$Rows.copy
def mX8_copy_L11 (n0 : Nat) (f0 : Nat) (n1 : Nat) (f1 : Nat) : Nat → Int32 → bo_M → Option (bo_M)
  | 0, _, _ => none
  | n + 1, w2, σ =>
    if (Int32.ofNat n0) ≤ w2 then
     some σ
    else
     if (Int32.ofNat n1) ≤ w2 then
      some σ
     else
      (bo_ld n0 σ f0 w2).bind fun v1 =>
      (bo_st n1 σ f1 w2 v1).bind fun σ2 =>
      mX8_copy_L11 n0 f0 n1 f1 n (w2 + 1) σ2
def mX8_copy (σ : bo_M) (n0 r0 : Nat) (n1 r1 : Nat) : Option bo_M :=
  (mX8_copy_L11 n0 r0 n1 r1 bo_fuel 0 σ).bind fun a3 =>
  some a3
-- BellRope$Evening.become
def mX2_become (σ : bo_M) (o : Nat) (r1 : Nat) : Option bo_M :=
  (some (bo_up σ o 4 (σ r1 4))).bind fun σ1 =>
  (some (bo_up σ1 o 5 (σ1 r1 5))).bind fun σ2 =>
  (some (bo_up σ2 o 6 (σ2 r1 6))).bind fun σ3 =>
  (some (bo_up σ3 o 7 (σ3 r1 7))).bind fun σ4 =>
  (some (bo_up σ4 o 8 (σ4 r1 8))).bind fun σ5 =>
  (some (bo_up σ5 o 9 (σ5 r1 9))).bind fun σ6 =>
  (mX8_copy σ6 7 (r1 + 1) 7 (o + 1)).bind fun σ7 =>
  (mX8_copy σ7 7 (r1 + 2) 7 (o + 2)).bind fun σ8 =>
  (mX8_copy σ8 40 (r1 + 3) 40 (o + 3)).bind fun σ9 =>
  (mX8_copy σ9 40 (r1 + 4) 40 (o + 4)).bind fun σ10 =>
  some σ10
-- BellRope$Past.note
def mX6_note (σ : bo_M) (r1 : Nat) : Option bo_M :=
  Option.bind (α := bo_M) (if (σ 3 1) < 16 then
   some σ
  else
   (mX6_loseOldest σ).bind fun σ2 =>
   some σ2) fun a1 =>
  (mX6_evening a1 (a1 3 1)).bind fun qc3 =>
  bo_oc qc3
   (some a1)
   (fun c3 =>
  (mX2_become a1 (bo_ev c3) r1).bind fun σ4 =>
  (some (bo_up σ4 3 1 ((σ4 3 1) + 1))).bind fun σ5 =>
  some σ5)
-- java/lang/Integer.bitCount
def mJ6_bitCount_0f7a4 (σ : bo_M) (p0 : Int32) : Option Int32 :=
  some ((((((((p0 - ((((p0).toUInt32 >>> ((1 : Int32).toUInt32 &&& Int32.toUInt32 31)).toInt32) &&& 1431655765)) &&& 858993459) + (((((p0 - ((((p0).toUInt32 >>> ((1 : Int32).toUInt32 &&& Int32.toUInt32 31)).toInt32) &&& 1431655765))).toUInt32 >>> ((2 : Int32).toUInt32 &&& Int32.toUInt32 31)).toInt32) &&& 858993459)) + ((((((p0 - ((((p0).toUInt32 >>> ((1 : Int32).toUInt32 &&& Int32.toUInt32 31)).toInt32) &&& 1431655765)) &&& 858993459) + (((((p0 - ((((p0).toUInt32 >>> ((1 : Int32).toUInt32 &&& Int32.toUInt32 31)).toInt32) &&& 1431655765))).toUInt32 >>> ((2 : Int32).toUInt32 &&& Int32.toUInt32 31)).toInt32) &&& 858993459))).toUInt32 >>> ((4 : Int32).toUInt32 &&& Int32.toUInt32 31)).toInt32)) &&& 252645135) + ((((((((p0 - ((((p0).toUInt32 >>> ((1 : Int32).toUInt32 &&& Int32.toUInt32 31)).toInt32) &&& 1431655765)) &&& 858993459) + (((((p0 - ((((p0).toUInt32 >>> ((1 : Int32).toUInt32 &&& Int32.toUInt32 31)).toInt32) &&& 1431655765))).toUInt32 >>> ((2 : Int32).toUInt32 &&& Int32.toUInt32 31)).toInt32) &&& 858993459)) + ((((((p0 - ((((p0).toUInt32 >>> ((1 : Int32).toUInt32 &&& Int32.toUInt32 31)).toInt32) &&& 1431655765)) &&& 858993459) + (((((p0 - ((((p0).toUInt32 >>> ((1 : Int32).toUInt32 &&& Int32.toUInt32 31)).toInt32) &&& 1431655765))).toUInt32 >>> ((2 : Int32).toUInt32 &&& Int32.toUInt32 31)).toInt32) &&& 858993459))).toUInt32 >>> ((4 : Int32).toUInt32 &&& Int32.toUInt32 31)).toInt32)) &&& 252645135)).toUInt32 >>> ((8 : Int32).toUInt32 &&& Int32.toUInt32 31)).toInt32)) + (((((((((p0 - ((((p0).toUInt32 >>> ((1 : Int32).toUInt32 &&& Int32.toUInt32 31)).toInt32) &&& 1431655765)) &&& 858993459) + (((((p0 - ((((p0).toUInt32 >>> ((1 : Int32).toUInt32 &&& Int32.toUInt32 31)).toInt32) &&& 1431655765))).toUInt32 >>> ((2 : Int32).toUInt32 &&& Int32.toUInt32 31)).toInt32) &&& 858993459)) + ((((((p0 - ((((p0).toUInt32 >>> ((1 : Int32).toUInt32 &&& Int32.toUInt32 31)).toInt32) &&& 1431655765)) &&& 858993459) + (((((p0 - ((((p0).toUInt32 >>> ((1 : Int32).toUInt32 &&& Int32.toUInt32 31)).toInt32) &&& 1431655765))).toUInt32 >>> ((2 : Int32).toUInt32 &&& Int32.toUInt32 31)).toInt32) &&& 858993459))).toUInt32 >>> ((4 : Int32).toUInt32 &&& Int32.toUInt32 31)).toInt32)) &&& 252645135) + ((((((((p0 - ((((p0).toUInt32 >>> ((1 : Int32).toUInt32 &&& Int32.toUInt32 31)).toInt32) &&& 1431655765)) &&& 858993459) + (((((p0 - ((((p0).toUInt32 >>> ((1 : Int32).toUInt32 &&& Int32.toUInt32 31)).toInt32) &&& 1431655765))).toUInt32 >>> ((2 : Int32).toUInt32 &&& Int32.toUInt32 31)).toInt32) &&& 858993459)) + ((((((p0 - ((((p0).toUInt32 >>> ((1 : Int32).toUInt32 &&& Int32.toUInt32 31)).toInt32) &&& 1431655765)) &&& 858993459) + (((((p0 - ((((p0).toUInt32 >>> ((1 : Int32).toUInt32 &&& Int32.toUInt32 31)).toInt32) &&& 1431655765))).toUInt32 >>> ((2 : Int32).toUInt32 &&& Int32.toUInt32 31)).toInt32) &&& 858993459))).toUInt32 >>> ((4 : Int32).toUInt32 &&& Int32.toUInt32 31)).toInt32)) &&& 252645135)).toUInt32 >>> ((8 : Int32).toUInt32 &&& Int32.toUInt32 31)).toInt32))).toUInt32 >>> ((16 : Int32).toUInt32 &&& Int32.toUInt32 31)).toInt32)) &&& 63)
-- BellRope$Inn.sextonAt
def mX4_sextonAt (σ : bo_M) (o : Nat) (p1 : Int32) : Option Int32 :=
  (mX8_at σ 96 (o + 7) p1).bind fun v1 =>
  if v1 = 1 then
   some 1
  else
   some 0
-- BellRope$Inn.echoed
def mX4_echoed (σ : bo_M) (o : Nat) (p1 : Int32) (p2 : Int32) : Option Int32 :=
  if (if 0 < (p1 - p2) then (p1 - p2) else 0) < 1 then
   some 0
  else
   some ((if 0 < (p1 - p2) then (p1 - p2) else 0) + (σ o 8))
-- BellRope$Evening.heardOf
def mX2_heardOf (σ : bo_M) (o : Nat) (r1 : Nat) (p2 : Int32) : Option Int32 :=
  Option.bind (α := Int32) (if 0 < (σ o 7) then
   some 1
  else
   (mX4_sextonAt σ r1 (bo_irm (σ o 4) 96)).bind fun v2 =>
   if v2 = 0 then
    some 0
   else
    some 1) fun a1 =>
  (mX2_isWet σ o r1).bind fun v3 =>
  Option.bind (α := Int32) (if v3 = 0 then
   some p2
  else
   some (p2 / 2)) fun a4 =>
  Option.bind (α := Int32) (if a1 = 0 then
   some 0
  else
   some (σ r1 9)) fun a5 =>
  (mX4_echoed σ r1 a4 a5).bind fun v6 =>
  some v6
-- BellRope$Evening.pass
def mX2_pass_L36 (f0 : Nat) (f1 : Nat) (f2 : Int32) (f3 : Int32) (f4 : Int32) : Nat → Int32 → bo_M → Option (bo_M)
  | 0, _, _ => none
  | n + 1, w5, σ =>
    if (σ f1 11) ≤ w5 then
     some σ
    else
     (mX8_at σ 7 (f0 + 1) w5).bind fun v7 =>
     (mX10_bit σ f2 w5).bind fun v8 =>
     (mX8_put σ 7 (f0 + 1) w5 (v7 + v8)).bind fun σ9 =>
     mX2_pass_L36 f0 f1 f2 f3 f4 n (w5 + 1) σ9
def mX2_pass (σ : bo_M) (o : Nat) (r1 : Nat) : Option (Int32 × bo_M) :=
  (mX2_thirsty σ o r1).bind fun v1 =>
  (mJ6_bitCount_0f7a4 σ v1).bind fun v2 =>
  (mX2_heardOf σ o r1 v2).bind fun v3 =>
  (mX2_startsDay σ o).bind fun v4 =>
  Option.bind (α := bo_M) (if v4 = 0 then
   some σ
  else
   (mX8_zero σ 7 (o + 1)).bind fun σ6 =>
   some σ6) fun a5 =>
  (mX2_pass_L36 o r1 v1 v2 v3 bo_fuel 0 a5).bind fun a10 =>
  (some (bo_up a10 o 8 ((a10 o 8) + v2))).bind fun σ11 =>
  (mX8_put σ11 40 (o + 3) (bo_irm (σ11 o 4) 40) v3).bind fun σ12 =>
  (mX8_put σ12 40 (o + 4) (bo_irm (σ12 o 4) 40) v2).bind fun σ13 =>
  Option.bind (α := bo_M) (if v3 < 1 then
   some σ13
  else
   (some (bo_up σ13 o 6 (bo_irm ((σ13 o 6) + 1) 12))).bind fun σ15 =>
   some σ15) fun a14 =>
  (some (bo_up a14 o 7 (if 0 < ((a14 o 7) - 1) then ((a14 o 7) - 1) else 0))).bind fun σ16 =>
  (some (bo_up σ16 o 4 ((σ16 o 4) + 1))).bind fun σ17 =>
  some (v3, σ17)
-- BellRope.quarter
def mX10_quarter_L28 (f1 : Int32) : Nat → Int32 → Int32 → bo_M → Option (Int32 × bo_M)
  | 0, _, _, _ => none
  | n + 1, w3, w4, σ =>
    if f1 ≤ w4 then
     some (w3, σ)
    else
     (mX2_pass σ 50 (bo_inn (σ 0 9))).bind fun a3 =>
     mX10_quarter_L28 f1 n a3.1 (w4 + 1) a3.2
def mX10_quarter (σ : bo_M) (p1 : Int32) : Option (Int32 × bo_M) :=
  (mX10_refusedQuarters σ p1).bind fun v1 =>
  if v1 = 0 then
   (mX6_note σ 50).bind fun σ2 =>
   (mX10_quarter_L28 p1 bo_fuel 0 0 σ2).bind fun a4 =>
   some (a4.1, a4.2)
  else
   some (v1, σ)
-- BellRope.come
def mX10_come (σ : bo_M) (p1 : Int32) : Option (Int32 × bo_M) :=
  (mX4_hasDrinker σ (bo_inn (σ 0 9)) p1).bind fun v1 =>
  if v1 = 0 then
   some ((-1000000001), σ)
  else
   (mX10_bit σ (σ 50 5) p1).bind fun v2 =>
   if v2 = 1 then
    some ((-1000000003), σ)
   else
    (mX6_note σ 50).bind fun σ3 =>
    (some (bo_up σ3 50 5 ((σ3 50 5) ||| (1 <<< (p1 &&& 31))))).bind fun σ4 =>
    some ((σ4 50 5), σ4)
-- BellRope.go
def mX10_go (σ : bo_M) (p1 : Int32) : Option (Int32 × bo_M) :=
  (mX4_hasDrinker σ (bo_inn (σ 0 9)) p1).bind fun v1 =>
  if v1 = 0 then
   some ((-1000000001), σ)
  else
   (mX10_bit σ (σ 50 5) p1).bind fun v2 =>
   if v2 = 0 then
    some ((-1000000003), σ)
   else
    (mX6_note σ 50).bind fun σ3 =>
    (some (bo_up σ3 50 5 ((σ3 50 5) &&& ((1 <<< (p1 &&& 31)) ^^^ (-1))))).bind fun σ4 =>
    some ((σ4 50 5), σ4)
-- BellRope.treat
def mX10_treat (σ : bo_M) (p1 : Int32) (p2 : Int32) : Option (Int32 × bo_M) :=
  (mX4_hasDrinker σ (bo_inn (σ 0 9)) p1).bind fun v1 =>
  if v1 = 0 then
   some ((-1000000001), σ)
  else
   if p2 < 1 then
    some ((-1000000002), σ)
   else
    if p2 ≤ 20 then
     (mX6_note σ 50).bind fun σ2 =>
     (mX8_at σ2 7 51 p1).bind fun v3 =>
     (mX8_put σ2 7 51 p1 (if 0 < (v3 - p2) then (v3 - p2) else 0)).bind fun σ4 =>
     some ((if 0 < (v3 - p2) then (v3 - p2) else 0), σ4)
    else
     some ((-1000000002), σ)
-- BellRope.turn
def mX10_turn (σ : bo_M) (p1 : Int32) (p2 : Int32) : Option (Int32 × bo_M) :=
  (mX4_hasDrinker σ (bo_inn (σ 0 9)) p1).bind fun v1 =>
  if v1 = 0 then
   some ((-1000000001), σ)
  else
   if p2 < 0 then
    some ((-1000000002), σ)
   else
    if p2 ≤ 39 then
     (mX6_note σ 50).bind fun σ2 =>
     (mX8_at σ2 7 52 p1).bind fun v3 =>
     (mX8_put σ2 7 52 p1 p2).bind fun σ4 =>
     some (v3, σ4)
    else
     some ((-1000000002), σ)
-- BellRope.hang
def mX10_hang (σ : bo_M) (p1 : Int32) : Option (Int32 × bo_M) :=
  Option.bind (α := Int32) (if p1 < 0 then
   some 1
  else
   if p1 ≤ 96 then
    some 0
   else
    some 1) fun a1 =>
  (mX10_refused σ a1).bind fun v2 =>
  if v2 = 0 then
   (mX6_note σ 50).bind fun σ3 =>
   (some (bo_up σ3 50 7 p1)).bind fun σ4 =>
   some ((σ3 50 7), σ4)
  else
   some (v2, σ)
-- BellRope.rain
def mX10_rain (σ : bo_M) (p1 : Int32) : Option (Int32 × bo_M) :=
  Option.bind (α := Int32) (if p1 < 0 then
   some 1
  else
   if p1 ≤ 2 then
    some 0
   else
    some 1) fun a1 =>
  (mX10_refused σ a1).bind fun v2 =>
  if v2 = 0 then
   (mX6_note σ 50).bind fun σ3 =>
   (some (bo_up σ3 50 9 p1)).bind fun σ4 =>
   some ((σ3 50 9), σ4)
  else
   some (v2, σ)
-- BellRope.draw
def mX10_draw (σ : bo_M) (p1 : Int32) : Option (Int32 × bo_M) :=
  (some (bo_up σ 0 11 ((((σ 0 11) * 1103515245) + 12345) &&& 2147483647))).bind fun σ1 =>
  if p1 ≤ 0 then
   some (0, σ1)
  else
   (bo_iremo ((σ1 0 11) / 65536) p1).bind fun v2 =>
   some (v2, σ1)
-- BellRope.stir
def mX10_stir (σ : bo_M) : Option bo_M :=
  if 0 < (σ (bo_inn (σ 0 9)) 11) then
   (mX10_draw σ (σ (bo_inn (σ 0 9)) 11)).bind fun a1 =>
   (mX10_draw a1.2 6).bind fun a2 =>
   if a2.1 = 0 then
    (some (bo_up a2.2 50 5 ((a2.2 50 5) ||| (1 <<< (a1.1 &&& 31))))).bind fun σ6 =>
    some σ6
   else
    if a2.1 = 1 then
     (some (bo_up a2.2 50 5 ((a2.2 50 5) &&& ((1 <<< (a1.1 &&& 31)) ^^^ (-1))))).bind fun σ5 =>
     some σ5
    else
     if a2.1 = 2 then
      (mX10_draw a2.2 3).bind fun a3 =>
      (some (bo_up a3.2 50 9 a3.1)).bind fun σ4 =>
      some σ4
     else
      some a2.2
  else
   some σ
-- BellRope.drift
def mX10_drift_L28 (f1 : Int32) : Nat → Int32 → Int32 → bo_M → Option (Int32 × bo_M)
  | 0, _, _, _ => none
  | n + 1, w3, w4, σ =>
    if f1 ≤ w4 then
     some (w3, σ)
    else
     (mX10_stir σ).bind fun σ3 =>
     (mX2_pass σ3 50 (bo_inn (σ3 0 9))).bind fun a4 =>
     mX10_drift_L28 f1 n a4.1 (w4 + 1) a4.2
def mX10_drift (σ : bo_M) (p1 : Int32) : Option (Int32 × bo_M) :=
  (mX10_refusedQuarters σ p1).bind fun v1 =>
  if v1 = 0 then
   (mX6_note σ 50).bind fun σ2 =>
   (mX10_drift_L28 p1 bo_fuel 0 0 σ2).bind fun a5 =>
   some (a5.1, a5.2)
  else
   some (v1, σ)
-- BellRope$Past.restore
def mX6_restore (σ : bo_M) (r1 : Nat) : Option (Int32 × bo_M) :=
  (mX6_evening σ ((σ 3 1) - 1)).bind fun qc1 =>
  bo_oc qc1
   (some (0, σ))
   (fun c1 =>
  (some (bo_up σ 3 1 ((σ 3 1) - 1))).bind fun σ2 =>
  (mX2_become σ2 r1 (bo_ev c1)).bind fun σ3 =>
  some (1, σ3))
-- BellRope.undo
def mX10_undo (σ : bo_M) : Option (Int32 × bo_M) :=
  (mX6_restore σ 50).bind fun a1 =>
  if a1.1 = 0 then
   some ((-1000000003), a1.2)
  else
   some ((a1.2 3 1), a1.2)
-- BellRope$Trial.run
def mX9_run_L11 (f1 : Nat) (f3 : Int32) : Nat → Int32 → bo_M → Option (bo_M)
  | 0, _, _ => none
  | n + 1, w4, σ =>
    if f3 ≤ w4 then
     some σ
    else
     if 192 ≤ w4 then
      some σ
     else
      (mX2_pass σ 18 f1).bind fun a2 =>
      (mX8_put a2.2 192 23 w4 a2.1).bind fun σ3 =>
      mX9_run_L11 f1 f3 n (w4 + 1) σ3
def mX9_run (σ : bo_M) (r1 : Nat) (r2 : Nat) (p3 : Int32) : Option bo_M :=
  (mX2_become σ 18 r2).bind fun σ1 =>
  (mX9_run_L11 r1 p3 bo_fuel 0 σ1).bind fun a4 =>
  some a4
-- BellRope.strikes
def mX10_strikes (σ : bo_M) (p1 : Int32) : Option (Int32 × bo_M) :=
  Option.bind (α := Int32) (if p1 < 0 then
   some 1
  else
   if p1 < 192 then
    some 0
   else
    some 1) fun a1 =>
  (mX10_refused σ a1).bind fun v2 =>
  if v2 = 0 then
   (mX9_run σ (bo_inn (σ 0 9)) 50 (p1 + 1)).bind fun σ3 =>
   (mX8_at σ3 192 23 p1).bind fun v4 =>
   some (v4, σ3)
  else
   some (v2, σ)
-- BellRope$Trial.firstHeard
def mX9_firstHeard_L2 (σ : bo_M) (f1 : Int32) (f2 : Int32) : Nat → Int32 → Option (Int32)
  | 0, _ => none
  | n + 1, w3 =>
    if f2 ≤ w3 then
     some (-1)
    else
     if 192 ≤ w3 then
      some (-1)
     else
      (mX8_at σ 192 23 w3).bind fun v1 =>
      if v1 < f1 then
       mX9_firstHeard_L2 σ f1 f2 n (w3 + 1)
      else
       some w3
def mX9_firstHeard (σ : bo_M) (p1 : Int32) (p2 : Int32) : Option Int32 :=
  mX9_firstHeard_L2 σ p1 p2 bo_fuel 0
-- BellRope.when
def mX10_when (σ : bo_M) (p1 : Int32) : Option (Int32 × bo_M) :=
  Option.bind (α := Int32) (if p1 < 1 then
   some 1
  else
   if p1 ≤ 16 then
    some 0
   else
    some 1) fun a1 =>
  (mX10_refused σ a1).bind fun v2 =>
  if v2 = 0 then
   (mX9_run σ (bo_inn (σ 0 9)) 50 192).bind fun σ3 =>
   (mX9_firstHeard σ3 p1 192).bind fun v4 =>
   some (v4, σ3)
  else
   some (v2, σ)
-- BellRope.hour
def mX10_hour (σ : bo_M) (p1 : Int32) : Option (Int32 × bo_M) :=
  Option.bind (α := Int32) (if p1 < 0 then
   some 1
  else
   if p1 ≤ 192 then
    some 0
   else
    some 1) fun a1 =>
  (mX10_refused σ a1).bind fun v2 =>
  if v2 = 0 then
   (mX9_run σ (bo_inn (σ 0 9)) 50 p1).bind fun σ3 =>
   some ((σ3 18 6), σ3)
  else
   some (v2, σ)
-- BellRope.noon
def mX10_noon_L41 (σ : bo_M) : Nat → Int32 → Int32 → Option ((Int32 × bo_M))
  | 0, _, _ => none
  | n + 1, w1, w2 =>
    if 192 ≤ w2 then
     some ((-1), σ)
    else
     (mX8_at σ 192 23 w2).bind fun v2 =>
     Option.bind (α := Int32) (if v2 < 1 then
      some w1
     else
      some (w1 + 1)) fun a3 =>
     if a3 = 12 then
      some ((w2 + 1), σ)
     else
      mX10_noon_L41 σ n a3 (w2 + 1)
def mX10_noon (σ : bo_M) : Option (Int32 × bo_M) :=
  if (σ (bo_inn (σ 0 9)) 7 &&& 1) = 0 then
   some ((-1000000003), σ)
  else
   (mX9_run σ (bo_inn (σ 0 9)) 50 192).bind fun σ1 =>
   mX10_noon_L41 σ1 bo_fuel (σ1 50 6) 0
-- BellRope.lateBy
def mX10_lateBy_L16 (σ : bo_M) (f2 : Int32) : Nat → Int32 → Int32 → Option (Int32)
  | 0, _, _ => none
  | n + 1, w3, w4 =>
    if (σ (bo_inn (σ 0 9)) 13) ≤ w4 then
     some w3
    else
     (mX8_at σ 6 ((bo_inn (σ 0 9)) + 4) w4).bind fun v2 =>
     Option.bind (α := Int32) (if f2 = (-1) then
      some (w3 ||| (1 <<< (w4 &&& 31)))
     else
      (mX8_at σ 6 ((bo_inn (σ 0 9)) + 5) w4).bind fun v4 =>
      if (f2 + v4) ≤ (bo_irm ((v2 + 96) - (bo_irm (σ 50 4) 96)) 96) then
       some w3
      else
       some (w3 ||| (1 <<< (w4 &&& 31)))) fun a3 =>
     mX10_lateBy_L16 σ f2 n a3 (w4 + 1)
def mX10_lateBy (σ : bo_M) (p1 : Int32) : Option Int32 :=
  (mX9_firstHeard σ p1 96).bind fun v1 =>
  (mX10_lateBy_L16 σ v1 bo_fuel 0 0).bind fun a5 =>
  some a5
-- BellRope.late
def mX10_late (σ : bo_M) (p1 : Int32) : Option (Int32 × bo_M) :=
  Option.bind (α := Int32) (if p1 < 1 then
   some 1
  else
   if p1 ≤ 16 then
    some 0
   else
    some 1) fun a1 =>
  (mX10_refused σ a1).bind fun v2 =>
  if v2 = 0 then
   (mX9_run σ (bo_inn (σ 0 9)) 50 96).bind fun σ3 =>
   (mX10_lateBy σ3 p1).bind fun v4 =>
   some (v4, σ3)
  else
   some (v2, σ)
-- BellRope.best
def mX10_best_L51 (σ : bo_M) (f1 : Int32) : Nat → Int32 → Int32 → Int32 → Option (Int32 × Int32)
  | 0, _, _, _ => none
  | n + 1, w3, w4, w5 =>
    if 16 < w5 then
     some (w3, w4)
    else
     (mX10_lateBy σ w5).bind fun v4 =>
     (mJ6_bitCount_0f7a4 σ v4).bind fun v5 =>
     Option.bind (α := Int32 × Int32) (if w4 ≤ v5 then
      some (w3, w4)
     else
      some (w5, v5)) fun a6 =>
     mX10_best_L51 σ f1 n a6.1 a6.2 (w5 + 1)
def mX10_best (σ : bo_M) (p1 : Int32) : Option (Int32 × bo_M) :=
  Option.bind (α := Int32) (if p1 < 0 then
   some 1
  else
   if p1 ≤ 1 then
    some 0
   else
    some 1) fun a1 =>
  (mX10_refused σ a1).bind fun v2 =>
  if v2 = 0 then
   (mX9_run σ (bo_inn (σ 0 9)) 50 96).bind fun σ3 =>
   (mX10_best_L51 σ3 p1 bo_fuel 1 7 1).bind fun a7 =>
   if p1 = 0 then
    some (a7.1, σ3)
   else
    some (a7.2, σ3)
  else
   some (v2, σ)
-- BellRope.alone
def mX10_alone_L35 (σ : bo_M) (f1 : Int32) : Nat → Int32 → Int32 → Option (Int32)
  | 0, _, _ => none
  | n + 1, w2, w3 =>
    if 16 < w3 then
     some w2
    else
     (mX10_lateBy σ w3).bind fun v3 =>
     (mX10_bit σ v3 f1).bind fun v4 =>
     Option.bind (α := Int32) (if v4 = 0 then
      some (w2 ||| (1 <<< (w3 &&& 31)))
     else
      some w2) fun a5 =>
     mX10_alone_L35 σ f1 n a5 (w3 + 1)
def mX10_alone (σ : bo_M) (p1 : Int32) : Option (Int32 × bo_M) :=
  (mX4_hasGoer σ (bo_inn (σ 0 9)) p1).bind fun v1 =>
  if v1 = 0 then
   some ((-1000000001), σ)
  else
   (mX9_run σ (bo_inn (σ 0 9)) 50 96).bind fun σ2 =>
   (mX10_alone_L35 σ2 p1 bo_fuel 0 1).bind fun a6 =>
   some (a6, σ2)
-- BellRope.given
def mX10_given_L49 (σ : bo_M) (f1 : Int32) : Nat → Int32 → Int32 → Option (Int32)
  | 0, _, _ => none
  | n + 1, w3, w4 =>
    if f1 ≤ w4 then
     some w3
    else
     (mX8_at σ 192 23 w4).bind fun v4 =>
     (mX4_signalsOf σ (bo_inn (σ 0 9)) v4).bind fun v5 =>
     mX10_given_L49 σ f1 n (w3 ||| v5) (w4 + 1)
def mX10_given (σ : bo_M) (p1 : Int32) : Option (Int32 × bo_M) :=
  Option.bind (α := Int32) (if p1 < 1 then
   some 1
  else
   if p1 ≤ 192 then
    some 0
   else
    some 1) fun a1 =>
  (mX10_refused σ a1).bind fun v2 =>
  if v2 = 0 then
   (mX9_run σ (bo_inn (σ 0 9)) 50 p1).bind fun σ3 =>
   (mX10_given_L49 σ3 p1 bo_fuel 0 0).bind fun a6 =>
   some (a6, σ3)
  else
   some (v2, σ)
-- BellRope.mistaken
def mX10_mistaken_L4 (σ : bo_M) : Nat → Int32 → Int32 → Option (Int32)
  | 0, _, _ => none
  | n + 1, w1, w2 =>
    (mX2_logs σ 50).bind fun v1 =>
    if v1 ≤ w2 then
     some w1
    else
     (mX2_rungAgo σ 50 w2).bind fun v2 =>
     (mX4_signalsOf σ (bo_inn (σ 0 9)) v2).bind fun v3 =>
     Option.bind (α := Int32) (if v3 = 0 then
      some w1
     else
      (mX2_heardAgo σ 50 w2).bind fun v5 =>
      if v5 = v2 then
       some w1
      else
       some (w1 + 1)) fun a4 =>
     mX10_mistaken_L4 σ n a4 (w2 + 1)
def mX10_mistaken (σ : bo_M) : Option Int32 :=
  (mX10_mistaken_L4 σ bo_fuel 0 0).bind fun a6 =>
  some a6
-- BellRope$Inn.sets
def mX4_sets (σ : bo_M) (o : Nat) : Option Int32 :=
  some (1 <<< ((σ o 11) &&& 31))
-- BellRope.vespers
def mX10_vespers_L91 (σ : bo_M) (f1 : Int32) (f2 : Int32) (f4 : Int32) (f5 : Int32) (f6 : Int32) : Nat → Int32 → Int32 → Int32 → Option (Int32 × Int32)
  | 0, _, _, _ => none
  | n + 1, w7, w8, w9 =>
    (mX4_sets σ (bo_inn (σ 0 9))).bind fun v6 =>
    if v6 ≤ w9 then
     some (w7, w8)
    else
     (mJ6_bitCount_0f7a4 σ (w9 &&& ((σ 50 5) ^^^ (-1)))).bind fun v7 =>
     (mJ6_bitCount_0f7a4 σ (w9 &&& f5)).bind fun v8 =>
     (mJ6_bitCount_0f7a4 σ (f4 &&& (f6 ||| w9))).bind fun v9 =>
     Option.bind (α := Int32 × Int32) (if w7 = (-1) then
      (mX2_heardOf σ 50 (bo_inn (σ 0 9)) v9).bind fun v11 =>
      if v11 < f1 then
       some (w7, w8)
      else
       some ((v7 + v8), w9)
     else
      if w7 ≤ (v7 + v8) then
       some (w7, w8)
      else
       (mX2_heardOf σ 50 (bo_inn (σ 0 9)) v9).bind fun v12 =>
       if v12 < f1 then
        some (w7, w8)
       else
        some ((v7 + v8), w9)) fun a10 =>
     mX10_vespers_L91 σ f1 f2 f4 f5 f6 n a10.1 a10.2 (w9 + 1)
def mX10_vespers (σ : bo_M) (p1 : Int32) (p2 : Int32) : Option Int32 :=
  Option.bind (α := Int32) (if p1 < 1 then
   some 1
  else
   if 16 < p1 then
    some 1
   else
    if p2 < 0 then
     some 1
    else
     if p2 ≤ 1 then
      some 0
     else
      some 1) fun a1 =>
  (mX10_refused σ a1).bind fun v2 =>
  if v2 = 0 then
   (mX2_due σ 50 (bo_inn (σ 0 9)) (σ 50 4)).bind fun v3 =>
   (mX2_full σ 50 (bo_inn (σ 0 9))).bind fun v4 =>
   (mX2_thirsty σ 50 (bo_inn (σ 0 9))).bind fun v5 =>
   (mX10_vespers_L91 σ p1 p2 v3 v4 v5 bo_fuel (-1) (-1) 0).bind fun a13 =>
   if p2 = 0 then
    some a13.1
   else
    some a13.2
  else
   some v2
-- BellRope.ship
def mX10_ship_L50 (σ : bo_M) : Nat → Int32 → Int32 → Option ((Int32 × bo_M))
  | 0, _, _ => none
  | n + 1, w3, w4 =>
    if 192 ≤ w4 then
     some ((-1), σ)
    else
     (mX8_at σ 192 23 w4).bind fun v4 =>
     Option.bind (α := Int32) (if w3 ≤ (v4 * 2) then
      some (w3 + (-1))
     else
      if v4 < 3 then
       some w3
      else
       some (w3 + (-1))) fun a5 =>
     if a5 = 0 then
      some ((w4 + 1), σ)
     else
      mX10_ship_L50 σ n a5 (w4 + 1)
def mX10_ship (σ : bo_M) (p1 : Int32) : Option (Int32 × bo_M) :=
  Option.bind (α := Int32) (if p1 < 1 then
   some 1
  else
   if p1 ≤ 99 then
    some 0
   else
    some 1) fun a1 =>
  (mX10_refused σ a1).bind fun v2 =>
  if v2 = 0 then
   (mX9_run σ (bo_inn (σ 0 9)) 50 192).bind fun σ3 =>
   mX10_ship_L50 σ3 bo_fuel p1 0
  else
   some (v2, σ)
-- BellRope.widows
def mX10_widows_L28 (σ : bo_M) (f1 : Int32) : Nat → Int32 → Int32 → Int32 → Option (Int32)
  | 0, _, _, _ => none
  | n + 1, w2, w3, w4 =>
    if w4 < 0 then
     some w2
    else
     (mX2_heardAgo σ 50 w4).bind fun v2 =>
     Option.bind (α := Int32) (if v2 = w3 then
      some w2
     else
      some (w2 + v2)) fun a3 =>
     mX10_widows_L28 σ f1 n a3 v2 (w4 + (-1))
def mX10_widows (σ : bo_M) (p1 : Int32) : Option Int32 :=
  if p1 < 0 then
   some (-1000000002)
  else
   if p1 ≤ 99 then
    (mX2_logs σ 50).bind fun v1 =>
    (mX10_widows_L28 σ p1 bo_fuel 0 (-1) (v1 - 1)).bind fun a4 =>
    some (a4 * p1)
   else
    some (-1000000002)
-- BellRope$Chances.restart
def mX1_restart (σ : bo_M) : Option bo_M :=
  (mX8_zero σ 8 33).bind fun σ1 =>
  (mX8_put σ1 8 33 0 1000000).bind fun σ2 =>
  some σ2
-- BellRope$Chances.lift
def mX1_lift_L3 (f1 : Int32) : Nat → Int32 → bo_M → Option (bo_M)
  | 0, _, _ => none
  | n + 1, w2, σ =>
    if w2 < 0 then
     some σ
    else
     (mX8_at σ 8 33 w2).bind fun v1 =>
     (mX8_at σ 8 33 w2).bind fun v2 =>
     (mX8_put σ 8 33 w2 (v2 - ((v1 * f1) / 100))).bind fun σ3 =>
     (mX8_at σ3 8 33 (w2 + 1)).bind fun v4 =>
     (mX8_put σ3 8 33 (w2 + 1) (v4 + ((v1 * f1) / 100))).bind fun σ5 =>
     mX1_lift_L3 f1 n (w2 + (-1)) σ5
def mX1_lift (σ : bo_M) (p1 : Int32) : Option bo_M :=
  (mX1_lift_L3 p1 bo_fuel 6 σ).bind fun a6 =>
  some a6
-- BellRope$Chances.above
def mX1_above_L4 (σ : bo_M) : Nat → Int32 → Int32 → Option (Int32)
  | 0, _, _ => none
  | n + 1, w2, w3 =>
    if 7 < w3 then
     some w2
    else
     (mX8_at σ 8 33 w3).bind fun v1 =>
     mX1_above_L4 σ n (w2 + v1) (w3 + 1)
def mX1_above (σ : bo_M) (p1 : Int32) : Option Int32 :=
  (mX1_above_L4 σ bo_fuel 0 p1).bind fun a2 =>
  some a2
-- BellRope.odds
def mX10_odds_L48 (f1 : Int32) (f3 : Int32) : Nat → Int32 → bo_M → Option (bo_M)
  | 0, _, _ => none
  | n + 1, w4, σ =>
    if (σ (bo_inn (σ 0 9)) 11) ≤ w4 then
     some σ
    else
     (mX10_bit σ f3 w4).bind fun v5 =>
     Option.bind (α := bo_M) (if v5 = 1 then
      (mX8_at σ 7 ((bo_inn (σ 0 9)) + 3) w4).bind fun v7 =>
      (mX1_lift σ v7).bind fun σ8 =>
      some σ8
     else
      some σ) fun a6 =>
     mX10_odds_L48 f1 f3 n (w4 + 1) a6
def mX10_odds (σ : bo_M) (p1 : Int32) : Option (Int32 × bo_M) :=
  Option.bind (α := Int32) (if p1 < 0 then
   some 1
  else
   if p1 ≤ 16 then
    some 0
   else
    some 1) fun a1 =>
  (mX10_refused σ a1).bind fun v2 =>
  if v2 = 0 then
   (mX1_restart σ).bind fun σ3 =>
   (mX2_thirsty σ3 50 (bo_inn (σ3 0 9))).bind fun v4 =>
   (mX10_odds_L48 p1 v4 bo_fuel 0 σ3).bind fun a9 =>
   (mX1_above a9 p1).bind fun v10 =>
   some (v10, a9)
  else
   some (v2, σ)
-- BellRope.most
def mX10_most_L6 (σ : bo_M) : Nat → Int32 → Int32 → Int32 → Option (Int32)
  | 0, _, _, _ => none
  | n + 1, w1, w2, w3 =>
    if (σ (bo_inn (σ 0 9)) 11) ≤ w3 then
     some w1
    else
     (mX8_at σ 7 51 w3).bind fun v1 =>
     Option.bind (α := Int32 × Int32) (if v1 ≤ w2 then
      some (w1, w2)
     else
      (mX8_at σ 7 51 w3).bind fun v3 =>
      some (w3, v3)) fun a2 =>
     mX10_most_L6 σ n a2.1 a2.2 (w3 + 1)
def mX10_most (σ : bo_M) : Option Int32 :=
  (mX10_most_L6 σ bo_fuel (-1) 0 0).bind fun a4 =>
  some a4
-- BellRope.leastCommon
def mX10_leastCommon_L16 (σ : bo_M) (f0 : Int32) (f1 : Int32) : Nat → Int32 → Int32 → Option (Int32)
  | 0, _, _ => none
  | n + 1, w2, w3 =>
    if f1 ≤ w3 then
     some w2
    else
     (bo_iremo w2 f1).bind fun v1 =>
     if v1 = 0 then
      some w2
     else
      if 999999 ≤ w2 then
       some w2
      else
       mX10_leastCommon_L16 σ f0 f1 n (w2 + f0) (w3 + 1)
def mX10_leastCommon (σ : bo_M) (p0 : Int32) (p1 : Int32) : Option Int32 :=
  if p0 < 1 then
   some 1
  else
   if 1 ≤ p1 then
    (mX10_leastCommon_L16 σ p0 p1 bo_fuel p0 1).bind fun a2 =>
    some (if 999999 < a2 then 999999 else a2)
   else
    some 1
-- BellRope.round
def mX10_round_L4 (σ : bo_M) : Nat → Int32 → Int32 → Option (Int32)
  | 0, _, _ => none
  | n + 1, w1, w2 =>
    if (σ (bo_inn (σ 0 9)) 11) ≤ w2 then
     some w1
    else
     (mX10_bit σ (σ 50 5) w2).bind fun v1 =>
     Option.bind (α := Int32) (if v1 = 1 then
      (mX8_at σ 7 ((bo_inn (σ 0 9)) + 1) w2).bind fun v3 =>
      (mX10_leastCommon σ w1 v3).bind fun v4 =>
      some v4
     else
      some w1) fun a2 =>
     mX10_round_L4 σ n a2 (w2 + 1)
def mX10_round (σ : bo_M) : Option Int32 :=
  (mX10_round_L4 σ bo_fuel 1 0).bind fun a5 =>
  some a5
-- BellRope$Rows.sum
def mX8_sum_L10 (σ : bo_M) (n0 : Nat) (f0 : Nat) : Nat → Int32 → Int32 → Option (Int32)
  | 0, _, _ => none
  | n + 1, w1, w2 =>
    if (Int32.ofNat n0) ≤ w2 then
     some w1
    else
     (bo_ld n0 σ f0 w2).bind fun v1 =>
     mX8_sum_L10 σ n0 f0 n (w1 + v1) (w2 + 1)
def mX8_sum (σ : bo_M) (n0 r0 : Nat) : Option Int32 :=
  (mX8_sum_L10 σ n0 r0 bo_fuel 0 0).bind fun a2 =>
  some a2
-- BellRope.payersAhead
def mX10_payersAhead_L4 (σ : bo_M) (f1 : Int32) : Nat → Int32 → Int32 → Option (Int32)
  | 0, _, _ => none
  | n + 1, w2, w3 =>
    if (σ (bo_inn (σ 0 9)) 11) ≤ w3 then
     some w2
    else
     (mX8_at σ 7 51 w3).bind fun v1 =>
     (mX8_at σ 7 51 f1).bind fun v2 =>
     (mX10_bit σ (σ 50 5) w3).bind fun v3 =>
     Option.bind (α := Int32) (if v3 = 1 then
      if 0 < (v1 - v2) then
       some (w2 + 1)
      else
       if (v1 - v2) = 0 then
        if f1 ≤ w3 then
         some w2
        else
         some (w2 + 1)
       else
        some w2
     else
      some w2) fun a4 =>
     mX10_payersAhead_L4 σ f1 n a4 (w3 + 1)
def mX10_payersAhead (σ : bo_M) (p1 : Int32) : Option Int32 :=
  (mX10_payersAhead_L4 σ p1 bo_fuel 0 0).bind fun a5 =>
  some a5
-- BellRope.share
def mX10_share (σ : bo_M) (p1 : Int32) : Option Int32 :=
  (mX4_hasDrinker σ (bo_inn (σ 0 9)) p1).bind fun v1 =>
  if v1 = 0 then
   some (-1000000001)
  else
   (mJ6_bitCount_0f7a4 σ (σ 50 5)).bind fun v2 =>
   (mX10_bit σ (σ 50 5) p1).bind fun v3 =>
   if v3 = 0 then
    some 0
   else
    if 0 < v2 then
     (mX8_sum σ 7 51).bind fun v4 =>
     (mX10_payersAhead σ p1).bind fun v5 =>
     (bo_iremo v4 v2).bind fun v6 =>
     Option.bind (α := Int32) (if v6 ≤ v5 then
      some 0
     else
      some 1) fun a7 =>
     (bo_idivo v4 v2).bind fun v8 =>
     some (v8 + a7)
    else
     some 0
-- BellRope$Known.append
def mX5_append (σ : bo_M) (p1 : Int32) (p2 : Int32) : Option (Int32 × bo_M) :=
  if (σ 24 4) < 6 then
   (mX8_put σ 6 25 (σ 24 4) p1).bind fun σ1 =>
   (mX8_put σ1 6 26 (σ1 24 4) p2).bind fun σ2 =>
   (some (bo_up σ2 24 4 ((σ2 24 4) + 1))).bind fun σ3 =>
   some (1, σ3)
  else
   some (0, σ)
-- BellRope.was
def mX10_was (σ : bo_M) (p1 : Int32) (p2 : Int32) : Option (Int32 × bo_M) :=
  Option.bind (α := Int32) (if p1 < 0 then
   some 1
  else
   if 96 ≤ p1 then
    some 1
   else
    if p2 < 0 then
     some 1
    else
     if p2 ≤ 16 then
      some 0
     else
      some 1) fun a1 =>
  (mX10_refused σ a1).bind fun v2 =>
  if v2 = 0 then
   (mX5_append σ p1 p2).bind fun a3 =>
   if a3.1 = 0 then
    some ((-1000000004), a3.2)
   else
    some ((a3.2 24 4), a3.2)
  else
   some (v2, σ)
-- BellRope$Known.heardBy
def mX5_heardBy (σ : bo_M) (r0 : Nat) (p1 : Int32) (p2 : Int32) (p3 : Int32) : Option Int32 :=
  (mJ6_bitCount_0f7a4 σ p1).bind fun v1 =>
  (mX4_sextonAt σ r0 p2).bind fun v2 =>
  Option.bind (α := Int32) (if v2 = 0 then
   some 0
  else
   some p3) fun a3 =>
  (mX4_echoed σ r0 v1 a3).bind fun v4 =>
  some v4
-- BellRope$Known.fits
def mX5_fits_L3 (σ : bo_M) (f1 : Nat) (f2 : Nat) (f3 : Int32) (f4 : Int32) : Nat → Int32 → Option (Int32)
  | 0, _ => none
  | n + 1, w5 =>
    if (σ 24 4) ≤ w5 then
     some 1
    else
     (mX8_at σ 6 25 w5).bind fun v1 =>
     (mX2_due σ f2 f1 v1).bind fun v2 =>
     (mX5_heardBy σ f1 (f3 &&& v2) v1 f4).bind fun v3 =>
     (mX8_at σ 6 26 w5).bind fun v4 =>
     if v3 = v4 then
      mX5_fits_L3 σ f1 f2 f3 f4 n (w5 + 1)
     else
      some 0
def mX5_fits (σ : bo_M) (r1 : Nat) (r2 : Nat) (p3 : Int32) (p4 : Int32) : Option Int32 :=
  mX5_fits_L3 σ r1 r2 p3 p4 bo_fuel 0
-- BellRope$Known.findSets
def mX5_findSets_L7 (f1 : Nat) (f2 : Nat) : Nat → Int32 → bo_M → Option (bo_M)
  | 0, _, _ => none
  | n + 1, w3, σ =>
    (mX4_sets σ f1).bind fun v2 =>
    if v2 ≤ w3 then
     some σ
    else
     (mX5_fits σ f1 f2 w3 (σ f1 9)).bind fun v3 =>
     Option.bind (α := bo_M) (if v3 = 0 then
      some σ
     else
      (mX8_put σ 128 27 (σ 24 5) w3).bind fun σ5 =>
      (some (bo_up σ5 24 5 ((σ5 24 5) + 1))).bind fun σ6 =>
      some σ6) fun a4 =>
     mX5_findSets_L7 f1 f2 n (w3 + 1) a4
def mX5_findSets (σ : bo_M) (r1 : Nat) (r2 : Nat) : Option bo_M :=
  (some (bo_up σ 24 5 0)).bind fun σ1 =>
  (mX5_findSets_L7 r1 r2 bo_fuel 0 σ1).bind fun a7 =>
  some a7
-- BellRope$Known.leastSet
def mX5_leastSet (σ : bo_M) : Option Int32 :=
  if (σ 24 5) ≤ 0 then
   some (-1)
  else
   (mX8_at σ 128 27 0).bind fun v1 =>
   some v1
-- BellRope$Known.sureIn
def mX5_sureIn_L7 (σ : bo_M) : Nat → Int32 → Int32 → Option (Int32)
  | 0, _, _ => none
  | n + 1, w1, w2 =>
    if (σ 24 5) ≤ w2 then
     some w1
    else
     (mX8_at σ 128 27 w2).bind fun v2 =>
     mX5_sureIn_L7 σ n (w1 &&& v2) (w2 + 1)
def mX5_sureIn (σ : bo_M) : Option Int32 :=
  (mX5_leastSet σ).bind fun v1 =>
  (mX5_sureIn_L7 σ bo_fuel v1 0).bind fun a3 =>
  if (σ 24 5) ≤ 0 then
   some 0
  else
   some a3
-- BellRope$Known.sureOut
def mX5_sureOut_L4 (σ : bo_M) (f1 : Nat) : Nat → Int32 → Int32 → Option (Int32)
  | 0, _, _ => none
  | n + 1, w2, w3 =>
    if (σ 24 5) ≤ w3 then
     some w2
    else
     (mX8_at σ 128 27 w3).bind fun v1 =>
     mX5_sureOut_L4 σ f1 n (w2 ||| v1) (w3 + 1)
def mX5_sureOut (σ : bo_M) (r1 : Nat) : Option Int32 :=
  (mX5_sureOut_L4 σ r1 bo_fuel 0 0).bind fun a2 =>
  if (σ 24 5) ≤ 0 then
   some 0
  else
   (mX4_sets σ r1).bind fun v3 =>
   some ((v3 - 1) &&& (a2 ^^^ (-1)))
-- BellRope.could
def mX10_could (σ : bo_M) (p1 : Int32) : Option (Int32 × bo_M) :=
  Option.bind (α := Int32) (if p1 < 0 then
   some 1
  else
   if p1 ≤ 3 then
    some 0
   else
    some 1) fun a1 =>
  (mX10_refused σ a1).bind fun v2 =>
  if v2 = 0 then
   (mX5_findSets σ (bo_inn (σ 0 9)) 50).bind fun σ3 =>
   if p1 = 0 then
    some ((σ3 24 5), σ3)
   else
    if p1 = 1 then
     (mX5_leastSet σ3).bind fun v6 =>
     some (v6, σ3)
    else
     if p1 = 2 then
      (mX5_sureIn σ3).bind fun v8 =>
      some (v8, σ3)
     else
      (mX5_sureOut σ3 (bo_inn (σ3 0 9))).bind fun v9 =>
      some (v9, σ3)
  else
   some (v2, σ)
-- BellRope$Known.greatestAlike
def mX5_greatestAlike_L21 (f1 : Nat) (f3 : Int32) (f4 : Int32) : Nat → Int32 → Int32 → bo_M → Option (Int32 × bo_M)
  | 0, _, _, _ => none
  | n + 1, w5, w6, σ =>
    if (σ 24 5) ≤ w6 then
     some (w5, σ)
    else
     (mX8_at σ 128 27 w6).bind fun v3 =>
     (mX5_heardBy σ f1 (v3 &&& f4) f3 (σ f1 9)).bind fun v4 =>
     (mX8_at σ 17 28 v4).bind fun v5 =>
     (mX8_put σ 17 28 v4 (v5 + 1)).bind fun σ6 =>
     mX5_greatestAlike_L21 f1 f3 f4 n (if w5 < (v5 + 1) then (v5 + 1) else w5) (w6 + 1) σ6
def mX5_greatestAlike (σ : bo_M) (r1 : Nat) (r2 : Nat) (p3 : Int32) : Option (Int32 × bo_M) :=
  (mX2_due σ r2 r1 p3).bind fun v1 =>
  (mX8_zero σ 17 28).bind fun σ2 =>
  (mX5_greatestAlike_L21 r1 p3 v1 bo_fuel 0 0 σ2).bind fun a7 =>
  some (a7.1, a7.2)
-- BellRope.listen
def mX10_listen_L40  : Nat → Int32 → Int32 → Int32 → bo_M → Option (Int32 × bo_M)
  | 0, _, _, _, _ => none
  | n + 1, w1, w2, w3, σ =>
    if 96 ≤ w3 then
     some (w2, σ)
    else
     (mX5_greatestAlike σ (bo_inn (σ 0 9)) 50 w3).bind fun a2 =>
     Option.bind (α := Int32 × Int32) (if w1 ≤ a2.1 then
      some (w1, w2)
     else
      some (a2.1, w3)) fun a3 =>
     mX10_listen_L40 n a3.1 a3.2 (w3 + 1) a2.2
def mX10_listen (σ : bo_M) : Option (Int32 × bo_M) :=
  if (σ (bo_inn (σ 0 9)) 7 &&& 1) = 0 then
   some ((-1000000003), σ)
  else
   (mX5_findSets σ (bo_inn (σ 0 9)) 50).bind fun σ1 =>
   (mX10_listen_L40 bo_fuel (σ1 24 5) (-1) 0 σ1).bind fun a4 =>
   some (a4.1, a4.2)
-- BellRope.muffled
def mX10_muffled_L17 (σ : bo_M) : Nat → Int32 → Int32 → Option (Int32)
  | 0, _, _ => none
  | n + 1, w1, w2 =>
    if 9 < w2 then
     some w1
    else
     (mX5_fits σ (bo_inn (σ 0 9)) 50 (σ 50 5) w2).bind fun v1 =>
     Option.bind (α := Int32) (if v1 = 0 then
      some w1
     else
      some (w1 ||| (1 <<< (w2 &&& 31)))) fun a2 =>
     mX10_muffled_L17 σ n a2 (w2 + 1)
def mX10_muffled (σ : bo_M) : Option Int32 :=
  if (σ (bo_inn (σ 0 9)) 7 &&& 1) = 0 then
   some (-1000000003)
  else
   (mX10_muffled_L17 σ bo_fuel 0 0).bind fun a3 =>
   some a3
-- BellRope$Book.append
def mX0_append (σ : bo_M) (p1 : Int32) (p2 : Int32) : Option (Int32 × bo_M) :=
  if (σ 29 2) < 15 then
   (mX8_put σ 15 30 (σ 29 2) p1).bind fun σ1 =>
   (mX8_put σ1 15 31 (σ1 29 2) p2).bind fun σ2 =>
   (some (bo_up σ2 29 2 ((σ2 29 2) + 1))).bind fun σ3 =>
   some (1, σ3)
  else
   some (0, σ)
-- BellRope.write
def mX10_write (σ : bo_M) (p1 : Int32) (p2 : Int32) : Option (Int32 × bo_M) :=
  (mX4_hasDrinker σ (bo_inn (σ 0 9)) p1).bind fun v1 =>
  if v1 = 0 then
   some ((-1000000001), σ)
  else
   if p2 < 0 then
    some ((-1000000002), σ)
   else
    if p2 ≤ 20 then
     (mX0_append σ p1 p2).bind fun a2 =>
     if a2.1 = 0 then
      some ((-1000000004), a2.2)
     else
      some ((a2.2 29 2), a2.2)
    else
     some ((-1000000002), σ)
-- BellRope.tear
def mX10_tear (σ : bo_M) : Option (Int32 × bo_M) :=
  (some (bo_up σ 24 4 0)).bind fun σ1 =>
  (some (bo_up σ1 29 2 0)).bind fun σ2 =>
  some (((σ 24 4) + (σ 29 2)), σ2)
-- BellRope$Book.firstWrong
def mX0_firstWrong_L2 (σ : bo_M) (f1 : Nat) : Nat → Int32 → Option (Int32)
  | 0, _ => none
  | n + 1, w2 =>
    if (σ 29 2) ≤ w2 then
     some (-1)
    else
     (mX8_at σ 15 30 w2).bind fun v1 =>
     (mX8_at σ 7 (f1 + 1) v1).bind fun v2 =>
     (mX8_at σ 15 31 w2).bind fun v3 =>
     if v2 = v3 then
      mX0_firstWrong_L2 σ f1 n (w2 + 1)
     else
      some w2
def mX0_firstWrong (σ : bo_M) (r1 : Nat) : Option Int32 :=
  mX0_firstWrong_L2 σ r1 bo_fuel 0
-- BellRope.judge
def mX10_judge (σ : bo_M) : Option Int32 :=
  (mX0_firstWrong σ 50).bind fun v1 =>
  some v1
-- BellRope.seed
def mX10_seed (σ : bo_M) (p1 : Int32) : Option (Int32 × bo_M) :=
  if 0 ≤ p1 then
   (some (bo_up σ 0 11 p1)).bind fun σ1 =>
   some ((σ 0 11), σ1)
  else
   some ((-1000000002), σ)
-- BellRope.imageOf
def mX10_imageOf (σ : bo_M) (p1 : Int32) : Option (Option Int32) :=
  if p1 = 0 then
   some (some 0)
  else
   if p1 = 1 then
    some (some 1)
   else
    some none
-- BellRope.keep
def mX10_keep (σ : bo_M) (p1 : Int32) : Option (Int32 × bo_M) :=
  (mX10_imageOf σ p1).bind fun qc1 =>
  bo_oc qc1
   (some ((-1000000001), σ))
   (fun c1 =>
  (mX2_become σ ((bo_im c1) + 1) 50).bind fun σ2 =>
  (some (bo_up σ2 (bo_im c1) 1 (σ2 0 11))).bind fun σ3 =>
  (some (bo_up σ3 (bo_im c1) 2 1)).bind fun σ4 =>
  (some (bo_up σ4 3 1 0)).bind fun σ5 =>
  some (1, σ5))
-- BellRope.goBack
def mX10_goBack (σ : bo_M) (p1 : Int32) : Option (Int32 × bo_M) :=
  (mX10_imageOf σ p1).bind fun qc1 =>
  bo_oc qc1
   (some ((-1000000001), σ))
   (fun c1 =>
  if (σ (bo_im c1) 2 &&& 1) = 0 then
   some ((-1000000003), σ)
  else
   (mX2_become σ 50 ((bo_im c1) + 1)).bind fun σ2 =>
   (some (bo_up σ2 0 11 (σ2 (bo_im c1) 1))).bind fun σ3 =>
   (some (bo_up σ3 3 1 0)).bind fun σ4 =>
   some (1, σ4))
-- BellRopeModel.in
def mX11_in (σ : bo_M) (q0 : Int64) (q2 : Int64) (q4 : Int64) : Option Int32 :=
  if (lg_cmp q0 q2) < 0 then
   some 0
  else
   if 0 < (lg_cmp q0 q4) then
    some 0
   else
    some 1
-- BellRopeModel.has
def mX11_has (σ : bo_M) (p0 : Int32) (p1 : Int32) : Option Int32 :=
  if ((p0 >>> (p1 &&& 31)) &&& 1) = 1 then
   some 1
  else
   some 0
-- BellRopeModel.bits
def mX11_bits_L4 (σ : bo_M) (f0 : Int32) : Nat → Int32 → Int32 → Option (Int32)
  | 0, _, _ => none
  | n + 1, w1, w2 =>
    if 7 ≤ w2 then
     some w1
    else
     mX11_bits_L4 σ f0 n (w1 + ((f0 >>> (w2 &&& 31)) &&& 1)) (w2 + 1)
def mX11_bits (σ : bo_M) (p0 : Int32) : Option Int32 :=
  (mX11_bits_L4 σ p0 bo_fuel 0 0).bind fun a1 =>
  some a1
-- BellRopeModel.isDrinker
def mX11_isDrinker (σ : bo_M) (p1 : Int32) : Option Int32 :=
  (mX11_in σ (Int32.toInt64 p1) 0 (Int32.toInt64 ((σ 135 4) - 1))).bind fun v1 =>
  some v1
-- BellRopeModel.isGoer
def mX11_isGoer (σ : bo_M) (p1 : Int32) : Option Int32 :=
  (mX11_in σ (Int32.toInt64 p1) 0 (Int32.toInt64 ((σ 135 11) - 1))).bind fun v1 =>
  some v1
-- BellRopeModel.feed
def mX11_feed (σ : bo_M) (p1 : Int32) : Option (Int32 × bo_M) :=
  (mX11_in σ (Int32.toInt64 p1) 0 255).bind fun v1 =>
  if v1 = 0 then
   some ((-1000000002), σ)
  else
   if (σ 135 19) = 240 then
    some ((-1000000004), σ)
   else
    (bo_st 240 σ 145 (σ 135 19) p1).bind fun σ2 =>
    (some (bo_up σ2 135 19 ((σ2 135 19) + 1))).bind fun σ3 =>
    some ((σ3 135 19), σ3)
-- BellRopeModel.here
def mX11_here_L0  : Nat → bo_M → Option (bo_M)
  | 0, _ => none
  | n + 1, σ =>
    if (σ 135 19) ≤ (σ 135 21) then
     some σ
    else
     (bo_ld 240 σ 145 (σ 135 21)).bind fun v1 =>
     if v1 = 32 then
      (some (bo_up σ 135 21 ((σ 135 21) + 1))).bind fun σ2 =>
      mX11_here_L0 n σ2
     else
      some σ
def mX11_here (σ : bo_M) : Option (Int32 × bo_M) :=
  (mX11_here_L0 bo_fuel σ).bind fun a3 =>
  if (a3 135 19) ≤ (a3 135 21) then
   some ((-1), a3)
  else
   (bo_ld 240 a3 145 (a3 135 21)).bind fun v4 =>
   some (v4, a3)
-- BellRopeModel.fails
def mX11_fails (σ : bo_M) (p1 : Int32) (p2 : Int32) : Option (Int32 × bo_M) :=
  (some (bo_up σ 135 20 p2)).bind fun σ1 =>
  some (p1, σ1)
-- BellRopeModel.takeNumber
def mX11_takeNumber_L42 (f1 : Int32) (f2 : Int32) : Nat → bo_M → Option (bo_M)
  | 0, _ => none
  | n + 1, σ =>
    if (σ 135 19) ≤ (σ 135 21) then
     some σ
    else
     (bo_ld 240 σ 145 (σ 135 21)).bind fun v5 =>
     (mX11_in σ (Int32.toInt64 v5) 48 57).bind fun v6 =>
     if v6 = 0 then
      some σ
     else
      Option.bind (α := Int32) (if (σ 135 22) ≤ 10000 then
       (bo_ld 240 σ 145 (σ 135 21)).bind fun v8 =>
       some (((10 * (σ 135 22)) + v8) - 48)
      else
       some (σ 135 22)) fun a7 =>
      (some (bo_up σ 135 22 a7)).bind fun σ9 =>
      (some (bo_up σ9 135 21 ((σ9 135 21) + 1))).bind fun σ10 =>
      mX11_takeNumber_L42 f1 f2 n σ10
def mX11_takeNumber (σ : bo_M) (p1 : Int32) (p2 : Int32) : Option (Int32 × bo_M) :=
  (mX11_here σ).bind fun a1 =>
  (mX11_in a1.2 (Int32.toInt64 a1.1) 48 57).bind fun v2 =>
  if v2 = 0 then
   (mX11_fails a1.2 1 (a1.2 135 21)).bind fun a15 =>
   some (a15.1, a15.2)
  else
   (some (bo_up a1.2 135 23 (a1.2 135 21))).bind fun σ3 =>
   (some (bo_up σ3 135 22 0)).bind fun σ4 =>
   (mX11_takeNumber_L42 p1 p2 bo_fuel σ4).bind fun a11 =>
   if 3 < ((a11 135 21) - (a11 135 23)) then
    (mX11_fails a11 2 (a11 135 23)).bind fun a12 =>
    some (a12.1, a12.2)
   else
    (mX11_in a11 (Int32.toInt64 (a11 135 22)) (Int32.toInt64 p1) (Int32.toInt64 p2)).bind fun v13 =>
    if v13 = 0 then
     (mX11_fails a11 2 (a11 135 23)).bind fun a14 =>
     some (a14.1, a14.2)
    else
     some (0, a11)
-- BellRopeModel.into
def mX11_into (σ : bo_M) (n1 r1 : Nat) (p2 : Int32) (p3 : Int32) (p4 : Int32) : Option (Int32 × bo_M) :=
  (mX11_takeNumber σ p3 p4).bind fun a1 =>
  (bo_st n1 a1.2 r1 p2 (a1.2 135 22)).bind fun σ2 =>
  some (a1.1, σ2)
-- BellRopeModel.takeLaw
def mX11_takeLaw (σ : bo_M) : Option (Int32 × bo_M) :=
  (some (bo_up σ 135 24 1)).bind fun σ1 =>
  (mX11_into σ1 3 146 0 0 1).bind fun a2 =>
  Option.bind (α := Int32 × bo_M) (if a2.1 ≤ 0 then
   (mX11_into a2.2 3 146 1 0 9).bind fun a4 =>
   some (a4.1, a4.2)
  else
   some (a2.1, a2.2)) fun a3 =>
  if a3.1 ≤ 0 then
   (mX11_into a3.2 3 146 2 0 127).bind fun a5 =>
   some (a5.1, a5.2)
  else
   some (a3.1, a3.2)
-- BellRopeModel.takeDrinker
def mX11_takeDrinker (σ : bo_M) : Option (Int32 × bo_M) :=
  (some (bo_up σ 135 26 ((σ 135 26) + 1))).bind fun σ1 =>
  (mX11_into σ1 7 147 (σ 135 26) 1 40).bind fun a2 =>
  Option.bind (α := Int32 × bo_M) (if a2.1 ≤ 0 then
   (mX11_into a2.2 7 148 (σ 135 26) 1 20).bind fun a4 =>
   some (a4.1, a4.2)
  else
   some (a2.1, a2.2)) fun a3 =>
  if a3.1 ≤ 0 then
   (mX11_into a3.2 7 149 (σ 135 26) 0 100).bind fun a5 =>
   some (a5.1, a5.2)
  else
   some (a3.1, a3.2)
-- BellRopeModel.takeTime
def mX11_takeTime (σ : bo_M) : Option (Int32 × bo_M) :=
  (some (bo_up σ 135 30 ((σ 135 30) + 1))).bind fun σ1 =>
  (mX11_into σ1 4 150 (σ 135 30) 0 95).bind fun a2 =>
  (bo_ld 4 a2.2 150 (σ 135 30)).bind fun v3 =>
  Option.bind (α := Int32) (if 24 ≤ (96 - v3) then
   some 24
  else
   (bo_ld 4 a2.2 150 (σ 135 30)).bind fun v5 =>
   some (96 - v5)) fun a4 =>
  if a2.1 ≤ 0 then
   (mX11_into a2.2 4 151 (σ 135 30) 1 a4).bind fun a6 =>
   some (a6.1, a6.2)
  else
   some (a2.1, a2.2)
-- BellRopeModel.takeGoer
def mX11_takeGoer (σ : bo_M) : Option (Int32 × bo_M) :=
  (some (bo_up σ 135 33 ((σ 135 33) + 1))).bind fun σ1 =>
  (mX11_into σ1 6 152 (σ 135 33) 0 95).bind fun a2 =>
  if a2.1 ≤ 0 then
   (mX11_into a2.2 6 153 (σ 135 33) 0 40).bind fun a3 =>
   some (a3.1, a3.2)
  else
   some (a2.1, a2.2)
-- BellRopeModel.takeSignal
def mX11_takeSignal_L30 (f1 : Int32) (f2 : Int32) : Nat → Int32 → bo_M → Option ((Int32 × bo_M))
  | 0, _, _ => none
  | n + 1, w3, σ =>
    if f1 ≤ w3 then
     some (f2, σ)
    else
     if f2 = 0 then
      (bo_ld 5 σ 154 w3).bind fun v3 =>
      (bo_ld 5 σ 154 f1).bind fun v4 =>
      if v3 = v4 then
       (mX11_fails σ 4 (σ 135 23)).bind fun a5 =>
       some (a5.1, a5.2)
      else
       mX11_takeSignal_L30 f1 f2 n (w3 + 1) σ
     else
      some (f2, σ)
def mX11_takeSignal (σ : bo_M) : Option (Int32 × bo_M) :=
  (some (bo_up σ 135 36 ((σ 135 36) + 1))).bind fun σ1 =>
  (mX11_into σ1 5 154 (σ 135 36) 1 16).bind fun a2 =>
  mX11_takeSignal_L30 (σ 135 36) a2.1 bo_fuel 0 a2.2
-- BellRopeModel.whichClause
def mX11_whichClause (σ : bo_M) (p1 : Int32) : Option Int32 :=
  if p1 = 98 then
   some 0
  else
   if p1 = 100 then
    some 1
   else
    if p1 = 115 then
     some 2
    else
     if p1 = 103 then
      some 3
     else
      if p1 = 110 then
       some 4
      else
       some (-1)
-- BellRopeModel.isFull
def mX11_isFull (σ : bo_M) (p1 : Int32) : Option Int32 :=
  if p1 = 0 then
   some (σ 135 24 &&& 1)
  else
   if p1 = 1 then
    if (σ 135 26) = 7 then
     some 1
    else
     some 0
   else
    if p1 = 2 then
     if (σ 135 30) = 4 then
      some 1
     else
      some 0
    else
     if p1 = 3 then
      if (σ 135 33) = 6 then
       some 1
      else
       some 0
     else
      if (σ 135 36) = 5 then
       some 1
      else
       some 0
-- BellRopeModel.takeBody
def mX11_takeBody (σ : bo_M) (p1 : Int32) : Option (Int32 × bo_M) :=
  if p1 = 0 then
   (mX11_takeLaw σ).bind fun a2 =>
   some (a2.1, a2.2)
  else
   if p1 = 1 then
    (mX11_takeDrinker σ).bind fun a4 =>
    some (a4.1, a4.2)
   else
    if p1 = 2 then
     (mX11_takeTime σ).bind fun a6 =>
     some (a6.1, a6.2)
    else
     if p1 = 3 then
      (mX11_takeGoer σ).bind fun a8 =>
      some (a8.1, a8.2)
     else
      (mX11_takeSignal σ).bind fun a9 =>
      some (a9.1, a9.2)
-- BellRopeModel.takeClause
def mX11_takeClause (σ : bo_M) : Option (Int32 × bo_M) :=
  (mX11_here σ).bind fun a1 =>
  (mX11_whichClause a1.2 a1.1).bind fun v2 =>
  if v2 < 0 then
   (mX11_fails a1.2 1 (a1.2 135 21)).bind fun a3 =>
   some (a3.1, a3.2)
  else
   if v2 ≤ 0 then
    (mX11_isFull a1.2 v2).bind fun v4 =>
    if v4 = 0 then
     (some (bo_up a1.2 135 21 ((a1.2 135 21) + 1))).bind fun σ5 =>
     (mX11_takeBody σ5 v2).bind fun a6 =>
     if a6.1 = 0 then
      (mX11_here a6.2).bind fun a8 =>
      if a8.1 = 59 then
       (some (bo_up a8.2 135 21 ((a8.2 135 21) + 1))).bind fun σ9 =>
       some (a6.1, σ9)
      else
       (mX11_fails a8.2 1 (a8.2 135 21)).bind fun a10 =>
       some (a10.1, a10.2)
     else
      (some (bo_up a6.2 135 21 ((a6.2 135 21) + 1))).bind fun σ7 =>
      some (a6.1, σ7)
    else
     (mX11_fails a1.2 3 (a1.2 135 21)).bind fun a11 =>
     some (a11.1, a11.2)
   else
    if (a1.2 135 24 &&& 1) = 0 then
     (mX11_fails a1.2 1 (a1.2 135 21)).bind fun a20 =>
     some (a20.1, a20.2)
    else
     (mX11_isFull a1.2 v2).bind fun v12 =>
     if v12 = 0 then
      (some (bo_up a1.2 135 21 ((a1.2 135 21) + 1))).bind fun σ13 =>
      (mX11_takeBody σ13 v2).bind fun a14 =>
      if a14.1 = 0 then
       (mX11_here a14.2).bind fun a16 =>
       if a16.1 = 59 then
        (some (bo_up a16.2 135 21 ((a16.2 135 21) + 1))).bind fun σ17 =>
        some (a14.1, σ17)
       else
        (mX11_fails a16.2 1 (a16.2 135 21)).bind fun a18 =>
        some (a18.1, a18.2)
      else
       (some (bo_up a14.2 135 21 ((a14.2 135 21) + 1))).bind fun σ15 =>
       some (a14.1, σ15)
     else
      (mX11_fails a1.2 3 (a1.2 135 21)).bind fun a19 =>
      some (a19.1, a19.2)
-- BellRopeModel.copyRow
def mX11_copyRow_L2 (n0 : Nat) (f0 : Nat) (n1 : Nat) (f1 : Nat) (f2 : Int32) : Nat → Int32 → bo_M → Option (bo_M)
  | 0, _, _ => none
  | n + 1, w3, σ =>
    if f2 ≤ w3 then
     some σ
    else
     (bo_ld n0 σ f0 w3).bind fun v1 =>
     (bo_st n1 σ f1 w3 v1).bind fun σ2 =>
     mX11_copyRow_L2 n0 f0 n1 f1 f2 n (w3 + 1) σ2
def mX11_copyRow (σ : bo_M) (n0 r0 : Nat) (n1 r1 : Nat) (p2 : Int32) : Option bo_M :=
  (mX11_copyRow_L2 n0 r0 n1 r1 p2 bo_fuel 0 σ).bind fun a3 =>
  some a3
-- BellRopeModel.takeRead
def mX11_takeRead_L225  : Nat → Int32 → bo_M → Option (bo_M)
  | 0, _, _ => none
  | n + 1, w1, σ =>
    if 107 ≤ w1 then
     some σ
    else
     (bo_st 107 σ 144 w1 0).bind fun σ23 =>
     mX11_takeRead_L225 n (w1 + 1) σ23
def mX11_takeRead (σ : bo_M) : Option bo_M :=
  (some (bo_up σ 135 0 (σ 135 24 &&& 1))).bind fun σ1 =>
  Option.bind (α := Int32) (if (σ1 135 24 &&& 1) = 0 then
   some 0
  else
   (bo_ld 3 σ1 146 0).bind fun v3 =>
   some v3) fun a2 =>
  (some (bo_up σ1 135 1 a2)).bind fun σ4 =>
  Option.bind (α := Int32) (if (σ4 135 24 &&& 1) = 0 then
   some 0
  else
   (bo_ld 3 σ4 146 1).bind fun v6 =>
   some v6) fun a5 =>
  (some (bo_up σ4 135 2 a5)).bind fun σ7 =>
  Option.bind (α := Int32) (if (σ7 135 24 &&& 1) = 0 then
   some 0
  else
   (bo_ld 3 σ7 146 2).bind fun v9 =>
   some v9) fun a8 =>
  (some (bo_up σ7 135 3 a8)).bind fun σ10 =>
  (some (bo_up σ10 135 4 (σ10 135 26))).bind fun σ11 =>
  (some (bo_up σ11 135 8 (σ11 135 30))).bind fun σ12 =>
  (some (bo_up σ12 135 11 (σ12 135 33))).bind fun σ13 =>
  (some (bo_up σ13 135 14 (σ13 135 36))).bind fun σ14 =>
  (mX11_copyRow σ14 7 147 7 136 (σ14 135 4)).bind fun σ15 =>
  (mX11_copyRow σ15 7 148 7 137 (σ15 135 4)).bind fun σ16 =>
  (mX11_copyRow σ16 7 149 7 138 (σ16 135 4)).bind fun σ17 =>
  (mX11_copyRow σ17 4 150 4 139 (σ17 135 8)).bind fun σ18 =>
  (mX11_copyRow σ18 4 151 4 140 (σ18 135 8)).bind fun σ19 =>
  (mX11_copyRow σ19 6 152 6 141 (σ19 135 11)).bind fun σ20 =>
  (mX11_copyRow σ20 6 153 6 142 (σ20 135 11)).bind fun σ21 =>
  (mX11_copyRow σ21 5 154 5 143 (σ21 135 14)).bind fun σ22 =>
  (mX11_takeRead_L225 bo_fuel 0 σ22).bind fun a24 =>
  some a24
-- BellRopeModel.inn
def mX11_inn_L37  : Nat → Int32 → bo_M → Option (Int32 × bo_M)
  | 0, _, _ => none
  | n + 1, w1, σ =>
    if w1 = 0 then
     (mX11_here σ).bind fun a8 =>
     if a8.1 < 0 then
      some (w1, a8.2)
     else
      (mX11_takeClause a8.2).bind fun a9 =>
      mX11_inn_L37 n a9.1 a9.2
    else
     some (w1, σ)
def mX11_inn (σ : bo_M) : Option (Int32 × bo_M) :=
  (some (bo_up σ 135 20 (-1))).bind fun σ1 =>
  (some (bo_up σ1 135 21 0)).bind fun σ2 =>
  (some (bo_up σ2 135 24 0)).bind fun σ3 =>
  (some (bo_up σ3 135 26 0)).bind fun σ4 =>
  (some (bo_up σ4 135 30 0)).bind fun σ5 =>
  (some (bo_up σ5 135 33 0)).bind fun σ6 =>
  (some (bo_up σ6 135 36 0)).bind fun σ7 =>
  (mX11_inn_L37 bo_fuel 0 σ7).bind fun a10 =>
  (some (bo_up a10.2 135 19 0)).bind fun σ11 =>
  if a10.1 ≤ 0 then
   (mX11_takeRead σ11).bind fun σ12 =>
   (some (bo_up σ12 135 44 0)).bind fun σ13 =>
   (some (bo_up σ13 135 49 0)).bind fun σ14 =>
   (some (bo_up σ14 135 38 0)).bind fun σ15 =>
   (bo_st 2 σ15 167 0 (0 &&& 1)).bind fun σ16 =>
   (bo_st 2 σ16 167 1 (0 &&& 1)).bind fun σ17 =>
   some ((σ17 135 4), σ17)
  else
   some (((-10) - a10.1), σ11)
-- BellRopeModel.fault
def mX11_fault (σ : bo_M) : Option Int32 :=
  some (σ 135 20)
-- BellRopeModel.whoIsIn
def mX11_whoIsIn_L4 (σ : bo_M) : Nat → Int32 → Int32 → Option (Int32)
  | 0, _, _ => none
  | n + 1, w1, w2 =>
    if (σ 135 4) ≤ w2 then
     some w1
    else
     (bo_ld 107 σ 144 (0 + w2)).bind fun v1 =>
     Option.bind (α := Int32) (if v1 = 1 then
      some (1 <<< (w2 &&& 31))
     else
      some 0) fun a2 =>
     mX11_whoIsIn_L4 σ n (w1 ||| a2) (w2 + 1)
def mX11_whoIsIn (σ : bo_M) : Option Int32 :=
  (mX11_whoIsIn_L4 σ bo_fuel 0 0).bind fun a3 =>
  some a3
-- BellRopeModel.isWet
def mX11_isWet (σ : bo_M) : Option Int32 :=
  (bo_ld 107 σ 144 25).bind fun v1 =>
  if v1 ≤ 0 then
   (bo_ld 107 σ 144 21).bind fun v2 =>
   (mX11_has σ (σ 135 3) (bo_irm (v2 / 96) 7)).bind fun v3 =>
   some v3
  else
   (bo_ld 107 σ 144 25).bind fun v4 =>
   if v4 = 1 then
    some 1
   else
    some 0
-- BellRopeModel.isFirstOfDay
def mX11_isFirstOfDay (σ : bo_M) : Option Int32 :=
  (bo_ld 107 σ 144 21).bind fun v1 =>
  if (bo_irm v1 96) = 0 then
   some 1
  else
   some 0
-- BellRopeModel.isBlanketed
def mX11_isBlanketed_L4 (σ : bo_M) (f1 : Int32) : Nat → Int32 → Int32 → Option (Int32)
  | 0, _, _ => none
  | n + 1, w2, w3 =>
    if (σ 135 8) ≤ w3 then
     some w2
    else
     Option.bind (α := Int32) (if w2 = 0 then
      (bo_ld 4 σ 139 w3).bind fun v2 =>
      (bo_ld 4 σ 139 w3).bind fun v3 =>
      (bo_ld 4 σ 140 w3).bind fun v4 =>
      (mX11_in σ (Int32.toInt64 f1) (Int32.toInt64 v2) (Int32.toInt64 ((v3 + v4) - 1))).bind fun v5 =>
      if v5 = 0 then
       some 0
      else
       some 1
     else
      some 1) fun a1 =>
     mX11_isBlanketed_L4 σ f1 n a1 (w3 + 1)
def mX11_isBlanketed (σ : bo_M) (p1 : Int32) : Option Int32 :=
  (mX11_isBlanketed_L4 σ p1 bo_fuel 0 0).bind fun a6 =>
  bo_zr a6
-- BellRopeModel.isTurn
def mX11_isTurn (σ : bo_M) (p1 : Int32) (p2 : Int32) : Option Int32 :=
  (bo_ld 107 σ 144 (14 + p1)).bind fun v1 =>
  (bo_ld 7 σ 136 p1).bind fun v2 =>
  (bo_iremo (p2 + v1) v2).bind fun v3 =>
  if v3 = 0 then
   some 1
  else
   some 0
-- BellRopeModel.wouldRing
def mX11_wouldRing (σ : bo_M) (p1 : Int32) : Option Int32 :=
  (mX11_isFirstOfDay σ).bind fun v1 =>
  Option.bind (α := Int32) (if v1 = 0 then
   (bo_ld 107 σ 144 (7 + p1)).bind fun v3 =>
   some v3
  else
   some 0) fun a2 =>
  (bo_ld 107 σ 144 (0 + p1)).bind fun v4 =>
  if v4 = 1 then
   (bo_ld 7 σ 137 p1).bind fun v5 =>
   if v5 ≤ a2 then
    some 0
   else
    (bo_ld 107 σ 144 21).bind fun v6 =>
    (mX11_isTurn σ p1 v6).bind fun v7 =>
    if v7 = 0 then
     some 0
    else
     some 1
  else
   some 0
-- BellRopeModel.muffle
def mX11_muffle (σ : bo_M) (p1 : Int32) (p2 : Int32) : Option Int32 :=
  Option.bind (α := Int32) (if p1 ≤ p2 then
   some 0
  else
   some (p1 - p2)) fun a1 =>
  if a1 ≤ 0 then
   some 0
  else
   some (a1 + (σ 135 1))
-- BellRopeModel.heardOf
def mX11_heardOf (σ : bo_M) (p1 : Int32) : Option Int32 :=
  (mX11_isWet σ).bind fun v1 =>
  Option.bind (α := Int32) (if v1 = 0 then
   some p1
  else
   some (p1 / 2)) fun a2 =>
  (bo_ld 107 σ 144 23).bind fun v3 =>
  Option.bind (α := Int32) (if 0 < v3 then
   some 1
  else
   (bo_ld 107 σ 144 21).bind fun v5 =>
   (mX11_isBlanketed σ (bo_irm v5 96)).bind fun v6 =>
   if v6 = 0 then
    some 0
   else
    some 1) fun a4 =>
  Option.bind (α := Int32) (if a4 = 0 then
   some 0
  else
   some (σ 135 2)) fun a7 =>
  (mX11_muffle σ a2 a7).bind fun v8 =>
  some v8
-- BellRopeModel.told
def mX11_told (σ : bo_M) (p1 : Int32) : Option Int32 :=
  if p1 = 0 then
   some (σ 135 1)
  else
   if p1 = 1 then
    some (σ 135 2)
   else
    if p1 = 2 then
     some (σ 135 4)
    else
     if p1 = 3 then
      some (σ 135 11)
     else
      if p1 = 4 then
       some (σ 135 14)
      else
       if p1 = 5 then
        some (σ 135 19)
       else
        if p1 = 6 then
         (bo_ld 107 σ 144 21).bind fun v8 =>
         some v8
        else
         if p1 = 7 then
          (mX11_whoIsIn σ).bind fun v10 =>
          some v10
         else
          if p1 = 8 then
           (bo_ld 107 σ 144 22).bind fun v12 =>
           some v12
          else
           if p1 = 9 then
            (mX11_isWet σ).bind fun v14 =>
            if v14 = 0 then
             some 0
            else
             some 1
           else
            if p1 = 10 then
             (bo_ld 107 σ 144 23).bind fun v16 =>
             some v16
            else
             if p1 = 11 then
              (bo_ld 107 σ 144 24).bind fun v18 =>
              some v18
             else
              if p1 = 12 then
               (bo_ld 107 σ 144 26).bind fun v20 =>
               some v20
              else
               if p1 = 13 then
                (bo_ld 107 σ 144 25).bind fun v22 =>
                some v22
               else
                if p1 = 14 then
                 some (σ 135 44)
                else
                 if p1 = 15 then
                  some (σ 135 49)
                 else
                  if p1 = 16 then
                   some (σ 135 38)
                  else
                   some (-1000000002)
-- BellRopeModel.drinker
def mX11_drinker (σ : bo_M) (p1 : Int32) (p2 : Int32) : Option Int32 :=
  (mX11_isDrinker σ p1).bind fun v1 =>
  if v1 = 0 then
   some (-1000000001)
  else
   if p2 = 0 then
    (bo_ld 7 σ 136 p1).bind fun v3 =>
    some v3
   else
    if p2 = 1 then
     (bo_ld 7 σ 137 p1).bind fun v5 =>
     some v5
    else
     if p2 = 2 then
      (bo_ld 7 σ 138 p1).bind fun v7 =>
      some v7
     else
      if p2 = 3 then
       (bo_ld 107 σ 144 (0 + p1)).bind fun v9 =>
       some v9
      else
       if p2 = 4 then
        (bo_ld 107 σ 144 (7 + p1)).bind fun v11 =>
        some v11
       else
        if p2 = 5 then
         (bo_ld 107 σ 144 (14 + p1)).bind fun v13 =>
         some v13
        else
         if p2 = 6 then
          (mX11_wouldRing σ p1).bind fun v15 =>
          if v15 = 0 then
           some 0
          else
           some 1
         else
          some (-1000000002)
-- BellRopeModel.goer
def mX11_goer (σ : bo_M) (p1 : Int32) (p2 : Int32) : Option Int32 :=
  (mX11_isGoer σ p1).bind fun v1 =>
  if v1 = 0 then
   some (-1000000001)
  else
   if p2 = 0 then
    (bo_ld 6 σ 141 p1).bind fun v3 =>
    some v3
   else
    if p2 = 1 then
     (bo_ld 6 σ 142 p1).bind fun v2 =>
     some v2
    else
     some (-1000000002)
-- BellRopeModel.signal
def mX11_signal (σ : bo_M) (p1 : Int32) : Option Int32 :=
  (mX11_in σ (Int32.toInt64 p1) 0 (Int32.toInt64 ((σ 135 14) - 1))).bind fun v1 =>
  if v1 = 0 then
   some (-1000000001)
  else
   (bo_ld 5 σ 143 p1).bind fun v2 =>
   some v2
-- BellRopeModel.logged
def mX11_logged (σ : bo_M) (p1 : Int32) (p2 : Int32) : Option Int32 :=
  (mX11_in σ (Int32.toInt64 p2) 0 1).bind fun v1 =>
  if v1 = 0 then
   some (-1000000002)
  else
   (bo_ld 107 σ 144 26).bind fun v2 =>
   (mX11_in σ (Int32.toInt64 p1) 0 (Int32.toInt64 (v2 - 1))).bind fun v3 =>
   if v3 = 0 then
    some (-1)
   else
    (bo_ld 107 σ 144 26).bind fun v4 =>
    if p2 = 0 then
     (bo_ld 107 σ 144 (27 + ((v4 - 1) - p1))).bind fun v6 =>
     some v6
    else
     (bo_ld 107 σ 144 (67 + ((v4 - 1) - p1))).bind fun v5 =>
     some v5
-- BellRopeModel.log
def mX11_log_L14 (f1 : Int32) (f2 : Int32) : Nat → Int32 → bo_M → Option (bo_M)
  | 0, _, _ => none
  | n + 1, w3, σ =>
    if 40 ≤ w3 then
     some σ
    else
     (bo_ld 107 σ 144 (27 + w3)).bind fun v3 =>
     (bo_st 107 σ 144 ((27 + w3) - 1) v3).bind fun σ4 =>
     (bo_ld 107 σ4 144 (67 + w3)).bind fun v5 =>
     (bo_st 107 σ4 144 ((67 + w3) - 1) v5).bind fun σ6 =>
     mX11_log_L14 f1 f2 n (w3 + 1) σ6
def mX11_log (σ : bo_M) (p1 : Int32) (p2 : Int32) : Option bo_M :=
  (bo_ld 107 σ 144 26).bind fun v1 =>
  Option.bind (α := bo_M) (if v1 = 40 then
   (mX11_log_L14 p1 p2 bo_fuel 1 σ).bind fun a7 =>
   (bo_ld 107 a7 144 26).bind fun v8 =>
   (bo_st 107 a7 144 26 (v8 - 1)).bind fun σ9 =>
   some σ9
  else
   some σ) fun a2 =>
  (bo_ld 107 a2 144 26).bind fun v10 =>
  (bo_st 107 a2 144 (27 + v10) p1).bind fun σ11 =>
  (bo_ld 107 σ11 144 26).bind fun v12 =>
  (bo_st 107 σ11 144 (67 + v12) p2).bind fun σ13 =>
  (bo_ld 107 σ13 144 26).bind fun v14 =>
  (bo_st 107 σ13 144 26 (v14 + 1)).bind fun σ15 =>
  some σ15
-- BellRopeModel.pass
def mX11_pass_L9 (f2 : Int32) : Nat → Int32 → Int32 → bo_M → Option (Int32 × bo_M)
  | 0, _, _, _ => none
  | n + 1, w1, w3, σ =>
    if (σ 135 4) ≤ w3 then
     some (w1, σ)
    else
     (mX11_wouldRing σ w3).bind fun v2 =>
     Option.bind (α := Int32) (if f2 = 0 then
      (bo_ld 107 σ 144 (7 + w3)).bind fun v4 =>
      some v4
     else
      some 0) fun a3 =>
     (bo_st 107 σ 144 (7 + w3) a3).bind fun σ5 =>
     (bo_ld 107 σ5 144 (7 + w3)).bind fun v6 =>
     Option.bind (α := Int32) (if v2 = 0 then
      some 0
     else
      some 1) fun a7 =>
     (bo_st 107 σ5 144 (7 + w3) (v6 + a7)).bind fun σ8 =>
     Option.bind (α := Int32) (if v2 = 0 then
      some 0
     else
      some 1) fun a9 =>
     mX11_pass_L9 f2 n (w1 + a9) (w3 + 1) σ8
def mX11_pass (σ : bo_M) : Option (Int32 × bo_M) :=
  (mX11_isFirstOfDay σ).bind fun v1 =>
  (mX11_pass_L9 v1 bo_fuel 0 0 σ).bind fun a10 =>
  (bo_ld 107 a10.2 144 24).bind fun v11 =>
  (bo_st 107 a10.2 144 24 (v11 + a10.1)).bind fun σ12 =>
  (mX11_heardOf σ12 a10.1).bind fun v13 =>
  (mX11_log σ12 v13 a10.1).bind fun σ14 =>
  Option.bind (α := Int32) (if v13 ≤ 0 then
   (bo_ld 107 σ14 144 22).bind fun v16 =>
   some v16
  else
   (bo_ld 107 σ14 144 22).bind fun v17 =>
   some (bo_irm (v17 + 1) 12)) fun a15 =>
  (bo_st 107 σ14 144 22 a15).bind fun σ18 =>
  (bo_ld 107 σ18 144 23).bind fun v19 =>
  (bo_ld 107 σ18 144 23).bind fun v20 =>
  Option.bind (α := Int32) (if v20 ≤ 0 then
   some 0
  else
   some 1) fun a21 =>
  (bo_st 107 σ18 144 23 (v19 - a21)).bind fun σ22 =>
  (bo_ld 107 σ22 144 21).bind fun v23 =>
  (bo_st 107 σ22 144 21 (v23 + 1)).bind fun σ24 =>
  some (v13, σ24)
-- BellRopeModel.remember
def mX11_remember_L12  : Nat → Int32 → bo_M → Option (bo_M)
  | 0, _, _ => none
  | n + 1, w1, σ =>
    if 1712 ≤ w1 then
     some σ
    else
     (bo_ld 1712 σ 155 w1).bind fun v2 =>
     (bo_st 1712 σ 155 (w1 - 107) v2).bind fun σ3 =>
     mX11_remember_L12 n (w1 + 1) σ3
def mX11_remember_L52  : Nat → Int32 → bo_M → Option (bo_M)
  | 0, _, _ => none
  | n + 1, w1, σ =>
    if 107 ≤ w1 then
     some σ
    else
     (bo_ld 107 σ 144 w1).bind fun v6 =>
     (bo_st 1712 σ 155 ((107 * (σ 135 38)) + w1) v6).bind fun σ7 =>
     mX11_remember_L52 n (w1 + 1) σ7
def mX11_remember (σ : bo_M) : Option bo_M :=
  Option.bind (α := bo_M) (if (σ 135 38) = 16 then
   (mX11_remember_L12 bo_fuel 107 σ).bind fun a4 =>
   (some (bo_up a4 135 38 ((a4 135 38) - 1))).bind fun σ5 =>
   some σ5
  else
   some σ) fun a1 =>
  (mX11_remember_L52 bo_fuel 0 a1).bind fun a8 =>
  (some (bo_up a8 135 38 ((a8 135 38) + 1))).bind fun σ9 =>
  some σ9
-- BellRopeModel.quartersRefused
def mX11_quartersRefused (σ : bo_M) (p1 : Int32) : Option Int32 :=
  (mX11_in σ (Int32.toInt64 p1) 1 96).bind fun v1 =>
  if v1 = 0 then
   some (-1000000002)
  else
   if (σ 135 0 &&& 1) = 0 then
    some (-1000000003)
   else
    (bo_ld 107 σ 144 21).bind fun v2 =>
    if v2 ≤ 90000 then
     some 0
    else
     some (-1000000004)
-- BellRopeModel.quarter
def mX11_quarter_L21 (f1 : Int32) : Nat → Int32 → Int32 → bo_M → Option (Int32 × bo_M)
  | 0, _, _, _ => none
  | n + 1, w3, w4, σ =>
    if f1 ≤ w4 then
     some (w3, σ)
    else
     (mX11_pass σ).bind fun a3 =>
     mX11_quarter_L21 f1 n a3.1 (w4 + 1) a3.2
def mX11_quarter (σ : bo_M) (p1 : Int32) : Option (Int32 × bo_M) :=
  (mX11_quartersRefused σ p1).bind fun v1 =>
  if v1 = 0 then
   (mX11_remember σ).bind fun σ2 =>
   (mX11_quarter_L21 p1 bo_fuel 0 0 σ2).bind fun a4 =>
   some (a4.1, a4.2)
  else
   some (v1, σ)
-- BellRopeModel.come
def mX11_come (σ : bo_M) (p1 : Int32) : Option (Int32 × bo_M) :=
  (mX11_isDrinker σ p1).bind fun v1 =>
  if v1 = 0 then
   some ((-1000000001), σ)
  else
   (bo_ld 107 σ 144 (0 + p1)).bind fun v2 =>
   if v2 = 1 then
    some ((-1000000003), σ)
   else
    (mX11_remember σ).bind fun σ3 =>
    (bo_st 107 σ3 144 (0 + p1) 1).bind fun σ4 =>
    (mX11_whoIsIn σ4).bind fun v5 =>
    some (v5, σ4)
-- BellRopeModel.go
def mX11_go (σ : bo_M) (p1 : Int32) : Option (Int32 × bo_M) :=
  (mX11_isDrinker σ p1).bind fun v1 =>
  if v1 = 0 then
   some ((-1000000001), σ)
  else
   (bo_ld 107 σ 144 (0 + p1)).bind fun v2 =>
   if v2 = 0 then
    some ((-1000000003), σ)
   else
    (mX11_remember σ).bind fun σ3 =>
    (bo_st 107 σ3 144 (0 + p1) 0).bind fun σ4 =>
    (mX11_whoIsIn σ4).bind fun v5 =>
    some (v5, σ4)
-- BellRopeModel.treat
def mX11_treat (σ : bo_M) (p1 : Int32) (p2 : Int32) : Option (Int32 × bo_M) :=
  (mX11_isDrinker σ p1).bind fun v1 =>
  if v1 = 0 then
   some ((-1000000001), σ)
  else
   (mX11_in σ (Int32.toInt64 p2) 1 20).bind fun v2 =>
   if v2 = 0 then
    some ((-1000000002), σ)
   else
    (mX11_remember σ).bind fun σ3 =>
    (bo_ld 107 σ3 144 (7 + p1)).bind fun v4 =>
    Option.bind (α := Int32) (if v4 ≤ p2 then
     some 0
    else
     (bo_ld 107 σ3 144 (7 + p1)).bind fun v6 =>
     some (v6 - p2)) fun a5 =>
    (bo_st 107 σ3 144 (7 + p1) a5).bind fun σ7 =>
    (bo_ld 107 σ7 144 (7 + p1)).bind fun v8 =>
    some (v8, σ7)
-- BellRopeModel.turn
def mX11_turn (σ : bo_M) (p1 : Int32) (p2 : Int32) : Option (Int32 × bo_M) :=
  (mX11_isDrinker σ p1).bind fun v1 =>
  if v1 = 0 then
   some ((-1000000001), σ)
  else
   (mX11_in σ (Int32.toInt64 p2) 0 39).bind fun v2 =>
   if v2 = 0 then
    some ((-1000000002), σ)
   else
    (mX11_remember σ).bind fun σ3 =>
    (bo_ld 107 σ3 144 (14 + p1)).bind fun v4 =>
    (bo_st 107 σ3 144 (14 + p1) p2).bind fun σ5 =>
    some (v4, σ5)
-- BellRopeModel.hang
def mX11_hang (σ : bo_M) (p1 : Int32) : Option (Int32 × bo_M) :=
  (mX11_in σ (Int32.toInt64 p1) 0 96).bind fun v1 =>
  if v1 = 0 then
   some ((-1000000002), σ)
  else
   if (σ 135 0 &&& 1) = 0 then
    some ((-1000000003), σ)
   else
    (mX11_remember σ).bind fun σ2 =>
    (bo_ld 107 σ2 144 23).bind fun v3 =>
    (bo_st 107 σ2 144 23 p1).bind fun σ4 =>
    some (v3, σ4)
-- BellRopeModel.rain
def mX11_rain (σ : bo_M) (p1 : Int32) : Option (Int32 × bo_M) :=
  (mX11_in σ (Int32.toInt64 p1) 0 2).bind fun v1 =>
  if v1 = 0 then
   some ((-1000000002), σ)
  else
   if (σ 135 0 &&& 1) = 0 then
    some ((-1000000003), σ)
   else
    (mX11_remember σ).bind fun σ2 =>
    (bo_ld 107 σ2 144 25).bind fun v3 =>
    (bo_st 107 σ2 144 25 p1).bind fun σ4 =>
    some (v3, σ4)
-- BellRopeModel.draw
def mX11_draw (σ : bo_M) (p1 : Int32) : Option (Int32 × bo_M) :=
  (some (bo_up σ 135 17 (Int64.toInt32 (bo_lrm (((Int32.toInt64 (σ 135 17)) * 1103515245) + 12345) 2147483648)))).bind fun σ1 =>
  (bo_iremo ((σ1 135 17) / 65536) p1).bind fun v2 =>
  some (v2, σ1)
-- BellRopeModel.happen
def mX11_happen (σ : bo_M) : Option bo_M :=
  (mX11_draw σ (σ 135 4)).bind fun a1 =>
  (mX11_draw a1.2 6).bind fun a2 =>
  if a2.1 = 0 then
   (bo_st 107 a2.2 144 (0 + a1.1) 1).bind fun σ6 =>
   some σ6
  else
   if a2.1 = 1 then
    (bo_st 107 a2.2 144 (0 + a1.1) 0).bind fun σ5 =>
    some σ5
   else
    if a2.1 = 2 then
     (mX11_draw a2.2 3).bind fun a3 =>
     (bo_st 107 a3.2 144 25 a3.1).bind fun σ4 =>
     some σ4
    else
     some a2.2
-- BellRopeModel.drift
def mX11_drift_L21 (f1 : Int32) : Nat → Int32 → Int32 → bo_M → Option (Int32 × bo_M)
  | 0, _, _, _ => none
  | n + 1, w3, w4, σ =>
    if f1 ≤ w4 then
     some (w3, σ)
    else
     Option.bind (α := bo_M) (if (σ 135 4) ≤ 0 then
      some σ
     else
      (mX11_happen σ).bind fun σ4 =>
      some σ4) fun a3 =>
     (mX11_pass a3).bind fun a5 =>
     mX11_drift_L21 f1 n a5.1 (w4 + 1) a5.2
def mX11_drift (σ : bo_M) (p1 : Int32) : Option (Int32 × bo_M) :=
  (mX11_quartersRefused σ p1).bind fun v1 =>
  if v1 = 0 then
   (mX11_remember σ).bind fun σ2 =>
   (mX11_drift_L21 p1 bo_fuel 0 0 σ2).bind fun a6 =>
   some (a6.1, a6.2)
  else
   some (v1, σ)
-- BellRopeModel.undo
def mX11_undo_L23  : Nat → Int32 → bo_M → Option (bo_M)
  | 0, _, _ => none
  | n + 1, w1, σ =>
    if 107 ≤ w1 then
     some σ
    else
     (bo_ld 1712 σ 155 ((107 * (σ 135 38)) + w1)).bind fun v2 =>
     (bo_st 107 σ 144 w1 v2).bind fun σ3 =>
     mX11_undo_L23 n (w1 + 1) σ3
def mX11_undo (σ : bo_M) : Option (Int32 × bo_M) :=
  if (σ 135 38) = 0 then
   some ((-1000000003), σ)
  else
   (some (bo_up σ 135 38 ((σ 135 38) - 1))).bind fun σ1 =>
   (mX11_undo_L23 bo_fuel 0 σ1).bind fun a4 =>
   some ((a4 135 38), a4)
-- BellRopeModel.lookAhead
def mX11_lookAhead_L15  : Nat → Int32 → bo_M → Option (bo_M)
  | 0, _, _ => none
  | n + 1, w1, σ =>
    if 192 ≤ w1 then
     some σ
    else
     (mX11_pass σ).bind fun a2 =>
     (bo_st 192 a2.2 157 w1 a2.1).bind fun σ3 =>
     (bo_ld 107 σ3 144 22).bind fun v4 =>
     (bo_st 192 σ3 158 w1 v4).bind fun σ5 =>
     mX11_lookAhead_L15 n (w1 + 1) σ5
def mX11_lookAhead (σ : bo_M) : Option bo_M :=
  (mX11_copyRow σ 107 144 107 156 107).bind fun σ1 =>
  (mX11_lookAhead_L15 bo_fuel 0 σ1).bind fun a6 =>
  (mX11_copyRow a6 107 156 107 144 107).bind fun σ7 =>
  some σ7
-- BellRopeModel.strikes
def mX11_strikes (σ : bo_M) (p1 : Int32) : Option (Int32 × bo_M) :=
  (mX11_in σ (Int32.toInt64 p1) 0 191).bind fun v1 =>
  if v1 = 0 then
   some ((-1000000002), σ)
  else
   if (σ 135 0 &&& 1) = 0 then
    some ((-1000000003), σ)
   else
    (mX11_lookAhead σ).bind fun σ2 =>
    (bo_ld 192 σ2 157 p1).bind fun v3 =>
    some (v3, σ2)
-- BellRopeModel.firstHeard
def mX11_firstHeard_L2 (σ : bo_M) (f1 : Int32) (f2 : Int32) : Nat → Int32 → Option (Int32)
  | 0, _ => none
  | n + 1, w3 =>
    if f2 ≤ w3 then
     some (-1)
    else
     (bo_ld 192 σ 157 w3).bind fun v1 =>
     if v1 < f1 then
      mX11_firstHeard_L2 σ f1 f2 n (w3 + 1)
     else
      some w3
def mX11_firstHeard (σ : bo_M) (p1 : Int32) (p2 : Int32) : Option Int32 :=
  mX11_firstHeard_L2 σ p1 p2 bo_fuel 0
-- BellRopeModel.when
def mX11_when (σ : bo_M) (p1 : Int32) : Option (Int32 × bo_M) :=
  (mX11_in σ (Int32.toInt64 p1) 1 16).bind fun v1 =>
  if v1 = 0 then
   some ((-1000000002), σ)
  else
   if (σ 135 0 &&& 1) = 0 then
    some ((-1000000003), σ)
   else
    (mX11_lookAhead σ).bind fun σ2 =>
    (mX11_firstHeard σ2 p1 192).bind fun v3 =>
    some (v3, σ2)
-- BellRopeModel.hour
def mX11_hour (σ : bo_M) (p1 : Int32) : Option (Int32 × bo_M) :=
  (mX11_in σ (Int32.toInt64 p1) 0 192).bind fun v1 =>
  if v1 = 0 then
   some ((-1000000002), σ)
  else
   if (σ 135 0 &&& 1) = 0 then
    some ((-1000000003), σ)
   else
    (mX11_lookAhead σ).bind fun σ2 =>
    if p1 = 0 then
     (bo_ld 107 σ2 144 22).bind fun v4 =>
     some (v4, σ2)
    else
     (bo_ld 192 σ2 158 (p1 - 1)).bind fun v3 =>
     some (v3, σ2)
-- BellRopeModel.noon
def mX11_noon_L17 (σ : bo_M) : Nat → Int32 → Option ((Int32 × bo_M))
  | 0, _ => none
  | n + 1, w1 =>
    if 192 ≤ w1 then
     some ((-1), σ)
    else
     (bo_ld 192 σ 157 w1).bind fun v2 =>
     if v2 ≤ 0 then
      mX11_noon_L17 σ n (w1 + 1)
     else
      (bo_ld 192 σ 158 w1).bind fun v3 =>
      if v3 = 0 then
       some ((w1 + 1), σ)
      else
       mX11_noon_L17 σ n (w1 + 1)
def mX11_noon (σ : bo_M) : Option (Int32 × bo_M) :=
  if (σ 135 0 &&& 1) = 0 then
   some ((-1000000003), σ)
  else
   (mX11_lookAhead σ).bind fun σ1 =>
   mX11_noon_L17 σ1 bo_fuel 0
-- BellRopeModel.isLate
def mX11_isLate (σ : bo_M) (p1 : Int32) (p2 : Int32) : Option Int32 :=
  (mX11_firstHeard σ p2 96).bind fun v1 =>
  (bo_ld 6 σ 141 p1).bind fun v2 =>
  (bo_ld 107 σ 144 21).bind fun v3 =>
  if v1 < 0 then
   some 1
  else
   (bo_ld 6 σ 142 p1).bind fun v4 =>
   if (v1 + v4) ≤ (bo_irm ((v2 + 96) - (bo_irm v3 96)) 96) then
    some 0
   else
    some 1
-- BellRopeModel.lateOnes
def mX11_lateOnes_L4 (σ : bo_M) (f1 : Int32) : Nat → Int32 → Int32 → Option (Int32)
  | 0, _, _ => none
  | n + 1, w2, w3 =>
    if (σ 135 11) ≤ w3 then
     some w2
    else
     (mX11_isLate σ w3 f1).bind fun v1 =>
     Option.bind (α := Int32) (if v1 = 0 then
      some 0
     else
      some (1 <<< (w3 &&& 31))) fun a2 =>
     mX11_lateOnes_L4 σ f1 n (w2 ||| a2) (w3 + 1)
def mX11_lateOnes (σ : bo_M) (p1 : Int32) : Option Int32 :=
  (mX11_lateOnes_L4 σ p1 bo_fuel 0 0).bind fun a3 =>
  some a3
-- BellRopeModel.late
def mX11_late (σ : bo_M) (p1 : Int32) : Option (Int32 × bo_M) :=
  (mX11_in σ (Int32.toInt64 p1) 1 16).bind fun v1 =>
  if v1 = 0 then
   some ((-1000000002), σ)
  else
   if (σ 135 0 &&& 1) = 0 then
    some ((-1000000003), σ)
   else
    (mX11_lookAhead σ).bind fun σ2 =>
    (mX11_lateOnes σ2 p1).bind fun v3 =>
    some (v3, σ2)
-- BellRopeModel.best
def mX11_best_L37 (σ : bo_M) (f1 : Int32) : Nat → Int32 → Int32 → Int32 → Option (Int32 × Int32)
  | 0, _, _, _ => none
  | n + 1, w2, w3, w4 =>
    if 16 < w4 then
     some (w2, w3)
    else
     (mX11_lateOnes σ w4).bind fun v3 =>
     (mX11_bits σ v3).bind fun v4 =>
     Option.bind (α := Int32) (if w3 ≤ v4 then
      some w2
     else
      some w4) fun a5 =>
     Option.bind (α := Int32) (if w3 ≤ v4 then
      some w3
     else
      some v4) fun a6 =>
     mX11_best_L37 σ f1 n a5 a6 (w4 + 1)
def mX11_best (σ : bo_M) (p1 : Int32) : Option (Int32 × bo_M) :=
  (mX11_in σ (Int32.toInt64 p1) 0 1).bind fun v1 =>
  if v1 = 0 then
   some ((-1000000002), σ)
  else
   if (σ 135 0 &&& 1) = 0 then
    some ((-1000000003), σ)
   else
    (mX11_lookAhead σ).bind fun σ2 =>
    (mX11_best_L37 σ2 p1 bo_fuel (-1) 100000 1).bind fun a7 =>
    if p1 = 0 then
     some (a7.1, σ2)
    else
     some (a7.2, σ2)
-- BellRopeModel.alone
def mX11_alone_L20 (σ : bo_M) (f1 : Int32) : Nat → Int32 → Int32 → Option (Int32)
  | 0, _, _ => none
  | n + 1, w2, w3 =>
    if 16 < w3 then
     some w2
    else
     (mX11_isLate σ f1 w3).bind fun v3 =>
     Option.bind (α := Int32) (if v3 = 0 then
      some (1 <<< (w3 &&& 31))
     else
      some 0) fun a4 =>
     mX11_alone_L20 σ f1 n (w2 ||| a4) (w3 + 1)
def mX11_alone (σ : bo_M) (p1 : Int32) : Option (Int32 × bo_M) :=
  (mX11_isGoer σ p1).bind fun v1 =>
  if v1 = 0 then
   some ((-1000000001), σ)
  else
   (mX11_lookAhead σ).bind fun σ2 =>
   (mX11_alone_L20 σ2 p1 bo_fuel 0 1).bind fun a5 =>
   some (a5, σ2)
-- BellRopeModel.given
def mX11_given_L42 (σ : bo_M) (f1 : Int32) (f3 : Int32) : Nat → Int32 → Int32 → Option (Int32)
  | 0, _, _ => none
  | n + 1, w2, w4 =>
    if (σ 135 14) ≤ w4 then
     some w2
    else
     (bo_ld 192 σ 157 f3).bind fun v3 =>
     (bo_ld 5 σ 143 w4).bind fun v4 =>
     Option.bind (α := Int32) (if v3 = v4 then
      some (1 <<< (w4 &&& 31))
     else
      some 0) fun a5 =>
     mX11_given_L42 σ f1 f3 n (w2 ||| a5) (w4 + 1)
def mX11_given_L34 (σ : bo_M) (f1 : Int32) : Nat → Int32 → Int32 → Option (Int32)
  | 0, _, _ => none
  | n + 1, w2, w3 =>
    if f1 ≤ w3 then
     some w2
    else
     (mX11_given_L42 σ f1 w3 bo_fuel w2 0).bind fun a6 =>
     mX11_given_L34 σ f1 n a6 (w3 + 1)
def mX11_given (σ : bo_M) (p1 : Int32) : Option (Int32 × bo_M) :=
  (mX11_in σ (Int32.toInt64 p1) 1 192).bind fun v1 =>
  if v1 = 0 then
   some ((-1000000002), σ)
  else
   if (σ 135 0 &&& 1) = 0 then
    some ((-1000000003), σ)
   else
    (mX11_lookAhead σ).bind fun σ2 =>
    (mX11_given_L34 σ2 p1 bo_fuel 0 0).bind fun a7 =>
    some (a7, σ2)
-- BellRopeModel.mistaken
def mX11_mistaken_L20 (σ : bo_M) (f1 : Int32) (f2 : Int32) : Nat → Int32 → Int32 → Option (Int32)
  | 0, _, _ => none
  | n + 1, w3, w4 =>
    if (σ 135 14) ≤ w4 then
     some w3
    else
     Option.bind (α := Int32) (if w3 = 0 then
      (bo_ld 107 σ 144 (67 + f2)).bind fun v3 =>
      (bo_ld 5 σ 143 w4).bind fun v4 =>
      if v3 = v4 then
       some 1
      else
       some 0
     else
      some 1) fun a2 =>
     mX11_mistaken_L20 σ f1 f2 n a2 (w4 + 1)
def mX11_mistaken_L4 (σ : bo_M) : Nat → Int32 → Int32 → Option (Int32)
  | 0, _, _ => none
  | n + 1, w1, w2 =>
    (bo_ld 107 σ 144 26).bind fun v1 =>
    if v1 ≤ w2 then
     some w1
    else
     (mX11_mistaken_L20 σ w1 w2 bo_fuel 0 0).bind fun a5 =>
     Option.bind (α := Int32) (if a5 = 0 then
      some 0
     else
      (bo_ld 107 σ 144 (27 + w2)).bind fun v7 =>
      (bo_ld 107 σ 144 (67 + w2)).bind fun v8 =>
      if v7 = v8 then
       some 0
      else
       some 1) fun a6 =>
     mX11_mistaken_L4 σ n (w1 + a6) (w2 + 1)
def mX11_mistaken (σ : bo_M) : Option Int32 :=
  (mX11_mistaken_L4 σ bo_fuel 0 0).bind fun a9 =>
  some a9
-- BellRopeModel.costOf
def mX11_costOf (σ : bo_M) (p1 : Int32) : Option Int32 :=
  (bo_ld 107 σ 144 (7 + p1)).bind fun v1 =>
  (bo_ld 7 σ 137 p1).bind fun v2 =>
  Option.bind (α := Int32) (if v1 < v2 then
   some 0
  else
   (mX11_isFirstOfDay σ).bind fun v4 =>
   if v4 = 0 then
    some 1
   else
    some 0) fun a3 =>
  (bo_ld 107 σ 144 (0 + p1)).bind fun v5 =>
  Option.bind (α := Int32) (if v5 = 0 then
   some 1
  else
   some 0) fun a6 =>
  Option.bind (α := Int32) (if a3 = 0 then
   some 0
  else
   some 1) fun a7 =>
  some (a6 + a7)
-- BellRopeModel.costs
def mX11_costs_L4 (σ : bo_M) (f1 : Int32) : Nat → Int32 → Int32 → Option (Int32)
  | 0, _, _ => none
  | n + 1, w2, w3 =>
    if (σ 135 4) ≤ w3 then
     some w2
    else
     (mX11_has σ f1 w3).bind fun v1 =>
     Option.bind (α := Int32) (if v1 = 0 then
      some 0
     else
      (mX11_costOf σ w3).bind fun v3 =>
      some v3) fun a2 =>
     mX11_costs_L4 σ f1 n (w2 + a2) (w3 + 1)
def mX11_costs (σ : bo_M) (p1 : Int32) : Option Int32 :=
  (mX11_costs_L4 σ p1 bo_fuel 0 0).bind fun a4 =>
  some a4
-- BellRopeModel.rungWith
def mX11_rungWith_L4 (σ : bo_M) (f1 : Int32) : Nat → Int32 → Int32 → Option (Int32)
  | 0, _, _ => none
  | n + 1, w2, w3 =>
    if (σ 135 4) ≤ w3 then
     some w2
    else
     (mX11_has σ f1 w3).bind fun v1 =>
     Option.bind (α := Int32) (if v1 = 0 then
      some 0
     else
      (bo_ld 107 σ 144 21).bind fun v3 =>
      (mX11_isTurn σ w3 v3).bind fun v4 =>
      if v4 = 0 then
       some 0
      else
       some 1) fun a2 =>
     Option.bind (α := Int32) (if a2 = 0 then
      (mX11_wouldRing σ w3).bind fun v6 =>
      if v6 = 0 then
       some 0
      else
       some 1
     else
      some 1) fun a5 =>
     mX11_rungWith_L4 σ f1 n (w2 + a5) (w3 + 1)
def mX11_rungWith (σ : bo_M) (p1 : Int32) : Option Int32 :=
  (mX11_rungWith_L4 σ p1 bo_fuel 0 0).bind fun a7 =>
  some a7
-- BellRopeModel.vespers
def mX11_vespers_L46 (σ : bo_M) (f1 : Int32) (f2 : Int32) : Nat → Int32 → Int32 → Int32 → Option (Int32 × Int32)
  | 0, _, _, _ => none
  | n + 1, w3, w4, w5 =>
    if (1 <<< ((σ 135 4) &&& 31)) ≤ w5 then
     some (w3, w4)
    else
     (mX11_costs σ w5).bind fun v3 =>
     Option.bind (α := Int32 × Int32) (if w4 ≤ v3 then
      some (w3, w4)
     else
      (mX11_rungWith σ w5).bind fun v5 =>
      (mX11_heardOf σ v5).bind fun v6 =>
      if v6 < f1 then
       some (w3, w4)
      else
       some (w5, v3)) fun a4 =>
     mX11_vespers_L46 σ f1 f2 n a4.1 a4.2 (w5 + 1)
def mX11_vespers (σ : bo_M) (p1 : Int32) (p2 : Int32) : Option Int32 :=
  (mX11_in σ (Int32.toInt64 p1) 1 16).bind fun v1 =>
  if v1 = 0 then
   some (-1000000002)
  else
   (mX11_in σ (Int32.toInt64 p2) 0 1).bind fun v2 =>
   if v2 = 0 then
    some (-1000000002)
   else
    if (σ 135 0 &&& 1) = 0 then
     some (-1000000003)
    else
     (mX11_vespers_L46 σ p1 p2 bo_fuel (-1) 100000 0).bind fun a7 =>
     if a7.1 < 0 then
      some a7.1
     else
      if p2 = 1 then
       some a7.1
      else
       some a7.2
-- BellRopeModel.ship
def mX11_ship_L34 (σ : bo_M) : Nat → Int32 → Int32 → Option ((Int32 × bo_M))
  | 0, _, _ => none
  | n + 1, w2, w3 =>
    if 192 ≤ w3 then
     some ((-1), σ)
    else
     (bo_ld 192 σ 157 w3).bind fun v3 =>
     Option.bind (α := Int32) (if w2 ≤ (2 * v3) then
      some 1
     else
      (bo_ld 192 σ 157 w3).bind fun v5 =>
      if v5 < 3 then
       some 0
      else
       some 1) fun a4 =>
     if (w2 - a4) = 0 then
      some ((w3 + 1), σ)
     else
      mX11_ship_L34 σ n (w2 - a4) (w3 + 1)
def mX11_ship (σ : bo_M) (p1 : Int32) : Option (Int32 × bo_M) :=
  (mX11_in σ (Int32.toInt64 p1) 1 99).bind fun v1 =>
  if v1 = 0 then
   some ((-1000000002), σ)
  else
   if (σ 135 0 &&& 1) = 0 then
    some ((-1000000003), σ)
   else
    (mX11_lookAhead σ).bind fun σ2 =>
    mX11_ship_L34 σ2 bo_fuel p1 0
-- BellRopeModel.widows
def mX11_widows_L19 (σ : bo_M) (f1 : Int32) : Nat → Int32 → Int32 → Option (Int32)
  | 0, _, _ => none
  | n + 1, w2, w3 =>
    (bo_ld 107 σ 144 26).bind fun v2 =>
    if v2 ≤ w3 then
     some w2
    else
     Option.bind (α := Int32) (if w3 ≤ 0 then
      some 0
     else
      (bo_ld 107 σ 144 (27 + w3)).bind fun v4 =>
      (bo_ld 107 σ 144 ((27 + w3) - 1)).bind fun v5 =>
      if v4 = v5 then
       some 1
      else
       some 0) fun a3 =>
     Option.bind (α := Int32) (if a3 = 0 then
      (bo_ld 107 σ 144 (27 + w3)).bind fun v7 =>
      some (f1 * v7)
     else
      some 0) fun a6 =>
     mX11_widows_L19 σ f1 n (w2 + a6) (w3 + 1)
def mX11_widows (σ : bo_M) (p1 : Int32) : Option Int32 :=
  (mX11_in σ (Int32.toInt64 p1) 0 99).bind fun v1 =>
  if v1 = 0 then
   some (-1000000002)
  else
   (mX11_widows_L19 σ p1 bo_fuel 0 0).bind fun a8 =>
   some a8
-- BellRopeModel.odds
def mX11_odds_L28 (f1 : Int32) : Nat → Int32 → bo_M → Option (bo_M)
  | 0, _, _ => none
  | n + 1, w2, σ =>
    if 8 ≤ w2 then
     some σ
    else
     (bo_st 8 σ 159 w2 0).bind fun σ2 =>
     mX11_odds_L28 f1 n (w2 + 1) σ2
def mX11_odds_L69 (f1 : Int32) (f2 : Int32) : Nat → Int32 → bo_M → Option (bo_M)
  | 0, _, _ => none
  | n + 1, w3, σ =>
    if w3 < 0 then
     some σ
    else
     (mX11_wouldRing σ f2).bind fun v5 =>
     if v5 = 0 then
      some σ
     else
      (bo_ld 8 σ 159 w3).bind fun v6 =>
      (bo_ld 7 σ 138 f2).bind fun v7 =>
      (bo_ld 8 σ 159 w3).bind fun v8 =>
      (bo_st 8 σ 159 w3 (v8 - ((v6 * v7) / 100))).bind fun σ9 =>
      (bo_ld 8 σ9 159 (w3 + 1)).bind fun v10 =>
      (bo_st 8 σ9 159 (w3 + 1) (v10 + ((v6 * v7) / 100))).bind fun σ11 =>
      mX11_odds_L69 f1 f2 n (w3 + (-1)) σ11
def mX11_odds_L58 (f1 : Int32) : Nat → Int32 → bo_M → Option (bo_M)
  | 0, _, _ => none
  | n + 1, w2, σ =>
    if (σ 135 4) ≤ w2 then
     some σ
    else
     (mX11_odds_L69 f1 w2 bo_fuel 6 σ).bind fun a12 =>
     mX11_odds_L58 f1 n (w2 + 1) a12
def mX11_odds_L139 (σ : bo_M) (f1 : Int32) : Nat → Int32 → Int32 → Option (Int32)
  | 0, _, _ => none
  | n + 1, w2, w3 =>
    if 8 ≤ w3 then
     some w2
    else
     Option.bind (α := Int32) (if w3 < f1 then
      some 0
     else
      (bo_ld 8 σ 159 w3).bind fun v15 =>
      some v15) fun a14 =>
     mX11_odds_L139 σ f1 n (w2 + a14) (w3 + 1)
def mX11_odds (σ : bo_M) (p1 : Int32) : Option (Int32 × bo_M) :=
  (mX11_in σ (Int32.toInt64 p1) 0 16).bind fun v1 =>
  if v1 = 0 then
   some ((-1000000002), σ)
  else
   if (σ 135 0 &&& 1) = 0 then
    some ((-1000000003), σ)
   else
    (mX11_odds_L28 p1 bo_fuel 0 σ).bind fun a3 =>
    (bo_st 8 a3 159 0 1000000).bind fun σ4 =>
    (mX11_odds_L58 p1 bo_fuel 0 σ4).bind fun a13 =>
    (mX11_odds_L139 a13 p1 bo_fuel 0 0).bind fun a16 =>
    some (a16, a13)
-- BellRopeModel.most
def mX11_most_L6 (σ : bo_M) : Nat → Int32 → Int32 → Int32 → Option (Int32)
  | 0, _, _, _ => none
  | n + 1, w1, w2, w3 =>
    if (σ 135 4) ≤ w3 then
     some w1
    else
     (bo_ld 107 σ 144 (7 + w3)).bind fun v1 =>
     Option.bind (α := Int32) (if v1 ≤ w2 then
      some w1
     else
      some w3) fun a2 =>
     (bo_ld 107 σ 144 (7 + w3)).bind fun v3 =>
     Option.bind (α := Int32) (if v3 ≤ w2 then
      some w2
     else
      (bo_ld 107 σ 144 (7 + w3)).bind fun v5 =>
      some v5) fun a4 =>
     mX11_most_L6 σ n a2 a4 (w3 + 1)
def mX11_most (σ : bo_M) : Option Int32 :=
  (mX11_most_L6 σ bo_fuel (-1) 0 0).bind fun a6 =>
  some a6
-- BellRopeModel.common
def mX11_common_L4 (σ : bo_M) : Nat → Int32 → Int32 → Option (Int32)
  | 0, _, _ => none
  | n + 1, w2, w3 =>
    if w3 ≤ 0 then
     some w2
    else
     (bo_iremo w2 w3).bind fun v1 =>
     mX11_common_L4 σ n w3 v1
def mX11_common (σ : bo_M) (p0 : Int32) (p1 : Int32) : Option Int32 :=
  (mX11_common_L4 σ bo_fuel p0 p1).bind fun a2 =>
  some a2
-- BellRopeModel.round
def mX11_round_L4 (σ : bo_M) : Nat → Int64 → Int32 → Option (Int32)
  | 0, _, _ => none
  | n + 1, w1, w3 =>
    if (σ 135 4) ≤ w3 then
     some (Int64.toInt32 w1)
    else
     (bo_ld 107 σ 144 (0 + w3)).bind fun v1 =>
     Option.bind (α := Int64) (if v1 = 1 then
      (bo_ld 7 σ 136 w3).bind fun v3 =>
      (mX11_common σ (Int64.toInt32 w1) v3).bind fun v4 =>
      (bo_ldivo w1 (Int32.toInt64 v4)).bind fun v5 =>
      (bo_ld 7 σ 136 w3).bind fun v6 =>
      some (v5 * (Int32.toInt64 v6))
     else
      some w1) fun a2 =>
     if (lg_cmp a2 999999) ≤ 0 then
      mX11_round_L4 σ n a2 (w3 + 1)
     else
      some 999999
def mX11_round (σ : bo_M) : Option Int32 :=
  mX11_round_L4 σ bo_fuel 1 0
-- BellRopeModel.isAhead
def mX11_isAhead (σ : bo_M) (p1 : Int32) (p2 : Int32) : Option Int32 :=
  (bo_ld 107 σ 144 (7 + p1)).bind fun v1 =>
  (bo_ld 107 σ 144 (7 + p2)).bind fun v2 =>
  if v2 < v1 then
   some 1
  else
   (bo_ld 107 σ 144 (7 + p1)).bind fun v3 =>
   (bo_ld 107 σ 144 (7 + p2)).bind fun v4 =>
   if v3 = v4 then
    if p2 ≤ p1 then
     some 0
    else
     some 1
   else
    some 0
-- BellRopeModel.share
def mX11_share_L35 (σ : bo_M) (f1 : Int32) : Nat → Int32 → Int32 → Int32 → Int32 → Option (Int32 × Int32 × Int32)
  | 0, _, _, _, _ => none
  | n + 1, w2, w3, w4, w5 =>
    if (σ 135 4) ≤ w5 then
     some (w2, w3, w4)
    else
     (bo_ld 107 σ 144 (7 + w5)).bind fun v3 =>
     (bo_ld 107 σ 144 (0 + w5)).bind fun v4 =>
     (bo_ld 107 σ 144 (0 + w5)).bind fun v5 =>
     Option.bind (α := Int32) (if v5 = 1 then
      if w5 = f1 then
       some 0
      else
       (mX11_isAhead σ w5 f1).bind fun v7 =>
       if v7 = 0 then
        some 0
       else
        some 1
     else
      some 0) fun a6 =>
     mX11_share_L35 σ f1 n (w2 + v3) (w3 + v4) (w4 + a6) (w5 + 1)
def mX11_share (σ : bo_M) (p1 : Int32) : Option Int32 :=
  (mX11_isDrinker σ p1).bind fun v1 =>
  if v1 = 0 then
   some (-1000000001)
  else
   (bo_ld 107 σ 144 (0 + p1)).bind fun v2 =>
   if v2 = 0 then
    some 0
   else
    (mX11_share_L35 σ p1 bo_fuel 0 0 0 0).bind fun a8 =>
    (bo_idivo a8.1 a8.2.1).bind fun v9 =>
    (bo_iremo a8.1 a8.2.1).bind fun v10 =>
    Option.bind (α := Int32) (if v10 ≤ a8.2.2 then
     some 0
    else
     some 1) fun a11 =>
    some (v9 + a11)
-- BellRopeModel.was
def mX11_was (σ : bo_M) (p1 : Int32) (p2 : Int32) : Option (Int32 × bo_M) :=
  (mX11_in σ (Int32.toInt64 p1) 0 95).bind fun v1 =>
  if v1 = 0 then
   some ((-1000000002), σ)
  else
   (mX11_in σ (Int32.toInt64 p2) 0 16).bind fun v2 =>
   if v2 = 0 then
    some ((-1000000002), σ)
   else
    if (σ 135 0 &&& 1) = 0 then
     some ((-1000000003), σ)
    else
     if (σ 135 44) = 6 then
      some ((-1000000004), σ)
     else
      (bo_st 6 σ 160 (σ 135 44) p1).bind fun σ3 =>
      (bo_st 6 σ3 161 (σ3 135 44) p2).bind fun σ4 =>
      (some (bo_up σ4 135 44 ((σ4 135 44) + 1))).bind fun σ5 =>
      some ((σ5 135 44), σ5)
-- BellRopeModel.heardBy
def mX11_heardBy_L6 (σ : bo_M) (f1 : Int32) (f2 : Int32) (f3 : Int32) : Nat → Int32 → Int32 → Option (Int32)
  | 0, _, _ => none
  | n + 1, w4, w5 =>
    if (σ 135 4) ≤ w5 then
     some w4
    else
     (mX11_has σ f1 w5).bind fun v1 =>
     Option.bind (α := Int32) (if v1 = 0 then
      some 0
     else
      (mX11_isTurn σ w5 f2).bind fun v3 =>
      if v3 = 0 then
       some 0
      else
       some 1) fun a2 =>
     mX11_heardBy_L6 σ f1 f2 f3 n (w4 + a2) (w5 + 1)
def mX11_heardBy (σ : bo_M) (p1 : Int32) (p2 : Int32) (p3 : Int32) : Option Int32 :=
  (mX11_heardBy_L6 σ p1 p2 p3 bo_fuel 0 0).bind fun a4 =>
  (mX11_isBlanketed σ p2).bind fun v5 =>
  Option.bind (α := Int32) (if v5 = 0 then
   some 0
  else
   some p3) fun a6 =>
  (mX11_muffle σ a4 a6).bind fun v7 =>
  some v7
-- BellRopeModel.couldBe
def mX11_couldBe_L5 (σ : bo_M) (f1 : Int32) (f2 : Int32) : Nat → Int32 → Int32 → Option (Int32)
  | 0, _, _ => none
  | n + 1, w3, w4 =>
    if (σ 135 44) ≤ w4 then
     some w3
    else
     Option.bind (α := Int32) (if w3 = 0 then
      some 0
     else
      (bo_ld 6 σ 160 w4).bind fun v2 =>
      (mX11_heardBy σ f1 v2 f2).bind fun v3 =>
      (bo_ld 6 σ 161 w4).bind fun v4 =>
      if v3 = v4 then
       some 1
      else
       some 0) fun a1 =>
     mX11_couldBe_L5 σ f1 f2 n a1 (w4 + 1)
def mX11_couldBe (σ : bo_M) (p1 : Int32) (p2 : Int32) : Option Int32 :=
  (mX11_couldBe_L5 σ p1 p2 bo_fuel 1 0).bind fun a5 =>
  bo_zr a5
-- BellRopeModel.could
def mX11_could_L51 (σ : bo_M) (f1 : Int32) (f4 : Int32) : Nat → Int32 → Int32 → Int32 → Int32 → Int32 → Option (Int32 × Int32 × Int32 × Int32)
  | 0, _, _, _, _, _ => none
  | n + 1, w2, w3, w5, w6, w7 =>
    if f4 < w7 then
     some (w2, w3, w5, w6)
    else
     (mX11_couldBe σ w7 (σ 135 2)).bind fun v2 =>
     Option.bind (α := Int32 × Int32 × Int32 × Int32) (if v2 = 0 then
      some (w2, w3, w5, w6)
     else
      Option.bind (α := Int32) (if w2 = 0 then
       some w7
      else
       some w3) fun a4 =>
      some ((w2 + 1), a4, (w5 &&& w7), (w6 &&& (w7 ^^^ (-1))))) fun a3 =>
     mX11_could_L51 σ f1 f4 n a3.1 a3.2.1 a3.2.2.1 a3.2.2.2 (w7 + 1)
def mX11_could (σ : bo_M) (p1 : Int32) : Option Int32 :=
  (mX11_in σ (Int32.toInt64 p1) 0 3).bind fun v1 =>
  if v1 = 0 then
   some (-1000000002)
  else
   if (σ 135 0 &&& 1) = 0 then
    some (-1000000003)
   else
    (mX11_could_L51 σ p1 ((1 <<< ((σ 135 4) &&& 31)) - 1) bo_fuel 0 (-1) ((1 <<< ((σ 135 4) &&& 31)) - 1) ((1 <<< ((σ 135 4) &&& 31)) - 1) 0).bind fun a5 =>
    if p1 = 0 then
     some a5.1
    else
     if p1 = 1 then
      some a5.2.1
     else
      if a5.1 = 0 then
       some 0
      else
       if p1 = 2 then
        some a5.2.2.1
       else
        some a5.2.2.2
-- BellRopeModel.greatestPart
def mX11_greatestPart_L4 (f1 : Int32) (f2 : Int32) : Nat → Int32 → bo_M → Option (bo_M)
  | 0, _, _ => none
  | n + 1, w3, σ =>
    if 20 ≤ w3 then
     some σ
    else
     (bo_st 20 σ 163 w3 0).bind fun σ1 =>
     mX11_greatestPart_L4 f1 f2 n (w3 + 1) σ1
def mX11_greatestPart_L25 (f1 : Int32) : Nat → Int32 → Int32 → bo_M → Option (Int32 × bo_M)
  | 0, _, _, _ => none
  | n + 1, w2, w3, σ =>
    if (1 <<< ((σ 135 4) &&& 31)) ≤ w3 then
     some (w2, σ)
    else
     (bo_ld 128 σ 162 w3).bind fun v3 =>
     Option.bind (α := Int32 × bo_M) (if v3 = 0 then
      some (w2, σ)
     else
      (mX11_heardBy σ w3 f1 (σ 135 2)).bind fun v5 =>
      (bo_ld 20 σ 163 v5).bind fun v6 =>
      (bo_st 20 σ 163 v5 (v6 + 1)).bind fun σ7 =>
      (bo_ld 20 σ7 163 v5).bind fun v8 =>
      Option.bind (α := Int32) (if v8 ≤ w2 then
       some w2
      else
       (bo_ld 20 σ7 163 v5).bind fun v10 =>
       some v10) fun a9 =>
      some (a9, σ7)) fun a4 =>
     mX11_greatestPart_L25 f1 n a4.1 (w3 + 1) a4.2
def mX11_greatestPart (σ : bo_M) (p1 : Int32) : Option (Int32 × bo_M) :=
  (mX11_greatestPart_L4 p1 0 bo_fuel 0 σ).bind fun a2 =>
  (mX11_greatestPart_L25 p1 bo_fuel 0 0 a2).bind fun a11 =>
  some (a11.1, a11.2)
-- BellRopeModel.listen
def mX11_listen_L17 (f1 : Int32) : Nat → Int32 → Int32 → bo_M → Option (Int32 × bo_M)
  | 0, _, _, _ => none
  | n + 1, w2, w3, σ =>
    if (1 <<< ((σ 135 4) &&& 31)) ≤ w3 then
     some (w2, σ)
    else
     (mX11_couldBe σ w3 (σ 135 2)).bind fun v1 =>
     (bo_st 128 σ 162 w3 (v1 &&& 1)).bind fun σ2 =>
     (bo_ld 128 σ2 162 w3).bind fun v3 =>
     Option.bind (α := Int32) (if v3 = 0 then
      some 0
     else
      some 1) fun a4 =>
     mX11_listen_L17 f1 n (w2 + a4) (w3 + 1) σ2
def mX11_listen_L67  : Nat → Int32 → Int32 → Int32 → bo_M → Option (Int32 × bo_M)
  | 0, _, _, _, _ => none
  | n + 1, w1, w2, w3, σ =>
    if 96 ≤ w3 then
     some (w1, σ)
    else
     (mX11_greatestPart σ w3).bind fun a6 =>
     Option.bind (α := Int32) (if w2 ≤ a6.1 then
      some w1
     else
      some w3) fun a7 =>
     Option.bind (α := Int32) (if w2 ≤ a6.1 then
      some w2
     else
      some a6.1) fun a8 =>
     mX11_listen_L67 n a7 a8 (w3 + 1) a6.2
def mX11_listen (σ : bo_M) : Option (Int32 × bo_M) :=
  if (σ 135 0 &&& 1) = 0 then
   some ((-1000000003), σ)
  else
   (mX11_listen_L17 (-1) bo_fuel 0 0 σ).bind fun a5 =>
   (mX11_listen_L67 bo_fuel (-1) a5.1 0 a5.2).bind fun a9 =>
   some (a9.1, a9.2)
-- BellRopeModel.muffled
def mX11_muffled_L15 (σ : bo_M) : Nat → Int32 → Int32 → Option (Int32)
  | 0, _, _ => none
  | n + 1, w1, w2 =>
    if 10 ≤ w2 then
     some w1
    else
     (mX11_whoIsIn σ).bind fun v1 =>
     (mX11_couldBe σ v1 w2).bind fun v2 =>
     Option.bind (α := Int32) (if v2 = 0 then
      some 0
     else
      some (1 <<< (w2 &&& 31))) fun a3 =>
     mX11_muffled_L15 σ n (w1 ||| a3) (w2 + 1)
def mX11_muffled (σ : bo_M) : Option Int32 :=
  if (σ 135 0 &&& 1) = 0 then
   some (-1000000003)
  else
   (mX11_muffled_L15 σ bo_fuel 0 0).bind fun a4 =>
   some a4
-- BellRopeModel.write
def mX11_write (σ : bo_M) (p1 : Int32) (p2 : Int32) : Option (Int32 × bo_M) :=
  (mX11_isDrinker σ p1).bind fun v1 =>
  if v1 = 0 then
   some ((-1000000001), σ)
  else
   (mX11_in σ (Int32.toInt64 p2) 0 20).bind fun v2 =>
   if v2 = 0 then
    some ((-1000000002), σ)
   else
    if (σ 135 49) = 15 then
     some ((-1000000004), σ)
    else
     (bo_st 15 σ 164 (σ 135 49) p1).bind fun σ3 =>
     (bo_st 15 σ3 165 (σ3 135 49) p2).bind fun σ4 =>
     (some (bo_up σ4 135 49 ((σ4 135 49) + 1))).bind fun σ5 =>
     some ((σ5 135 49), σ5)
-- BellRopeModel.tear
def mX11_tear (σ : bo_M) : Option (Int32 × bo_M) :=
  (some (bo_up σ 135 44 0)).bind fun σ1 =>
  (some (bo_up σ1 135 49 0)).bind fun σ2 =>
  some (((σ 135 44) + (σ 135 49)), σ2)
-- BellRopeModel.judge
def mX11_judge_L2 (σ : bo_M) : Nat → Int32 → Option (Int32)
  | 0, _ => none
  | n + 1, w1 =>
    if (σ 135 49) ≤ w1 then
     some (-1)
    else
     (bo_ld 15 σ 164 w1).bind fun v1 =>
     (bo_ld 107 σ 144 (7 + v1)).bind fun v2 =>
     (bo_ld 15 σ 165 w1).bind fun v3 =>
     if v2 = v3 then
      mX11_judge_L2 σ n (w1 + 1)
     else
      some w1
def mX11_judge (σ : bo_M) : Option Int32 :=
  mX11_judge_L2 σ bo_fuel 0
-- BellRopeModel.seed
def mX11_seed (σ : bo_M) (p1 : Int32) : Option (Int32 × bo_M) :=
  if 0 ≤ p1 then
   (some (bo_up σ 135 17 p1)).bind fun σ1 =>
   some ((σ 135 17), σ1)
  else
   some ((-1000000002), σ)
-- BellRopeModel.keep
def mX11_keep_L16 (f1 : Int32) : Nat → Int32 → bo_M → Option (bo_M)
  | 0, _, _ => none
  | n + 1, w2, σ =>
    if 107 ≤ w2 then
     some σ
    else
     (bo_ld 107 σ 144 w2).bind fun v2 =>
     (bo_st 216 σ 166 ((108 * f1) + w2) v2).bind fun σ3 =>
     mX11_keep_L16 f1 n (w2 + 1) σ3
def mX11_keep (σ : bo_M) (p1 : Int32) : Option (Int32 × bo_M) :=
  (mX11_in σ (Int32.toInt64 p1) 0 1).bind fun v1 =>
  if v1 = 0 then
   some ((-1000000001), σ)
  else
   (mX11_keep_L16 p1 bo_fuel 0 σ).bind fun a4 =>
   (bo_st 216 a4 166 ((108 * p1) + 107) (a4 135 17)).bind fun σ5 =>
   (bo_st 2 σ5 167 p1 (1 &&& 1)).bind fun σ6 =>
   (some (bo_up σ6 135 38 0)).bind fun σ7 =>
   some (1, σ7)
-- BellRopeModel.goBack
def mX11_goBack_L29 (f1 : Int32) : Nat → Int32 → bo_M → Option (bo_M)
  | 0, _, _ => none
  | n + 1, w2, σ =>
    if 107 ≤ w2 then
     some σ
    else
     (bo_ld 216 σ 166 ((108 * f1) + w2)).bind fun v3 =>
     (bo_st 107 σ 144 w2 v3).bind fun σ4 =>
     mX11_goBack_L29 f1 n (w2 + 1) σ4
def mX11_goBack (σ : bo_M) (p1 : Int32) : Option (Int32 × bo_M) :=
  (mX11_in σ (Int32.toInt64 p1) 0 1).bind fun v1 =>
  if v1 = 0 then
   some ((-1000000001), σ)
  else
   (bo_ld 2 σ 167 p1).bind fun v2 =>
   if v2 = 0 then
    some ((-1000000003), σ)
   else
    (mX11_goBack_L29 p1 bo_fuel 0 σ).bind fun a5 =>
    (bo_ld 216 a5 166 ((108 * p1) + 107)).bind fun v6 =>
    (some (bo_up a5 135 17 v6)).bind fun σ7 =>
    (some (bo_up σ7 135 38 0)).bind fun σ8 =>
    some (1, σ8)
end
end
section
/-! words of the tables, by their places -/
theorem bo_mems {ws : List Cond} (ps : List Nat) (hp : ws = ps.filterMap (fun i => lw_tbl[i]?)) (hg : ws.all goodWord = true) : ∀ w ∈ ws, w ∈ bo_tb := by
  intro w hw
  have h1 := List.all_eq_true.mp hg w hw
  rw [hp] at hw
  obtain ⟨i, -, hi⟩ := List.mem_filterMap.mp hw
  exact bo_mem i hi h1
theorem bo_mVof {y : MethodName} {cy : ByteArray} {ny n : Nat} {rt : Option FieldType} {C : String} (h : ∀ w ∈ [Cond.instanceMethod y, .selects C y y, .initialized C, .code y cy ny rt], w ∈ bo_tb) (h2 : y.cls = C ∧ y.cls ≠ "java/lang/invoke/MethodHandle" ∧ y.cls ≠ "java/lang/invoke/VarHandle" ∧ (parseMethodDescriptor y.desc).map (fun d => d.parameters.length) = some n) : bo_mV y cy ny rt n C := ⟨h _ (by simp), h _ (by simp), h _ (by simp), h _ (by simp), h2⟩
theorem bo_mSof {y : MethodName} {cy : ByteArray} {ny n : Nat} {rt : Option FieldType} (h : ∀ w ∈ [Cond.static y, .initialized y.cls, .code y cy ny rt], w ∈ bo_tb) (h2 : y.cls ≠ "java/lang/invoke/MethodHandle" ∧ y.cls ≠ "java/lang/invoke/VarHandle" ∧ (parseMethodDescriptor y.desc).map (fun d => d.parameters.length) = some n) : bo_mS y cy ny rt n := ⟨h _ (by simp), h _ (by simp), h _ (by simp), h2⟩
theorem in_X0 : ∀ w ∈ u_ws RX0 TX0 3, w ∈ bo_tb := bo_mems [248, 250, 252] (by decide +kernel) (by decide +kernel)
theorem in_X1 : ∀ w ∈ u_ws RX1 TX1 1, w ∈ bo_tb := bo_mems [262] (by decide +kernel) (by decide +kernel)
theorem in_X2 : ∀ w ∈ u_ws RX2 TX2 10, w ∈ bo_tb := bo_mems [137, 139, 141, 143, 145, 147, 149, 151, 153, 155] (by decide +kernel) (by decide +kernel)
theorem in_X3 : ∀ w ∈ u_ws RX3 TX3 3, w ∈ bo_tb := bo_mems [187, 189, 191] (by decide +kernel) (by decide +kernel)
theorem in_X4 : ∀ w ∈ u_ws RX4 TX4 15, w ∈ bo_tb := bo_mems [319, 321, 323, 325, 327, 329, 331, 333, 335, 337, 339, 341, 343, 345, 347] (by decide +kernel) (by decide +kernel)
theorem in_X5 : ∀ w ∈ u_ws RX5 TX5 6, w ∈ bo_tb := bo_mems [225, 227, 229, 231, 233, 235] (by decide +kernel) (by decide +kernel)
theorem in_X6 : ∀ w ∈ u_ws RX6 TX6 2, w ∈ bo_tb := bo_mems [170, 172] (by decide +kernel) (by decide +kernel)
theorem in_X7 : ∀ w ∈ u_ws RX7 TX7 6, w ∈ bo_tb := bo_mems [98, 100, 102, 104, 106, 108] (by decide +kernel) (by decide +kernel)
theorem in_X9 : ∀ w ∈ u_ws RX9 TX9 2, w ∈ bo_tb := bo_mems [206, 208] (by decide +kernel) (by decide +kernel)
theorem in_X10 : ∀ w ∈ u_ws RX10 TX10 12, w ∈ bo_tb := bo_mems [362, 364, 366, 368, 370, 372, 374, 376, 378, 380, 382, 384] (by decide +kernel) (by decide +kernel)
theorem in_X11 : ∀ w ∈ u_ws RX11 TX11 54, w ∈ bo_tb := bo_mems [935, 937, 939, 941, 943, 945, 947, 949, 951, 953, 955, 957, 959, 961, 963, 965, 967, 969, 971, 973, 975, 977, 979, 981, 983, 985, 987, 989, 991, 993, 995, 997, 999, 1001, 1003, 1005, 1007, 1009, 1011, 1013, 1015, 1017, 1019, 1021, 1023, 1025, 1027, 1029, 1031, 1033, 1035, 1037, 1039, 1041] (by decide +kernel) (by decide +kernel)
theorem bo_o_0 : bo_isO 0 9 bo_LTop := ⟨by decide, by decide +kernel⟩
theorem bo_o_1 : bo_isO 1 7 bo_LRead := ⟨by decide, by decide +kernel⟩
theorem bo_o_3 : bo_isO 3 6 bo_LPast := ⟨by decide, by decide +kernel⟩
theorem bo_o_17 : bo_isO 17 8 bo_LTri := ⟨by decide, by decide +kernel⟩
theorem bo_o_24 : bo_isO 24 5 bo_LKno := ⟨by decide, by decide +kernel⟩
theorem bo_o_29 : bo_isO 29 0 bo_LBook := ⟨by decide, by decide +kernel⟩
theorem bo_o_32 : bo_isO 32 1 bo_LCha := ⟨by decide, by decide +kernel⟩
theorem bo_o_135 : bo_isO 135 10 bo_LMod := ⟨by decide, by decide +kernel⟩
theorem bo_c_2 : bo_isA 2 240 := ⟨by decide, by decide +kernel⟩
theorem bo_c_4 : bo_isQ 4 16 := ⟨by decide, by decide +kernel⟩
theorem bo_c_23 : bo_isA 23 192 := ⟨by decide, by decide +kernel⟩
theorem bo_c_25 : bo_isA 25 6 := ⟨by decide, by decide +kernel⟩
theorem bo_c_26 : bo_isA 26 6 := ⟨by decide, by decide +kernel⟩
theorem bo_c_27 : bo_isA 27 128 := ⟨by decide, by decide +kernel⟩
theorem bo_c_28 : bo_isA 28 17 := ⟨by decide, by decide +kernel⟩
theorem bo_c_30 : bo_isA 30 15 := ⟨by decide, by decide +kernel⟩
theorem bo_c_31 : bo_isA 31 15 := ⟨by decide, by decide +kernel⟩
theorem bo_c_33 : bo_isA 33 8 := ⟨by decide, by decide +kernel⟩
theorem bo_c_136 : bo_isA 136 7 := ⟨by decide, by decide +kernel⟩
theorem bo_c_137 : bo_isA 137 7 := ⟨by decide, by decide +kernel⟩
theorem bo_c_138 : bo_isA 138 7 := ⟨by decide, by decide +kernel⟩
theorem bo_c_139 : bo_isA 139 4 := ⟨by decide, by decide +kernel⟩
theorem bo_c_140 : bo_isA 140 4 := ⟨by decide, by decide +kernel⟩
theorem bo_c_141 : bo_isA 141 6 := ⟨by decide, by decide +kernel⟩
theorem bo_c_142 : bo_isA 142 6 := ⟨by decide, by decide +kernel⟩
theorem bo_c_143 : bo_isA 143 5 := ⟨by decide, by decide +kernel⟩
theorem bo_c_144 : bo_isA 144 107 := ⟨by decide, by decide +kernel⟩
theorem bo_c_145 : bo_isA 145 240 := ⟨by decide, by decide +kernel⟩
theorem bo_c_146 : bo_isA 146 3 := ⟨by decide, by decide +kernel⟩
theorem bo_c_147 : bo_isA 147 7 := ⟨by decide, by decide +kernel⟩
theorem bo_c_148 : bo_isA 148 7 := ⟨by decide, by decide +kernel⟩
theorem bo_c_149 : bo_isA 149 7 := ⟨by decide, by decide +kernel⟩
theorem bo_c_150 : bo_isA 150 4 := ⟨by decide, by decide +kernel⟩
theorem bo_c_151 : bo_isA 151 4 := ⟨by decide, by decide +kernel⟩
theorem bo_c_152 : bo_isA 152 6 := ⟨by decide, by decide +kernel⟩
theorem bo_c_153 : bo_isA 153 6 := ⟨by decide, by decide +kernel⟩
theorem bo_c_154 : bo_isA 154 5 := ⟨by decide, by decide +kernel⟩
theorem bo_c_155 : bo_isA 155 1712 := ⟨by decide, by decide +kernel⟩
theorem bo_c_156 : bo_isA 156 107 := ⟨by decide, by decide +kernel⟩
theorem bo_c_157 : bo_isA 157 192 := ⟨by decide, by decide +kernel⟩
theorem bo_c_158 : bo_isA 158 192 := ⟨by decide, by decide +kernel⟩
theorem bo_c_159 : bo_isA 159 8 := ⟨by decide, by decide +kernel⟩
theorem bo_c_160 : bo_isA 160 6 := ⟨by decide, by decide +kernel⟩
theorem bo_c_161 : bo_isA 161 6 := ⟨by decide, by decide +kernel⟩
theorem bo_c_162 : bo_isZ 162 128 := ⟨by decide, by decide +kernel⟩
theorem bo_c_163 : bo_isA 163 20 := ⟨by decide, by decide +kernel⟩
theorem bo_c_164 : bo_isA 164 15 := ⟨by decide, by decide +kernel⟩
theorem bo_c_165 : bo_isA 165 15 := ⟨by decide, by decide +kernel⟩
theorem bo_c_166 : bo_isA 166 216 := ⟨by decide, by decide +kernel⟩
theorem bo_c_167 : bo_isZ 167 2 := ⟨by decide, by decide +kernel⟩
theorem wc_X10_78 : Cond.constant RX10 78 (-1000000002) ∈ bo_tb := bo_mem 391 (by decide +kernel) (by decide +kernel)
theorem wc_X10_87 : Cond.constant RX10 87 (-1000000004) ∈ bo_tb := bo_mem 399 (by decide +kernel) (by decide +kernel)
theorem wc_X10_149 : Cond.constant RX10 149 (-1000000001) ∈ bo_tb := bo_mem 506 (by decide +kernel) (by decide +kernel)
theorem wc_X10_208 : Cond.constant RX10 208 (-1000000003) ∈ bo_tb := bo_mem 562 (by decide +kernel) (by decide +kernel)
theorem wc_X10_335 : Cond.constant RX10 335 90000 ∈ bo_tb := bo_mem 563 (by decide +kernel) (by decide +kernel)
theorem wc_X10_339 : Cond.constant RX10 339 1103515245 ∈ bo_tb := bo_mem 650 (by decide +kernel) (by decide +kernel)
theorem wc_X10_340 : Cond.constant RX10 340 2147483647 ∈ bo_tb := bo_mem 651 (by decide +kernel) (by decide +kernel)
theorem wc_X10_341 : Cond.constant RX10 341 65536 ∈ bo_tb := bo_mem 652 (by decide +kernel) (by decide +kernel)
theorem wc_X10_342 : Cond.constant RX10 342 999999 ∈ bo_tb := bo_mem 765 (by decide +kernel) (by decide +kernel)
theorem wc_X1_21 : Cond.constant RX1 21 1000000 ∈ bo_tb := bo_mem 743 (by decide +kernel) (by decide +kernel)
theorem wc_X11_127 : Cond.constant RX11 127 (-1000000002) ∈ bo_tb := bo_mem 1053 (by decide +kernel) (by decide +kernel)
theorem wc_X11_131 : Cond.constant RX11 131 (-1000000004) ∈ bo_tb := bo_mem 1054 (by decide +kernel) (by decide +kernel)
theorem wc_X11_261 : Cond.constant RX11 261 (-1000000001) ∈ bo_tb := bo_mem 1147 (by decide +kernel) (by decide +kernel)
theorem wc_X11_277 : Cond.constant RX11 277 (-1000000003) ∈ bo_tb := bo_mem 1185 (by decide +kernel) (by decide +kernel)
theorem wc_X11_278 : Cond.constant RX11 278 90000 ∈ bo_tb := bo_mem 1186 (by decide +kernel) (by decide +kernel)
theorem wc_X11_303 : Cond.constant RX11 303 65536 ∈ bo_tb := bo_mem 1253 (by decide +kernel) (by decide +kernel)
theorem wc_X11_328 : Cond.constant RX11 328 100000 ∈ bo_tb := bo_mem 1301 (by decide +kernel) (by decide +kernel)
theorem wc_X11_343 : Cond.constant RX11 343 1000000 ∈ bo_tb := bo_mem 1346 (by decide +kernel) (by decide +kernel)
theorem wc_X11_349 : Cond.constant RX11 349 999999 ∈ bo_tb := bo_mem 1359 (by decide +kernel) (by decide +kernel)
theorem wc_J6_265 : Cond.constant RJ6 265 1431655765 ∈ bo_tb := bo_mem 591 (by decide +kernel) (by decide +kernel)
theorem wc_J6_266 : Cond.constant RJ6 266 858993459 ∈ bo_tb := bo_mem 592 (by decide +kernel) (by decide +kernel)
theorem wc_J6_267 : Cond.constant RJ6 267 252645135 ∈ bo_tb := bo_mem 593 (by decide +kernel) (by decide +kernel)
theorem wl_X11_125 : Cond.constantLong RX11 125 255 ∈ bo_tb := bo_mem 1049 (by decide +kernel) (by decide +kernel)
theorem wl_X11_139 : Cond.constantLong RX11 139 48 ∈ bo_tb := bo_mem 1095 (by decide +kernel) (by decide +kernel)
theorem wl_X11_141 : Cond.constantLong RX11 141 57 ∈ bo_tb := bo_mem 1096 (by decide +kernel) (by decide +kernel)
theorem wl_X11_275 : Cond.constantLong RX11 275 96 ∈ bo_tb := bo_mem 1184 (by decide +kernel) (by decide +kernel)
theorem wl_X11_288 : Cond.constantLong RX11 288 20 ∈ bo_tb := bo_mem 1223 (by decide +kernel) (by decide +kernel)
theorem wl_X11_290 : Cond.constantLong RX11 290 39 ∈ bo_tb := bo_mem 1228 (by decide +kernel) (by decide +kernel)
theorem wl_X11_292 : Cond.constantLong RX11 292 2 ∈ bo_tb := bo_mem 1237 (by decide +kernel) (by decide +kernel)
theorem wl_X11_297 : Cond.constantLong RX11 297 1103515245 ∈ bo_tb := bo_mem 1250 (by decide +kernel) (by decide +kernel)
theorem wl_X11_299 : Cond.constantLong RX11 299 12345 ∈ bo_tb := bo_mem 1251 (by decide +kernel) (by decide +kernel)
theorem wl_X11_301 : Cond.constantLong RX11 301 2147483648 ∈ bo_tb := bo_mem 1252 (by decide +kernel) (by decide +kernel)
theorem wl_X11_310 : Cond.constantLong RX11 310 191 ∈ bo_tb := bo_mem 1262 (by decide +kernel) (by decide +kernel)
theorem wl_X11_315 : Cond.constantLong RX11 315 16 ∈ bo_tb := bo_mem 1271 (by decide +kernel) (by decide +kernel)
theorem wl_X11_320 : Cond.constantLong RX11 320 192 ∈ bo_tb := bo_mem 1280 (by decide +kernel) (by decide +kernel)
theorem wl_X11_341 : Cond.constantLong RX11 341 99 ∈ bo_tb := bo_mem 1337 (by decide +kernel) (by decide +kernel)
theorem wl_X11_347 : Cond.constantLong RX11 347 999999 ∈ bo_tb := bo_mem 1358 (by decide +kernel) (by decide +kernel)
theorem wl_X11_353 : Cond.constantLong RX11 353 95 ∈ bo_tb := bo_mem 1372 (by decide +kernel) (by decide +kernel)
theorem wl_X11_359 : Cond.constantLong RX11 359 3 ∈ bo_tb := bo_mem 1377 (by decide +kernel) (by decide +kernel)
theorem mm_max_1 : Cond.static Lib.Math.max.name ∈ bo_tb := bo_mem 608 (by decide +kernel) (by decide +kernel)
theorem mm_max_2 : Cond.code Lib.Math.max.name Lib.Math.max.code 2 (some .int) ∈ bo_tb := bo_mem 609 (by decide +kernel) (by decide +kernel)
theorem mm_min_1 : Cond.static Lib.Math.min.name ∈ bo_tb := bo_mem 458 (by decide +kernel) (by decide +kernel)
theorem mm_min_2 : Cond.code Lib.Math.min.name Lib.Math.min.code 2 (some .int) ∈ bo_tb := bo_mem 459 (by decide +kernel) (by decide +kernel)
theorem mm_i : Cond.initialized "java/lang/Math" ∈ bo_tb := bo_mem 74 (by decide +kernel) (by decide +kernel)
theorem lk_X10_79 : Cond.methodLink RX10 79 yX7_append ∈ bo_tb := bo_mem 392 (by decide +kernel) (by decide +kernel)
theorem lk_X10_88 : Cond.methodLink RX10 88 yX7_read ∈ bo_tb := bo_mem 404 (by decide +kernel) (by decide +kernel)
theorem lk_X10_92 : Cond.methodLink RX10 92 yX2_empty ∈ bo_tb := bo_mem 473 (by decide +kernel) (by decide +kernel)
theorem lk_X10_129 : Cond.methodLink RX10 129 yX2_isWet ∈ bo_tb := bo_mem 486 (by decide +kernel) (by decide +kernel)
theorem lk_X10_139 : Cond.methodLink RX10 139 yX2_logs ∈ bo_tb := bo_mem 493 (by decide +kernel) (by decide +kernel)
theorem lk_X10_146 : Cond.methodLink RX10 146 yX4_hasDrinker ∈ bo_tb := bo_mem 502 (by decide +kernel) (by decide +kernel)
theorem lk_X10_154 : Cond.methodLink RX10 154 yX8_at ∈ bo_tb := bo_mem 507 (by decide +kernel) (by decide +kernel)
theorem lk_X10_166 : Cond.methodLink RX10 166 yX10_bit ∈ bo_tb := bo_mem 508 (by decide +kernel) (by decide +kernel)
theorem lk_X10_176 : Cond.methodLink RX10 176 yX2_thirsty ∈ bo_tb := bo_mem 509 (by decide +kernel) (by decide +kernel)
theorem lk_X10_179 : Cond.methodLink RX10 179 yX4_hasGoer ∈ bo_tb := bo_mem 530 (by decide +kernel) (by decide +kernel)
theorem lk_X10_191 : Cond.methodLink RX10 191 yX2_heardAgo ∈ bo_tb := bo_mem 542 (by decide +kernel) (by decide +kernel)
theorem lk_X10_195 : Cond.methodLink RX10 195 yX2_rungAgo ∈ bo_tb := bo_mem 546 (by decide +kernel) (by decide +kernel)
theorem lk_X10_198 : Cond.methodLink RX10 198 yX10_refusedQuarters ∈ bo_tb := bo_mem 554 (by decide +kernel) (by decide +kernel)
theorem lk_X10_201 : Cond.methodLink RX10 201 yX6_note ∈ bo_tb := bo_mem 564 (by decide +kernel) (by decide +kernel)
theorem lk_X10_205 : Cond.methodLink RX10 205 yX2_pass ∈ bo_tb := bo_mem 583 (by decide +kernel) (by decide +kernel)
theorem lk_X10_209 : Cond.methodLink RX10 209 Lib.Math.max.name ∈ bo_tb := bo_mem 624 (by decide +kernel) (by decide +kernel)
theorem lk_X10_214 : Cond.methodLink RX10 214 yX8_put ∈ bo_tb := bo_mem 625 (by decide +kernel) (by decide +kernel)
theorem lk_X10_218 : Cond.methodLink RX10 218 yX10_refused ∈ bo_tb := bo_mem 558 (by decide +kernel) (by decide +kernel)
theorem lk_X10_222 : Cond.methodLink RX10 222 yX10_stir ∈ bo_tb := bo_mem 642 (by decide +kernel) (by decide +kernel)
theorem lk_X10_225 : Cond.methodLink RX10 225 yX6_restore ∈ bo_tb := bo_mem 657 (by decide +kernel) (by decide +kernel)
theorem lk_X10_229 : Cond.methodLink RX10 229 yX9_run ∈ bo_tb := bo_mem 665 (by decide +kernel) (by decide +kernel)
theorem lk_X10_236 : Cond.methodLink RX10 236 yX9_firstHeard ∈ bo_tb := bo_mem 676 (by decide +kernel) (by decide +kernel)
theorem lk_X10_245 : Cond.methodLink RX10 245 yX10_lateBy ∈ bo_tb := bo_mem 693 (by decide +kernel) (by decide +kernel)
theorem lk_X10_248 : Cond.methodLink RX10 248 yJ6_bitCount_0f7a4 ∈ bo_tb := bo_mem 701 (by decide +kernel) (by decide +kernel)
theorem lk_X10_253 : Cond.methodLink RX10 253 yX4_signalsOf ∈ bo_tb := bo_mem 710 (by decide +kernel) (by decide +kernel)
theorem lk_X10_256 : Cond.methodLink RX10 256 yX2_due ∈ bo_tb := bo_mem 719 (by decide +kernel) (by decide +kernel)
theorem lk_X10_260 : Cond.methodLink RX10 260 yX2_full ∈ bo_tb := bo_mem 720 (by decide +kernel) (by decide +kernel)
theorem lk_X10_263 : Cond.methodLink RX10 263 yX4_sets ∈ bo_tb := bo_mem 721 (by decide +kernel) (by decide +kernel)
theorem lk_X10_266 : Cond.methodLink RX10 266 yX2_heardOf ∈ bo_tb := bo_mem 725 (by decide +kernel) (by decide +kernel)
theorem lk_X10_269 : Cond.methodLink RX10 269 yX1_restart ∈ bo_tb := bo_mem 738 (by decide +kernel) (by decide +kernel)
theorem lk_X10_272 : Cond.methodLink RX10 272 yX1_lift ∈ bo_tb := bo_mem 745 (by decide +kernel) (by decide +kernel)
theorem lk_X10_276 : Cond.methodLink RX10 276 yX1_above ∈ bo_tb := bo_mem 750 (by decide +kernel) (by decide +kernel)
theorem lk_X10_279 : Cond.methodLink RX10 279 yX10_leastCommon ∈ bo_tb := bo_mem 762 (by decide +kernel) (by decide +kernel)
theorem lk_X10_282 : Cond.methodLink RX10 282 yX8_sum ∈ bo_tb := bo_mem 771 (by decide +kernel) (by decide +kernel)
theorem lk_X10_286 : Cond.methodLink RX10 286 yX10_payersAhead ∈ bo_tb := bo_mem 774 (by decide +kernel) (by decide +kernel)
theorem lk_X10_289 : Cond.methodLink RX10 289 yX5_append ∈ bo_tb := bo_mem 782 (by decide +kernel) (by decide +kernel)
theorem lk_X10_292 : Cond.methodLink RX10 292 yX5_findSets ∈ bo_tb := bo_mem 791 (by decide +kernel) (by decide +kernel)
theorem lk_X10_299 : Cond.methodLink RX10 299 yX5_leastSet ∈ bo_tb := bo_mem 808 (by decide +kernel) (by decide +kernel)
theorem lk_X10_302 : Cond.methodLink RX10 302 yX5_sureIn ∈ bo_tb := bo_mem 812 (by decide +kernel) (by decide +kernel)
theorem lk_X10_305 : Cond.methodLink RX10 305 yX5_sureOut ∈ bo_tb := bo_mem 817 (by decide +kernel) (by decide +kernel)
theorem lk_X10_308 : Cond.methodLink RX10 308 yX5_greatestAlike ∈ bo_tb := bo_mem 825 (by decide +kernel) (by decide +kernel)
theorem lk_X10_312 : Cond.methodLink RX10 312 yX5_fits ∈ bo_tb := bo_mem 835 (by decide +kernel) (by decide +kernel)
theorem lk_X10_316 : Cond.methodLink RX10 316 yX0_append ∈ bo_tb := bo_mem 840 (by decide +kernel) (by decide +kernel)
theorem lk_X10_317 : Cond.methodLink RX10 317 yX0_firstWrong ∈ bo_tb := bo_mem 853 (by decide +kernel) (by decide +kernel)
theorem lk_X10_324 : Cond.methodLink RX10 324 yX10_imageOf ∈ bo_tb := bo_mem 866 (by decide +kernel) (by decide +kernel)
theorem lk_X10_329 : Cond.methodLink RX10 329 yX2_become ∈ bo_tb := bo_mem 870 (by decide +kernel) (by decide +kernel)
theorem lk_X10_336 : Cond.methodLink RX10 336 yX10_draw ∈ bo_tb := bo_mem 646 (by decide +kernel) (by decide +kernel)
theorem lk_X10_343 : Cond.methodLink RX10 343 Lib.Math.min.name ∈ bo_tb := bo_mem 766 (by decide +kernel) (by decide +kernel)
theorem lk_X0_22 : Cond.methodLink RX0 22 yX8_put ∈ bo_tb := bo_mem 844 (by decide +kernel) (by decide +kernel)
theorem lk_X0_31 : Cond.methodLink RX0 31 yX8_at ∈ bo_tb := bo_mem 857 (by decide +kernel) (by decide +kernel)
theorem lk_X1_15 : Cond.methodLink RX1 15 yX8_zero ∈ bo_tb := bo_mem 742 (by decide +kernel) (by decide +kernel)
theorem lk_X1_22 : Cond.methodLink RX1 22 yX8_put ∈ bo_tb := bo_mem 744 (by decide +kernel) (by decide +kernel)
theorem lk_X1_26 : Cond.methodLink RX1 26 yX8_at ∈ bo_tb := bo_mem 749 (by decide +kernel) (by decide +kernel)
theorem lk_X2_43 : Cond.methodLink RX2 43 yX8_zero ∈ bo_tb := bo_mem 477 (by decide +kernel) (by decide +kernel)
theorem lk_X2_49 : Cond.methodLink RX2 49 yX8_copy ∈ bo_tb := bo_mem 580 (by decide +kernel) (by decide +kernel)
theorem lk_X2_53 : Cond.methodLink RX2 53 Lib.Math.min.name ∈ bo_tb := bo_mem 497 (by decide +kernel) (by decide +kernel)
theorem lk_X2_59 : Cond.methodLink RX2 59 yX8_at ∈ bo_tb := bo_mem 517 (by decide +kernel) (by decide +kernel)
theorem lk_X2_77 : Cond.methodLink RX2 77 yX2_startsDay ∈ bo_tb := bo_mem 522 (by decide +kernel) (by decide +kernel)
theorem lk_X2_84 : Cond.methodLink RX2 84 yX2_due ∈ bo_tb := bo_mem 513 (by decide +kernel) (by decide +kernel)
theorem lk_X2_88 : Cond.methodLink RX2 88 yX2_full ∈ bo_tb := bo_mem 518 (by decide +kernel) (by decide +kernel)
theorem lk_X2_92 : Cond.methodLink RX2 92 yX4_sextonAt ∈ bo_tb := bo_mem 598 (by decide +kernel) (by decide +kernel)
theorem lk_X2_96 : Cond.methodLink RX2 96 yX2_isWet ∈ bo_tb := bo_mem 602 (by decide +kernel) (by decide +kernel)
theorem lk_X2_103 : Cond.methodLink RX2 103 yX4_echoed ∈ bo_tb := bo_mem 603 (by decide +kernel) (by decide +kernel)
theorem lk_X2_106 : Cond.methodLink RX2 106 yX2_thirsty ∈ bo_tb := bo_mem 587 (by decide +kernel) (by decide +kernel)
theorem lk_X2_109 : Cond.methodLink RX2 109 yJ6_bitCount_0f7a4 ∈ bo_tb := bo_mem 588 (by decide +kernel) (by decide +kernel)
theorem lk_X2_115 : Cond.methodLink RX2 115 yX2_heardOf ∈ bo_tb := bo_mem 594 (by decide +kernel) (by decide +kernel)
theorem lk_X2_118 : Cond.methodLink RX2 118 yX8_put ∈ bo_tb := bo_mem 610 (by decide +kernel) (by decide +kernel)
theorem lk_X2_122 : Cond.methodLink RX2 122 Lib.Math.max.name ∈ bo_tb := bo_mem 611 (by decide +kernel) (by decide +kernel)
theorem lk_X4_59 : Cond.methodLink RX4 59 yX8_zero ∈ bo_tb := bo_mem 412 (by decide +kernel) (by decide +kernel)
theorem lk_X4_65 : Cond.methodLink RX4 65 yX8_at ∈ bo_tb := bo_mem 472 (by decide +kernel) (by decide +kernel)
theorem lk_X4_69 : Cond.methodLink RX4 69 Lib.Math.max.name ∈ bo_tb := bo_mem 607 (by decide +kernel) (by decide +kernel)
theorem lk_X5_28 : Cond.methodLink RX5 28 yX8_put ∈ bo_tb := bo_mem 786 (by decide +kernel) (by decide +kernel)
theorem lk_X5_37 : Cond.methodLink RX5 37 yX4_sets ∈ bo_tb := bo_mem 795 (by decide +kernel) (by decide +kernel)
theorem lk_X5_45 : Cond.methodLink RX5 45 yX5_fits ∈ bo_tb := bo_mem 796 (by decide +kernel) (by decide +kernel)
theorem lk_X5_49 : Cond.methodLink RX5 49 yX8_at ∈ bo_tb := bo_mem 800 (by decide +kernel) (by decide +kernel)
theorem lk_X5_53 : Cond.methodLink RX5 53 yX2_due ∈ bo_tb := bo_mem 801 (by decide +kernel) (by decide +kernel)
theorem lk_X5_59 : Cond.methodLink RX5 59 yX5_heardBy ∈ bo_tb := bo_mem 802 (by decide +kernel) (by decide +kernel)
theorem lk_X5_63 : Cond.methodLink RX5 63 yX5_leastSet ∈ bo_tb := bo_mem 816 (by decide +kernel) (by decide +kernel)
theorem lk_X5_66 : Cond.methodLink RX5 66 yX8_zero ∈ bo_tb := bo_mem 829 (by decide +kernel) (by decide +kernel)
theorem lk_X5_70 : Cond.methodLink RX5 70 Lib.Math.max.name ∈ bo_tb := bo_mem 830 (by decide +kernel) (by decide +kernel)
theorem lk_X5_76 : Cond.methodLink RX5 76 yJ6_bitCount_0f7a4 ∈ bo_tb := bo_mem 805 (by decide +kernel) (by decide +kernel)
theorem lk_X5_82 : Cond.methodLink RX5 82 yX4_sextonAt ∈ bo_tb := bo_mem 806 (by decide +kernel) (by decide +kernel)
theorem lk_X5_86 : Cond.methodLink RX5 86 yX4_echoed ∈ bo_tb := bo_mem 807 (by decide +kernel) (by decide +kernel)
theorem lk_X6_22 : Cond.methodLink RX6 22 yX6_loseOldest ∈ bo_tb := bo_mem 568 (by decide +kernel) (by decide +kernel)
theorem lk_X6_25 : Cond.methodLink RX6 25 yX6_evening ∈ bo_tb := bo_mem 572 (by decide +kernel) (by decide +kernel)
theorem lk_X6_29 : Cond.methodLink RX6 29 yX2_become ∈ bo_tb := bo_mem 576 (by decide +kernel) (by decide +kernel)
theorem lk_X7_22 : Cond.methodLink RX7 22 yX8_put ∈ bo_tb := bo_mem 396 (by decide +kernel) (by decide +kernel)
theorem lk_X7_34 : Cond.methodLink RX7 34 yX4_empty ∈ bo_tb := bo_mem 408 (by decide +kernel) (by decide +kernel)
theorem lk_X7_39 : Cond.methodLink RX7 39 yX7_skipBlanks ∈ bo_tb := bo_mem 415 (by decide +kernel) (by decide +kernel)
theorem lk_X7_42 : Cond.methodLink RX7 42 yX7_readClause ∈ bo_tb := bo_mem 422 (by decide +kernel) (by decide +kernel)
theorem lk_X7_46 : Cond.methodLink RX7 46 yX8_at ∈ bo_tb := bo_mem 419 (by decide +kernel) (by decide +kernel)
theorem lk_X7_53 : Cond.methodLink RX7 53 yX7_wrong ∈ bo_tb := bo_mem 426 (by decide +kernel) (by decide +kernel)
theorem lk_X7_57 : Cond.methodLink RX7 57 yX7_readBell ∈ bo_tb := bo_mem 430 (by decide +kernel) (by decide +kernel)
theorem lk_X7_60 : Cond.methodLink RX7 60 yX7_readDrinker ∈ bo_tb := bo_mem 449 (by decide +kernel) (by decide +kernel)
theorem lk_X7_63 : Cond.methodLink RX7 63 yX7_readSexton ∈ bo_tb := bo_mem 453 (by decide +kernel) (by decide +kernel)
theorem lk_X7_66 : Cond.methodLink RX7 66 yX7_readGoer ∈ bo_tb := bo_mem 460 (by decide +kernel) (by decide +kernel)
theorem lk_X7_69 : Cond.methodLink RX7 69 yX7_readSignal ∈ bo_tb := bo_mem 464 (by decide +kernel) (by decide +kernel)
theorem lk_X7_72 : Cond.methodLink RX7 72 yX7_startClause ∈ bo_tb := bo_mem 434 (by decide +kernel) (by decide +kernel)
theorem lk_X7_76 : Cond.methodLink RX7 76 yX7_readNumber ∈ bo_tb := bo_mem 438 (by decide +kernel) (by decide +kernel)
theorem lk_X7_89 : Cond.methodLink RX7 89 yX7_endClause ∈ bo_tb := bo_mem 445 (by decide +kernel) (by decide +kernel)
theorem lk_X7_107 : Cond.methodLink RX7 107 Lib.Math.min.name ∈ bo_tb := bo_mem 457 (by decide +kernel) (by decide +kernel)
theorem lk_X7_127 : Cond.methodLink RX7 127 yX4_signalsOf ∈ bo_tb := bo_mem 468 (by decide +kernel) (by decide +kernel)
theorem lk_X7_137 : Cond.methodLink RX7 137 yX7_isFigure ∈ bo_tb := bo_mem 442 (by decide +kernel) (by decide +kernel)
theorem lk_X9_22 : Cond.methodLink RX9 22 yX2_become ∈ bo_tb := bo_mem 669 (by decide +kernel) (by decide +kernel)
theorem lk_X9_26 : Cond.methodLink RX9 26 yX2_pass ∈ bo_tb := bo_mem 670 (by decide +kernel) (by decide +kernel)
theorem lk_X9_30 : Cond.methodLink RX9 30 yX8_put ∈ bo_tb := bo_mem 671 (by decide +kernel) (by decide +kernel)
theorem lk_X9_36 : Cond.methodLink RX9 36 yX8_at ∈ bo_tb := bo_mem 680 (by decide +kernel) (by decide +kernel)
theorem lk_X11_118 : Cond.methodLink RX11 118 yX11_in ∈ bo_tb := bo_mem 1050 (by decide +kernel) (by decide +kernel)
theorem lk_X11_135 : Cond.methodLink RX11 135 yX11_here ∈ bo_tb := bo_mem 1059 (by decide +kernel) (by decide +kernel)
theorem lk_X11_143 : Cond.methodLink RX11 143 yX11_fails ∈ bo_tb := bo_mem 1071 (by decide +kernel) (by decide +kernel)
theorem lk_X11_153 : Cond.methodLink RX11 153 yX11_takeNumber ∈ bo_tb := bo_mem 1091 (by decide +kernel) (by decide +kernel)
theorem lk_X11_159 : Cond.methodLink RX11 159 yX11_into ∈ bo_tb := bo_mem 1087 (by decide +kernel) (by decide +kernel)
theorem lk_X11_175 : Cond.methodLink RX11 175 yX11_takeLaw ∈ bo_tb := bo_mem 1083 (by decide +kernel) (by decide +kernel)
theorem lk_X11_178 : Cond.methodLink RX11 178 yX11_takeDrinker ∈ bo_tb := bo_mem 1097 (by decide +kernel) (by decide +kernel)
theorem lk_X11_181 : Cond.methodLink RX11 181 yX11_takeTime ∈ bo_tb := bo_mem 1101 (by decide +kernel) (by decide +kernel)
theorem lk_X11_184 : Cond.methodLink RX11 184 yX11_takeGoer ∈ bo_tb := bo_mem 1105 (by decide +kernel) (by decide +kernel)
theorem lk_X11_187 : Cond.methodLink RX11 187 yX11_takeSignal ∈ bo_tb := bo_mem 1109 (by decide +kernel) (by decide +kernel)
theorem lk_X11_190 : Cond.methodLink RX11 190 yX11_whichClause ∈ bo_tb := bo_mem 1067 (by decide +kernel) (by decide +kernel)
theorem lk_X11_194 : Cond.methodLink RX11 194 yX11_isFull ∈ bo_tb := bo_mem 1075 (by decide +kernel) (by decide +kernel)
theorem lk_X11_198 : Cond.methodLink RX11 198 yX11_takeBody ∈ bo_tb := bo_mem 1079 (by decide +kernel) (by decide +kernel)
theorem lk_X11_216 : Cond.methodLink RX11 216 yX11_copyRow ∈ bo_tb := bo_mem 1117 (by decide +kernel) (by decide +kernel)
theorem lk_X11_220 : Cond.methodLink RX11 220 yX11_takeClause ∈ bo_tb := bo_mem 1063 (by decide +kernel) (by decide +kernel)
theorem lk_X11_223 : Cond.methodLink RX11 223 yX11_takeRead ∈ bo_tb := bo_mem 1113 (by decide +kernel) (by decide +kernel)
theorem lk_X11_235 : Cond.methodLink RX11 235 yX11_has ∈ bo_tb := bo_mem 1136 (by decide +kernel) (by decide +kernel)
theorem lk_X11_239 : Cond.methodLink RX11 239 yX11_isFirstOfDay ∈ bo_tb := bo_mem 1152 (by decide +kernel) (by decide +kernel)
theorem lk_X11_243 : Cond.methodLink RX11 243 yX11_isTurn ∈ bo_tb := bo_mem 1156 (by decide +kernel) (by decide +kernel)
theorem lk_X11_246 : Cond.methodLink RX11 246 yX11_isWet ∈ bo_tb := bo_mem 1132 (by decide +kernel) (by decide +kernel)
theorem lk_X11_249 : Cond.methodLink RX11 249 yX11_isBlanketed ∈ bo_tb := bo_mem 1199 (by decide +kernel) (by decide +kernel)
theorem lk_X11_252 : Cond.methodLink RX11 252 yX11_muffle ∈ bo_tb := bo_mem 1203 (by decide +kernel) (by decide +kernel)
theorem lk_X11_255 : Cond.methodLink RX11 255 yX11_whoIsIn ∈ bo_tb := bo_mem 1128 (by decide +kernel) (by decide +kernel)
theorem lk_X11_258 : Cond.methodLink RX11 258 yX11_isDrinker ∈ bo_tb := bo_mem 1143 (by decide +kernel) (by decide +kernel)
theorem lk_X11_262 : Cond.methodLink RX11 262 yX11_wouldRing ∈ bo_tb := bo_mem 1148 (by decide +kernel) (by decide +kernel)
theorem lk_X11_265 : Cond.methodLink RX11 265 yX11_isGoer ∈ bo_tb := bo_mem 1164 (by decide +kernel) (by decide +kernel)
theorem lk_X11_268 : Cond.methodLink RX11 268 yX11_heardOf ∈ bo_tb := bo_mem 1195 (by decide +kernel) (by decide +kernel)
theorem lk_X11_271 : Cond.methodLink RX11 271 yX11_log ∈ bo_tb := bo_mem 1207 (by decide +kernel) (by decide +kernel)
theorem lk_X11_279 : Cond.methodLink RX11 279 yX11_quartersRefused ∈ bo_tb := bo_mem 1180 (by decide +kernel) (by decide +kernel)
theorem lk_X11_282 : Cond.methodLink RX11 282 yX11_remember ∈ bo_tb := bo_mem 1187 (by decide +kernel) (by decide +kernel)
theorem lk_X11_285 : Cond.methodLink RX11 285 yX11_pass ∈ bo_tb := bo_mem 1191 (by decide +kernel) (by decide +kernel)
theorem lk_X11_304 : Cond.methodLink RX11 304 yX11_draw ∈ bo_tb := bo_mem 1246 (by decide +kernel) (by decide +kernel)
theorem lk_X11_307 : Cond.methodLink RX11 307 yX11_happen ∈ bo_tb := bo_mem 1242 (by decide +kernel) (by decide +kernel)
theorem lk_X11_312 : Cond.methodLink RX11 312 yX11_lookAhead ∈ bo_tb := bo_mem 1263 (by decide +kernel) (by decide +kernel)
theorem lk_X11_317 : Cond.methodLink RX11 317 yX11_firstHeard ∈ bo_tb := bo_mem 1272 (by decide +kernel) (by decide +kernel)
theorem lk_X11_322 : Cond.methodLink RX11 322 yX11_isLate ∈ bo_tb := bo_mem 1293 (by decide +kernel) (by decide +kernel)
theorem lk_X11_325 : Cond.methodLink RX11 325 yX11_lateOnes ∈ bo_tb := bo_mem 1289 (by decide +kernel) (by decide +kernel)
theorem lk_X11_329 : Cond.methodLink RX11 329 yX11_bits ∈ bo_tb := bo_mem 1302 (by decide +kernel) (by decide +kernel)
theorem lk_X11_332 : Cond.methodLink RX11 332 yX11_costOf ∈ bo_tb := bo_mem 1325 (by decide +kernel) (by decide +kernel)
theorem lk_X11_335 : Cond.methodLink RX11 335 yX11_costs ∈ bo_tb := bo_mem 1321 (by decide +kernel) (by decide +kernel)
theorem lk_X11_338 : Cond.methodLink RX11 338 yX11_rungWith ∈ bo_tb := bo_mem 1329 (by decide +kernel) (by decide +kernel)
theorem lk_X11_344 : Cond.methodLink RX11 344 yX11_common ∈ bo_tb := bo_mem 1355 (by decide +kernel) (by decide +kernel)
theorem lk_X11_350 : Cond.methodLink RX11 350 yX11_isAhead ∈ bo_tb := bo_mem 1364 (by decide +kernel) (by decide +kernel)
theorem lk_X11_355 : Cond.methodLink RX11 355 yX11_heardBy ∈ bo_tb := bo_mem 1382 (by decide +kernel) (by decide +kernel)
theorem lk_X11_361 : Cond.methodLink RX11 361 yX11_couldBe ∈ bo_tb := bo_mem 1378 (by decide +kernel) (by decide +kernel)
theorem lk_X11_364 : Cond.methodLink RX11 364 yX11_greatestPart ∈ bo_tb := bo_mem 1390 (by decide +kernel) (by decide +kernel)
theorem ne_X2_68 : (RX2, 68, yX10_bit) ∈ bo_nests := by simp [bo_nests]
theorem mi_X10_draw : bo_mV yX10_draw cX10_draw 2 (some .int) 1 RX10 := bo_mVof (bo_mems [648, 16, 62, 649] (by decide +kernel) (by decide +kernel)) (by decide +kernel)
theorem mi_X10_imageOf : bo_mV yX10_imageOf cX10_imageOf 2 (some (.object "BellRope$Image")) 1 RX10 := bo_mVof (bo_mems [868, 19, 62, 869] (by decide +kernel) (by decide +kernel)) (by decide +kernel)
theorem mi_X10_lateBy : bo_mV yX10_lateBy cX10_lateBy 6 (some .int) 1 RX10 := bo_mVof (bo_mems [695, 17, 62, 696] (by decide +kernel) (by decide +kernel)) (by decide +kernel)
theorem mi_X10_payersAhead : bo_mV yX10_payersAhead cX10_payersAhead 5 (some .int) 1 RX10 := bo_mVof (bo_mems [776, 18, 62, 777] (by decide +kernel) (by decide +kernel)) (by decide +kernel)
theorem mi_X10_refused : bo_mV yX10_refused cX10_refused 2 (some .int) 1 RX10 := bo_mVof (bo_mems [560, 12, 62, 561] (by decide +kernel) (by decide +kernel)) (by decide +kernel)
theorem mi_X10_refusedQuarters : bo_mV yX10_refusedQuarters cX10_refusedQuarters 3 (some .int) 1 RX10 := bo_mVof (bo_mems [556, 11, 62, 557] (by decide +kernel) (by decide +kernel)) (by decide +kernel)
theorem mi_X10_stir : bo_mV yX10_stir cX10_stir 3 none 0 RX10 := bo_mVof (bo_mems [644, 15, 62, 645] (by decide +kernel) (by decide +kernel)) (by decide +kernel)
theorem mi_X0_append : bo_mV yX0_append cX0_append 3 (some .boolean) 2 RX0 := bo_mVof (bo_mems [841, 842, 69, 843] (by decide +kernel) (by decide +kernel)) (by decide +kernel)
theorem mi_X0_firstWrong : bo_mV yX0_firstWrong cX0_firstWrong 3 (some .int) 1 RX0 := bo_mVof (bo_mems [854, 855, 69, 856] (by decide +kernel) (by decide +kernel)) (by decide +kernel)
theorem mi_X1_above : bo_mV yX1_above cX1_above 4 (some .int) 1 RX1 := bo_mVof (bo_mems [751, 752, 70, 753] (by decide +kernel) (by decide +kernel)) (by decide +kernel)
theorem mi_X1_lift : bo_mV yX1_lift cX1_lift 4 none 1 RX1 := bo_mVof (bo_mems [746, 747, 70, 748] (by decide +kernel) (by decide +kernel)) (by decide +kernel)
theorem mi_X1_restart : bo_mV yX1_restart cX1_restart 1 none 0 RX1 := bo_mVof (bo_mems [739, 740, 70, 741] (by decide +kernel) (by decide +kernel)) (by decide +kernel)
theorem mi_X2_become : bo_mV yX2_become cX2_become 2 none 1 RX2 := bo_mVof (bo_mems [577, 578, 64, 579] (by decide +kernel) (by decide +kernel)) (by decide +kernel)
theorem mi_X2_due : bo_mV yX2_due cX2_due 6 (some .int) 2 RX2 := bo_mVof (bo_mems [514, 515, 64, 516] (by decide +kernel) (by decide +kernel)) (by decide +kernel)
theorem mi_X2_empty : bo_mV yX2_empty cX2_empty 1 none 0 RX2 := bo_mVof (bo_mems [474, 475, 64, 476] (by decide +kernel) (by decide +kernel)) (by decide +kernel)
theorem mi_X2_full : bo_mV yX2_full cX2_full 4 (some .int) 1 RX2 := bo_mVof (bo_mems [519, 520, 64, 521] (by decide +kernel) (by decide +kernel)) (by decide +kernel)
theorem mi_X2_heardAgo : bo_mV yX2_heardAgo cX2_heardAgo 2 (some .int) 1 RX2 := bo_mVof (bo_mems [543, 544, 64, 545] (by decide +kernel) (by decide +kernel)) (by decide +kernel)
theorem mi_X2_heardOf : bo_mV yX2_heardOf cX2_heardOf 4 (some .int) 2 RX2 := bo_mVof (bo_mems [595, 596, 64, 597] (by decide +kernel) (by decide +kernel)) (by decide +kernel)
theorem mi_X2_isWet : bo_mV yX2_isWet cX2_isWet 2 (some .boolean) 1 RX2 := bo_mVof (bo_mems [487, 488, 64, 489] (by decide +kernel) (by decide +kernel)) (by decide +kernel)
theorem mi_X2_logs : bo_mV yX2_logs cX2_logs 1 (some .int) 0 RX2 := bo_mVof (bo_mems [494, 495, 64, 496] (by decide +kernel) (by decide +kernel)) (by decide +kernel)
theorem mi_X2_pass : bo_mV yX2_pass cX2_pass 6 (some .int) 1 RX2 := bo_mVof (bo_mems [584, 585, 64, 586] (by decide +kernel) (by decide +kernel)) (by decide +kernel)
theorem mi_X2_rungAgo : bo_mV yX2_rungAgo cX2_rungAgo 2 (some .int) 1 RX2 := bo_mVof (bo_mems [547, 548, 64, 549] (by decide +kernel) (by decide +kernel)) (by decide +kernel)
theorem mi_X2_startsDay : bo_mV yX2_startsDay cX2_startsDay 1 (some .boolean) 0 RX2 := bo_mVof (bo_mems [523, 524, 64, 525] (by decide +kernel) (by decide +kernel)) (by decide +kernel)
theorem mi_X2_thirsty : bo_mV yX2_thirsty cX2_thirsty 2 (some .int) 1 RX2 := bo_mVof (bo_mems [510, 511, 64, 512] (by decide +kernel) (by decide +kernel)) (by decide +kernel)
theorem mi_X4_echoed : bo_mV yX4_echoed cX4_echoed 4 (some .int) 2 RX4 := bo_mVof (bo_mems [604, 605, 71, 606] (by decide +kernel) (by decide +kernel)) (by decide +kernel)
theorem mi_X4_empty : bo_mV yX4_empty cX4_empty 1 none 0 RX4 := bo_mVof (bo_mems [409, 410, 71, 411] (by decide +kernel) (by decide +kernel)) (by decide +kernel)
theorem mi_X4_hasDrinker : bo_mV yX4_hasDrinker cX4_hasDrinker 2 (some .boolean) 1 RX4 := bo_mVof (bo_mems [503, 504, 71, 505] (by decide +kernel) (by decide +kernel)) (by decide +kernel)
theorem mi_X4_hasGoer : bo_mV yX4_hasGoer cX4_hasGoer 2 (some .boolean) 1 RX4 := bo_mVof (bo_mems [531, 532, 71, 533] (by decide +kernel) (by decide +kernel)) (by decide +kernel)
theorem mi_X4_sets : bo_mV yX4_sets cX4_sets 1 (some .int) 0 RX4 := bo_mVof (bo_mems [722, 723, 71, 724] (by decide +kernel) (by decide +kernel)) (by decide +kernel)
theorem mi_X4_sextonAt : bo_mV yX4_sextonAt cX4_sextonAt 2 (some .boolean) 1 RX4 := bo_mVof (bo_mems [599, 600, 71, 601] (by decide +kernel) (by decide +kernel)) (by decide +kernel)
theorem mi_X4_signalsOf : bo_mV yX4_signalsOf cX4_signalsOf 4 (some .int) 1 RX4 := bo_mVof (bo_mems [469, 470, 71, 471] (by decide +kernel) (by decide +kernel)) (by decide +kernel)
theorem mi_X5_append : bo_mV yX5_append cX5_append 3 (some .boolean) 2 RX5 := bo_mVof (bo_mems [783, 784, 68, 785] (by decide +kernel) (by decide +kernel)) (by decide +kernel)
theorem mi_X5_findSets : bo_mV yX5_findSets cX5_findSets 4 none 2 RX5 := bo_mVof (bo_mems [792, 793, 68, 794] (by decide +kernel) (by decide +kernel)) (by decide +kernel)
theorem mi_X5_fits : bo_mV yX5_fits cX5_fits 7 (some .boolean) 4 RX5 := bo_mVof (bo_mems [797, 798, 68, 799] (by decide +kernel) (by decide +kernel)) (by decide +kernel)
theorem mi_X5_greatestAlike : bo_mV yX5_greatestAlike cX5_greatestAlike 9 (some .int) 3 RX5 := bo_mVof (bo_mems [826, 827, 68, 828] (by decide +kernel) (by decide +kernel)) (by decide +kernel)
theorem mi_X5_leastSet : bo_mV yX5_leastSet cX5_leastSet 1 (some .int) 0 RX5 := bo_mVof (bo_mems [809, 810, 68, 811] (by decide +kernel) (by decide +kernel)) (by decide +kernel)
theorem mi_X5_sureIn : bo_mV yX5_sureIn cX5_sureIn 3 (some .int) 0 RX5 := bo_mVof (bo_mems [813, 814, 68, 815] (by decide +kernel) (by decide +kernel)) (by decide +kernel)
theorem mi_X5_sureOut : bo_mV yX5_sureOut cX5_sureOut 4 (some .int) 1 RX5 := bo_mVof (bo_mems [818, 819, 68, 820] (by decide +kernel) (by decide +kernel)) (by decide +kernel)
theorem mi_X6_evening : bo_mV yX6_evening cX6_evening 2 (some (.object "BellRope$Evening")) 1 RX6 := bo_mVof (bo_mems [574, 14, 65, 575] (by decide +kernel) (by decide +kernel)) (by decide +kernel)
theorem mi_X6_loseOldest : bo_mV yX6_loseOldest cX6_loseOldest 3 none 0 RX6 := bo_mVof (bo_mems [570, 13, 65, 571] (by decide +kernel) (by decide +kernel)) (by decide +kernel)
theorem mi_X6_note : bo_mV yX6_note cX6_note 3 none 1 RX6 := bo_mVof (bo_mems [565, 566, 65, 567] (by decide +kernel) (by decide +kernel)) (by decide +kernel)
theorem mi_X6_restore : bo_mV yX6_restore cX6_restore 3 (some .boolean) 1 RX6 := bo_mVof (bo_mems [658, 659, 65, 660] (by decide +kernel) (by decide +kernel)) (by decide +kernel)
theorem mi_X7_append : bo_mV yX7_append cX7_append 2 (some .boolean) 1 RX7 := bo_mVof (bo_mems [393, 394, 63, 395] (by decide +kernel) (by decide +kernel)) (by decide +kernel)
theorem mi_X7_endClause : bo_mV yX7_endClause cX7_endClause 1 none 0 RX7 := bo_mVof (bo_mems [447, 6, 63, 448] (by decide +kernel) (by decide +kernel)) (by decide +kernel)
theorem mi_X7_read : bo_mV yX7_read cX7_read 3 (some .int) 1 RX7 := bo_mVof (bo_mems [405, 406, 63, 407] (by decide +kernel) (by decide +kernel)) (by decide +kernel)
theorem mi_X7_readBell : bo_mV yX7_readBell cX7_readBell 2 none 1 RX7 := bo_mVof (bo_mems [432, 3, 63, 433] (by decide +kernel) (by decide +kernel)) (by decide +kernel)
theorem mi_X7_readClause : bo_mV yX7_readClause cX7_readClause 3 none 1 RX7 := bo_mVof (bo_mems [424, 1, 63, 425] (by decide +kernel) (by decide +kernel)) (by decide +kernel)
theorem mi_X7_readDrinker : bo_mV yX7_readDrinker cX7_readDrinker 2 none 1 RX7 := bo_mVof (bo_mems [451, 7, 63, 452] (by decide +kernel) (by decide +kernel)) (by decide +kernel)
theorem mi_X7_readGoer : bo_mV yX7_readGoer cX7_readGoer 2 none 1 RX7 := bo_mVof (bo_mems [462, 9, 63, 463] (by decide +kernel) (by decide +kernel)) (by decide +kernel)
theorem mi_X7_readNumber : bo_mV yX7_readNumber cX7_readNumber 5 (some .int) 2 RX7 := bo_mVof (bo_mems [440, 5, 63, 441] (by decide +kernel) (by decide +kernel)) (by decide +kernel)
theorem mi_X7_readSexton : bo_mV yX7_readSexton cX7_readSexton 5 none 1 RX7 := bo_mVof (bo_mems [455, 8, 63, 456] (by decide +kernel) (by decide +kernel)) (by decide +kernel)
theorem mi_X7_readSignal : bo_mV yX7_readSignal cX7_readSignal 3 none 1 RX7 := bo_mVof (bo_mems [466, 10, 63, 467] (by decide +kernel) (by decide +kernel)) (by decide +kernel)
theorem mi_X7_skipBlanks : bo_mV yX7_skipBlanks cX7_skipBlanks 1 none 0 RX7 := bo_mVof (bo_mems [417, 0, 63, 418] (by decide +kernel) (by decide +kernel)) (by decide +kernel)
theorem mi_X7_startClause : bo_mV yX7_startClause cX7_startClause 2 none 1 RX7 := bo_mVof (bo_mems [436, 4, 63, 437] (by decide +kernel) (by decide +kernel)) (by decide +kernel)
theorem mi_X7_wrong : bo_mV yX7_wrong cX7_wrong 3 none 2 RX7 := bo_mVof (bo_mems [428, 2, 63, 429] (by decide +kernel) (by decide +kernel)) (by decide +kernel)
theorem mi_X9_firstHeard : bo_mV yX9_firstHeard cX9_firstHeard 4 (some .int) 2 RX9 := bo_mVof (bo_mems [677, 678, 67, 679] (by decide +kernel) (by decide +kernel)) (by decide +kernel)
theorem mi_X9_run : bo_mV yX9_run cX9_run 5 none 3 RX9 := bo_mVof (bo_mems [666, 667, 67, 668] (by decide +kernel) (by decide +kernel)) (by decide +kernel)
theorem mi_X11_costOf : bo_mV yX11_costOf cX11_costOf 3 (some .int) 1 RX11 := bo_mVof (bo_mems [1327, 55, 72, 1328] (by decide +kernel) (by decide +kernel)) (by decide +kernel)
theorem mi_X11_costs : bo_mV yX11_costs cX11_costs 4 (some .int) 1 RX11 := bo_mVof (bo_mems [1323, 54, 72, 1324] (by decide +kernel) (by decide +kernel)) (by decide +kernel)
theorem mi_X11_couldBe : bo_mV yX11_couldBe cX11_couldBe 5 (some .boolean) 2 RX11 := bo_mVof (bo_mems [1380, 58, 72, 1381] (by decide +kernel) (by decide +kernel)) (by decide +kernel)
theorem mi_X11_draw : bo_mV yX11_draw cX11_draw 2 (some .int) 1 RX11 := bo_mVof (bo_mems [1248, 49, 72, 1249] (by decide +kernel) (by decide +kernel)) (by decide +kernel)
theorem mi_X11_fails : bo_mV yX11_fails cX11_fails 3 (some .int) 2 RX11 := bo_mVof (bo_mems [1073, 23, 72, 1074] (by decide +kernel) (by decide +kernel)) (by decide +kernel)
theorem mi_X11_firstHeard : bo_mV yX11_firstHeard cX11_firstHeard 4 (some .int) 2 RX11 := bo_mVof (bo_mems [1274, 51, 72, 1275] (by decide +kernel) (by decide +kernel)) (by decide +kernel)
theorem mi_X11_greatestPart : bo_mV yX11_greatestPart cX11_greatestPart 5 (some .int) 1 RX11 := bo_mVof (bo_mems [1392, 60, 72, 1393] (by decide +kernel) (by decide +kernel)) (by decide +kernel)
theorem mi_X11_happen : bo_mV yX11_happen cX11_happen 3 none 0 RX11 := bo_mVof (bo_mems [1244, 48, 72, 1245] (by decide +kernel) (by decide +kernel)) (by decide +kernel)
theorem mi_X11_heardBy : bo_mV yX11_heardBy cX11_heardBy 6 (some .int) 3 RX11 := bo_mVof (bo_mems [1384, 59, 72, 1385] (by decide +kernel) (by decide +kernel)) (by decide +kernel)
theorem mi_X11_heardOf : bo_mV yX11_heardOf cX11_heardOf 4 (some .int) 1 RX11 := bo_mVof (bo_mems [1197, 44, 72, 1198] (by decide +kernel) (by decide +kernel)) (by decide +kernel)
theorem mi_X11_here : bo_mV yX11_here cX11_here 1 (some .int) 0 RX11 := bo_mVof (bo_mems [1061, 20, 72, 1062] (by decide +kernel) (by decide +kernel)) (by decide +kernel)
theorem mi_X11_into : bo_mV yX11_into cX11_into 6 (some .int) 4 RX11 := bo_mVof (bo_mems [1089, 27, 72, 1090] (by decide +kernel) (by decide +kernel)) (by decide +kernel)
theorem mi_X11_isAhead : bo_mV yX11_isAhead cX11_isAhead 3 (some .boolean) 2 RX11 := bo_mVof (bo_mems [1366, 57, 72, 1367] (by decide +kernel) (by decide +kernel)) (by decide +kernel)
theorem mi_X11_isBlanketed : bo_mV yX11_isBlanketed cX11_isBlanketed 4 (some .boolean) 1 RX11 := bo_mVof (bo_mems [1201, 45, 72, 1202] (by decide +kernel) (by decide +kernel)) (by decide +kernel)
theorem mi_X11_isDrinker : bo_mV yX11_isDrinker cX11_isDrinker 2 (some .boolean) 1 RX11 := bo_mVof (bo_mems [1145, 36, 72, 1146] (by decide +kernel) (by decide +kernel)) (by decide +kernel)
theorem mi_X11_isFirstOfDay : bo_mV yX11_isFirstOfDay cX11_isFirstOfDay 1 (some .boolean) 0 RX11 := bo_mVof (bo_mems [1154, 38, 72, 1155] (by decide +kernel) (by decide +kernel)) (by decide +kernel)
theorem mi_X11_isFull : bo_mV yX11_isFull cX11_isFull 2 (some .boolean) 1 RX11 := bo_mVof (bo_mems [1077, 24, 72, 1078] (by decide +kernel) (by decide +kernel)) (by decide +kernel)
theorem mi_X11_isGoer : bo_mV yX11_isGoer cX11_isGoer 2 (some .boolean) 1 RX11 := bo_mVof (bo_mems [1166, 40, 72, 1167] (by decide +kernel) (by decide +kernel)) (by decide +kernel)
theorem mi_X11_isLate : bo_mV yX11_isLate cX11_isLate 5 (some .boolean) 2 RX11 := bo_mVof (bo_mems [1295, 53, 72, 1296] (by decide +kernel) (by decide +kernel)) (by decide +kernel)
theorem mi_X11_isTurn : bo_mV yX11_isTurn cX11_isTurn 3 (some .boolean) 2 RX11 := bo_mVof (bo_mems [1158, 39, 72, 1159] (by decide +kernel) (by decide +kernel)) (by decide +kernel)
theorem mi_X11_isWet : bo_mV yX11_isWet cX11_isWet 1 (some .boolean) 0 RX11 := bo_mVof (bo_mems [1134, 35, 72, 1135] (by decide +kernel) (by decide +kernel)) (by decide +kernel)
theorem mi_X11_lateOnes : bo_mV yX11_lateOnes cX11_lateOnes 4 (some .int) 1 RX11 := bo_mVof (bo_mems [1291, 52, 72, 1292] (by decide +kernel) (by decide +kernel)) (by decide +kernel)
theorem mi_X11_log : bo_mV yX11_log cX11_log 4 none 2 RX11 := bo_mVof (bo_mems [1209, 47, 72, 1210] (by decide +kernel) (by decide +kernel)) (by decide +kernel)
theorem mi_X11_lookAhead : bo_mV yX11_lookAhead cX11_lookAhead 2 none 0 RX11 := bo_mVof (bo_mems [1265, 50, 72, 1266] (by decide +kernel) (by decide +kernel)) (by decide +kernel)
theorem mi_X11_muffle : bo_mV yX11_muffle cX11_muffle 4 (some .int) 2 RX11 := bo_mVof (bo_mems [1205, 46, 72, 1206] (by decide +kernel) (by decide +kernel)) (by decide +kernel)
theorem mi_X11_pass : bo_mV yX11_pass cX11_pass 5 (some .int) 0 RX11 := bo_mVof (bo_mems [1193, 43, 72, 1194] (by decide +kernel) (by decide +kernel)) (by decide +kernel)
theorem mi_X11_quartersRefused : bo_mV yX11_quartersRefused cX11_quartersRefused 2 (some .int) 1 RX11 := bo_mVof (bo_mems [1182, 41, 72, 1183] (by decide +kernel) (by decide +kernel)) (by decide +kernel)
theorem mi_X11_remember : bo_mV yX11_remember cX11_remember 2 none 0 RX11 := bo_mVof (bo_mems [1189, 42, 72, 1190] (by decide +kernel) (by decide +kernel)) (by decide +kernel)
theorem mi_X11_rungWith : bo_mV yX11_rungWith cX11_rungWith 5 (some .int) 1 RX11 := bo_mVof (bo_mems [1331, 56, 72, 1332] (by decide +kernel) (by decide +kernel)) (by decide +kernel)
theorem mi_X11_takeBody : bo_mV yX11_takeBody cX11_takeBody 2 (some .int) 1 RX11 := bo_mVof (bo_mems [1081, 25, 72, 1082] (by decide +kernel) (by decide +kernel)) (by decide +kernel)
theorem mi_X11_takeClause : bo_mV yX11_takeClause cX11_takeClause 3 (some .int) 0 RX11 := bo_mVof (bo_mems [1065, 21, 72, 1066] (by decide +kernel) (by decide +kernel)) (by decide +kernel)
theorem mi_X11_takeDrinker : bo_mV yX11_takeDrinker cX11_takeDrinker 3 (some .int) 0 RX11 := bo_mVof (bo_mems [1099, 29, 72, 1100] (by decide +kernel) (by decide +kernel)) (by decide +kernel)
theorem mi_X11_takeGoer : bo_mV yX11_takeGoer cX11_takeGoer 3 (some .int) 0 RX11 := bo_mVof (bo_mems [1107, 31, 72, 1108] (by decide +kernel) (by decide +kernel)) (by decide +kernel)
theorem mi_X11_takeLaw : bo_mV yX11_takeLaw cX11_takeLaw 2 (some .int) 0 RX11 := bo_mVof (bo_mems [1085, 26, 72, 1086] (by decide +kernel) (by decide +kernel)) (by decide +kernel)
theorem mi_X11_takeNumber : bo_mV yX11_takeNumber cX11_takeNumber 4 (some .int) 2 RX11 := bo_mVof (bo_mems [1093, 28, 72, 1094] (by decide +kernel) (by decide +kernel)) (by decide +kernel)
theorem mi_X11_takeRead : bo_mV yX11_takeRead cX11_takeRead 2 none 0 RX11 := bo_mVof (bo_mems [1115, 33, 72, 1116] (by decide +kernel) (by decide +kernel)) (by decide +kernel)
theorem mi_X11_takeSignal : bo_mV yX11_takeSignal cX11_takeSignal 4 (some .int) 0 RX11 := bo_mVof (bo_mems [1111, 32, 72, 1112] (by decide +kernel) (by decide +kernel)) (by decide +kernel)
theorem mi_X11_takeTime : bo_mV yX11_takeTime cX11_takeTime 4 (some .int) 0 RX11 := bo_mVof (bo_mems [1103, 30, 72, 1104] (by decide +kernel) (by decide +kernel)) (by decide +kernel)
theorem mi_X11_whichClause : bo_mV yX11_whichClause cX11_whichClause 2 (some .int) 1 RX11 := bo_mVof (bo_mems [1069, 22, 72, 1070] (by decide +kernel) (by decide +kernel)) (by decide +kernel)
theorem mi_X11_whoIsIn : bo_mV yX11_whoIsIn cX11_whoIsIn 3 (some .int) 0 RX11 := bo_mVof (bo_mems [1130, 34, 72, 1131] (by decide +kernel) (by decide +kernel)) (by decide +kernel)
theorem mi_X11_wouldRing : bo_mV yX11_wouldRing cX11_wouldRing 3 (some .boolean) 1 RX11 := bo_mVof (bo_mems [1150, 37, 72, 1151] (by decide +kernel) (by decide +kernel)) (by decide +kernel)
theorem ms_X10_bit : bo_mS yX10_bit cX10_bit 2 (some .int) 2 := bo_mSof (bo_mems [491, 62, 492] (by decide +kernel) (by decide +kernel)) (by decide +kernel)
theorem ms_X10_leastCommon : bo_mS yX10_leastCommon cX10_leastCommon 4 (some .int) 2 := bo_mSof (bo_mems [763, 62, 764] (by decide +kernel) (by decide +kernel)) (by decide +kernel)
theorem ms_X5_heardBy : bo_mS yX5_heardBy cX5_heardBy 4 (some .int) 4 := bo_mSof (bo_mems [803, 68, 804] (by decide +kernel) (by decide +kernel)) (by decide +kernel)
theorem ms_X7_isFigure : bo_mS yX7_isFigure cX7_isFigure 1 (some .boolean) 1 := bo_mSof (bo_mems [443, 63, 444] (by decide +kernel) (by decide +kernel)) (by decide +kernel)
theorem ms_X8_at : bo_mS yX8_at cX8_at 2 (some .int) 2 := bo_mSof (bo_mems [420, 73, 421] (by decide +kernel) (by decide +kernel)) (by decide +kernel)
theorem ms_X8_copy : bo_mS yX8_copy cX8_copy 3 none 2 := bo_mSof (bo_mems [581, 73, 582] (by decide +kernel) (by decide +kernel)) (by decide +kernel)
theorem ms_X8_put : bo_mS yX8_put cX8_put 3 none 3 := bo_mSof (bo_mems [397, 73, 398] (by decide +kernel) (by decide +kernel)) (by decide +kernel)
theorem ms_X8_sum : bo_mS yX8_sum cX8_sum 3 (some .int) 1 := bo_mSof (bo_mems [772, 73, 773] (by decide +kernel) (by decide +kernel)) (by decide +kernel)
theorem ms_X8_zero : bo_mS yX8_zero cX8_zero 2 none 1 := bo_mSof (bo_mems [413, 73, 414] (by decide +kernel) (by decide +kernel)) (by decide +kernel)
theorem ms_X11_bits : bo_mS yX11_bits cX11_bits 3 (some .int) 1 := bo_mSof (bo_mems [1303, 72, 1304] (by decide +kernel) (by decide +kernel)) (by decide +kernel)
theorem ms_X11_common : bo_mS yX11_common cX11_common 5 (some .int) 2 := bo_mSof (bo_mems [1356, 72, 1357] (by decide +kernel) (by decide +kernel)) (by decide +kernel)
theorem ms_X11_copyRow : bo_mS yX11_copyRow cX11_copyRow 4 none 3 := bo_mSof (bo_mems [1118, 72, 1119] (by decide +kernel) (by decide +kernel)) (by decide +kernel)
theorem ms_X11_has : bo_mS yX11_has cX11_has 2 (some .boolean) 2 := bo_mSof (bo_mems [1137, 72, 1138] (by decide +kernel) (by decide +kernel)) (by decide +kernel)
theorem ms_X11_in : bo_mS yX11_in cX11_in 6 (some .boolean) 3 := bo_mSof (bo_mems [1051, 72, 1052] (by decide +kernel) (by decide +kernel)) (by decide +kernel)
theorem ms_J6_bitCount_0f7a4 : bo_mS yJ6_bitCount_0f7a4 cJ6_bitCount_0f7a4 1 (some .int) 1 := bo_mSof (bo_mems [589, 75, 590] (by decide +kernel) (by decide +kernel)) (by decide +kernel)
section BOF
variable {x : bo_X} {cc : ByteArray} {nL fr lo : Nat} {pc : Nat} {L : List (Nat × Value)} {S : List Value} {σ : bo_M} {α : Type} {M : Option α} {k : α → Prop}
theorem fl_X10_10 : Cond.fieldLink RX10 10 RX10 (TX10 0).2.1 (TX10 0).2.2.1 ∈ bo_tb := bo_mem 350 (by decide +kernel) (by decide +kernel)
theorem fl_X10_19 : Cond.fieldLink RX10 19 RX10 (TX10 1).2.1 (TX10 1).2.2.1 ∈ bo_tb := bo_mem 351 (by decide +kernel) (by decide +kernel)
theorem fl_X10_26 : Cond.fieldLink RX10 26 RX10 (TX10 2).2.1 (TX10 2).2.2.1 ∈ bo_tb := bo_mem 352 (by decide +kernel) (by decide +kernel)
theorem fl_X10_33 : Cond.fieldLink RX10 33 RX10 (TX10 3).2.1 (TX10 3).2.2.1 ∈ bo_tb := bo_mem 353 (by decide +kernel) (by decide +kernel)
theorem fl_X10_37 : Cond.fieldLink RX10 37 RX10 (TX10 4).2.1 (TX10 4).2.2.1 ∈ bo_tb := bo_mem 354 (by decide +kernel) (by decide +kernel)
theorem fl_X10_43 : Cond.fieldLink RX10 43 RX10 (TX10 5).2.1 (TX10 5).2.2.1 ∈ bo_tb := bo_mem 355 (by decide +kernel) (by decide +kernel)
theorem fl_X10_50 : Cond.fieldLink RX10 50 RX10 (TX10 6).2.1 (TX10 6).2.2.1 ∈ bo_tb := bo_mem 356 (by decide +kernel) (by decide +kernel)
theorem fl_X10_57 : Cond.fieldLink RX10 57 RX10 (TX10 7).2.1 (TX10 7).2.2.1 ∈ bo_tb := bo_mem 357 (by decide +kernel) (by decide +kernel)
theorem fl_X10_64 : Cond.fieldLink RX10 64 RX10 (TX10 8).2.1 (TX10 8).2.2.1 ∈ bo_tb := bo_mem 358 (by decide +kernel) (by decide +kernel)
theorem fl_X10_71 : Cond.fieldLink RX10 71 RX10 (TX10 9).2.1 (TX10 9).2.2.1 ∈ bo_tb := bo_mem 359 (by decide +kernel) (by decide +kernel)
theorem fl_X10_75 : Cond.fieldLink RX10 75 RX10 (TX10 10).2.1 (TX10 10).2.2.1 ∈ bo_tb := bo_mem 360 (by decide +kernel) (by decide +kernel)
theorem fl_X10_83 : Cond.fieldLink RX10 83 RX7 (TX7 4).2.1 (TX7 4).2.2.1 ∈ bo_tb := bo_mem 95 (by decide +kernel) (by decide +kernel)
theorem fl_X10_95 : Cond.fieldLink RX10 95 RX6 (TX6 1).2.1 (TX6 1).2.2.1 ∈ bo_tb := bo_mem 169 (by decide +kernel) (by decide +kernel)
theorem fl_X10_96 : Cond.fieldLink RX10 96 RX3 (TX3 2).2.1 (TX3 2).2.2.1 ∈ bo_tb := bo_mem 186 (by decide +kernel) (by decide +kernel)
theorem fl_X10_100 : Cond.fieldLink RX10 100 RX5 (TX5 4).2.1 (TX5 4).2.2.1 ∈ bo_tb := bo_mem 222 (by decide +kernel) (by decide +kernel)
theorem fl_X10_101 : Cond.fieldLink RX10 101 RX0 (TX0 2).2.1 (TX0 2).2.2.1 ∈ bo_tb := bo_mem 247 (by decide +kernel) (by decide +kernel)
theorem fl_X10_102 : Cond.fieldLink RX10 102 RX4 (TX4 11).2.1 (TX4 11).2.2.1 ∈ bo_tb := bo_mem 308 (by decide +kernel) (by decide +kernel)
theorem fl_X10_105 : Cond.fieldLink RX10 105 RX7 (TX7 5).2.1 (TX7 5).2.2.1 ∈ bo_tb := bo_mem 97 (by decide +kernel) (by decide +kernel)
theorem fl_X10_108 : Cond.fieldLink RX10 108 RX4 (TX4 8).2.1 (TX4 8).2.2.1 ∈ bo_tb := bo_mem 298 (by decide +kernel) (by decide +kernel)
theorem fl_X10_111 : Cond.fieldLink RX10 111 RX4 (TX4 9).2.1 (TX4 9).2.2.1 ∈ bo_tb := bo_mem 302 (by decide +kernel) (by decide +kernel)
theorem fl_X10_114 : Cond.fieldLink RX10 114 RX4 (TX4 13).2.1 (TX4 13).2.2.1 ∈ bo_tb := bo_mem 314 (by decide +kernel) (by decide +kernel)
theorem fl_X10_117 : Cond.fieldLink RX10 117 RX4 (TX4 14).2.1 (TX4 14).2.2.1 ∈ bo_tb := bo_mem 317 (by decide +kernel) (by decide +kernel)
theorem fl_X10_120 : Cond.fieldLink RX10 120 RX2 (TX2 4).2.1 (TX2 4).2.2.1 ∈ bo_tb := bo_mem 126 (by decide +kernel) (by decide +kernel)
theorem fl_X10_123 : Cond.fieldLink RX10 123 RX2 (TX2 5).2.1 (TX2 5).2.2.1 ∈ bo_tb := bo_mem 128 (by decide +kernel) (by decide +kernel)
theorem fl_X10_126 : Cond.fieldLink RX10 126 RX2 (TX2 6).2.1 (TX2 6).2.2.1 ∈ bo_tb := bo_mem 130 (by decide +kernel) (by decide +kernel)
theorem fl_X10_133 : Cond.fieldLink RX10 133 RX2 (TX2 7).2.1 (TX2 7).2.2.1 ∈ bo_tb := bo_mem 132 (by decide +kernel) (by decide +kernel)
theorem fl_X10_136 : Cond.fieldLink RX10 136 RX2 (TX2 8).2.1 (TX2 8).2.2.1 ∈ bo_tb := bo_mem 134 (by decide +kernel) (by decide +kernel)
theorem fl_X10_143 : Cond.fieldLink RX10 143 RX2 (TX2 9).2.1 (TX2 9).2.2.1 ∈ bo_tb := bo_mem 136 (by decide +kernel) (by decide +kernel)
theorem fl_X10_150 : Cond.fieldLink RX10 150 RX4 (TX4 0).2.1 (TX4 0).2.2.1 ∈ bo_tb := bo_mem 273 (by decide +kernel) (by decide +kernel)
theorem fl_X10_160 : Cond.fieldLink RX10 160 RX4 (TX4 1).2.1 (TX4 1).2.2.1 ∈ bo_tb := bo_mem 277 (by decide +kernel) (by decide +kernel)
theorem fl_X10_163 : Cond.fieldLink RX10 163 RX4 (TX4 2).2.1 (TX4 2).2.2.1 ∈ bo_tb := bo_mem 281 (by decide +kernel) (by decide +kernel)
theorem fl_X10_170 : Cond.fieldLink RX10 170 RX2 (TX2 0).2.1 (TX2 0).2.2.1 ∈ bo_tb := bo_mem 120 (by decide +kernel) (by decide +kernel)
theorem fl_X10_173 : Cond.fieldLink RX10 173 RX2 (TX2 1).2.1 (TX2 1).2.2.1 ∈ bo_tb := bo_mem 122 (by decide +kernel) (by decide +kernel)
theorem fl_X10_182 : Cond.fieldLink RX10 182 RX4 (TX4 3).2.1 (TX4 3).2.2.1 ∈ bo_tb := bo_mem 283 (by decide +kernel) (by decide +kernel)
theorem fl_X10_185 : Cond.fieldLink RX10 185 RX4 (TX4 4).2.1 (TX4 4).2.2.1 ∈ bo_tb := bo_mem 286 (by decide +kernel) (by decide +kernel)
theorem fl_X10_188 : Cond.fieldLink RX10 188 RX4 (TX4 5).2.1 (TX4 5).2.2.1 ∈ bo_tb := bo_mem 289 (by decide +kernel) (by decide +kernel)
theorem fl_X10_233 : Cond.fieldLink RX10 233 RX9 (TX9 1).2.1 (TX9 1).2.2.1 ∈ bo_tb := bo_mem 205 (by decide +kernel) (by decide +kernel)
theorem fl_X10_239 : Cond.fieldLink RX10 239 RX9 (TX9 0).2.1 (TX9 0).2.2.1 ∈ bo_tb := bo_mem 203 (by decide +kernel) (by decide +kernel)
theorem fl_X10_242 : Cond.fieldLink RX10 242 RX4 (TX4 7).2.1 (TX4 7).2.2.1 ∈ bo_tb := bo_mem 295 (by decide +kernel) (by decide +kernel)
theorem fl_X10_296 : Cond.fieldLink RX10 296 RX5 (TX5 5).2.1 (TX5 5).2.2.1 ∈ bo_tb := bo_mem 224 (by decide +kernel) (by decide +kernel)
theorem fl_X10_321 : Cond.fieldLink RX10 321 RX10 (TX10 11).2.1 (TX10 11).2.2.1 ∈ bo_tb := bo_mem 361 (by decide +kernel) (by decide +kernel)
theorem fl_X10_328 : Cond.fieldLink RX10 328 RX3 (TX3 0).2.1 (TX3 0).2.2.1 ∈ bo_tb := bo_mem 184 (by decide +kernel) (by decide +kernel)
theorem fl_X10_332 : Cond.fieldLink RX10 332 RX3 (TX3 1).2.1 (TX3 1).2.2.1 ∈ bo_tb := bo_mem 185 (by decide +kernel) (by decide +kernel)
theorem fl_X0_9 : Cond.fieldLink RX0 9 RX0 (TX0 0).2.1 (TX0 0).2.2.1 ∈ bo_tb := bo_mem 244 (by decide +kernel) (by decide +kernel)
theorem fl_X0_15 : Cond.fieldLink RX0 15 RX0 (TX0 1).2.1 (TX0 1).2.2.1 ∈ bo_tb := bo_mem 245 (by decide +kernel) (by decide +kernel)
theorem fl_X0_18 : Cond.fieldLink RX0 18 RX0 (TX0 2).2.1 (TX0 2).2.2.1 ∈ bo_tb := bo_mem 246 (by decide +kernel) (by decide +kernel)
theorem fl_X0_28 : Cond.fieldLink RX0 28 RX2 (TX2 0).2.1 (TX2 0).2.2.1 ∈ bo_tb := bo_mem 119 (by decide +kernel) (by decide +kernel)
theorem fl_X1_9 : Cond.fieldLink RX1 9 RX1 (TX1 0).2.1 (TX1 0).2.2.1 ∈ bo_tb := bo_mem 261 (by decide +kernel) (by decide +kernel)
theorem fl_X2_9 : Cond.fieldLink RX2 9 RX2 (TX2 0).2.1 (TX2 0).2.2.1 ∈ bo_tb := bo_mem 118 (by decide +kernel) (by decide +kernel)
theorem fl_X2_15 : Cond.fieldLink RX2 15 RX2 (TX2 1).2.1 (TX2 1).2.2.1 ∈ bo_tb := bo_mem 121 (by decide +kernel) (by decide +kernel)
theorem fl_X2_18 : Cond.fieldLink RX2 18 RX2 (TX2 2).2.1 (TX2 2).2.2.1 ∈ bo_tb := bo_mem 123 (by decide +kernel) (by decide +kernel)
theorem fl_X2_21 : Cond.fieldLink RX2 21 RX2 (TX2 3).2.1 (TX2 3).2.2.1 ∈ bo_tb := bo_mem 124 (by decide +kernel) (by decide +kernel)
theorem fl_X2_24 : Cond.fieldLink RX2 24 RX2 (TX2 4).2.1 (TX2 4).2.2.1 ∈ bo_tb := bo_mem 125 (by decide +kernel) (by decide +kernel)
theorem fl_X2_28 : Cond.fieldLink RX2 28 RX2 (TX2 5).2.1 (TX2 5).2.2.1 ∈ bo_tb := bo_mem 127 (by decide +kernel) (by decide +kernel)
theorem fl_X2_31 : Cond.fieldLink RX2 31 RX2 (TX2 6).2.1 (TX2 6).2.2.1 ∈ bo_tb := bo_mem 129 (by decide +kernel) (by decide +kernel)
theorem fl_X2_34 : Cond.fieldLink RX2 34 RX2 (TX2 7).2.1 (TX2 7).2.2.1 ∈ bo_tb := bo_mem 131 (by decide +kernel) (by decide +kernel)
theorem fl_X2_37 : Cond.fieldLink RX2 37 RX2 (TX2 8).2.1 (TX2 8).2.2.1 ∈ bo_tb := bo_mem 133 (by decide +kernel) (by decide +kernel)
theorem fl_X2_40 : Cond.fieldLink RX2 40 RX2 (TX2 9).2.1 (TX2 9).2.2.1 ∈ bo_tb := bo_mem 135 (by decide +kernel) (by decide +kernel)
theorem fl_X2_63 : Cond.fieldLink RX2 63 RX4 (TX4 10).2.1 (TX4 10).2.2.1 ∈ bo_tb := bo_mem 306 (by decide +kernel) (by decide +kernel)
theorem fl_X2_71 : Cond.fieldLink RX2 71 RX4 (TX4 11).2.1 (TX4 11).2.2.1 ∈ bo_tb := bo_mem 310 (by decide +kernel) (by decide +kernel)
theorem fl_X2_74 : Cond.fieldLink RX2 74 RX4 (TX4 0).2.1 (TX4 0).2.2.1 ∈ bo_tb := bo_mem 274 (by decide +kernel) (by decide +kernel)
theorem fl_X2_81 : Cond.fieldLink RX2 81 RX4 (TX4 1).2.1 (TX4 1).2.2.1 ∈ bo_tb := bo_mem 278 (by decide +kernel) (by decide +kernel)
theorem fl_X2_100 : Cond.fieldLink RX2 100 RX4 (TX4 9).2.1 (TX4 9).2.2.1 ∈ bo_tb := bo_mem 303 (by decide +kernel) (by decide +kernel)
theorem fl_X4_27 : Cond.fieldLink RX4 27 RX4 (TX4 5).2.1 (TX4 5).2.2.1 ∈ bo_tb := bo_mem 288 (by decide +kernel) (by decide +kernel)
theorem fl_X4_30 : Cond.fieldLink RX4 30 RX4 (TX4 6).2.1 (TX4 6).2.2.1 ∈ bo_tb := bo_mem 291 (by decide +kernel) (by decide +kernel)
theorem fl_X4_33 : Cond.fieldLink RX4 33 RX4 (TX4 7).2.1 (TX4 7).2.2.1 ∈ bo_tb := bo_mem 293 (by decide +kernel) (by decide +kernel)
theorem fl_X4_37 : Cond.fieldLink RX4 37 RX4 (TX4 8).2.1 (TX4 8).2.2.1 ∈ bo_tb := bo_mem 296 (by decide +kernel) (by decide +kernel)
theorem fl_X4_41 : Cond.fieldLink RX4 41 RX4 (TX4 9).2.1 (TX4 9).2.2.1 ∈ bo_tb := bo_mem 299 (by decide +kernel) (by decide +kernel)
theorem fl_X4_44 : Cond.fieldLink RX4 44 RX4 (TX4 10).2.1 (TX4 10).2.2.1 ∈ bo_tb := bo_mem 304 (by decide +kernel) (by decide +kernel)
theorem fl_X4_47 : Cond.fieldLink RX4 47 RX4 (TX4 11).2.1 (TX4 11).2.2.1 ∈ bo_tb := bo_mem 307 (by decide +kernel) (by decide +kernel)
theorem fl_X4_50 : Cond.fieldLink RX4 50 RX4 (TX4 12).2.1 (TX4 12).2.2.1 ∈ bo_tb := bo_mem 311 (by decide +kernel) (by decide +kernel)
theorem fl_X4_53 : Cond.fieldLink RX4 53 RX4 (TX4 13).2.1 (TX4 13).2.2.1 ∈ bo_tb := bo_mem 313 (by decide +kernel) (by decide +kernel)
theorem fl_X4_56 : Cond.fieldLink RX4 56 RX4 (TX4 14).2.1 (TX4 14).2.2.1 ∈ bo_tb := bo_mem 316 (by decide +kernel) (by decide +kernel)
theorem fl_X5_9 : Cond.fieldLink RX5 9 RX5 (TX5 0).2.1 (TX5 0).2.2.1 ∈ bo_tb := bo_mem 217 (by decide +kernel) (by decide +kernel)
theorem fl_X5_15 : Cond.fieldLink RX5 15 RX5 (TX5 1).2.1 (TX5 1).2.2.1 ∈ bo_tb := bo_mem 218 (by decide +kernel) (by decide +kernel)
theorem fl_X5_18 : Cond.fieldLink RX5 18 RX5 (TX5 2).2.1 (TX5 2).2.2.1 ∈ bo_tb := bo_mem 219 (by decide +kernel) (by decide +kernel)
theorem fl_X5_21 : Cond.fieldLink RX5 21 RX5 (TX5 3).2.1 (TX5 3).2.2.1 ∈ bo_tb := bo_mem 220 (by decide +kernel) (by decide +kernel)
theorem fl_X5_24 : Cond.fieldLink RX5 24 RX5 (TX5 4).2.1 (TX5 4).2.2.1 ∈ bo_tb := bo_mem 221 (by decide +kernel) (by decide +kernel)
theorem fl_X5_34 : Cond.fieldLink RX5 34 RX5 (TX5 5).2.1 (TX5 5).2.2.1 ∈ bo_tb := bo_mem 223 (by decide +kernel) (by decide +kernel)
theorem fl_X5_42 : Cond.fieldLink RX5 42 RX4 (TX4 9).2.1 (TX4 9).2.2.1 ∈ bo_tb := bo_mem 300 (by decide +kernel) (by decide +kernel)
theorem fl_X6_11 : Cond.fieldLink RX6 11 RX6 (TX6 0).2.1 (TX6 0).2.2.1 ∈ bo_tb := bo_mem 167 (by decide +kernel) (by decide +kernel)
theorem fl_X6_18 : Cond.fieldLink RX6 18 RX6 (TX6 1).2.1 (TX6 1).2.2.1 ∈ bo_tb := bo_mem 168 (by decide +kernel) (by decide +kernel)
theorem fl_X7_9 : Cond.fieldLink RX7 9 RX7 (TX7 0).2.1 (TX7 0).2.2.1 ∈ bo_tb := bo_mem 90 (by decide +kernel) (by decide +kernel)
theorem fl_X7_15 : Cond.fieldLink RX7 15 RX7 (TX7 5).2.1 (TX7 5).2.2.1 ∈ bo_tb := bo_mem 96 (by decide +kernel) (by decide +kernel)
theorem fl_X7_19 : Cond.fieldLink RX7 19 RX7 (TX7 4).2.1 (TX7 4).2.2.1 ∈ bo_tb := bo_mem 94 (by decide +kernel) (by decide +kernel)
theorem fl_X7_28 : Cond.fieldLink RX7 28 RX7 (TX7 1).2.1 (TX7 1).2.2.1 ∈ bo_tb := bo_mem 91 (by decide +kernel) (by decide +kernel)
theorem fl_X7_31 : Cond.fieldLink RX7 31 RX7 (TX7 3).2.1 (TX7 3).2.2.1 ∈ bo_tb := bo_mem 93 (by decide +kernel) (by decide +kernel)
theorem fl_X7_49 : Cond.fieldLink RX7 49 RX4 (TX4 7).2.1 (TX4 7).2.2.1 ∈ bo_tb := bo_mem 294 (by decide +kernel) (by decide +kernel)
theorem fl_X7_80 : Cond.fieldLink RX7 80 RX4 (TX4 8).2.1 (TX4 8).2.2.1 ∈ bo_tb := bo_mem 297 (by decide +kernel) (by decide +kernel)
theorem fl_X7_83 : Cond.fieldLink RX7 83 RX4 (TX4 9).2.1 (TX4 9).2.2.1 ∈ bo_tb := bo_mem 301 (by decide +kernel) (by decide +kernel)
theorem fl_X7_86 : Cond.fieldLink RX7 86 RX4 (TX4 10).2.1 (TX4 10).2.2.1 ∈ bo_tb := bo_mem 305 (by decide +kernel) (by decide +kernel)
theorem fl_X7_92 : Cond.fieldLink RX7 92 RX4 (TX4 11).2.1 (TX4 11).2.2.1 ∈ bo_tb := bo_mem 309 (by decide +kernel) (by decide +kernel)
theorem fl_X7_95 : Cond.fieldLink RX7 95 RX4 (TX4 0).2.1 (TX4 0).2.2.1 ∈ bo_tb := bo_mem 272 (by decide +kernel) (by decide +kernel)
theorem fl_X7_98 : Cond.fieldLink RX7 98 RX4 (TX4 1).2.1 (TX4 1).2.2.1 ∈ bo_tb := bo_mem 276 (by decide +kernel) (by decide +kernel)
theorem fl_X7_101 : Cond.fieldLink RX7 101 RX4 (TX4 2).2.1 (TX4 2).2.2.1 ∈ bo_tb := bo_mem 280 (by decide +kernel) (by decide +kernel)
theorem fl_X7_104 : Cond.fieldLink RX7 104 RX4 (TX4 12).2.1 (TX4 12).2.2.1 ∈ bo_tb := bo_mem 312 (by decide +kernel) (by decide +kernel)
theorem fl_X7_112 : Cond.fieldLink RX7 112 RX4 (TX4 6).2.1 (TX4 6).2.2.1 ∈ bo_tb := bo_mem 292 (by decide +kernel) (by decide +kernel)
theorem fl_X7_115 : Cond.fieldLink RX7 115 RX4 (TX4 13).2.1 (TX4 13).2.2.1 ∈ bo_tb := bo_mem 315 (by decide +kernel) (by decide +kernel)
theorem fl_X7_118 : Cond.fieldLink RX7 118 RX4 (TX4 3).2.1 (TX4 3).2.2.1 ∈ bo_tb := bo_mem 284 (by decide +kernel) (by decide +kernel)
theorem fl_X7_121 : Cond.fieldLink RX7 121 RX4 (TX4 4).2.1 (TX4 4).2.2.1 ∈ bo_tb := bo_mem 287 (by decide +kernel) (by decide +kernel)
theorem fl_X7_124 : Cond.fieldLink RX7 124 RX4 (TX4 14).2.1 (TX4 14).2.2.1 ∈ bo_tb := bo_mem 318 (by decide +kernel) (by decide +kernel)
theorem fl_X7_131 : Cond.fieldLink RX7 131 RX7 (TX7 2).2.1 (TX7 2).2.2.1 ∈ bo_tb := bo_mem 92 (by decide +kernel) (by decide +kernel)
theorem fl_X7_134 : Cond.fieldLink RX7 134 RX4 (TX4 5).2.1 (TX4 5).2.2.1 ∈ bo_tb := bo_mem 290 (by decide +kernel) (by decide +kernel)
theorem fl_X9_12 : Cond.fieldLink RX9 12 RX9 (TX9 0).2.1 (TX9 0).2.2.1 ∈ bo_tb := bo_mem 202 (by decide +kernel) (by decide +kernel)
theorem fl_X9_18 : Cond.fieldLink RX9 18 RX9 (TX9 1).2.1 (TX9 1).2.2.1 ∈ bo_tb := bo_mem 204 (by decide +kernel) (by decide +kernel)
theorem fl_X11_7 : Cond.fieldLink RX11 7 RX11 (TX11 5).2.1 (TX11 5).2.2.1 ∈ bo_tb := bo_mem 886 (by decide +kernel) (by decide +kernel)
theorem fl_X11_13 : Cond.fieldLink RX11 13 RX11 (TX11 6).2.1 (TX11 6).2.2.1 ∈ bo_tb := bo_mem 887 (by decide +kernel) (by decide +kernel)
theorem fl_X11_16 : Cond.fieldLink RX11 16 RX11 (TX11 7).2.1 (TX11 7).2.2.1 ∈ bo_tb := bo_mem 888 (by decide +kernel) (by decide +kernel)
theorem fl_X11_19 : Cond.fieldLink RX11 19 RX11 (TX11 9).2.1 (TX11 9).2.2.1 ∈ bo_tb := bo_mem 890 (by decide +kernel) (by decide +kernel)
theorem fl_X11_22 : Cond.fieldLink RX11 22 RX11 (TX11 10).2.1 (TX11 10).2.2.1 ∈ bo_tb := bo_mem 891 (by decide +kernel) (by decide +kernel)
theorem fl_X11_25 : Cond.fieldLink RX11 25 RX11 (TX11 12).2.1 (TX11 12).2.2.1 ∈ bo_tb := bo_mem 893 (by decide +kernel) (by decide +kernel)
theorem fl_X11_28 : Cond.fieldLink RX11 28 RX11 (TX11 13).2.1 (TX11 13).2.2.1 ∈ bo_tb := bo_mem 894 (by decide +kernel) (by decide +kernel)
theorem fl_X11_31 : Cond.fieldLink RX11 31 RX11 (TX11 15).2.1 (TX11 15).2.2.1 ∈ bo_tb := bo_mem 896 (by decide +kernel) (by decide +kernel)
theorem fl_X11_34 : Cond.fieldLink RX11 34 RX11 (TX11 16).2.1 (TX11 16).2.2.1 ∈ bo_tb := bo_mem 897 (by decide +kernel) (by decide +kernel)
theorem fl_X11_37 : Cond.fieldLink RX11 37 RX11 (TX11 18).2.1 (TX11 18).2.2.1 ∈ bo_tb := bo_mem 899 (by decide +kernel) (by decide +kernel)
theorem fl_X11_40 : Cond.fieldLink RX11 40 RX11 (TX11 20).2.1 (TX11 20).2.2.1 ∈ bo_tb := bo_mem 901 (by decide +kernel) (by decide +kernel)
theorem fl_X11_44 : Cond.fieldLink RX11 44 RX11 (TX11 25).2.1 (TX11 25).2.2.1 ∈ bo_tb := bo_mem 906 (by decide +kernel) (by decide +kernel)
theorem fl_X11_47 : Cond.fieldLink RX11 47 RX11 (TX11 27).2.1 (TX11 27).2.2.1 ∈ bo_tb := bo_mem 908 (by decide +kernel) (by decide +kernel)
theorem fl_X11_50 : Cond.fieldLink RX11 50 RX11 (TX11 28).2.1 (TX11 28).2.2.1 ∈ bo_tb := bo_mem 909 (by decide +kernel) (by decide +kernel)
theorem fl_X11_53 : Cond.fieldLink RX11 53 RX11 (TX11 29).2.1 (TX11 29).2.2.1 ∈ bo_tb := bo_mem 910 (by decide +kernel) (by decide +kernel)
theorem fl_X11_56 : Cond.fieldLink RX11 56 RX11 (TX11 31).2.1 (TX11 31).2.2.1 ∈ bo_tb := bo_mem 912 (by decide +kernel) (by decide +kernel)
theorem fl_X11_59 : Cond.fieldLink RX11 59 RX11 (TX11 32).2.1 (TX11 32).2.2.1 ∈ bo_tb := bo_mem 913 (by decide +kernel) (by decide +kernel)
theorem fl_X11_62 : Cond.fieldLink RX11 62 RX11 (TX11 34).2.1 (TX11 34).2.2.1 ∈ bo_tb := bo_mem 915 (by decide +kernel) (by decide +kernel)
theorem fl_X11_65 : Cond.fieldLink RX11 65 RX11 (TX11 35).2.1 (TX11 35).2.2.1 ∈ bo_tb := bo_mem 916 (by decide +kernel) (by decide +kernel)
theorem fl_X11_68 : Cond.fieldLink RX11 68 RX11 (TX11 37).2.1 (TX11 37).2.2.1 ∈ bo_tb := bo_mem 918 (by decide +kernel) (by decide +kernel)
theorem fl_X11_71 : Cond.fieldLink RX11 71 RX11 (TX11 39).2.1 (TX11 39).2.2.1 ∈ bo_tb := bo_mem 920 (by decide +kernel) (by decide +kernel)
theorem fl_X11_74 : Cond.fieldLink RX11 74 RX11 (TX11 40).2.1 (TX11 40).2.2.1 ∈ bo_tb := bo_mem 921 (by decide +kernel) (by decide +kernel)
theorem fl_X11_77 : Cond.fieldLink RX11 77 RX11 (TX11 41).2.1 (TX11 41).2.2.1 ∈ bo_tb := bo_mem 922 (by decide +kernel) (by decide +kernel)
theorem fl_X11_80 : Cond.fieldLink RX11 80 RX11 (TX11 42).2.1 (TX11 42).2.2.1 ∈ bo_tb := bo_mem 923 (by decide +kernel) (by decide +kernel)
theorem fl_X11_83 : Cond.fieldLink RX11 83 RX11 (TX11 43).2.1 (TX11 43).2.2.1 ∈ bo_tb := bo_mem 924 (by decide +kernel) (by decide +kernel)
theorem fl_X11_86 : Cond.fieldLink RX11 86 RX11 (TX11 45).2.1 (TX11 45).2.2.1 ∈ bo_tb := bo_mem 926 (by decide +kernel) (by decide +kernel)
theorem fl_X11_89 : Cond.fieldLink RX11 89 RX11 (TX11 46).2.1 (TX11 46).2.2.1 ∈ bo_tb := bo_mem 927 (by decide +kernel) (by decide +kernel)
theorem fl_X11_92 : Cond.fieldLink RX11 92 RX11 (TX11 47).2.1 (TX11 47).2.2.1 ∈ bo_tb := bo_mem 928 (by decide +kernel) (by decide +kernel)
theorem fl_X11_96 : Cond.fieldLink RX11 96 RX11 (TX11 48).2.1 (TX11 48).2.2.1 ∈ bo_tb := bo_mem 929 (by decide +kernel) (by decide +kernel)
theorem fl_X11_99 : Cond.fieldLink RX11 99 RX11 (TX11 50).2.1 (TX11 50).2.2.1 ∈ bo_tb := bo_mem 931 (by decide +kernel) (by decide +kernel)
theorem fl_X11_102 : Cond.fieldLink RX11 102 RX11 (TX11 51).2.1 (TX11 51).2.2.1 ∈ bo_tb := bo_mem 932 (by decide +kernel) (by decide +kernel)
theorem fl_X11_105 : Cond.fieldLink RX11 105 RX11 (TX11 52).2.1 (TX11 52).2.2.1 ∈ bo_tb := bo_mem 933 (by decide +kernel) (by decide +kernel)
theorem fl_X11_108 : Cond.fieldLink RX11 108 RX11 (TX11 53).2.1 (TX11 53).2.2.1 ∈ bo_tb := bo_mem 934 (by decide +kernel) (by decide +kernel)
theorem fl_X11_111 : Cond.fieldLink RX11 111 RX11 (TX11 0).2.1 (TX11 0).2.2.1 ∈ bo_tb := bo_mem 881 (by decide +kernel) (by decide +kernel)
theorem fl_X11_115 : Cond.fieldLink RX11 115 RX11 (TX11 4).2.1 (TX11 4).2.2.1 ∈ bo_tb := bo_mem 885 (by decide +kernel) (by decide +kernel)
theorem fl_X11_122 : Cond.fieldLink RX11 122 RX11 (TX11 11).2.1 (TX11 11).2.2.1 ∈ bo_tb := bo_mem 892 (by decide +kernel) (by decide +kernel)
theorem fl_X11_128 : Cond.fieldLink RX11 128 RX11 (TX11 19).2.1 (TX11 19).2.2.1 ∈ bo_tb := bo_mem 900 (by decide +kernel) (by decide +kernel)
theorem fl_X11_132 : Cond.fieldLink RX11 132 RX11 (TX11 21).2.1 (TX11 21).2.2.1 ∈ bo_tb := bo_mem 902 (by decide +kernel) (by decide +kernel)
theorem fl_X11_147 : Cond.fieldLink RX11 147 RX11 (TX11 23).2.1 (TX11 23).2.2.1 ∈ bo_tb := bo_mem 904 (by decide +kernel) (by decide +kernel)
theorem fl_X11_150 : Cond.fieldLink RX11 150 RX11 (TX11 22).2.1 (TX11 22).2.2.1 ∈ bo_tb := bo_mem 903 (by decide +kernel) (by decide +kernel)
theorem fl_X11_156 : Cond.fieldLink RX11 156 RX11 (TX11 24).2.1 (TX11 24).2.2.1 ∈ bo_tb := bo_mem 905 (by decide +kernel) (by decide +kernel)
theorem fl_X11_163 : Cond.fieldLink RX11 163 RX11 (TX11 26).2.1 (TX11 26).2.2.1 ∈ bo_tb := bo_mem 907 (by decide +kernel) (by decide +kernel)
theorem fl_X11_166 : Cond.fieldLink RX11 166 RX11 (TX11 30).2.1 (TX11 30).2.2.1 ∈ bo_tb := bo_mem 911 (by decide +kernel) (by decide +kernel)
theorem fl_X11_169 : Cond.fieldLink RX11 169 RX11 (TX11 33).2.1 (TX11 33).2.2.1 ∈ bo_tb := bo_mem 914 (by decide +kernel) (by decide +kernel)
theorem fl_X11_172 : Cond.fieldLink RX11 172 RX11 (TX11 36).2.1 (TX11 36).2.2.1 ∈ bo_tb := bo_mem 917 (by decide +kernel) (by decide +kernel)
theorem fl_X11_201 : Cond.fieldLink RX11 201 RX11 (TX11 1).2.1 (TX11 1).2.2.1 ∈ bo_tb := bo_mem 882 (by decide +kernel) (by decide +kernel)
theorem fl_X11_204 : Cond.fieldLink RX11 204 RX11 (TX11 2).2.1 (TX11 2).2.2.1 ∈ bo_tb := bo_mem 883 (by decide +kernel) (by decide +kernel)
theorem fl_X11_207 : Cond.fieldLink RX11 207 RX11 (TX11 3).2.1 (TX11 3).2.2.1 ∈ bo_tb := bo_mem 884 (by decide +kernel) (by decide +kernel)
theorem fl_X11_210 : Cond.fieldLink RX11 210 RX11 (TX11 8).2.1 (TX11 8).2.2.1 ∈ bo_tb := bo_mem 889 (by decide +kernel) (by decide +kernel)
theorem fl_X11_213 : Cond.fieldLink RX11 213 RX11 (TX11 14).2.1 (TX11 14).2.2.1 ∈ bo_tb := bo_mem 895 (by decide +kernel) (by decide +kernel)
theorem fl_X11_226 : Cond.fieldLink RX11 226 RX11 (TX11 44).2.1 (TX11 44).2.2.1 ∈ bo_tb := bo_mem 925 (by decide +kernel) (by decide +kernel)
theorem fl_X11_229 : Cond.fieldLink RX11 229 RX11 (TX11 49).2.1 (TX11 49).2.2.1 ∈ bo_tb := bo_mem 930 (by decide +kernel) (by decide +kernel)
theorem fl_X11_232 : Cond.fieldLink RX11 232 RX11 (TX11 38).2.1 (TX11 38).2.2.1 ∈ bo_tb := bo_mem 919 (by decide +kernel) (by decide +kernel)
theorem fl_X11_294 : Cond.fieldLink RX11 294 RX11 (TX11 17).2.1 (TX11 17).2.2.1 ∈ bo_tb := bo_mem 898 (by decide +kernel) (by decide +kernel)
theorem gf_X10_10 (hx : bo_OK x cc RX10 nL fr lo) (hd : decode cc pc = .ok (.getfield 10, 3)) (kk : bo_D x (pc + 3) L (.ref (bo_a x 1) :: S) σ M k) : bo_D x pc L (.ref (bo_a x 0) :: S) σ M k := bo_get (C := RX10) (T := TX10) (N := 12) (i := 0) hx bo_o_0 rfl (by decide) in_X10 fl_X10_10 rfl rfl hd kk
theorem gf_X10_19 (hx : bo_OK x cc RX10 nL fr lo) (hd : decode cc pc = .ok (.getfield 19, 3)) (kk : bo_D x (pc + 3) L (.ref (bo_a x 50) :: S) σ M k) : bo_D x pc L (.ref (bo_a x 0) :: S) σ M k := bo_get (C := RX10) (T := TX10) (N := 12) (i := 1) hx bo_o_0 rfl (by decide) in_X10 fl_X10_19 rfl rfl hd kk
theorem gf_X10_26 (hx : bo_OK x cc RX10 nL fr lo) (hd : decode cc pc = .ok (.getfield 26, 3)) (kk : bo_D x (pc + 3) L (.ref (bo_a x 3) :: S) σ M k) : bo_D x pc L (.ref (bo_a x 0) :: S) σ M k := bo_get (C := RX10) (T := TX10) (N := 12) (i := 2) hx bo_o_0 rfl (by decide) in_X10 fl_X10_26 rfl rfl hd kk
theorem gf_X10_33 (hx : bo_OK x cc RX10 nL fr lo) (hd : decode cc pc = .ok (.getfield 33, 3)) (kk : bo_D x (pc + 3) L (.ref (bo_a x 5) :: S) σ M k) : bo_D x pc L (.ref (bo_a x 0) :: S) σ M k := bo_get (C := RX10) (T := TX10) (N := 12) (i := 3) hx bo_o_0 rfl (by decide) in_X10 fl_X10_33 rfl rfl hd kk
theorem gf_X10_37 (hx : bo_OK x cc RX10 nL fr lo) (hd : decode cc pc = .ok (.getfield 37, 3)) (kk : bo_D x (pc + 3) L (.ref (bo_a x 11) :: S) σ M k) : bo_D x pc L (.ref (bo_a x 0) :: S) σ M k := bo_get (C := RX10) (T := TX10) (N := 12) (i := 4) hx bo_o_0 rfl (by decide) in_X10 fl_X10_37 rfl rfl hd kk
theorem gf_X10_43 (hx : bo_OK x cc RX10 nL fr lo) (hd : decode cc pc = .ok (.getfield 43, 3)) (kk : bo_D x (pc + 3) L (.ref (bo_a x 17) :: S) σ M k) : bo_D x pc L (.ref (bo_a x 0) :: S) σ M k := bo_get (C := RX10) (T := TX10) (N := 12) (i := 5) hx bo_o_0 rfl (by decide) in_X10 fl_X10_43 rfl rfl hd kk
theorem gf_X10_50 (hx : bo_OK x cc RX10 nL fr lo) (hd : decode cc pc = .ok (.getfield 50, 3)) (kk : bo_D x (pc + 3) L (.ref (bo_a x 24) :: S) σ M k) : bo_D x pc L (.ref (bo_a x 0) :: S) σ M k := bo_get (C := RX10) (T := TX10) (N := 12) (i := 6) hx bo_o_0 rfl (by decide) in_X10 fl_X10_50 rfl rfl hd kk
theorem gf_X10_57 (hx : bo_OK x cc RX10 nL fr lo) (hd : decode cc pc = .ok (.getfield 57, 3)) (kk : bo_D x (pc + 3) L (.ref (bo_a x 29) :: S) σ M k) : bo_D x pc L (.ref (bo_a x 0) :: S) σ M k := bo_get (C := RX10) (T := TX10) (N := 12) (i := 7) hx bo_o_0 rfl (by decide) in_X10 fl_X10_57 rfl rfl hd kk
theorem gf_X10_64 (hx : bo_OK x cc RX10 nL fr lo) (hd : decode cc pc = .ok (.getfield 64, 3)) (kk : bo_D x (pc + 3) L (.ref (bo_a x 32) :: S) σ M k) : bo_D x pc L (.ref (bo_a x 0) :: S) σ M k := bo_get (C := RX10) (T := TX10) (N := 12) (i := 8) hx bo_o_0 rfl (by decide) in_X10 fl_X10_64 rfl rfl hd kk
theorem gf_X10_71 (hx : bo_OK x cc RX10 nL fr lo) (hd : decode cc pc = .ok (.getfield 71, 3)) (kk : bo_D x (pc + 3) L (.ref (bo_a x (bo_inn (σ 0 9))) :: S) σ M k) : bo_D x pc L (.ref (bo_a x 0) :: S) σ M k := bo_get (C := RX10) (T := TX10) (N := 12) (i := 9) hx bo_o_0 rfl (by decide) in_X10 fl_X10_71 rfl rfl hd kk
theorem gf_X10_75 (hx : bo_OK x cc RX10 nL fr lo) (hd : decode cc pc = .ok (.getfield 75, 3)) (kk : bo_D x (pc + 3) L (.ref (bo_a x (bo_inn (σ 0 10))) :: S) σ M k) : bo_D x pc L (.ref (bo_a x 0) :: S) σ M k := bo_get (C := RX10) (T := TX10) (N := 12) (i := 10) hx bo_o_0 rfl (by decide) in_X10 fl_X10_75 rfl rfl hd kk
theorem gf_X10_83 (hx : bo_OK x cc RX10 nL fr lo) (hd : decode cc pc = .ok (.getfield 83, 3)) (kk : bo_D x (pc + 3) L (.int (σ 1 4) :: S) σ M k) : bo_D x pc L (.ref (bo_a x 1) :: S) σ M k := bo_get (C := RX7) (T := TX7) (N := 6) (i := 4) hx bo_o_1 rfl (by decide) in_X7 fl_X10_83 rfl rfl hd kk
theorem gf_X10_95 (hx : bo_OK x cc RX10 nL fr lo) (hd : decode cc pc = .ok (.getfield 95, 3)) (kk : bo_D x (pc + 3) L (.int (σ 3 1) :: S) σ M k) : bo_D x pc L (.ref (bo_a x 3) :: S) σ M k := bo_get (C := RX6) (T := TX6) (N := 2) (i := 1) hx bo_o_3 rfl (by decide) in_X6 fl_X10_95 rfl rfl hd kk
theorem gf_X10_96 (hx : bo_OK x cc RX10 nL fr lo) {o : Nat} (ho : bo_isIm o) (hd : decode cc pc = .ok (.getfield 96, 3)) (kk : bo_D x (pc + 3) L (.int (σ o 2 &&& 1) :: S) σ M k) : bo_D x pc L (.ref (bo_a x o) :: S) σ M k := bo_get (C := RX3) (T := TX3) (N := 3) (i := 2) hx ho.o rfl (by decide) in_X3 fl_X10_96 rfl rfl hd kk
theorem gf_X10_100 (hx : bo_OK x cc RX10 nL fr lo) (hd : decode cc pc = .ok (.getfield 100, 3)) (kk : bo_D x (pc + 3) L (.int (σ 24 4) :: S) σ M k) : bo_D x pc L (.ref (bo_a x 24) :: S) σ M k := bo_get (C := RX5) (T := TX5) (N := 6) (i := 4) hx bo_o_24 rfl (by decide) in_X5 fl_X10_100 rfl rfl hd kk
theorem gf_X10_101 (hx : bo_OK x cc RX10 nL fr lo) (hd : decode cc pc = .ok (.getfield 101, 3)) (kk : bo_D x (pc + 3) L (.int (σ 29 2) :: S) σ M k) : bo_D x pc L (.ref (bo_a x 29) :: S) σ M k := bo_get (C := RX0) (T := TX0) (N := 3) (i := 2) hx bo_o_29 rfl (by decide) in_X0 fl_X10_101 rfl rfl hd kk
theorem gf_X10_102 (hx : bo_OK x cc RX10 nL fr lo) {o : Nat} (ho : bo_isInn o) (hd : decode cc pc = .ok (.getfield 102, 3)) (kk : bo_D x (pc + 3) L (.int (σ o 11) :: S) σ M k) : bo_D x pc L (.ref (bo_a x o) :: S) σ M k := bo_get (C := RX4) (T := TX4) (N := 15) (i := 11) hx ho.o rfl (by decide) in_X4 fl_X10_102 rfl rfl hd kk
theorem gf_X10_105 (hx : bo_OK x cc RX10 nL fr lo) (hd : decode cc pc = .ok (.getfield 105, 3)) (kk : bo_D x (pc + 3) L (.int (σ 1 5) :: S) σ M k) : bo_D x pc L (.ref (bo_a x 1) :: S) σ M k := bo_get (C := RX7) (T := TX7) (N := 6) (i := 5) hx bo_o_1 rfl (by decide) in_X7 fl_X10_105 rfl rfl hd kk
theorem gf_X10_108 (hx : bo_OK x cc RX10 nL fr lo) {o : Nat} (ho : bo_isInn o) (hd : decode cc pc = .ok (.getfield 108, 3)) (kk : bo_D x (pc + 3) L (.int (σ o 8) :: S) σ M k) : bo_D x pc L (.ref (bo_a x o) :: S) σ M k := bo_get (C := RX4) (T := TX4) (N := 15) (i := 8) hx ho.o rfl (by decide) in_X4 fl_X10_108 rfl rfl hd kk
theorem gf_X10_111 (hx : bo_OK x cc RX10 nL fr lo) {o : Nat} (ho : bo_isInn o) (hd : decode cc pc = .ok (.getfield 111, 3)) (kk : bo_D x (pc + 3) L (.int (σ o 9) :: S) σ M k) : bo_D x pc L (.ref (bo_a x o) :: S) σ M k := bo_get (C := RX4) (T := TX4) (N := 15) (i := 9) hx ho.o rfl (by decide) in_X4 fl_X10_111 rfl rfl hd kk
theorem gf_X10_114 (hx : bo_OK x cc RX10 nL fr lo) {o : Nat} (ho : bo_isInn o) (hd : decode cc pc = .ok (.getfield 114, 3)) (kk : bo_D x (pc + 3) L (.int (σ o 13) :: S) σ M k) : bo_D x pc L (.ref (bo_a x o) :: S) σ M k := bo_get (C := RX4) (T := TX4) (N := 15) (i := 13) hx ho.o rfl (by decide) in_X4 fl_X10_114 rfl rfl hd kk
theorem gf_X10_117 (hx : bo_OK x cc RX10 nL fr lo) {o : Nat} (ho : bo_isInn o) (hd : decode cc pc = .ok (.getfield 117, 3)) (kk : bo_D x (pc + 3) L (.int (σ o 14) :: S) σ M k) : bo_D x pc L (.ref (bo_a x o) :: S) σ M k := bo_get (C := RX4) (T := TX4) (N := 15) (i := 14) hx ho.o rfl (by decide) in_X4 fl_X10_117 rfl rfl hd kk
theorem gf_X10_120 (hx : bo_OK x cc RX10 nL fr lo) {o : Nat} (ho : bo_isEv o) (hd : decode cc pc = .ok (.getfield 120, 3)) (kk : bo_D x (pc + 3) L (.int (σ o 4) :: S) σ M k) : bo_D x pc L (.ref (bo_a x o) :: S) σ M k := bo_get (C := RX2) (T := TX2) (N := 10) (i := 4) hx ho.o rfl (by decide) in_X2 fl_X10_120 rfl rfl hd kk
theorem gf_X10_123 (hx : bo_OK x cc RX10 nL fr lo) {o : Nat} (ho : bo_isEv o) (hd : decode cc pc = .ok (.getfield 123, 3)) (kk : bo_D x (pc + 3) L (.int (σ o 5) :: S) σ M k) : bo_D x pc L (.ref (bo_a x o) :: S) σ M k := bo_get (C := RX2) (T := TX2) (N := 10) (i := 5) hx ho.o rfl (by decide) in_X2 fl_X10_123 rfl rfl hd kk
theorem gf_X10_126 (hx : bo_OK x cc RX10 nL fr lo) {o : Nat} (ho : bo_isEv o) (hd : decode cc pc = .ok (.getfield 126, 3)) (kk : bo_D x (pc + 3) L (.int (σ o 6) :: S) σ M k) : bo_D x pc L (.ref (bo_a x o) :: S) σ M k := bo_get (C := RX2) (T := TX2) (N := 10) (i := 6) hx ho.o rfl (by decide) in_X2 fl_X10_126 rfl rfl hd kk
theorem gf_X10_133 (hx : bo_OK x cc RX10 nL fr lo) {o : Nat} (ho : bo_isEv o) (hd : decode cc pc = .ok (.getfield 133, 3)) (kk : bo_D x (pc + 3) L (.int (σ o 7) :: S) σ M k) : bo_D x pc L (.ref (bo_a x o) :: S) σ M k := bo_get (C := RX2) (T := TX2) (N := 10) (i := 7) hx ho.o rfl (by decide) in_X2 fl_X10_133 rfl rfl hd kk
theorem gf_X10_136 (hx : bo_OK x cc RX10 nL fr lo) {o : Nat} (ho : bo_isEv o) (hd : decode cc pc = .ok (.getfield 136, 3)) (kk : bo_D x (pc + 3) L (.int (σ o 8) :: S) σ M k) : bo_D x pc L (.ref (bo_a x o) :: S) σ M k := bo_get (C := RX2) (T := TX2) (N := 10) (i := 8) hx ho.o rfl (by decide) in_X2 fl_X10_136 rfl rfl hd kk
theorem gf_X10_143 (hx : bo_OK x cc RX10 nL fr lo) {o : Nat} (ho : bo_isEv o) (hd : decode cc pc = .ok (.getfield 143, 3)) (kk : bo_D x (pc + 3) L (.int (σ o 9) :: S) σ M k) : bo_D x pc L (.ref (bo_a x o) :: S) σ M k := bo_get (C := RX2) (T := TX2) (N := 10) (i := 9) hx ho.o rfl (by decide) in_X2 fl_X10_143 rfl rfl hd kk
theorem gf_X10_150 (hx : bo_OK x cc RX10 nL fr lo) {o : Nat} (ho : bo_isInn o) (hd : decode cc pc = .ok (.getfield 150, 3)) (kk : bo_D x (pc + 3) L (.ref (bo_a x (o + 1)) :: S) σ M k) : bo_D x pc L (.ref (bo_a x o) :: S) σ M k := bo_get (C := RX4) (T := TX4) (N := 15) (i := 0) hx ho.o rfl (by decide) in_X4 fl_X10_150 rfl rfl hd kk
theorem gf_X10_160 (hx : bo_OK x cc RX10 nL fr lo) {o : Nat} (ho : bo_isInn o) (hd : decode cc pc = .ok (.getfield 160, 3)) (kk : bo_D x (pc + 3) L (.ref (bo_a x (o + 2)) :: S) σ M k) : bo_D x pc L (.ref (bo_a x o) :: S) σ M k := bo_get (C := RX4) (T := TX4) (N := 15) (i := 1) hx ho.o rfl (by decide) in_X4 fl_X10_160 rfl rfl hd kk
theorem gf_X10_163 (hx : bo_OK x cc RX10 nL fr lo) {o : Nat} (ho : bo_isInn o) (hd : decode cc pc = .ok (.getfield 163, 3)) (kk : bo_D x (pc + 3) L (.ref (bo_a x (o + 3)) :: S) σ M k) : bo_D x pc L (.ref (bo_a x o) :: S) σ M k := bo_get (C := RX4) (T := TX4) (N := 15) (i := 2) hx ho.o rfl (by decide) in_X4 fl_X10_163 rfl rfl hd kk
theorem gf_X10_170 (hx : bo_OK x cc RX10 nL fr lo) {o : Nat} (ho : bo_isEv o) (hd : decode cc pc = .ok (.getfield 170, 3)) (kk : bo_D x (pc + 3) L (.ref (bo_a x (o + 1)) :: S) σ M k) : bo_D x pc L (.ref (bo_a x o) :: S) σ M k := bo_get (C := RX2) (T := TX2) (N := 10) (i := 0) hx ho.o rfl (by decide) in_X2 fl_X10_170 rfl rfl hd kk
theorem gf_X10_173 (hx : bo_OK x cc RX10 nL fr lo) {o : Nat} (ho : bo_isEv o) (hd : decode cc pc = .ok (.getfield 173, 3)) (kk : bo_D x (pc + 3) L (.ref (bo_a x (o + 2)) :: S) σ M k) : bo_D x pc L (.ref (bo_a x o) :: S) σ M k := bo_get (C := RX2) (T := TX2) (N := 10) (i := 1) hx ho.o rfl (by decide) in_X2 fl_X10_173 rfl rfl hd kk
theorem gf_X10_182 (hx : bo_OK x cc RX10 nL fr lo) {o : Nat} (ho : bo_isInn o) (hd : decode cc pc = .ok (.getfield 182, 3)) (kk : bo_D x (pc + 3) L (.ref (bo_a x (o + 4)) :: S) σ M k) : bo_D x pc L (.ref (bo_a x o) :: S) σ M k := bo_get (C := RX4) (T := TX4) (N := 15) (i := 3) hx ho.o rfl (by decide) in_X4 fl_X10_182 rfl rfl hd kk
theorem gf_X10_185 (hx : bo_OK x cc RX10 nL fr lo) {o : Nat} (ho : bo_isInn o) (hd : decode cc pc = .ok (.getfield 185, 3)) (kk : bo_D x (pc + 3) L (.ref (bo_a x (o + 5)) :: S) σ M k) : bo_D x pc L (.ref (bo_a x o) :: S) σ M k := bo_get (C := RX4) (T := TX4) (N := 15) (i := 4) hx ho.o rfl (by decide) in_X4 fl_X10_185 rfl rfl hd kk
theorem gf_X10_188 (hx : bo_OK x cc RX10 nL fr lo) {o : Nat} (ho : bo_isInn o) (hd : decode cc pc = .ok (.getfield 188, 3)) (kk : bo_D x (pc + 3) L (.ref (bo_a x (o + 6)) :: S) σ M k) : bo_D x pc L (.ref (bo_a x o) :: S) σ M k := bo_get (C := RX4) (T := TX4) (N := 15) (i := 5) hx ho.o rfl (by decide) in_X4 fl_X10_188 rfl rfl hd kk
theorem gf_X10_233 (hx : bo_OK x cc RX10 nL fr lo) (hd : decode cc pc = .ok (.getfield 233, 3)) (kk : bo_D x (pc + 3) L (.ref (bo_a x 23) :: S) σ M k) : bo_D x pc L (.ref (bo_a x 17) :: S) σ M k := bo_get (C := RX9) (T := TX9) (N := 2) (i := 1) hx bo_o_17 rfl (by decide) in_X9 fl_X10_233 rfl rfl hd kk
theorem gf_X10_239 (hx : bo_OK x cc RX10 nL fr lo) (hd : decode cc pc = .ok (.getfield 239, 3)) (kk : bo_D x (pc + 3) L (.ref (bo_a x 18) :: S) σ M k) : bo_D x pc L (.ref (bo_a x 17) :: S) σ M k := bo_get (C := RX9) (T := TX9) (N := 2) (i := 0) hx bo_o_17 rfl (by decide) in_X9 fl_X10_239 rfl rfl hd kk
theorem gf_X10_242 (hx : bo_OK x cc RX10 nL fr lo) {o : Nat} (ho : bo_isInn o) (hd : decode cc pc = .ok (.getfield 242, 3)) (kk : bo_D x (pc + 3) L (.int (σ o 7 &&& 1) :: S) σ M k) : bo_D x pc L (.ref (bo_a x o) :: S) σ M k := bo_get (C := RX4) (T := TX4) (N := 15) (i := 7) hx ho.o rfl (by decide) in_X4 fl_X10_242 rfl rfl hd kk
theorem gf_X10_296 (hx : bo_OK x cc RX10 nL fr lo) (hd : decode cc pc = .ok (.getfield 296, 3)) (kk : bo_D x (pc + 3) L (.int (σ 24 5) :: S) σ M k) : bo_D x pc L (.ref (bo_a x 24) :: S) σ M k := bo_get (C := RX5) (T := TX5) (N := 6) (i := 5) hx bo_o_24 rfl (by decide) in_X5 fl_X10_296 rfl rfl hd kk
theorem gf_X10_321 (hx : bo_OK x cc RX10 nL fr lo) (hd : decode cc pc = .ok (.getfield 321, 3)) (kk : bo_D x (pc + 3) L (.int (σ 0 11) :: S) σ M k) : bo_D x pc L (.ref (bo_a x 0) :: S) σ M k := bo_get (C := RX10) (T := TX10) (N := 12) (i := 11) hx bo_o_0 rfl (by decide) in_X10 fl_X10_321 rfl rfl hd kk
theorem gf_X10_328 (hx : bo_OK x cc RX10 nL fr lo) {o : Nat} (ho : bo_isIm o) (hd : decode cc pc = .ok (.getfield 328, 3)) (kk : bo_D x (pc + 3) L (.ref (bo_a x (o + 1)) :: S) σ M k) : bo_D x pc L (.ref (bo_a x o) :: S) σ M k := bo_get (C := RX3) (T := TX3) (N := 3) (i := 0) hx ho.o rfl (by decide) in_X3 fl_X10_328 rfl rfl hd kk
theorem gf_X10_332 (hx : bo_OK x cc RX10 nL fr lo) {o : Nat} (ho : bo_isIm o) (hd : decode cc pc = .ok (.getfield 332, 3)) (kk : bo_D x (pc + 3) L (.int (σ o 1) :: S) σ M k) : bo_D x pc L (.ref (bo_a x o) :: S) σ M k := bo_get (C := RX3) (T := TX3) (N := 3) (i := 1) hx ho.o rfl (by decide) in_X3 fl_X10_332 rfl rfl hd kk
theorem gf_X0_9 (hx : bo_OK x cc RX0 nL fr lo) (hd : decode cc pc = .ok (.getfield 9, 3)) (kk : bo_D x (pc + 3) L (.ref (bo_a x 30) :: S) σ M k) : bo_D x pc L (.ref (bo_a x 29) :: S) σ M k := bo_get (C := RX0) (T := TX0) (N := 3) (i := 0) hx bo_o_29 rfl (by decide) in_X0 fl_X0_9 rfl rfl hd kk
theorem gf_X0_15 (hx : bo_OK x cc RX0 nL fr lo) (hd : decode cc pc = .ok (.getfield 15, 3)) (kk : bo_D x (pc + 3) L (.ref (bo_a x 31) :: S) σ M k) : bo_D x pc L (.ref (bo_a x 29) :: S) σ M k := bo_get (C := RX0) (T := TX0) (N := 3) (i := 1) hx bo_o_29 rfl (by decide) in_X0 fl_X0_15 rfl rfl hd kk
theorem gf_X0_18 (hx : bo_OK x cc RX0 nL fr lo) (hd : decode cc pc = .ok (.getfield 18, 3)) (kk : bo_D x (pc + 3) L (.int (σ 29 2) :: S) σ M k) : bo_D x pc L (.ref (bo_a x 29) :: S) σ M k := bo_get (C := RX0) (T := TX0) (N := 3) (i := 2) hx bo_o_29 rfl (by decide) in_X0 fl_X0_18 rfl rfl hd kk
theorem gf_X0_28 (hx : bo_OK x cc RX0 nL fr lo) {o : Nat} (ho : bo_isEv o) (hd : decode cc pc = .ok (.getfield 28, 3)) (kk : bo_D x (pc + 3) L (.ref (bo_a x (o + 1)) :: S) σ M k) : bo_D x pc L (.ref (bo_a x o) :: S) σ M k := bo_get (C := RX2) (T := TX2) (N := 10) (i := 0) hx ho.o rfl (by decide) in_X2 fl_X0_28 rfl rfl hd kk
theorem gf_X1_9 (hx : bo_OK x cc RX1 nL fr lo) (hd : decode cc pc = .ok (.getfield 9, 3)) (kk : bo_D x (pc + 3) L (.ref (bo_a x 33) :: S) σ M k) : bo_D x pc L (.ref (bo_a x 32) :: S) σ M k := bo_get (C := RX1) (T := TX1) (N := 1) (i := 0) hx bo_o_32 rfl (by decide) in_X1 fl_X1_9 rfl rfl hd kk
theorem gf_X2_9 (hx : bo_OK x cc RX2 nL fr lo) {o : Nat} (ho : bo_isEv o) (hd : decode cc pc = .ok (.getfield 9, 3)) (kk : bo_D x (pc + 3) L (.ref (bo_a x (o + 1)) :: S) σ M k) : bo_D x pc L (.ref (bo_a x o) :: S) σ M k := bo_get (C := RX2) (T := TX2) (N := 10) (i := 0) hx ho.o rfl (by decide) in_X2 fl_X2_9 rfl rfl hd kk
theorem gf_X2_15 (hx : bo_OK x cc RX2 nL fr lo) {o : Nat} (ho : bo_isEv o) (hd : decode cc pc = .ok (.getfield 15, 3)) (kk : bo_D x (pc + 3) L (.ref (bo_a x (o + 2)) :: S) σ M k) : bo_D x pc L (.ref (bo_a x o) :: S) σ M k := bo_get (C := RX2) (T := TX2) (N := 10) (i := 1) hx ho.o rfl (by decide) in_X2 fl_X2_15 rfl rfl hd kk
theorem gf_X2_18 (hx : bo_OK x cc RX2 nL fr lo) {o : Nat} (ho : bo_isEv o) (hd : decode cc pc = .ok (.getfield 18, 3)) (kk : bo_D x (pc + 3) L (.ref (bo_a x (o + 3)) :: S) σ M k) : bo_D x pc L (.ref (bo_a x o) :: S) σ M k := bo_get (C := RX2) (T := TX2) (N := 10) (i := 2) hx ho.o rfl (by decide) in_X2 fl_X2_18 rfl rfl hd kk
theorem gf_X2_21 (hx : bo_OK x cc RX2 nL fr lo) {o : Nat} (ho : bo_isEv o) (hd : decode cc pc = .ok (.getfield 21, 3)) (kk : bo_D x (pc + 3) L (.ref (bo_a x (o + 4)) :: S) σ M k) : bo_D x pc L (.ref (bo_a x o) :: S) σ M k := bo_get (C := RX2) (T := TX2) (N := 10) (i := 3) hx ho.o rfl (by decide) in_X2 fl_X2_21 rfl rfl hd kk
theorem gf_X2_24 (hx : bo_OK x cc RX2 nL fr lo) {o : Nat} (ho : bo_isEv o) (hd : decode cc pc = .ok (.getfield 24, 3)) (kk : bo_D x (pc + 3) L (.int (σ o 4) :: S) σ M k) : bo_D x pc L (.ref (bo_a x o) :: S) σ M k := bo_get (C := RX2) (T := TX2) (N := 10) (i := 4) hx ho.o rfl (by decide) in_X2 fl_X2_24 rfl rfl hd kk
theorem gf_X2_28 (hx : bo_OK x cc RX2 nL fr lo) {o : Nat} (ho : bo_isEv o) (hd : decode cc pc = .ok (.getfield 28, 3)) (kk : bo_D x (pc + 3) L (.int (σ o 5) :: S) σ M k) : bo_D x pc L (.ref (bo_a x o) :: S) σ M k := bo_get (C := RX2) (T := TX2) (N := 10) (i := 5) hx ho.o rfl (by decide) in_X2 fl_X2_28 rfl rfl hd kk
theorem gf_X2_31 (hx : bo_OK x cc RX2 nL fr lo) {o : Nat} (ho : bo_isEv o) (hd : decode cc pc = .ok (.getfield 31, 3)) (kk : bo_D x (pc + 3) L (.int (σ o 6) :: S) σ M k) : bo_D x pc L (.ref (bo_a x o) :: S) σ M k := bo_get (C := RX2) (T := TX2) (N := 10) (i := 6) hx ho.o rfl (by decide) in_X2 fl_X2_31 rfl rfl hd kk
theorem gf_X2_34 (hx : bo_OK x cc RX2 nL fr lo) {o : Nat} (ho : bo_isEv o) (hd : decode cc pc = .ok (.getfield 34, 3)) (kk : bo_D x (pc + 3) L (.int (σ o 7) :: S) σ M k) : bo_D x pc L (.ref (bo_a x o) :: S) σ M k := bo_get (C := RX2) (T := TX2) (N := 10) (i := 7) hx ho.o rfl (by decide) in_X2 fl_X2_34 rfl rfl hd kk
theorem gf_X2_37 (hx : bo_OK x cc RX2 nL fr lo) {o : Nat} (ho : bo_isEv o) (hd : decode cc pc = .ok (.getfield 37, 3)) (kk : bo_D x (pc + 3) L (.int (σ o 8) :: S) σ M k) : bo_D x pc L (.ref (bo_a x o) :: S) σ M k := bo_get (C := RX2) (T := TX2) (N := 10) (i := 8) hx ho.o rfl (by decide) in_X2 fl_X2_37 rfl rfl hd kk
theorem gf_X2_40 (hx : bo_OK x cc RX2 nL fr lo) {o : Nat} (ho : bo_isEv o) (hd : decode cc pc = .ok (.getfield 40, 3)) (kk : bo_D x (pc + 3) L (.int (σ o 9) :: S) σ M k) : bo_D x pc L (.ref (bo_a x o) :: S) σ M k := bo_get (C := RX2) (T := TX2) (N := 10) (i := 9) hx ho.o rfl (by decide) in_X2 fl_X2_40 rfl rfl hd kk
theorem gf_X2_63 (hx : bo_OK x cc RX2 nL fr lo) {o : Nat} (ho : bo_isInn o) (hd : decode cc pc = .ok (.getfield 63, 3)) (kk : bo_D x (pc + 3) L (.int (σ o 10) :: S) σ M k) : bo_D x pc L (.ref (bo_a x o) :: S) σ M k := bo_get (C := RX4) (T := TX4) (N := 15) (i := 10) hx ho.o rfl (by decide) in_X4 fl_X2_63 rfl rfl hd kk
theorem gf_X2_71 (hx : bo_OK x cc RX2 nL fr lo) {o : Nat} (ho : bo_isInn o) (hd : decode cc pc = .ok (.getfield 71, 3)) (kk : bo_D x (pc + 3) L (.int (σ o 11) :: S) σ M k) : bo_D x pc L (.ref (bo_a x o) :: S) σ M k := bo_get (C := RX4) (T := TX4) (N := 15) (i := 11) hx ho.o rfl (by decide) in_X4 fl_X2_71 rfl rfl hd kk
theorem gf_X2_74 (hx : bo_OK x cc RX2 nL fr lo) {o : Nat} (ho : bo_isInn o) (hd : decode cc pc = .ok (.getfield 74, 3)) (kk : bo_D x (pc + 3) L (.ref (bo_a x (o + 1)) :: S) σ M k) : bo_D x pc L (.ref (bo_a x o) :: S) σ M k := bo_get (C := RX4) (T := TX4) (N := 15) (i := 0) hx ho.o rfl (by decide) in_X4 fl_X2_74 rfl rfl hd kk
theorem gf_X2_81 (hx : bo_OK x cc RX2 nL fr lo) {o : Nat} (ho : bo_isInn o) (hd : decode cc pc = .ok (.getfield 81, 3)) (kk : bo_D x (pc + 3) L (.ref (bo_a x (o + 2)) :: S) σ M k) : bo_D x pc L (.ref (bo_a x o) :: S) σ M k := bo_get (C := RX4) (T := TX4) (N := 15) (i := 1) hx ho.o rfl (by decide) in_X4 fl_X2_81 rfl rfl hd kk
theorem gf_X2_100 (hx : bo_OK x cc RX2 nL fr lo) {o : Nat} (ho : bo_isInn o) (hd : decode cc pc = .ok (.getfield 100, 3)) (kk : bo_D x (pc + 3) L (.int (σ o 9) :: S) σ M k) : bo_D x pc L (.ref (bo_a x o) :: S) σ M k := bo_get (C := RX4) (T := TX4) (N := 15) (i := 9) hx ho.o rfl (by decide) in_X4 fl_X2_100 rfl rfl hd kk
theorem gf_X4_27 (hx : bo_OK x cc RX4 nL fr lo) {o : Nat} (ho : bo_isInn o) (hd : decode cc pc = .ok (.getfield 27, 3)) (kk : bo_D x (pc + 3) L (.ref (bo_a x (o + 6)) :: S) σ M k) : bo_D x pc L (.ref (bo_a x o) :: S) σ M k := bo_get (C := RX4) (T := TX4) (N := 15) (i := 5) hx ho.o rfl (by decide) in_X4 fl_X4_27 rfl rfl hd kk
theorem gf_X4_30 (hx : bo_OK x cc RX4 nL fr lo) {o : Nat} (ho : bo_isInn o) (hd : decode cc pc = .ok (.getfield 30, 3)) (kk : bo_D x (pc + 3) L (.ref (bo_a x (o + 7)) :: S) σ M k) : bo_D x pc L (.ref (bo_a x o) :: S) σ M k := bo_get (C := RX4) (T := TX4) (N := 15) (i := 6) hx ho.o rfl (by decide) in_X4 fl_X4_30 rfl rfl hd kk
theorem gf_X4_37 (hx : bo_OK x cc RX4 nL fr lo) {o : Nat} (ho : bo_isInn o) (hd : decode cc pc = .ok (.getfield 37, 3)) (kk : bo_D x (pc + 3) L (.int (σ o 8) :: S) σ M k) : bo_D x pc L (.ref (bo_a x o) :: S) σ M k := bo_get (C := RX4) (T := TX4) (N := 15) (i := 8) hx ho.o rfl (by decide) in_X4 fl_X4_37 rfl rfl hd kk
theorem gf_X4_47 (hx : bo_OK x cc RX4 nL fr lo) {o : Nat} (ho : bo_isInn o) (hd : decode cc pc = .ok (.getfield 47, 3)) (kk : bo_D x (pc + 3) L (.int (σ o 11) :: S) σ M k) : bo_D x pc L (.ref (bo_a x o) :: S) σ M k := bo_get (C := RX4) (T := TX4) (N := 15) (i := 11) hx ho.o rfl (by decide) in_X4 fl_X4_47 rfl rfl hd kk
theorem gf_X4_53 (hx : bo_OK x cc RX4 nL fr lo) {o : Nat} (ho : bo_isInn o) (hd : decode cc pc = .ok (.getfield 53, 3)) (kk : bo_D x (pc + 3) L (.int (σ o 13) :: S) σ M k) : bo_D x pc L (.ref (bo_a x o) :: S) σ M k := bo_get (C := RX4) (T := TX4) (N := 15) (i := 13) hx ho.o rfl (by decide) in_X4 fl_X4_53 rfl rfl hd kk
theorem gf_X4_56 (hx : bo_OK x cc RX4 nL fr lo) {o : Nat} (ho : bo_isInn o) (hd : decode cc pc = .ok (.getfield 56, 3)) (kk : bo_D x (pc + 3) L (.int (σ o 14) :: S) σ M k) : bo_D x pc L (.ref (bo_a x o) :: S) σ M k := bo_get (C := RX4) (T := TX4) (N := 15) (i := 14) hx ho.o rfl (by decide) in_X4 fl_X4_56 rfl rfl hd kk
theorem gf_X5_9 (hx : bo_OK x cc RX5 nL fr lo) (hd : decode cc pc = .ok (.getfield 9, 3)) (kk : bo_D x (pc + 3) L (.ref (bo_a x 25) :: S) σ M k) : bo_D x pc L (.ref (bo_a x 24) :: S) σ M k := bo_get (C := RX5) (T := TX5) (N := 6) (i := 0) hx bo_o_24 rfl (by decide) in_X5 fl_X5_9 rfl rfl hd kk
theorem gf_X5_15 (hx : bo_OK x cc RX5 nL fr lo) (hd : decode cc pc = .ok (.getfield 15, 3)) (kk : bo_D x (pc + 3) L (.ref (bo_a x 26) :: S) σ M k) : bo_D x pc L (.ref (bo_a x 24) :: S) σ M k := bo_get (C := RX5) (T := TX5) (N := 6) (i := 1) hx bo_o_24 rfl (by decide) in_X5 fl_X5_15 rfl rfl hd kk
theorem gf_X5_18 (hx : bo_OK x cc RX5 nL fr lo) (hd : decode cc pc = .ok (.getfield 18, 3)) (kk : bo_D x (pc + 3) L (.ref (bo_a x 27) :: S) σ M k) : bo_D x pc L (.ref (bo_a x 24) :: S) σ M k := bo_get (C := RX5) (T := TX5) (N := 6) (i := 2) hx bo_o_24 rfl (by decide) in_X5 fl_X5_18 rfl rfl hd kk
theorem gf_X5_21 (hx : bo_OK x cc RX5 nL fr lo) (hd : decode cc pc = .ok (.getfield 21, 3)) (kk : bo_D x (pc + 3) L (.ref (bo_a x 28) :: S) σ M k) : bo_D x pc L (.ref (bo_a x 24) :: S) σ M k := bo_get (C := RX5) (T := TX5) (N := 6) (i := 3) hx bo_o_24 rfl (by decide) in_X5 fl_X5_21 rfl rfl hd kk
theorem gf_X5_24 (hx : bo_OK x cc RX5 nL fr lo) (hd : decode cc pc = .ok (.getfield 24, 3)) (kk : bo_D x (pc + 3) L (.int (σ 24 4) :: S) σ M k) : bo_D x pc L (.ref (bo_a x 24) :: S) σ M k := bo_get (C := RX5) (T := TX5) (N := 6) (i := 4) hx bo_o_24 rfl (by decide) in_X5 fl_X5_24 rfl rfl hd kk
theorem gf_X5_34 (hx : bo_OK x cc RX5 nL fr lo) (hd : decode cc pc = .ok (.getfield 34, 3)) (kk : bo_D x (pc + 3) L (.int (σ 24 5) :: S) σ M k) : bo_D x pc L (.ref (bo_a x 24) :: S) σ M k := bo_get (C := RX5) (T := TX5) (N := 6) (i := 5) hx bo_o_24 rfl (by decide) in_X5 fl_X5_34 rfl rfl hd kk
theorem gf_X5_42 (hx : bo_OK x cc RX5 nL fr lo) {o : Nat} (ho : bo_isInn o) (hd : decode cc pc = .ok (.getfield 42, 3)) (kk : bo_D x (pc + 3) L (.int (σ o 9) :: S) σ M k) : bo_D x pc L (.ref (bo_a x o) :: S) σ M k := bo_get (C := RX4) (T := TX4) (N := 15) (i := 9) hx ho.o rfl (by decide) in_X4 fl_X5_42 rfl rfl hd kk
theorem gf_X6_11 (hx : bo_OK x cc RX6 nL fr lo) (hd : decode cc pc = .ok (.getfield 11, 3)) (kk : bo_D x (pc + 3) L (.ref (bo_a x 4) :: S) σ M k) : bo_D x pc L (.ref (bo_a x 3) :: S) σ M k := bo_get (C := RX6) (T := TX6) (N := 2) (i := 0) hx bo_o_3 rfl (by decide) in_X6 fl_X6_11 rfl rfl hd kk
theorem gf_X6_18 (hx : bo_OK x cc RX6 nL fr lo) (hd : decode cc pc = .ok (.getfield 18, 3)) (kk : bo_D x (pc + 3) L (.int (σ 3 1) :: S) σ M k) : bo_D x pc L (.ref (bo_a x 3) :: S) σ M k := bo_get (C := RX6) (T := TX6) (N := 2) (i := 1) hx bo_o_3 rfl (by decide) in_X6 fl_X6_18 rfl rfl hd kk
theorem gf_X7_9 (hx : bo_OK x cc RX7 nL fr lo) (hd : decode cc pc = .ok (.getfield 9, 3)) (kk : bo_D x (pc + 3) L (.ref (bo_a x 2) :: S) σ M k) : bo_D x pc L (.ref (bo_a x 1) :: S) σ M k := bo_get (C := RX7) (T := TX7) (N := 6) (i := 0) hx bo_o_1 rfl (by decide) in_X7 fl_X7_9 rfl rfl hd kk
theorem gf_X7_19 (hx : bo_OK x cc RX7 nL fr lo) (hd : decode cc pc = .ok (.getfield 19, 3)) (kk : bo_D x (pc + 3) L (.int (σ 1 4) :: S) σ M k) : bo_D x pc L (.ref (bo_a x 1) :: S) σ M k := bo_get (C := RX7) (T := TX7) (N := 6) (i := 4) hx bo_o_1 rfl (by decide) in_X7 fl_X7_19 rfl rfl hd kk
theorem gf_X7_28 (hx : bo_OK x cc RX7 nL fr lo) (hd : decode cc pc = .ok (.getfield 28, 3)) (kk : bo_D x (pc + 3) L (.int (σ 1 1) :: S) σ M k) : bo_D x pc L (.ref (bo_a x 1) :: S) σ M k := bo_get (C := RX7) (T := TX7) (N := 6) (i := 1) hx bo_o_1 rfl (by decide) in_X7 fl_X7_28 rfl rfl hd kk
theorem gf_X7_31 (hx : bo_OK x cc RX7 nL fr lo) (hd : decode cc pc = .ok (.getfield 31, 3)) (kk : bo_D x (pc + 3) L (.int (σ 1 3) :: S) σ M k) : bo_D x pc L (.ref (bo_a x 1) :: S) σ M k := bo_get (C := RX7) (T := TX7) (N := 6) (i := 3) hx bo_o_1 rfl (by decide) in_X7 fl_X7_31 rfl rfl hd kk
theorem gf_X7_49 (hx : bo_OK x cc RX7 nL fr lo) {o : Nat} (ho : bo_isInn o) (hd : decode cc pc = .ok (.getfield 49, 3)) (kk : bo_D x (pc + 3) L (.int (σ o 7 &&& 1) :: S) σ M k) : bo_D x pc L (.ref (bo_a x o) :: S) σ M k := bo_get (C := RX4) (T := TX4) (N := 15) (i := 7) hx ho.o rfl (by decide) in_X4 fl_X7_49 rfl rfl hd kk
theorem gf_X7_92 (hx : bo_OK x cc RX7 nL fr lo) {o : Nat} (ho : bo_isInn o) (hd : decode cc pc = .ok (.getfield 92, 3)) (kk : bo_D x (pc + 3) L (.int (σ o 11) :: S) σ M k) : bo_D x pc L (.ref (bo_a x o) :: S) σ M k := bo_get (C := RX4) (T := TX4) (N := 15) (i := 11) hx ho.o rfl (by decide) in_X4 fl_X7_92 rfl rfl hd kk
theorem gf_X7_95 (hx : bo_OK x cc RX7 nL fr lo) {o : Nat} (ho : bo_isInn o) (hd : decode cc pc = .ok (.getfield 95, 3)) (kk : bo_D x (pc + 3) L (.ref (bo_a x (o + 1)) :: S) σ M k) : bo_D x pc L (.ref (bo_a x o) :: S) σ M k := bo_get (C := RX4) (T := TX4) (N := 15) (i := 0) hx ho.o rfl (by decide) in_X4 fl_X7_95 rfl rfl hd kk
theorem gf_X7_98 (hx : bo_OK x cc RX7 nL fr lo) {o : Nat} (ho : bo_isInn o) (hd : decode cc pc = .ok (.getfield 98, 3)) (kk : bo_D x (pc + 3) L (.ref (bo_a x (o + 2)) :: S) σ M k) : bo_D x pc L (.ref (bo_a x o) :: S) σ M k := bo_get (C := RX4) (T := TX4) (N := 15) (i := 1) hx ho.o rfl (by decide) in_X4 fl_X7_98 rfl rfl hd kk
theorem gf_X7_101 (hx : bo_OK x cc RX7 nL fr lo) {o : Nat} (ho : bo_isInn o) (hd : decode cc pc = .ok (.getfield 101, 3)) (kk : bo_D x (pc + 3) L (.ref (bo_a x (o + 3)) :: S) σ M k) : bo_D x pc L (.ref (bo_a x o) :: S) σ M k := bo_get (C := RX4) (T := TX4) (N := 15) (i := 2) hx ho.o rfl (by decide) in_X4 fl_X7_101 rfl rfl hd kk
theorem gf_X7_104 (hx : bo_OK x cc RX7 nL fr lo) {o : Nat} (ho : bo_isInn o) (hd : decode cc pc = .ok (.getfield 104, 3)) (kk : bo_D x (pc + 3) L (.int (σ o 12) :: S) σ M k) : bo_D x pc L (.ref (bo_a x o) :: S) σ M k := bo_get (C := RX4) (T := TX4) (N := 15) (i := 12) hx ho.o rfl (by decide) in_X4 fl_X7_104 rfl rfl hd kk
theorem gf_X7_112 (hx : bo_OK x cc RX7 nL fr lo) {o : Nat} (ho : bo_isInn o) (hd : decode cc pc = .ok (.getfield 112, 3)) (kk : bo_D x (pc + 3) L (.ref (bo_a x (o + 7)) :: S) σ M k) : bo_D x pc L (.ref (bo_a x o) :: S) σ M k := bo_get (C := RX4) (T := TX4) (N := 15) (i := 6) hx ho.o rfl (by decide) in_X4 fl_X7_112 rfl rfl hd kk
theorem gf_X7_115 (hx : bo_OK x cc RX7 nL fr lo) {o : Nat} (ho : bo_isInn o) (hd : decode cc pc = .ok (.getfield 115, 3)) (kk : bo_D x (pc + 3) L (.int (σ o 13) :: S) σ M k) : bo_D x pc L (.ref (bo_a x o) :: S) σ M k := bo_get (C := RX4) (T := TX4) (N := 15) (i := 13) hx ho.o rfl (by decide) in_X4 fl_X7_115 rfl rfl hd kk
theorem gf_X7_118 (hx : bo_OK x cc RX7 nL fr lo) {o : Nat} (ho : bo_isInn o) (hd : decode cc pc = .ok (.getfield 118, 3)) (kk : bo_D x (pc + 3) L (.ref (bo_a x (o + 4)) :: S) σ M k) : bo_D x pc L (.ref (bo_a x o) :: S) σ M k := bo_get (C := RX4) (T := TX4) (N := 15) (i := 3) hx ho.o rfl (by decide) in_X4 fl_X7_118 rfl rfl hd kk
theorem gf_X7_121 (hx : bo_OK x cc RX7 nL fr lo) {o : Nat} (ho : bo_isInn o) (hd : decode cc pc = .ok (.getfield 121, 3)) (kk : bo_D x (pc + 3) L (.ref (bo_a x (o + 5)) :: S) σ M k) : bo_D x pc L (.ref (bo_a x o) :: S) σ M k := bo_get (C := RX4) (T := TX4) (N := 15) (i := 4) hx ho.o rfl (by decide) in_X4 fl_X7_121 rfl rfl hd kk
theorem gf_X7_124 (hx : bo_OK x cc RX7 nL fr lo) {o : Nat} (ho : bo_isInn o) (hd : decode cc pc = .ok (.getfield 124, 3)) (kk : bo_D x (pc + 3) L (.int (σ o 14) :: S) σ M k) : bo_D x pc L (.ref (bo_a x o) :: S) σ M k := bo_get (C := RX4) (T := TX4) (N := 15) (i := 14) hx ho.o rfl (by decide) in_X4 fl_X7_124 rfl rfl hd kk
theorem gf_X7_131 (hx : bo_OK x cc RX7 nL fr lo) (hd : decode cc pc = .ok (.getfield 131, 3)) (kk : bo_D x (pc + 3) L (.int (σ 1 2) :: S) σ M k) : bo_D x pc L (.ref (bo_a x 1) :: S) σ M k := bo_get (C := RX7) (T := TX7) (N := 6) (i := 2) hx bo_o_1 rfl (by decide) in_X7 fl_X7_131 rfl rfl hd kk
theorem gf_X7_134 (hx : bo_OK x cc RX7 nL fr lo) {o : Nat} (ho : bo_isInn o) (hd : decode cc pc = .ok (.getfield 134, 3)) (kk : bo_D x (pc + 3) L (.ref (bo_a x (o + 6)) :: S) σ M k) : bo_D x pc L (.ref (bo_a x o) :: S) σ M k := bo_get (C := RX4) (T := TX4) (N := 15) (i := 5) hx ho.o rfl (by decide) in_X4 fl_X7_134 rfl rfl hd kk
theorem gf_X9_12 (hx : bo_OK x cc RX9 nL fr lo) (hd : decode cc pc = .ok (.getfield 12, 3)) (kk : bo_D x (pc + 3) L (.ref (bo_a x 18) :: S) σ M k) : bo_D x pc L (.ref (bo_a x 17) :: S) σ M k := bo_get (C := RX9) (T := TX9) (N := 2) (i := 0) hx bo_o_17 rfl (by decide) in_X9 fl_X9_12 rfl rfl hd kk
theorem gf_X9_18 (hx : bo_OK x cc RX9 nL fr lo) (hd : decode cc pc = .ok (.getfield 18, 3)) (kk : bo_D x (pc + 3) L (.ref (bo_a x 23) :: S) σ M k) : bo_D x pc L (.ref (bo_a x 17) :: S) σ M k := bo_get (C := RX9) (T := TX9) (N := 2) (i := 1) hx bo_o_17 rfl (by decide) in_X9 fl_X9_18 rfl rfl hd kk
theorem gf_X11_7 (hx : bo_OK x cc RX11 nL fr lo) (hd : decode cc pc = .ok (.getfield 7, 3)) (kk : bo_D x (pc + 3) L (.ref (bo_a x 136) :: S) σ M k) : bo_D x pc L (.ref (bo_a x 135) :: S) σ M k := bo_get (C := RX11) (T := TX11) (N := 54) (i := 5) hx bo_o_135 rfl (by decide) in_X11 fl_X11_7 rfl rfl hd kk
theorem gf_X11_13 (hx : bo_OK x cc RX11 nL fr lo) (hd : decode cc pc = .ok (.getfield 13, 3)) (kk : bo_D x (pc + 3) L (.ref (bo_a x 137) :: S) σ M k) : bo_D x pc L (.ref (bo_a x 135) :: S) σ M k := bo_get (C := RX11) (T := TX11) (N := 54) (i := 6) hx bo_o_135 rfl (by decide) in_X11 fl_X11_13 rfl rfl hd kk
theorem gf_X11_16 (hx : bo_OK x cc RX11 nL fr lo) (hd : decode cc pc = .ok (.getfield 16, 3)) (kk : bo_D x (pc + 3) L (.ref (bo_a x 138) :: S) σ M k) : bo_D x pc L (.ref (bo_a x 135) :: S) σ M k := bo_get (C := RX11) (T := TX11) (N := 54) (i := 7) hx bo_o_135 rfl (by decide) in_X11 fl_X11_16 rfl rfl hd kk
theorem gf_X11_19 (hx : bo_OK x cc RX11 nL fr lo) (hd : decode cc pc = .ok (.getfield 19, 3)) (kk : bo_D x (pc + 3) L (.ref (bo_a x 139) :: S) σ M k) : bo_D x pc L (.ref (bo_a x 135) :: S) σ M k := bo_get (C := RX11) (T := TX11) (N := 54) (i := 9) hx bo_o_135 rfl (by decide) in_X11 fl_X11_19 rfl rfl hd kk
theorem gf_X11_22 (hx : bo_OK x cc RX11 nL fr lo) (hd : decode cc pc = .ok (.getfield 22, 3)) (kk : bo_D x (pc + 3) L (.ref (bo_a x 140) :: S) σ M k) : bo_D x pc L (.ref (bo_a x 135) :: S) σ M k := bo_get (C := RX11) (T := TX11) (N := 54) (i := 10) hx bo_o_135 rfl (by decide) in_X11 fl_X11_22 rfl rfl hd kk
theorem gf_X11_25 (hx : bo_OK x cc RX11 nL fr lo) (hd : decode cc pc = .ok (.getfield 25, 3)) (kk : bo_D x (pc + 3) L (.ref (bo_a x 141) :: S) σ M k) : bo_D x pc L (.ref (bo_a x 135) :: S) σ M k := bo_get (C := RX11) (T := TX11) (N := 54) (i := 12) hx bo_o_135 rfl (by decide) in_X11 fl_X11_25 rfl rfl hd kk
theorem gf_X11_28 (hx : bo_OK x cc RX11 nL fr lo) (hd : decode cc pc = .ok (.getfield 28, 3)) (kk : bo_D x (pc + 3) L (.ref (bo_a x 142) :: S) σ M k) : bo_D x pc L (.ref (bo_a x 135) :: S) σ M k := bo_get (C := RX11) (T := TX11) (N := 54) (i := 13) hx bo_o_135 rfl (by decide) in_X11 fl_X11_28 rfl rfl hd kk
theorem gf_X11_31 (hx : bo_OK x cc RX11 nL fr lo) (hd : decode cc pc = .ok (.getfield 31, 3)) (kk : bo_D x (pc + 3) L (.ref (bo_a x 143) :: S) σ M k) : bo_D x pc L (.ref (bo_a x 135) :: S) σ M k := bo_get (C := RX11) (T := TX11) (N := 54) (i := 15) hx bo_o_135 rfl (by decide) in_X11 fl_X11_31 rfl rfl hd kk
theorem gf_X11_34 (hx : bo_OK x cc RX11 nL fr lo) (hd : decode cc pc = .ok (.getfield 34, 3)) (kk : bo_D x (pc + 3) L (.ref (bo_a x 144) :: S) σ M k) : bo_D x pc L (.ref (bo_a x 135) :: S) σ M k := bo_get (C := RX11) (T := TX11) (N := 54) (i := 16) hx bo_o_135 rfl (by decide) in_X11 fl_X11_34 rfl rfl hd kk
theorem gf_X11_37 (hx : bo_OK x cc RX11 nL fr lo) (hd : decode cc pc = .ok (.getfield 37, 3)) (kk : bo_D x (pc + 3) L (.ref (bo_a x 145) :: S) σ M k) : bo_D x pc L (.ref (bo_a x 135) :: S) σ M k := bo_get (C := RX11) (T := TX11) (N := 54) (i := 18) hx bo_o_135 rfl (by decide) in_X11 fl_X11_37 rfl rfl hd kk
theorem gf_X11_40 (hx : bo_OK x cc RX11 nL fr lo) (hd : decode cc pc = .ok (.getfield 40, 3)) (kk : bo_D x (pc + 3) L (.int (σ 135 20) :: S) σ M k) : bo_D x pc L (.ref (bo_a x 135) :: S) σ M k := bo_get (C := RX11) (T := TX11) (N := 54) (i := 20) hx bo_o_135 rfl (by decide) in_X11 fl_X11_40 rfl rfl hd kk
theorem gf_X11_44 (hx : bo_OK x cc RX11 nL fr lo) (hd : decode cc pc = .ok (.getfield 44, 3)) (kk : bo_D x (pc + 3) L (.ref (bo_a x 146) :: S) σ M k) : bo_D x pc L (.ref (bo_a x 135) :: S) σ M k := bo_get (C := RX11) (T := TX11) (N := 54) (i := 25) hx bo_o_135 rfl (by decide) in_X11 fl_X11_44 rfl rfl hd kk
theorem gf_X11_47 (hx : bo_OK x cc RX11 nL fr lo) (hd : decode cc pc = .ok (.getfield 47, 3)) (kk : bo_D x (pc + 3) L (.ref (bo_a x 147) :: S) σ M k) : bo_D x pc L (.ref (bo_a x 135) :: S) σ M k := bo_get (C := RX11) (T := TX11) (N := 54) (i := 27) hx bo_o_135 rfl (by decide) in_X11 fl_X11_47 rfl rfl hd kk
theorem gf_X11_50 (hx : bo_OK x cc RX11 nL fr lo) (hd : decode cc pc = .ok (.getfield 50, 3)) (kk : bo_D x (pc + 3) L (.ref (bo_a x 148) :: S) σ M k) : bo_D x pc L (.ref (bo_a x 135) :: S) σ M k := bo_get (C := RX11) (T := TX11) (N := 54) (i := 28) hx bo_o_135 rfl (by decide) in_X11 fl_X11_50 rfl rfl hd kk
theorem gf_X11_53 (hx : bo_OK x cc RX11 nL fr lo) (hd : decode cc pc = .ok (.getfield 53, 3)) (kk : bo_D x (pc + 3) L (.ref (bo_a x 149) :: S) σ M k) : bo_D x pc L (.ref (bo_a x 135) :: S) σ M k := bo_get (C := RX11) (T := TX11) (N := 54) (i := 29) hx bo_o_135 rfl (by decide) in_X11 fl_X11_53 rfl rfl hd kk
theorem gf_X11_56 (hx : bo_OK x cc RX11 nL fr lo) (hd : decode cc pc = .ok (.getfield 56, 3)) (kk : bo_D x (pc + 3) L (.ref (bo_a x 150) :: S) σ M k) : bo_D x pc L (.ref (bo_a x 135) :: S) σ M k := bo_get (C := RX11) (T := TX11) (N := 54) (i := 31) hx bo_o_135 rfl (by decide) in_X11 fl_X11_56 rfl rfl hd kk
theorem gf_X11_59 (hx : bo_OK x cc RX11 nL fr lo) (hd : decode cc pc = .ok (.getfield 59, 3)) (kk : bo_D x (pc + 3) L (.ref (bo_a x 151) :: S) σ M k) : bo_D x pc L (.ref (bo_a x 135) :: S) σ M k := bo_get (C := RX11) (T := TX11) (N := 54) (i := 32) hx bo_o_135 rfl (by decide) in_X11 fl_X11_59 rfl rfl hd kk
theorem gf_X11_62 (hx : bo_OK x cc RX11 nL fr lo) (hd : decode cc pc = .ok (.getfield 62, 3)) (kk : bo_D x (pc + 3) L (.ref (bo_a x 152) :: S) σ M k) : bo_D x pc L (.ref (bo_a x 135) :: S) σ M k := bo_get (C := RX11) (T := TX11) (N := 54) (i := 34) hx bo_o_135 rfl (by decide) in_X11 fl_X11_62 rfl rfl hd kk
theorem gf_X11_65 (hx : bo_OK x cc RX11 nL fr lo) (hd : decode cc pc = .ok (.getfield 65, 3)) (kk : bo_D x (pc + 3) L (.ref (bo_a x 153) :: S) σ M k) : bo_D x pc L (.ref (bo_a x 135) :: S) σ M k := bo_get (C := RX11) (T := TX11) (N := 54) (i := 35) hx bo_o_135 rfl (by decide) in_X11 fl_X11_65 rfl rfl hd kk
theorem gf_X11_68 (hx : bo_OK x cc RX11 nL fr lo) (hd : decode cc pc = .ok (.getfield 68, 3)) (kk : bo_D x (pc + 3) L (.ref (bo_a x 154) :: S) σ M k) : bo_D x pc L (.ref (bo_a x 135) :: S) σ M k := bo_get (C := RX11) (T := TX11) (N := 54) (i := 37) hx bo_o_135 rfl (by decide) in_X11 fl_X11_68 rfl rfl hd kk
theorem gf_X11_71 (hx : bo_OK x cc RX11 nL fr lo) (hd : decode cc pc = .ok (.getfield 71, 3)) (kk : bo_D x (pc + 3) L (.ref (bo_a x 155) :: S) σ M k) : bo_D x pc L (.ref (bo_a x 135) :: S) σ M k := bo_get (C := RX11) (T := TX11) (N := 54) (i := 39) hx bo_o_135 rfl (by decide) in_X11 fl_X11_71 rfl rfl hd kk
theorem gf_X11_74 (hx : bo_OK x cc RX11 nL fr lo) (hd : decode cc pc = .ok (.getfield 74, 3)) (kk : bo_D x (pc + 3) L (.ref (bo_a x 156) :: S) σ M k) : bo_D x pc L (.ref (bo_a x 135) :: S) σ M k := bo_get (C := RX11) (T := TX11) (N := 54) (i := 40) hx bo_o_135 rfl (by decide) in_X11 fl_X11_74 rfl rfl hd kk
theorem gf_X11_77 (hx : bo_OK x cc RX11 nL fr lo) (hd : decode cc pc = .ok (.getfield 77, 3)) (kk : bo_D x (pc + 3) L (.ref (bo_a x 157) :: S) σ M k) : bo_D x pc L (.ref (bo_a x 135) :: S) σ M k := bo_get (C := RX11) (T := TX11) (N := 54) (i := 41) hx bo_o_135 rfl (by decide) in_X11 fl_X11_77 rfl rfl hd kk
theorem gf_X11_80 (hx : bo_OK x cc RX11 nL fr lo) (hd : decode cc pc = .ok (.getfield 80, 3)) (kk : bo_D x (pc + 3) L (.ref (bo_a x 158) :: S) σ M k) : bo_D x pc L (.ref (bo_a x 135) :: S) σ M k := bo_get (C := RX11) (T := TX11) (N := 54) (i := 42) hx bo_o_135 rfl (by decide) in_X11 fl_X11_80 rfl rfl hd kk
theorem gf_X11_83 (hx : bo_OK x cc RX11 nL fr lo) (hd : decode cc pc = .ok (.getfield 83, 3)) (kk : bo_D x (pc + 3) L (.ref (bo_a x 159) :: S) σ M k) : bo_D x pc L (.ref (bo_a x 135) :: S) σ M k := bo_get (C := RX11) (T := TX11) (N := 54) (i := 43) hx bo_o_135 rfl (by decide) in_X11 fl_X11_83 rfl rfl hd kk
theorem gf_X11_86 (hx : bo_OK x cc RX11 nL fr lo) (hd : decode cc pc = .ok (.getfield 86, 3)) (kk : bo_D x (pc + 3) L (.ref (bo_a x 160) :: S) σ M k) : bo_D x pc L (.ref (bo_a x 135) :: S) σ M k := bo_get (C := RX11) (T := TX11) (N := 54) (i := 45) hx bo_o_135 rfl (by decide) in_X11 fl_X11_86 rfl rfl hd kk
theorem gf_X11_89 (hx : bo_OK x cc RX11 nL fr lo) (hd : decode cc pc = .ok (.getfield 89, 3)) (kk : bo_D x (pc + 3) L (.ref (bo_a x 161) :: S) σ M k) : bo_D x pc L (.ref (bo_a x 135) :: S) σ M k := bo_get (C := RX11) (T := TX11) (N := 54) (i := 46) hx bo_o_135 rfl (by decide) in_X11 fl_X11_89 rfl rfl hd kk
theorem gf_X11_92 (hx : bo_OK x cc RX11 nL fr lo) (hd : decode cc pc = .ok (.getfield 92, 3)) (kk : bo_D x (pc + 3) L (.ref (bo_a x 162) :: S) σ M k) : bo_D x pc L (.ref (bo_a x 135) :: S) σ M k := bo_get (C := RX11) (T := TX11) (N := 54) (i := 47) hx bo_o_135 rfl (by decide) in_X11 fl_X11_92 rfl rfl hd kk
theorem gf_X11_96 (hx : bo_OK x cc RX11 nL fr lo) (hd : decode cc pc = .ok (.getfield 96, 3)) (kk : bo_D x (pc + 3) L (.ref (bo_a x 163) :: S) σ M k) : bo_D x pc L (.ref (bo_a x 135) :: S) σ M k := bo_get (C := RX11) (T := TX11) (N := 54) (i := 48) hx bo_o_135 rfl (by decide) in_X11 fl_X11_96 rfl rfl hd kk
theorem gf_X11_99 (hx : bo_OK x cc RX11 nL fr lo) (hd : decode cc pc = .ok (.getfield 99, 3)) (kk : bo_D x (pc + 3) L (.ref (bo_a x 164) :: S) σ M k) : bo_D x pc L (.ref (bo_a x 135) :: S) σ M k := bo_get (C := RX11) (T := TX11) (N := 54) (i := 50) hx bo_o_135 rfl (by decide) in_X11 fl_X11_99 rfl rfl hd kk
theorem gf_X11_102 (hx : bo_OK x cc RX11 nL fr lo) (hd : decode cc pc = .ok (.getfield 102, 3)) (kk : bo_D x (pc + 3) L (.ref (bo_a x 165) :: S) σ M k) : bo_D x pc L (.ref (bo_a x 135) :: S) σ M k := bo_get (C := RX11) (T := TX11) (N := 54) (i := 51) hx bo_o_135 rfl (by decide) in_X11 fl_X11_102 rfl rfl hd kk
theorem gf_X11_105 (hx : bo_OK x cc RX11 nL fr lo) (hd : decode cc pc = .ok (.getfield 105, 3)) (kk : bo_D x (pc + 3) L (.ref (bo_a x 166) :: S) σ M k) : bo_D x pc L (.ref (bo_a x 135) :: S) σ M k := bo_get (C := RX11) (T := TX11) (N := 54) (i := 52) hx bo_o_135 rfl (by decide) in_X11 fl_X11_105 rfl rfl hd kk
theorem gf_X11_108 (hx : bo_OK x cc RX11 nL fr lo) (hd : decode cc pc = .ok (.getfield 108, 3)) (kk : bo_D x (pc + 3) L (.ref (bo_a x 167) :: S) σ M k) : bo_D x pc L (.ref (bo_a x 135) :: S) σ M k := bo_get (C := RX11) (T := TX11) (N := 54) (i := 53) hx bo_o_135 rfl (by decide) in_X11 fl_X11_108 rfl rfl hd kk
theorem gf_X11_111 (hx : bo_OK x cc RX11 nL fr lo) (hd : decode cc pc = .ok (.getfield 111, 3)) (kk : bo_D x (pc + 3) L (.int (σ 135 0 &&& 1) :: S) σ M k) : bo_D x pc L (.ref (bo_a x 135) :: S) σ M k := bo_get (C := RX11) (T := TX11) (N := 54) (i := 0) hx bo_o_135 rfl (by decide) in_X11 fl_X11_111 rfl rfl hd kk
theorem gf_X11_115 (hx : bo_OK x cc RX11 nL fr lo) (hd : decode cc pc = .ok (.getfield 115, 3)) (kk : bo_D x (pc + 3) L (.int (σ 135 4) :: S) σ M k) : bo_D x pc L (.ref (bo_a x 135) :: S) σ M k := bo_get (C := RX11) (T := TX11) (N := 54) (i := 4) hx bo_o_135 rfl (by decide) in_X11 fl_X11_115 rfl rfl hd kk
theorem gf_X11_122 (hx : bo_OK x cc RX11 nL fr lo) (hd : decode cc pc = .ok (.getfield 122, 3)) (kk : bo_D x (pc + 3) L (.int (σ 135 11) :: S) σ M k) : bo_D x pc L (.ref (bo_a x 135) :: S) σ M k := bo_get (C := RX11) (T := TX11) (N := 54) (i := 11) hx bo_o_135 rfl (by decide) in_X11 fl_X11_122 rfl rfl hd kk
theorem gf_X11_128 (hx : bo_OK x cc RX11 nL fr lo) (hd : decode cc pc = .ok (.getfield 128, 3)) (kk : bo_D x (pc + 3) L (.int (σ 135 19) :: S) σ M k) : bo_D x pc L (.ref (bo_a x 135) :: S) σ M k := bo_get (C := RX11) (T := TX11) (N := 54) (i := 19) hx bo_o_135 rfl (by decide) in_X11 fl_X11_128 rfl rfl hd kk
theorem gf_X11_132 (hx : bo_OK x cc RX11 nL fr lo) (hd : decode cc pc = .ok (.getfield 132, 3)) (kk : bo_D x (pc + 3) L (.int (σ 135 21) :: S) σ M k) : bo_D x pc L (.ref (bo_a x 135) :: S) σ M k := bo_get (C := RX11) (T := TX11) (N := 54) (i := 21) hx bo_o_135 rfl (by decide) in_X11 fl_X11_132 rfl rfl hd kk
theorem gf_X11_147 (hx : bo_OK x cc RX11 nL fr lo) (hd : decode cc pc = .ok (.getfield 147, 3)) (kk : bo_D x (pc + 3) L (.int (σ 135 23) :: S) σ M k) : bo_D x pc L (.ref (bo_a x 135) :: S) σ M k := bo_get (C := RX11) (T := TX11) (N := 54) (i := 23) hx bo_o_135 rfl (by decide) in_X11 fl_X11_147 rfl rfl hd kk
theorem gf_X11_150 (hx : bo_OK x cc RX11 nL fr lo) (hd : decode cc pc = .ok (.getfield 150, 3)) (kk : bo_D x (pc + 3) L (.int (σ 135 22) :: S) σ M k) : bo_D x pc L (.ref (bo_a x 135) :: S) σ M k := bo_get (C := RX11) (T := TX11) (N := 54) (i := 22) hx bo_o_135 rfl (by decide) in_X11 fl_X11_150 rfl rfl hd kk
theorem gf_X11_156 (hx : bo_OK x cc RX11 nL fr lo) (hd : decode cc pc = .ok (.getfield 156, 3)) (kk : bo_D x (pc + 3) L (.int (σ 135 24 &&& 1) :: S) σ M k) : bo_D x pc L (.ref (bo_a x 135) :: S) σ M k := bo_get (C := RX11) (T := TX11) (N := 54) (i := 24) hx bo_o_135 rfl (by decide) in_X11 fl_X11_156 rfl rfl hd kk
theorem gf_X11_163 (hx : bo_OK x cc RX11 nL fr lo) (hd : decode cc pc = .ok (.getfield 163, 3)) (kk : bo_D x (pc + 3) L (.int (σ 135 26) :: S) σ M k) : bo_D x pc L (.ref (bo_a x 135) :: S) σ M k := bo_get (C := RX11) (T := TX11) (N := 54) (i := 26) hx bo_o_135 rfl (by decide) in_X11 fl_X11_163 rfl rfl hd kk
theorem gf_X11_166 (hx : bo_OK x cc RX11 nL fr lo) (hd : decode cc pc = .ok (.getfield 166, 3)) (kk : bo_D x (pc + 3) L (.int (σ 135 30) :: S) σ M k) : bo_D x pc L (.ref (bo_a x 135) :: S) σ M k := bo_get (C := RX11) (T := TX11) (N := 54) (i := 30) hx bo_o_135 rfl (by decide) in_X11 fl_X11_166 rfl rfl hd kk
theorem gf_X11_169 (hx : bo_OK x cc RX11 nL fr lo) (hd : decode cc pc = .ok (.getfield 169, 3)) (kk : bo_D x (pc + 3) L (.int (σ 135 33) :: S) σ M k) : bo_D x pc L (.ref (bo_a x 135) :: S) σ M k := bo_get (C := RX11) (T := TX11) (N := 54) (i := 33) hx bo_o_135 rfl (by decide) in_X11 fl_X11_169 rfl rfl hd kk
theorem gf_X11_172 (hx : bo_OK x cc RX11 nL fr lo) (hd : decode cc pc = .ok (.getfield 172, 3)) (kk : bo_D x (pc + 3) L (.int (σ 135 36) :: S) σ M k) : bo_D x pc L (.ref (bo_a x 135) :: S) σ M k := bo_get (C := RX11) (T := TX11) (N := 54) (i := 36) hx bo_o_135 rfl (by decide) in_X11 fl_X11_172 rfl rfl hd kk
theorem gf_X11_201 (hx : bo_OK x cc RX11 nL fr lo) (hd : decode cc pc = .ok (.getfield 201, 3)) (kk : bo_D x (pc + 3) L (.int (σ 135 1) :: S) σ M k) : bo_D x pc L (.ref (bo_a x 135) :: S) σ M k := bo_get (C := RX11) (T := TX11) (N := 54) (i := 1) hx bo_o_135 rfl (by decide) in_X11 fl_X11_201 rfl rfl hd kk
theorem gf_X11_204 (hx : bo_OK x cc RX11 nL fr lo) (hd : decode cc pc = .ok (.getfield 204, 3)) (kk : bo_D x (pc + 3) L (.int (σ 135 2) :: S) σ M k) : bo_D x pc L (.ref (bo_a x 135) :: S) σ M k := bo_get (C := RX11) (T := TX11) (N := 54) (i := 2) hx bo_o_135 rfl (by decide) in_X11 fl_X11_204 rfl rfl hd kk
theorem gf_X11_207 (hx : bo_OK x cc RX11 nL fr lo) (hd : decode cc pc = .ok (.getfield 207, 3)) (kk : bo_D x (pc + 3) L (.int (σ 135 3) :: S) σ M k) : bo_D x pc L (.ref (bo_a x 135) :: S) σ M k := bo_get (C := RX11) (T := TX11) (N := 54) (i := 3) hx bo_o_135 rfl (by decide) in_X11 fl_X11_207 rfl rfl hd kk
theorem gf_X11_210 (hx : bo_OK x cc RX11 nL fr lo) (hd : decode cc pc = .ok (.getfield 210, 3)) (kk : bo_D x (pc + 3) L (.int (σ 135 8) :: S) σ M k) : bo_D x pc L (.ref (bo_a x 135) :: S) σ M k := bo_get (C := RX11) (T := TX11) (N := 54) (i := 8) hx bo_o_135 rfl (by decide) in_X11 fl_X11_210 rfl rfl hd kk
theorem gf_X11_213 (hx : bo_OK x cc RX11 nL fr lo) (hd : decode cc pc = .ok (.getfield 213, 3)) (kk : bo_D x (pc + 3) L (.int (σ 135 14) :: S) σ M k) : bo_D x pc L (.ref (bo_a x 135) :: S) σ M k := bo_get (C := RX11) (T := TX11) (N := 54) (i := 14) hx bo_o_135 rfl (by decide) in_X11 fl_X11_213 rfl rfl hd kk
theorem gf_X11_226 (hx : bo_OK x cc RX11 nL fr lo) (hd : decode cc pc = .ok (.getfield 226, 3)) (kk : bo_D x (pc + 3) L (.int (σ 135 44) :: S) σ M k) : bo_D x pc L (.ref (bo_a x 135) :: S) σ M k := bo_get (C := RX11) (T := TX11) (N := 54) (i := 44) hx bo_o_135 rfl (by decide) in_X11 fl_X11_226 rfl rfl hd kk
theorem gf_X11_229 (hx : bo_OK x cc RX11 nL fr lo) (hd : decode cc pc = .ok (.getfield 229, 3)) (kk : bo_D x (pc + 3) L (.int (σ 135 49) :: S) σ M k) : bo_D x pc L (.ref (bo_a x 135) :: S) σ M k := bo_get (C := RX11) (T := TX11) (N := 54) (i := 49) hx bo_o_135 rfl (by decide) in_X11 fl_X11_229 rfl rfl hd kk
theorem gf_X11_232 (hx : bo_OK x cc RX11 nL fr lo) (hd : decode cc pc = .ok (.getfield 232, 3)) (kk : bo_D x (pc + 3) L (.int (σ 135 38) :: S) σ M k) : bo_D x pc L (.ref (bo_a x 135) :: S) σ M k := bo_get (C := RX11) (T := TX11) (N := 54) (i := 38) hx bo_o_135 rfl (by decide) in_X11 fl_X11_232 rfl rfl hd kk
theorem gf_X11_294 (hx : bo_OK x cc RX11 nL fr lo) (hd : decode cc pc = .ok (.getfield 294, 3)) (kk : bo_D x (pc + 3) L (.int (σ 135 17) :: S) σ M k) : bo_D x pc L (.ref (bo_a x 135) :: S) σ M k := bo_get (C := RX11) (T := TX11) (N := 54) (i := 17) hx bo_o_135 rfl (by decide) in_X11 fl_X11_294 rfl rfl hd kk
theorem pf_X10_71 (hx : bo_OK x cc RX10 nL fr lo) {v : Int32} (hd : decode cc pc = .ok (.putfield 71, 3)) {K : bo_M → Option α} (kk : ∀ σ', bo_D x (pc + 3) L S σ' (K σ') k) : bo_D x pc L (.ref (bo_a x (bo_inn v)) :: .ref (bo_a x 0) :: S) σ ((some (bo_up σ 0 9 v)).bind K) k := bo_put (C := RX10) (T := TX10) (N := 12) (i := 9) (ty := .object "BellRope$Inn") hx bo_o_0 rfl (by decide) in_X10 fl_X10_71 rfl rfl tyX10_ok nmX10 rfl (by decide +kernel) rfl rfl (by show Value.ref ((bo_g x).2.2 (bo_inn (upd (σ 0) 9 v 9))) = _; rw [upd, if_pos rfl]) hd kk
theorem pf_X10_75 (hx : bo_OK x cc RX10 nL fr lo) {v : Int32} (hd : decode cc pc = .ok (.putfield 75, 3)) {K : bo_M → Option α} (kk : ∀ σ', bo_D x (pc + 3) L S σ' (K σ') k) : bo_D x pc L (.ref (bo_a x (bo_inn v)) :: .ref (bo_a x 0) :: S) σ ((some (bo_up σ 0 10 v)).bind K) k := bo_put (C := RX10) (T := TX10) (N := 12) (i := 10) (ty := .object "BellRope$Inn") hx bo_o_0 rfl (by decide) in_X10 fl_X10_75 rfl rfl tyX10_ok nmX10 rfl (by decide +kernel) rfl rfl (by show Value.ref ((bo_g x).2.2 (bo_inn (upd (σ 0) 10 v 10))) = _; rw [upd, if_pos rfl]) hd kk
theorem pf_X10_83 (hx : bo_OK x cc RX10 nL fr lo) {v : Int32} (hd : decode cc pc = .ok (.putfield 83, 3)) {K : bo_M → Option α} (kk : ∀ σ', bo_D x (pc + 3) L S σ' (K σ') k) : bo_D x pc L (.int v :: .ref (bo_a x 1) :: S) σ ((some (bo_up σ 1 4 v)).bind K) k := bo_put (C := RX7) (T := TX7) (N := 6) (i := 4) (ty := .int) hx bo_o_1 rfl (by decide) in_X7 fl_X10_83 rfl rfl tyX7_ok nmX7 rfl (by decide +kernel) rfl rfl (by show Value.int (upd (σ 1) 4 v 4) = _; rw [upd, if_pos rfl]) hd kk
theorem pf_X10_95 (hx : bo_OK x cc RX10 nL fr lo) {v : Int32} (hd : decode cc pc = .ok (.putfield 95, 3)) {K : bo_M → Option α} (kk : ∀ σ', bo_D x (pc + 3) L S σ' (K σ') k) : bo_D x pc L (.int v :: .ref (bo_a x 3) :: S) σ ((some (bo_up σ 3 1 v)).bind K) k := bo_put (C := RX6) (T := TX6) (N := 2) (i := 1) (ty := .int) hx bo_o_3 rfl (by decide) in_X6 fl_X10_95 rfl rfl tyX6_ok nmX6 rfl (by decide +kernel) rfl rfl (by show Value.int (upd (σ 3) 1 v 1) = _; rw [upd, if_pos rfl]) hd kk
theorem pf_X10_96 (hx : bo_OK x cc RX10 nL fr lo) {o : Nat} {v : Int32} (ho : bo_isIm o) (hB : bo_B v) (hd : decode cc pc = .ok (.putfield 96, 3)) {K : bo_M → Option α} (kk : ∀ σ', bo_D x (pc + 3) L S σ' (K σ') k) : bo_D x pc L (.int v :: .ref (bo_a x o) :: S) σ ((some (bo_up σ o 2 v)).bind K) k := bo_put (C := RX3) (T := TX3) (N := 3) (i := 2) (ty := .boolean) hx ho.o rfl (by decide) in_X3 fl_X10_96 rfl rfl tyX3_ok nmX3 rfl (by decide +kernel) (by rw [show narrow .boolean (.int v) = .int (v &&& 1) from rfl, hB.and]) hB.fit (by show Value.int (upd (σ o) 2 v 2 &&& 1) = _; rw [upd, if_pos rfl, hB.and]) hd kk
theorem pf_X10_100 (hx : bo_OK x cc RX10 nL fr lo) {v : Int32} (hd : decode cc pc = .ok (.putfield 100, 3)) {K : bo_M → Option α} (kk : ∀ σ', bo_D x (pc + 3) L S σ' (K σ') k) : bo_D x pc L (.int v :: .ref (bo_a x 24) :: S) σ ((some (bo_up σ 24 4 v)).bind K) k := bo_put (C := RX5) (T := TX5) (N := 6) (i := 4) (ty := .int) hx bo_o_24 rfl (by decide) in_X5 fl_X10_100 rfl rfl tyX5_ok nmX5 rfl (by decide +kernel) rfl rfl (by show Value.int (upd (σ 24) 4 v 4) = _; rw [upd, if_pos rfl]) hd kk
theorem pf_X10_101 (hx : bo_OK x cc RX10 nL fr lo) {v : Int32} (hd : decode cc pc = .ok (.putfield 101, 3)) {K : bo_M → Option α} (kk : ∀ σ', bo_D x (pc + 3) L S σ' (K σ') k) : bo_D x pc L (.int v :: .ref (bo_a x 29) :: S) σ ((some (bo_up σ 29 2 v)).bind K) k := bo_put (C := RX0) (T := TX0) (N := 3) (i := 2) (ty := .int) hx bo_o_29 rfl (by decide) in_X0 fl_X10_101 rfl rfl tyX0_ok nmX0 rfl (by decide +kernel) rfl rfl (by show Value.int (upd (σ 29) 2 v 2) = _; rw [upd, if_pos rfl]) hd kk
theorem pf_X10_123 (hx : bo_OK x cc RX10 nL fr lo) {o : Nat} {v : Int32} (ho : bo_isEv o) (hd : decode cc pc = .ok (.putfield 123, 3)) {K : bo_M → Option α} (kk : ∀ σ', bo_D x (pc + 3) L S σ' (K σ') k) : bo_D x pc L (.int v :: .ref (bo_a x o) :: S) σ ((some (bo_up σ o 5 v)).bind K) k := bo_put (C := RX2) (T := TX2) (N := 10) (i := 5) (ty := .int) hx ho.o rfl (by decide) in_X2 fl_X10_123 rfl rfl tyX2_ok nmX2 rfl (by decide +kernel) rfl rfl (by show Value.int (upd (σ o) 5 v 5) = _; rw [upd, if_pos rfl]) hd kk
theorem pf_X10_133 (hx : bo_OK x cc RX10 nL fr lo) {o : Nat} {v : Int32} (ho : bo_isEv o) (hd : decode cc pc = .ok (.putfield 133, 3)) {K : bo_M → Option α} (kk : ∀ σ', bo_D x (pc + 3) L S σ' (K σ') k) : bo_D x pc L (.int v :: .ref (bo_a x o) :: S) σ ((some (bo_up σ o 7 v)).bind K) k := bo_put (C := RX2) (T := TX2) (N := 10) (i := 7) (ty := .int) hx ho.o rfl (by decide) in_X2 fl_X10_133 rfl rfl tyX2_ok nmX2 rfl (by decide +kernel) rfl rfl (by show Value.int (upd (σ o) 7 v 7) = _; rw [upd, if_pos rfl]) hd kk
theorem pf_X10_143 (hx : bo_OK x cc RX10 nL fr lo) {o : Nat} {v : Int32} (ho : bo_isEv o) (hd : decode cc pc = .ok (.putfield 143, 3)) {K : bo_M → Option α} (kk : ∀ σ', bo_D x (pc + 3) L S σ' (K σ') k) : bo_D x pc L (.int v :: .ref (bo_a x o) :: S) σ ((some (bo_up σ o 9 v)).bind K) k := bo_put (C := RX2) (T := TX2) (N := 10) (i := 9) (ty := .int) hx ho.o rfl (by decide) in_X2 fl_X10_143 rfl rfl tyX2_ok nmX2 rfl (by decide +kernel) rfl rfl (by show Value.int (upd (σ o) 9 v 9) = _; rw [upd, if_pos rfl]) hd kk
theorem pf_X10_321 (hx : bo_OK x cc RX10 nL fr lo) {v : Int32} (hd : decode cc pc = .ok (.putfield 321, 3)) {K : bo_M → Option α} (kk : ∀ σ', bo_D x (pc + 3) L S σ' (K σ') k) : bo_D x pc L (.int v :: .ref (bo_a x 0) :: S) σ ((some (bo_up σ 0 11 v)).bind K) k := bo_put (C := RX10) (T := TX10) (N := 12) (i := 11) (ty := .int) hx bo_o_0 rfl (by decide) in_X10 fl_X10_321 rfl rfl tyX10_ok nmX10 rfl (by decide +kernel) rfl rfl (by show Value.int (upd (σ 0) 11 v 11) = _; rw [upd, if_pos rfl]) hd kk
theorem pf_X10_332 (hx : bo_OK x cc RX10 nL fr lo) {o : Nat} {v : Int32} (ho : bo_isIm o) (hd : decode cc pc = .ok (.putfield 332, 3)) {K : bo_M → Option α} (kk : ∀ σ', bo_D x (pc + 3) L S σ' (K σ') k) : bo_D x pc L (.int v :: .ref (bo_a x o) :: S) σ ((some (bo_up σ o 1 v)).bind K) k := bo_put (C := RX3) (T := TX3) (N := 3) (i := 1) (ty := .int) hx ho.o rfl (by decide) in_X3 fl_X10_332 rfl rfl tyX3_ok nmX3 rfl (by decide +kernel) rfl rfl (by show Value.int (upd (σ o) 1 v 1) = _; rw [upd, if_pos rfl]) hd kk
theorem pf_X0_18 (hx : bo_OK x cc RX0 nL fr lo) {v : Int32} (hd : decode cc pc = .ok (.putfield 18, 3)) {K : bo_M → Option α} (kk : ∀ σ', bo_D x (pc + 3) L S σ' (K σ') k) : bo_D x pc L (.int v :: .ref (bo_a x 29) :: S) σ ((some (bo_up σ 29 2 v)).bind K) k := bo_put (C := RX0) (T := TX0) (N := 3) (i := 2) (ty := .int) hx bo_o_29 rfl (by decide) in_X0 fl_X0_18 rfl rfl tyX0_ok nmX0 rfl (by decide +kernel) rfl rfl (by show Value.int (upd (σ 29) 2 v 2) = _; rw [upd, if_pos rfl]) hd kk
theorem pf_X2_24 (hx : bo_OK x cc RX2 nL fr lo) {o : Nat} {v : Int32} (ho : bo_isEv o) (hd : decode cc pc = .ok (.putfield 24, 3)) {K : bo_M → Option α} (kk : ∀ σ', bo_D x (pc + 3) L S σ' (K σ') k) : bo_D x pc L (.int v :: .ref (bo_a x o) :: S) σ ((some (bo_up σ o 4 v)).bind K) k := bo_put (C := RX2) (T := TX2) (N := 10) (i := 4) (ty := .int) hx ho.o rfl (by decide) in_X2 fl_X2_24 rfl rfl tyX2_ok nmX2 rfl (by decide +kernel) rfl rfl (by show Value.int (upd (σ o) 4 v 4) = _; rw [upd, if_pos rfl]) hd kk
theorem pf_X2_28 (hx : bo_OK x cc RX2 nL fr lo) {o : Nat} {v : Int32} (ho : bo_isEv o) (hd : decode cc pc = .ok (.putfield 28, 3)) {K : bo_M → Option α} (kk : ∀ σ', bo_D x (pc + 3) L S σ' (K σ') k) : bo_D x pc L (.int v :: .ref (bo_a x o) :: S) σ ((some (bo_up σ o 5 v)).bind K) k := bo_put (C := RX2) (T := TX2) (N := 10) (i := 5) (ty := .int) hx ho.o rfl (by decide) in_X2 fl_X2_28 rfl rfl tyX2_ok nmX2 rfl (by decide +kernel) rfl rfl (by show Value.int (upd (σ o) 5 v 5) = _; rw [upd, if_pos rfl]) hd kk
theorem pf_X2_31 (hx : bo_OK x cc RX2 nL fr lo) {o : Nat} {v : Int32} (ho : bo_isEv o) (hd : decode cc pc = .ok (.putfield 31, 3)) {K : bo_M → Option α} (kk : ∀ σ', bo_D x (pc + 3) L S σ' (K σ') k) : bo_D x pc L (.int v :: .ref (bo_a x o) :: S) σ ((some (bo_up σ o 6 v)).bind K) k := bo_put (C := RX2) (T := TX2) (N := 10) (i := 6) (ty := .int) hx ho.o rfl (by decide) in_X2 fl_X2_31 rfl rfl tyX2_ok nmX2 rfl (by decide +kernel) rfl rfl (by show Value.int (upd (σ o) 6 v 6) = _; rw [upd, if_pos rfl]) hd kk
theorem pf_X2_34 (hx : bo_OK x cc RX2 nL fr lo) {o : Nat} {v : Int32} (ho : bo_isEv o) (hd : decode cc pc = .ok (.putfield 34, 3)) {K : bo_M → Option α} (kk : ∀ σ', bo_D x (pc + 3) L S σ' (K σ') k) : bo_D x pc L (.int v :: .ref (bo_a x o) :: S) σ ((some (bo_up σ o 7 v)).bind K) k := bo_put (C := RX2) (T := TX2) (N := 10) (i := 7) (ty := .int) hx ho.o rfl (by decide) in_X2 fl_X2_34 rfl rfl tyX2_ok nmX2 rfl (by decide +kernel) rfl rfl (by show Value.int (upd (σ o) 7 v 7) = _; rw [upd, if_pos rfl]) hd kk
theorem pf_X2_37 (hx : bo_OK x cc RX2 nL fr lo) {o : Nat} {v : Int32} (ho : bo_isEv o) (hd : decode cc pc = .ok (.putfield 37, 3)) {K : bo_M → Option α} (kk : ∀ σ', bo_D x (pc + 3) L S σ' (K σ') k) : bo_D x pc L (.int v :: .ref (bo_a x o) :: S) σ ((some (bo_up σ o 8 v)).bind K) k := bo_put (C := RX2) (T := TX2) (N := 10) (i := 8) (ty := .int) hx ho.o rfl (by decide) in_X2 fl_X2_37 rfl rfl tyX2_ok nmX2 rfl (by decide +kernel) rfl rfl (by show Value.int (upd (σ o) 8 v 8) = _; rw [upd, if_pos rfl]) hd kk
theorem pf_X2_40 (hx : bo_OK x cc RX2 nL fr lo) {o : Nat} {v : Int32} (ho : bo_isEv o) (hd : decode cc pc = .ok (.putfield 40, 3)) {K : bo_M → Option α} (kk : ∀ σ', bo_D x (pc + 3) L S σ' (K σ') k) : bo_D x pc L (.int v :: .ref (bo_a x o) :: S) σ ((some (bo_up σ o 9 v)).bind K) k := bo_put (C := RX2) (T := TX2) (N := 10) (i := 9) (ty := .int) hx ho.o rfl (by decide) in_X2 fl_X2_40 rfl rfl tyX2_ok nmX2 rfl (by decide +kernel) rfl rfl (by show Value.int (upd (σ o) 9 v 9) = _; rw [upd, if_pos rfl]) hd kk
theorem pf_X4_33 (hx : bo_OK x cc RX4 nL fr lo) {o : Nat} {v : Int32} (ho : bo_isInn o) (hB : bo_B v) (hd : decode cc pc = .ok (.putfield 33, 3)) {K : bo_M → Option α} (kk : ∀ σ', bo_D x (pc + 3) L S σ' (K σ') k) : bo_D x pc L (.int v :: .ref (bo_a x o) :: S) σ ((some (bo_up σ o 7 v)).bind K) k := bo_put (C := RX4) (T := TX4) (N := 15) (i := 7) (ty := .boolean) hx ho.o rfl (by decide) in_X4 fl_X4_33 rfl rfl tyX4_ok nmX4 rfl (by decide +kernel) (by rw [show narrow .boolean (.int v) = .int (v &&& 1) from rfl, hB.and]) hB.fit (by show Value.int (upd (σ o) 7 v 7 &&& 1) = _; rw [upd, if_pos rfl, hB.and]) hd kk
theorem pf_X4_37 (hx : bo_OK x cc RX4 nL fr lo) {o : Nat} {v : Int32} (ho : bo_isInn o) (hd : decode cc pc = .ok (.putfield 37, 3)) {K : bo_M → Option α} (kk : ∀ σ', bo_D x (pc + 3) L S σ' (K σ') k) : bo_D x pc L (.int v :: .ref (bo_a x o) :: S) σ ((some (bo_up σ o 8 v)).bind K) k := bo_put (C := RX4) (T := TX4) (N := 15) (i := 8) (ty := .int) hx ho.o rfl (by decide) in_X4 fl_X4_37 rfl rfl tyX4_ok nmX4 rfl (by decide +kernel) rfl rfl (by show Value.int (upd (σ o) 8 v 8) = _; rw [upd, if_pos rfl]) hd kk
theorem pf_X4_41 (hx : bo_OK x cc RX4 nL fr lo) {o : Nat} {v : Int32} (ho : bo_isInn o) (hd : decode cc pc = .ok (.putfield 41, 3)) {K : bo_M → Option α} (kk : ∀ σ', bo_D x (pc + 3) L S σ' (K σ') k) : bo_D x pc L (.int v :: .ref (bo_a x o) :: S) σ ((some (bo_up σ o 9 v)).bind K) k := bo_put (C := RX4) (T := TX4) (N := 15) (i := 9) (ty := .int) hx ho.o rfl (by decide) in_X4 fl_X4_41 rfl rfl tyX4_ok nmX4 rfl (by decide +kernel) rfl rfl (by show Value.int (upd (σ o) 9 v 9) = _; rw [upd, if_pos rfl]) hd kk
theorem pf_X4_44 (hx : bo_OK x cc RX4 nL fr lo) {o : Nat} {v : Int32} (ho : bo_isInn o) (hd : decode cc pc = .ok (.putfield 44, 3)) {K : bo_M → Option α} (kk : ∀ σ', bo_D x (pc + 3) L S σ' (K σ') k) : bo_D x pc L (.int v :: .ref (bo_a x o) :: S) σ ((some (bo_up σ o 10 v)).bind K) k := bo_put (C := RX4) (T := TX4) (N := 15) (i := 10) (ty := .int) hx ho.o rfl (by decide) in_X4 fl_X4_44 rfl rfl tyX4_ok nmX4 rfl (by decide +kernel) rfl rfl (by show Value.int (upd (σ o) 10 v 10) = _; rw [upd, if_pos rfl]) hd kk
theorem pf_X4_47 (hx : bo_OK x cc RX4 nL fr lo) {o : Nat} {v : Int32} (ho : bo_isInn o) (hd : decode cc pc = .ok (.putfield 47, 3)) {K : bo_M → Option α} (kk : ∀ σ', bo_D x (pc + 3) L S σ' (K σ') k) : bo_D x pc L (.int v :: .ref (bo_a x o) :: S) σ ((some (bo_up σ o 11 v)).bind K) k := bo_put (C := RX4) (T := TX4) (N := 15) (i := 11) (ty := .int) hx ho.o rfl (by decide) in_X4 fl_X4_47 rfl rfl tyX4_ok nmX4 rfl (by decide +kernel) rfl rfl (by show Value.int (upd (σ o) 11 v 11) = _; rw [upd, if_pos rfl]) hd kk
theorem pf_X4_50 (hx : bo_OK x cc RX4 nL fr lo) {o : Nat} {v : Int32} (ho : bo_isInn o) (hd : decode cc pc = .ok (.putfield 50, 3)) {K : bo_M → Option α} (kk : ∀ σ', bo_D x (pc + 3) L S σ' (K σ') k) : bo_D x pc L (.int v :: .ref (bo_a x o) :: S) σ ((some (bo_up σ o 12 v)).bind K) k := bo_put (C := RX4) (T := TX4) (N := 15) (i := 12) (ty := .int) hx ho.o rfl (by decide) in_X4 fl_X4_50 rfl rfl tyX4_ok nmX4 rfl (by decide +kernel) rfl rfl (by show Value.int (upd (σ o) 12 v 12) = _; rw [upd, if_pos rfl]) hd kk
theorem pf_X4_53 (hx : bo_OK x cc RX4 nL fr lo) {o : Nat} {v : Int32} (ho : bo_isInn o) (hd : decode cc pc = .ok (.putfield 53, 3)) {K : bo_M → Option α} (kk : ∀ σ', bo_D x (pc + 3) L S σ' (K σ') k) : bo_D x pc L (.int v :: .ref (bo_a x o) :: S) σ ((some (bo_up σ o 13 v)).bind K) k := bo_put (C := RX4) (T := TX4) (N := 15) (i := 13) (ty := .int) hx ho.o rfl (by decide) in_X4 fl_X4_53 rfl rfl tyX4_ok nmX4 rfl (by decide +kernel) rfl rfl (by show Value.int (upd (σ o) 13 v 13) = _; rw [upd, if_pos rfl]) hd kk
theorem pf_X4_56 (hx : bo_OK x cc RX4 nL fr lo) {o : Nat} {v : Int32} (ho : bo_isInn o) (hd : decode cc pc = .ok (.putfield 56, 3)) {K : bo_M → Option α} (kk : ∀ σ', bo_D x (pc + 3) L S σ' (K σ') k) : bo_D x pc L (.int v :: .ref (bo_a x o) :: S) σ ((some (bo_up σ o 14 v)).bind K) k := bo_put (C := RX4) (T := TX4) (N := 15) (i := 14) (ty := .int) hx ho.o rfl (by decide) in_X4 fl_X4_56 rfl rfl tyX4_ok nmX4 rfl (by decide +kernel) rfl rfl (by show Value.int (upd (σ o) 14 v 14) = _; rw [upd, if_pos rfl]) hd kk
theorem pf_X5_24 (hx : bo_OK x cc RX5 nL fr lo) {v : Int32} (hd : decode cc pc = .ok (.putfield 24, 3)) {K : bo_M → Option α} (kk : ∀ σ', bo_D x (pc + 3) L S σ' (K σ') k) : bo_D x pc L (.int v :: .ref (bo_a x 24) :: S) σ ((some (bo_up σ 24 4 v)).bind K) k := bo_put (C := RX5) (T := TX5) (N := 6) (i := 4) (ty := .int) hx bo_o_24 rfl (by decide) in_X5 fl_X5_24 rfl rfl tyX5_ok nmX5 rfl (by decide +kernel) rfl rfl (by show Value.int (upd (σ 24) 4 v 4) = _; rw [upd, if_pos rfl]) hd kk
theorem pf_X5_34 (hx : bo_OK x cc RX5 nL fr lo) {v : Int32} (hd : decode cc pc = .ok (.putfield 34, 3)) {K : bo_M → Option α} (kk : ∀ σ', bo_D x (pc + 3) L S σ' (K σ') k) : bo_D x pc L (.int v :: .ref (bo_a x 24) :: S) σ ((some (bo_up σ 24 5 v)).bind K) k := bo_put (C := RX5) (T := TX5) (N := 6) (i := 5) (ty := .int) hx bo_o_24 rfl (by decide) in_X5 fl_X5_34 rfl rfl tyX5_ok nmX5 rfl (by decide +kernel) rfl rfl (by show Value.int (upd (σ 24) 5 v 5) = _; rw [upd, if_pos rfl]) hd kk
theorem pf_X6_18 (hx : bo_OK x cc RX6 nL fr lo) {v : Int32} (hd : decode cc pc = .ok (.putfield 18, 3)) {K : bo_M → Option α} (kk : ∀ σ', bo_D x (pc + 3) L S σ' (K σ') k) : bo_D x pc L (.int v :: .ref (bo_a x 3) :: S) σ ((some (bo_up σ 3 1 v)).bind K) k := bo_put (C := RX6) (T := TX6) (N := 2) (i := 1) (ty := .int) hx bo_o_3 rfl (by decide) in_X6 fl_X6_18 rfl rfl tyX6_ok nmX6 rfl (by decide +kernel) rfl rfl (by show Value.int (upd (σ 3) 1 v 1) = _; rw [upd, if_pos rfl]) hd kk
theorem pf_X7_15 (hx : bo_OK x cc RX7 nL fr lo) {v : Int32} (hd : decode cc pc = .ok (.putfield 15, 3)) {K : bo_M → Option α} (kk : ∀ σ', bo_D x (pc + 3) L S σ' (K σ') k) : bo_D x pc L (.int v :: .ref (bo_a x 1) :: S) σ ((some (bo_up σ 1 5 v)).bind K) k := bo_put (C := RX7) (T := TX7) (N := 6) (i := 5) (ty := .int) hx bo_o_1 rfl (by decide) in_X7 fl_X7_15 rfl rfl tyX7_ok nmX7 rfl (by decide +kernel) rfl rfl (by show Value.int (upd (σ 1) 5 v 5) = _; rw [upd, if_pos rfl]) hd kk
theorem pf_X7_19 (hx : bo_OK x cc RX7 nL fr lo) {v : Int32} (hd : decode cc pc = .ok (.putfield 19, 3)) {K : bo_M → Option α} (kk : ∀ σ', bo_D x (pc + 3) L S σ' (K σ') k) : bo_D x pc L (.int v :: .ref (bo_a x 1) :: S) σ ((some (bo_up σ 1 4 v)).bind K) k := bo_put (C := RX7) (T := TX7) (N := 6) (i := 4) (ty := .int) hx bo_o_1 rfl (by decide) in_X7 fl_X7_19 rfl rfl tyX7_ok nmX7 rfl (by decide +kernel) rfl rfl (by show Value.int (upd (σ 1) 4 v 4) = _; rw [upd, if_pos rfl]) hd kk
theorem pf_X7_28 (hx : bo_OK x cc RX7 nL fr lo) {v : Int32} (hd : decode cc pc = .ok (.putfield 28, 3)) {K : bo_M → Option α} (kk : ∀ σ', bo_D x (pc + 3) L S σ' (K σ') k) : bo_D x pc L (.int v :: .ref (bo_a x 1) :: S) σ ((some (bo_up σ 1 1 v)).bind K) k := bo_put (C := RX7) (T := TX7) (N := 6) (i := 1) (ty := .int) hx bo_o_1 rfl (by decide) in_X7 fl_X7_28 rfl rfl tyX7_ok nmX7 rfl (by decide +kernel) rfl rfl (by show Value.int (upd (σ 1) 1 v 1) = _; rw [upd, if_pos rfl]) hd kk
theorem pf_X7_31 (hx : bo_OK x cc RX7 nL fr lo) {v : Int32} (hd : decode cc pc = .ok (.putfield 31, 3)) {K : bo_M → Option α} (kk : ∀ σ', bo_D x (pc + 3) L S σ' (K σ') k) : bo_D x pc L (.int v :: .ref (bo_a x 1) :: S) σ ((some (bo_up σ 1 3 v)).bind K) k := bo_put (C := RX7) (T := TX7) (N := 6) (i := 3) (ty := .int) hx bo_o_1 rfl (by decide) in_X7 fl_X7_31 rfl rfl tyX7_ok nmX7 rfl (by decide +kernel) rfl rfl (by show Value.int (upd (σ 1) 3 v 3) = _; rw [upd, if_pos rfl]) hd kk
theorem pf_X7_49 (hx : bo_OK x cc RX7 nL fr lo) {o : Nat} {v : Int32} (ho : bo_isInn o) (hB : bo_B v) (hd : decode cc pc = .ok (.putfield 49, 3)) {K : bo_M → Option α} (kk : ∀ σ', bo_D x (pc + 3) L S σ' (K σ') k) : bo_D x pc L (.int v :: .ref (bo_a x o) :: S) σ ((some (bo_up σ o 7 v)).bind K) k := bo_put (C := RX4) (T := TX4) (N := 15) (i := 7) (ty := .boolean) hx ho.o rfl (by decide) in_X4 fl_X7_49 rfl rfl tyX4_ok nmX4 rfl (by decide +kernel) (by rw [show narrow .boolean (.int v) = .int (v &&& 1) from rfl, hB.and]) hB.fit (by show Value.int (upd (σ o) 7 v 7 &&& 1) = _; rw [upd, if_pos rfl, hB.and]) hd kk
theorem pf_X7_80 (hx : bo_OK x cc RX7 nL fr lo) {o : Nat} {v : Int32} (ho : bo_isInn o) (hd : decode cc pc = .ok (.putfield 80, 3)) {K : bo_M → Option α} (kk : ∀ σ', bo_D x (pc + 3) L S σ' (K σ') k) : bo_D x pc L (.int v :: .ref (bo_a x o) :: S) σ ((some (bo_up σ o 8 v)).bind K) k := bo_put (C := RX4) (T := TX4) (N := 15) (i := 8) (ty := .int) hx ho.o rfl (by decide) in_X4 fl_X7_80 rfl rfl tyX4_ok nmX4 rfl (by decide +kernel) rfl rfl (by show Value.int (upd (σ o) 8 v 8) = _; rw [upd, if_pos rfl]) hd kk
theorem pf_X7_83 (hx : bo_OK x cc RX7 nL fr lo) {o : Nat} {v : Int32} (ho : bo_isInn o) (hd : decode cc pc = .ok (.putfield 83, 3)) {K : bo_M → Option α} (kk : ∀ σ', bo_D x (pc + 3) L S σ' (K σ') k) : bo_D x pc L (.int v :: .ref (bo_a x o) :: S) σ ((some (bo_up σ o 9 v)).bind K) k := bo_put (C := RX4) (T := TX4) (N := 15) (i := 9) (ty := .int) hx ho.o rfl (by decide) in_X4 fl_X7_83 rfl rfl tyX4_ok nmX4 rfl (by decide +kernel) rfl rfl (by show Value.int (upd (σ o) 9 v 9) = _; rw [upd, if_pos rfl]) hd kk
theorem pf_X7_86 (hx : bo_OK x cc RX7 nL fr lo) {o : Nat} {v : Int32} (ho : bo_isInn o) (hd : decode cc pc = .ok (.putfield 86, 3)) {K : bo_M → Option α} (kk : ∀ σ', bo_D x (pc + 3) L S σ' (K σ') k) : bo_D x pc L (.int v :: .ref (bo_a x o) :: S) σ ((some (bo_up σ o 10 v)).bind K) k := bo_put (C := RX4) (T := TX4) (N := 15) (i := 10) (ty := .int) hx ho.o rfl (by decide) in_X4 fl_X7_86 rfl rfl tyX4_ok nmX4 rfl (by decide +kernel) rfl rfl (by show Value.int (upd (σ o) 10 v 10) = _; rw [upd, if_pos rfl]) hd kk
theorem pf_X7_92 (hx : bo_OK x cc RX7 nL fr lo) {o : Nat} {v : Int32} (ho : bo_isInn o) (hd : decode cc pc = .ok (.putfield 92, 3)) {K : bo_M → Option α} (kk : ∀ σ', bo_D x (pc + 3) L S σ' (K σ') k) : bo_D x pc L (.int v :: .ref (bo_a x o) :: S) σ ((some (bo_up σ o 11 v)).bind K) k := bo_put (C := RX4) (T := TX4) (N := 15) (i := 11) (ty := .int) hx ho.o rfl (by decide) in_X4 fl_X7_92 rfl rfl tyX4_ok nmX4 rfl (by decide +kernel) rfl rfl (by show Value.int (upd (σ o) 11 v 11) = _; rw [upd, if_pos rfl]) hd kk
theorem pf_X7_104 (hx : bo_OK x cc RX7 nL fr lo) {o : Nat} {v : Int32} (ho : bo_isInn o) (hd : decode cc pc = .ok (.putfield 104, 3)) {K : bo_M → Option α} (kk : ∀ σ', bo_D x (pc + 3) L S σ' (K σ') k) : bo_D x pc L (.int v :: .ref (bo_a x o) :: S) σ ((some (bo_up σ o 12 v)).bind K) k := bo_put (C := RX4) (T := TX4) (N := 15) (i := 12) (ty := .int) hx ho.o rfl (by decide) in_X4 fl_X7_104 rfl rfl tyX4_ok nmX4 rfl (by decide +kernel) rfl rfl (by show Value.int (upd (σ o) 12 v 12) = _; rw [upd, if_pos rfl]) hd kk
theorem pf_X7_115 (hx : bo_OK x cc RX7 nL fr lo) {o : Nat} {v : Int32} (ho : bo_isInn o) (hd : decode cc pc = .ok (.putfield 115, 3)) {K : bo_M → Option α} (kk : ∀ σ', bo_D x (pc + 3) L S σ' (K σ') k) : bo_D x pc L (.int v :: .ref (bo_a x o) :: S) σ ((some (bo_up σ o 13 v)).bind K) k := bo_put (C := RX4) (T := TX4) (N := 15) (i := 13) (ty := .int) hx ho.o rfl (by decide) in_X4 fl_X7_115 rfl rfl tyX4_ok nmX4 rfl (by decide +kernel) rfl rfl (by show Value.int (upd (σ o) 13 v 13) = _; rw [upd, if_pos rfl]) hd kk
theorem pf_X7_124 (hx : bo_OK x cc RX7 nL fr lo) {o : Nat} {v : Int32} (ho : bo_isInn o) (hd : decode cc pc = .ok (.putfield 124, 3)) {K : bo_M → Option α} (kk : ∀ σ', bo_D x (pc + 3) L S σ' (K σ') k) : bo_D x pc L (.int v :: .ref (bo_a x o) :: S) σ ((some (bo_up σ o 14 v)).bind K) k := bo_put (C := RX4) (T := TX4) (N := 15) (i := 14) (ty := .int) hx ho.o rfl (by decide) in_X4 fl_X7_124 rfl rfl tyX4_ok nmX4 rfl (by decide +kernel) rfl rfl (by show Value.int (upd (σ o) 14 v 14) = _; rw [upd, if_pos rfl]) hd kk
theorem pf_X7_131 (hx : bo_OK x cc RX7 nL fr lo) {v : Int32} (hd : decode cc pc = .ok (.putfield 131, 3)) {K : bo_M → Option α} (kk : ∀ σ', bo_D x (pc + 3) L S σ' (K σ') k) : bo_D x pc L (.int v :: .ref (bo_a x 1) :: S) σ ((some (bo_up σ 1 2 v)).bind K) k := bo_put (C := RX7) (T := TX7) (N := 6) (i := 2) (ty := .int) hx bo_o_1 rfl (by decide) in_X7 fl_X7_131 rfl rfl tyX7_ok nmX7 rfl (by decide +kernel) rfl rfl (by show Value.int (upd (σ 1) 2 v 2) = _; rw [upd, if_pos rfl]) hd kk
theorem pf_X11_40 (hx : bo_OK x cc RX11 nL fr lo) {v : Int32} (hd : decode cc pc = .ok (.putfield 40, 3)) {K : bo_M → Option α} (kk : ∀ σ', bo_D x (pc + 3) L S σ' (K σ') k) : bo_D x pc L (.int v :: .ref (bo_a x 135) :: S) σ ((some (bo_up σ 135 20 v)).bind K) k := bo_put (C := RX11) (T := TX11) (N := 54) (i := 20) (ty := .int) hx bo_o_135 rfl (by decide) in_X11 fl_X11_40 rfl rfl tyX11_ok nmX11 rfl (by decide +kernel) rfl rfl (by show Value.int (upd (σ 135) 20 v 20) = _; rw [upd, if_pos rfl]) hd kk
theorem pf_X11_111 (hx : bo_OK x cc RX11 nL fr lo) {v : Int32} (hB : bo_B v) (hd : decode cc pc = .ok (.putfield 111, 3)) {K : bo_M → Option α} (kk : ∀ σ', bo_D x (pc + 3) L S σ' (K σ') k) : bo_D x pc L (.int v :: .ref (bo_a x 135) :: S) σ ((some (bo_up σ 135 0 v)).bind K) k := bo_put (C := RX11) (T := TX11) (N := 54) (i := 0) (ty := .boolean) hx bo_o_135 rfl (by decide) in_X11 fl_X11_111 rfl rfl tyX11_ok nmX11 rfl (by decide +kernel) (by rw [show narrow .boolean (.int v) = .int (v &&& 1) from rfl, hB.and]) hB.fit (by show Value.int (upd (σ 135) 0 v 0 &&& 1) = _; rw [upd, if_pos rfl, hB.and]) hd kk
theorem pf_X11_115 (hx : bo_OK x cc RX11 nL fr lo) {v : Int32} (hd : decode cc pc = .ok (.putfield 115, 3)) {K : bo_M → Option α} (kk : ∀ σ', bo_D x (pc + 3) L S σ' (K σ') k) : bo_D x pc L (.int v :: .ref (bo_a x 135) :: S) σ ((some (bo_up σ 135 4 v)).bind K) k := bo_put (C := RX11) (T := TX11) (N := 54) (i := 4) (ty := .int) hx bo_o_135 rfl (by decide) in_X11 fl_X11_115 rfl rfl tyX11_ok nmX11 rfl (by decide +kernel) rfl rfl (by show Value.int (upd (σ 135) 4 v 4) = _; rw [upd, if_pos rfl]) hd kk
theorem pf_X11_122 (hx : bo_OK x cc RX11 nL fr lo) {v : Int32} (hd : decode cc pc = .ok (.putfield 122, 3)) {K : bo_M → Option α} (kk : ∀ σ', bo_D x (pc + 3) L S σ' (K σ') k) : bo_D x pc L (.int v :: .ref (bo_a x 135) :: S) σ ((some (bo_up σ 135 11 v)).bind K) k := bo_put (C := RX11) (T := TX11) (N := 54) (i := 11) (ty := .int) hx bo_o_135 rfl (by decide) in_X11 fl_X11_122 rfl rfl tyX11_ok nmX11 rfl (by decide +kernel) rfl rfl (by show Value.int (upd (σ 135) 11 v 11) = _; rw [upd, if_pos rfl]) hd kk
theorem pf_X11_128 (hx : bo_OK x cc RX11 nL fr lo) {v : Int32} (hd : decode cc pc = .ok (.putfield 128, 3)) {K : bo_M → Option α} (kk : ∀ σ', bo_D x (pc + 3) L S σ' (K σ') k) : bo_D x pc L (.int v :: .ref (bo_a x 135) :: S) σ ((some (bo_up σ 135 19 v)).bind K) k := bo_put (C := RX11) (T := TX11) (N := 54) (i := 19) (ty := .int) hx bo_o_135 rfl (by decide) in_X11 fl_X11_128 rfl rfl tyX11_ok nmX11 rfl (by decide +kernel) rfl rfl (by show Value.int (upd (σ 135) 19 v 19) = _; rw [upd, if_pos rfl]) hd kk
theorem pf_X11_132 (hx : bo_OK x cc RX11 nL fr lo) {v : Int32} (hd : decode cc pc = .ok (.putfield 132, 3)) {K : bo_M → Option α} (kk : ∀ σ', bo_D x (pc + 3) L S σ' (K σ') k) : bo_D x pc L (.int v :: .ref (bo_a x 135) :: S) σ ((some (bo_up σ 135 21 v)).bind K) k := bo_put (C := RX11) (T := TX11) (N := 54) (i := 21) (ty := .int) hx bo_o_135 rfl (by decide) in_X11 fl_X11_132 rfl rfl tyX11_ok nmX11 rfl (by decide +kernel) rfl rfl (by show Value.int (upd (σ 135) 21 v 21) = _; rw [upd, if_pos rfl]) hd kk
theorem pf_X11_147 (hx : bo_OK x cc RX11 nL fr lo) {v : Int32} (hd : decode cc pc = .ok (.putfield 147, 3)) {K : bo_M → Option α} (kk : ∀ σ', bo_D x (pc + 3) L S σ' (K σ') k) : bo_D x pc L (.int v :: .ref (bo_a x 135) :: S) σ ((some (bo_up σ 135 23 v)).bind K) k := bo_put (C := RX11) (T := TX11) (N := 54) (i := 23) (ty := .int) hx bo_o_135 rfl (by decide) in_X11 fl_X11_147 rfl rfl tyX11_ok nmX11 rfl (by decide +kernel) rfl rfl (by show Value.int (upd (σ 135) 23 v 23) = _; rw [upd, if_pos rfl]) hd kk
theorem pf_X11_150 (hx : bo_OK x cc RX11 nL fr lo) {v : Int32} (hd : decode cc pc = .ok (.putfield 150, 3)) {K : bo_M → Option α} (kk : ∀ σ', bo_D x (pc + 3) L S σ' (K σ') k) : bo_D x pc L (.int v :: .ref (bo_a x 135) :: S) σ ((some (bo_up σ 135 22 v)).bind K) k := bo_put (C := RX11) (T := TX11) (N := 54) (i := 22) (ty := .int) hx bo_o_135 rfl (by decide) in_X11 fl_X11_150 rfl rfl tyX11_ok nmX11 rfl (by decide +kernel) rfl rfl (by show Value.int (upd (σ 135) 22 v 22) = _; rw [upd, if_pos rfl]) hd kk
theorem pf_X11_156 (hx : bo_OK x cc RX11 nL fr lo) {v : Int32} (hB : bo_B v) (hd : decode cc pc = .ok (.putfield 156, 3)) {K : bo_M → Option α} (kk : ∀ σ', bo_D x (pc + 3) L S σ' (K σ') k) : bo_D x pc L (.int v :: .ref (bo_a x 135) :: S) σ ((some (bo_up σ 135 24 v)).bind K) k := bo_put (C := RX11) (T := TX11) (N := 54) (i := 24) (ty := .boolean) hx bo_o_135 rfl (by decide) in_X11 fl_X11_156 rfl rfl tyX11_ok nmX11 rfl (by decide +kernel) (by rw [show narrow .boolean (.int v) = .int (v &&& 1) from rfl, hB.and]) hB.fit (by show Value.int (upd (σ 135) 24 v 24 &&& 1) = _; rw [upd, if_pos rfl, hB.and]) hd kk
theorem pf_X11_163 (hx : bo_OK x cc RX11 nL fr lo) {v : Int32} (hd : decode cc pc = .ok (.putfield 163, 3)) {K : bo_M → Option α} (kk : ∀ σ', bo_D x (pc + 3) L S σ' (K σ') k) : bo_D x pc L (.int v :: .ref (bo_a x 135) :: S) σ ((some (bo_up σ 135 26 v)).bind K) k := bo_put (C := RX11) (T := TX11) (N := 54) (i := 26) (ty := .int) hx bo_o_135 rfl (by decide) in_X11 fl_X11_163 rfl rfl tyX11_ok nmX11 rfl (by decide +kernel) rfl rfl (by show Value.int (upd (σ 135) 26 v 26) = _; rw [upd, if_pos rfl]) hd kk
theorem pf_X11_166 (hx : bo_OK x cc RX11 nL fr lo) {v : Int32} (hd : decode cc pc = .ok (.putfield 166, 3)) {K : bo_M → Option α} (kk : ∀ σ', bo_D x (pc + 3) L S σ' (K σ') k) : bo_D x pc L (.int v :: .ref (bo_a x 135) :: S) σ ((some (bo_up σ 135 30 v)).bind K) k := bo_put (C := RX11) (T := TX11) (N := 54) (i := 30) (ty := .int) hx bo_o_135 rfl (by decide) in_X11 fl_X11_166 rfl rfl tyX11_ok nmX11 rfl (by decide +kernel) rfl rfl (by show Value.int (upd (σ 135) 30 v 30) = _; rw [upd, if_pos rfl]) hd kk
theorem pf_X11_169 (hx : bo_OK x cc RX11 nL fr lo) {v : Int32} (hd : decode cc pc = .ok (.putfield 169, 3)) {K : bo_M → Option α} (kk : ∀ σ', bo_D x (pc + 3) L S σ' (K σ') k) : bo_D x pc L (.int v :: .ref (bo_a x 135) :: S) σ ((some (bo_up σ 135 33 v)).bind K) k := bo_put (C := RX11) (T := TX11) (N := 54) (i := 33) (ty := .int) hx bo_o_135 rfl (by decide) in_X11 fl_X11_169 rfl rfl tyX11_ok nmX11 rfl (by decide +kernel) rfl rfl (by show Value.int (upd (σ 135) 33 v 33) = _; rw [upd, if_pos rfl]) hd kk
theorem pf_X11_172 (hx : bo_OK x cc RX11 nL fr lo) {v : Int32} (hd : decode cc pc = .ok (.putfield 172, 3)) {K : bo_M → Option α} (kk : ∀ σ', bo_D x (pc + 3) L S σ' (K σ') k) : bo_D x pc L (.int v :: .ref (bo_a x 135) :: S) σ ((some (bo_up σ 135 36 v)).bind K) k := bo_put (C := RX11) (T := TX11) (N := 54) (i := 36) (ty := .int) hx bo_o_135 rfl (by decide) in_X11 fl_X11_172 rfl rfl tyX11_ok nmX11 rfl (by decide +kernel) rfl rfl (by show Value.int (upd (σ 135) 36 v 36) = _; rw [upd, if_pos rfl]) hd kk
theorem pf_X11_201 (hx : bo_OK x cc RX11 nL fr lo) {v : Int32} (hd : decode cc pc = .ok (.putfield 201, 3)) {K : bo_M → Option α} (kk : ∀ σ', bo_D x (pc + 3) L S σ' (K σ') k) : bo_D x pc L (.int v :: .ref (bo_a x 135) :: S) σ ((some (bo_up σ 135 1 v)).bind K) k := bo_put (C := RX11) (T := TX11) (N := 54) (i := 1) (ty := .int) hx bo_o_135 rfl (by decide) in_X11 fl_X11_201 rfl rfl tyX11_ok nmX11 rfl (by decide +kernel) rfl rfl (by show Value.int (upd (σ 135) 1 v 1) = _; rw [upd, if_pos rfl]) hd kk
theorem pf_X11_204 (hx : bo_OK x cc RX11 nL fr lo) {v : Int32} (hd : decode cc pc = .ok (.putfield 204, 3)) {K : bo_M → Option α} (kk : ∀ σ', bo_D x (pc + 3) L S σ' (K σ') k) : bo_D x pc L (.int v :: .ref (bo_a x 135) :: S) σ ((some (bo_up σ 135 2 v)).bind K) k := bo_put (C := RX11) (T := TX11) (N := 54) (i := 2) (ty := .int) hx bo_o_135 rfl (by decide) in_X11 fl_X11_204 rfl rfl tyX11_ok nmX11 rfl (by decide +kernel) rfl rfl (by show Value.int (upd (σ 135) 2 v 2) = _; rw [upd, if_pos rfl]) hd kk
theorem pf_X11_207 (hx : bo_OK x cc RX11 nL fr lo) {v : Int32} (hd : decode cc pc = .ok (.putfield 207, 3)) {K : bo_M → Option α} (kk : ∀ σ', bo_D x (pc + 3) L S σ' (K σ') k) : bo_D x pc L (.int v :: .ref (bo_a x 135) :: S) σ ((some (bo_up σ 135 3 v)).bind K) k := bo_put (C := RX11) (T := TX11) (N := 54) (i := 3) (ty := .int) hx bo_o_135 rfl (by decide) in_X11 fl_X11_207 rfl rfl tyX11_ok nmX11 rfl (by decide +kernel) rfl rfl (by show Value.int (upd (σ 135) 3 v 3) = _; rw [upd, if_pos rfl]) hd kk
theorem pf_X11_210 (hx : bo_OK x cc RX11 nL fr lo) {v : Int32} (hd : decode cc pc = .ok (.putfield 210, 3)) {K : bo_M → Option α} (kk : ∀ σ', bo_D x (pc + 3) L S σ' (K σ') k) : bo_D x pc L (.int v :: .ref (bo_a x 135) :: S) σ ((some (bo_up σ 135 8 v)).bind K) k := bo_put (C := RX11) (T := TX11) (N := 54) (i := 8) (ty := .int) hx bo_o_135 rfl (by decide) in_X11 fl_X11_210 rfl rfl tyX11_ok nmX11 rfl (by decide +kernel) rfl rfl (by show Value.int (upd (σ 135) 8 v 8) = _; rw [upd, if_pos rfl]) hd kk
theorem pf_X11_213 (hx : bo_OK x cc RX11 nL fr lo) {v : Int32} (hd : decode cc pc = .ok (.putfield 213, 3)) {K : bo_M → Option α} (kk : ∀ σ', bo_D x (pc + 3) L S σ' (K σ') k) : bo_D x pc L (.int v :: .ref (bo_a x 135) :: S) σ ((some (bo_up σ 135 14 v)).bind K) k := bo_put (C := RX11) (T := TX11) (N := 54) (i := 14) (ty := .int) hx bo_o_135 rfl (by decide) in_X11 fl_X11_213 rfl rfl tyX11_ok nmX11 rfl (by decide +kernel) rfl rfl (by show Value.int (upd (σ 135) 14 v 14) = _; rw [upd, if_pos rfl]) hd kk
theorem pf_X11_226 (hx : bo_OK x cc RX11 nL fr lo) {v : Int32} (hd : decode cc pc = .ok (.putfield 226, 3)) {K : bo_M → Option α} (kk : ∀ σ', bo_D x (pc + 3) L S σ' (K σ') k) : bo_D x pc L (.int v :: .ref (bo_a x 135) :: S) σ ((some (bo_up σ 135 44 v)).bind K) k := bo_put (C := RX11) (T := TX11) (N := 54) (i := 44) (ty := .int) hx bo_o_135 rfl (by decide) in_X11 fl_X11_226 rfl rfl tyX11_ok nmX11 rfl (by decide +kernel) rfl rfl (by show Value.int (upd (σ 135) 44 v 44) = _; rw [upd, if_pos rfl]) hd kk
theorem pf_X11_229 (hx : bo_OK x cc RX11 nL fr lo) {v : Int32} (hd : decode cc pc = .ok (.putfield 229, 3)) {K : bo_M → Option α} (kk : ∀ σ', bo_D x (pc + 3) L S σ' (K σ') k) : bo_D x pc L (.int v :: .ref (bo_a x 135) :: S) σ ((some (bo_up σ 135 49 v)).bind K) k := bo_put (C := RX11) (T := TX11) (N := 54) (i := 49) (ty := .int) hx bo_o_135 rfl (by decide) in_X11 fl_X11_229 rfl rfl tyX11_ok nmX11 rfl (by decide +kernel) rfl rfl (by show Value.int (upd (σ 135) 49 v 49) = _; rw [upd, if_pos rfl]) hd kk
theorem pf_X11_232 (hx : bo_OK x cc RX11 nL fr lo) {v : Int32} (hd : decode cc pc = .ok (.putfield 232, 3)) {K : bo_M → Option α} (kk : ∀ σ', bo_D x (pc + 3) L S σ' (K σ') k) : bo_D x pc L (.int v :: .ref (bo_a x 135) :: S) σ ((some (bo_up σ 135 38 v)).bind K) k := bo_put (C := RX11) (T := TX11) (N := 54) (i := 38) (ty := .int) hx bo_o_135 rfl (by decide) in_X11 fl_X11_232 rfl rfl tyX11_ok nmX11 rfl (by decide +kernel) rfl rfl (by show Value.int (upd (σ 135) 38 v 38) = _; rw [upd, if_pos rfl]) hd kk
theorem pf_X11_294 (hx : bo_OK x cc RX11 nL fr lo) {v : Int32} (hd : decode cc pc = .ok (.putfield 294, 3)) {K : bo_M → Option α} (kk : ∀ σ', bo_D x (pc + 3) L S σ' (K σ') k) : bo_D x pc L (.int v :: .ref (bo_a x 135) :: S) σ ((some (bo_up σ 135 17 v)).bind K) k := bo_put (C := RX11) (T := TX11) (N := 54) (i := 17) (ty := .int) hx bo_o_135 rfl (by decide) in_X11 fl_X11_294 rfl rfl tyX11_ok nmX11 rfl (by decide +kernel) rfl rfl (by show Value.int (upd (σ 135) 17 v 17) = _; rw [upd, if_pos rfl]) hd kk
end BOF
end
