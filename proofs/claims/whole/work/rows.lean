section
-- ===== PART A: goes FIRST, ahead of the names: the tables' words, and 'selects' of the private methods out of them =====
/-- a private method of a class that the tables say can be made, by its rows of tables_1 -/
def lw_okq (q : MethodName × Nat) : Prop := (q.1.cls ≠ "java/lang/invoke/MethodHandle" ∧ q.1.cls ≠ "java/lang/invoke/VarHandle") ∧ Cond.instantiable q.1.cls q.2 ∈ tables_1 ∧ Cond.privateMethod q.1 ∈ tables_1 ∧ Cond.instanceMethod q.1 ∈ tables_1
theorem lw_p0 : lw_okq (⟨"BellRope$Reader", "skipBlanks", "()V"⟩, 6) := ⟨⟨by decide +kernel, by decide +kernel⟩, List.mem_of_getElem? (i := 24) (by decide +kernel), List.mem_of_getElem? (i := 355) (by decide +kernel), List.mem_of_getElem? (i := 356) (by decide +kernel)⟩
theorem lw_p1 : lw_okq (⟨"BellRope$Reader", "readClause", "(LBellRope$Inn;)V"⟩, 6) := ⟨⟨by decide +kernel, by decide +kernel⟩, List.mem_of_getElem? (i := 24) (by decide +kernel), List.mem_of_getElem? (i := 362) (by decide +kernel), List.mem_of_getElem? (i := 363) (by decide +kernel)⟩
theorem lw_p2 : lw_okq (⟨"BellRope$Reader", "wrong", "(II)V"⟩, 6) := ⟨⟨by decide +kernel, by decide +kernel⟩, List.mem_of_getElem? (i := 24) (by decide +kernel), List.mem_of_getElem? (i := 366) (by decide +kernel), List.mem_of_getElem? (i := 367) (by decide +kernel)⟩
theorem lw_p3 : lw_okq (⟨"BellRope$Reader", "readBell", "(LBellRope$Inn;)V"⟩, 6) := ⟨⟨by decide +kernel, by decide +kernel⟩, List.mem_of_getElem? (i := 24) (by decide +kernel), List.mem_of_getElem? (i := 370) (by decide +kernel), List.mem_of_getElem? (i := 371) (by decide +kernel)⟩
theorem lw_p4 : lw_okq (⟨"BellRope$Reader", "startClause", "(Z)V"⟩, 6) := ⟨⟨by decide +kernel, by decide +kernel⟩, List.mem_of_getElem? (i := 24) (by decide +kernel), List.mem_of_getElem? (i := 374) (by decide +kernel), List.mem_of_getElem? (i := 375) (by decide +kernel)⟩
theorem lw_p5 : lw_okq (⟨"BellRope$Reader", "readNumber", "(II)I"⟩, 6) := ⟨⟨by decide +kernel, by decide +kernel⟩, List.mem_of_getElem? (i := 24) (by decide +kernel), List.mem_of_getElem? (i := 378) (by decide +kernel), List.mem_of_getElem? (i := 379) (by decide +kernel)⟩
theorem lw_p6 : lw_okq (⟨"BellRope$Reader", "endClause", "()V"⟩, 6) := ⟨⟨by decide +kernel, by decide +kernel⟩, List.mem_of_getElem? (i := 24) (by decide +kernel), List.mem_of_getElem? (i := 385) (by decide +kernel), List.mem_of_getElem? (i := 386) (by decide +kernel)⟩
theorem lw_p7 : lw_okq (⟨"BellRope$Reader", "readDrinker", "(LBellRope$Inn;)V"⟩, 6) := ⟨⟨by decide +kernel, by decide +kernel⟩, List.mem_of_getElem? (i := 24) (by decide +kernel), List.mem_of_getElem? (i := 389) (by decide +kernel), List.mem_of_getElem? (i := 390) (by decide +kernel)⟩
theorem lw_p8 : lw_okq (⟨"BellRope$Reader", "readSexton", "(LBellRope$Inn;)V"⟩, 6) := ⟨⟨by decide +kernel, by decide +kernel⟩, List.mem_of_getElem? (i := 24) (by decide +kernel), List.mem_of_getElem? (i := 393) (by decide +kernel), List.mem_of_getElem? (i := 394) (by decide +kernel)⟩
theorem lw_p9 : lw_okq (⟨"BellRope$Reader", "readGoer", "(LBellRope$Inn;)V"⟩, 6) := ⟨⟨by decide +kernel, by decide +kernel⟩, List.mem_of_getElem? (i := 24) (by decide +kernel), List.mem_of_getElem? (i := 400) (by decide +kernel), List.mem_of_getElem? (i := 401) (by decide +kernel)⟩
theorem lw_p10 : lw_okq (⟨"BellRope$Reader", "readSignal", "(LBellRope$Inn;)V"⟩, 6) := ⟨⟨by decide +kernel, by decide +kernel⟩, List.mem_of_getElem? (i := 24) (by decide +kernel), List.mem_of_getElem? (i := 404) (by decide +kernel), List.mem_of_getElem? (i := 405) (by decide +kernel)⟩
theorem lw_p11 : lw_okq (⟨"BellRope", "refusedQuarters", "(I)I"⟩, 12) := ⟨⟨by decide +kernel, by decide +kernel⟩, List.mem_of_getElem? (i := 16) (by decide +kernel), List.mem_of_getElem? (i := 494) (by decide +kernel), List.mem_of_getElem? (i := 495) (by decide +kernel)⟩
theorem lw_p12 : lw_okq (⟨"BellRope", "refused", "(Z)I"⟩, 12) := ⟨⟨by decide +kernel, by decide +kernel⟩, List.mem_of_getElem? (i := 16) (by decide +kernel), List.mem_of_getElem? (i := 498) (by decide +kernel), List.mem_of_getElem? (i := 499) (by decide +kernel)⟩
theorem lw_p13 : lw_okq (⟨"BellRope$Past", "loseOldest", "()V"⟩, 2) := ⟨⟨by decide +kernel, by decide +kernel⟩, List.mem_of_getElem? (i := 98) (by decide +kernel), List.mem_of_getElem? (i := 508) (by decide +kernel), List.mem_of_getElem? (i := 509) (by decide +kernel)⟩
theorem lw_p14 : lw_okq (⟨"BellRope$Past", "evening", "(I)LBellRope$Evening;"⟩, 2) := ⟨⟨by decide +kernel, by decide +kernel⟩, List.mem_of_getElem? (i := 98) (by decide +kernel), List.mem_of_getElem? (i := 512) (by decide +kernel), List.mem_of_getElem? (i := 513) (by decide +kernel)⟩
theorem lw_p15 : lw_okq (⟨"BellRope", "stir", "()V"⟩, 12) := ⟨⟨by decide +kernel, by decide +kernel⟩, List.mem_of_getElem? (i := 16) (by decide +kernel), List.mem_of_getElem? (i := 582) (by decide +kernel), List.mem_of_getElem? (i := 583) (by decide +kernel)⟩
def lw_privs_1 : List (MethodName × Nat) := [(⟨"BellRope$Reader", "skipBlanks", "()V"⟩, 6), (⟨"BellRope$Reader", "readClause", "(LBellRope$Inn;)V"⟩, 6), (⟨"BellRope$Reader", "wrong", "(II)V"⟩, 6), (⟨"BellRope$Reader", "readBell", "(LBellRope$Inn;)V"⟩, 6), (⟨"BellRope$Reader", "startClause", "(Z)V"⟩, 6), (⟨"BellRope$Reader", "readNumber", "(II)I"⟩, 6), (⟨"BellRope$Reader", "endClause", "()V"⟩, 6), (⟨"BellRope$Reader", "readDrinker", "(LBellRope$Inn;)V"⟩, 6), (⟨"BellRope$Reader", "readSexton", "(LBellRope$Inn;)V"⟩, 6), (⟨"BellRope$Reader", "readGoer", "(LBellRope$Inn;)V"⟩, 6), (⟨"BellRope$Reader", "readSignal", "(LBellRope$Inn;)V"⟩, 6), (⟨"BellRope", "refusedQuarters", "(I)I"⟩, 12), (⟨"BellRope", "refused", "(Z)I"⟩, 12), (⟨"BellRope$Past", "loseOldest", "()V"⟩, 2), (⟨"BellRope$Past", "evening", "(I)LBellRope$Evening;"⟩, 2), (⟨"BellRope", "stir", "()V"⟩, 12)]
theorem lw_r1 : ∀ q ∈ lw_privs_1, lw_okq q := List.forall_mem_cons.mpr ⟨lw_p0, List.forall_mem_cons.mpr ⟨lw_p1, List.forall_mem_cons.mpr ⟨lw_p2, List.forall_mem_cons.mpr ⟨lw_p3, List.forall_mem_cons.mpr ⟨lw_p4, List.forall_mem_cons.mpr ⟨lw_p5, List.forall_mem_cons.mpr ⟨lw_p6, List.forall_mem_cons.mpr ⟨lw_p7, List.forall_mem_cons.mpr ⟨lw_p8, List.forall_mem_cons.mpr ⟨lw_p9, List.forall_mem_cons.mpr ⟨lw_p10, List.forall_mem_cons.mpr ⟨lw_p11, List.forall_mem_cons.mpr ⟨lw_p12, List.forall_mem_cons.mpr ⟨lw_p13, List.forall_mem_cons.mpr ⟨lw_p14, List.forall_mem_cons.mpr ⟨lw_p15, fun _ h => absurd h List.not_mem_nil⟩⟩⟩⟩⟩⟩⟩⟩⟩⟩⟩⟩⟩⟩⟩⟩
theorem lw_p16 : lw_okq (⟨"BellRope", "draw", "(I)I"⟩, 12) := ⟨⟨by decide +kernel, by decide +kernel⟩, List.mem_of_getElem? (i := 16) (by decide +kernel), List.mem_of_getElem? (i := 586) (by decide +kernel), List.mem_of_getElem? (i := 587) (by decide +kernel)⟩
theorem lw_p17 : lw_okq (⟨"BellRope", "lateBy", "(I)I"⟩, 12) := ⟨⟨by decide +kernel, by decide +kernel⟩, List.mem_of_getElem? (i := 16) (by decide +kernel), List.mem_of_getElem? (i := 633) (by decide +kernel), List.mem_of_getElem? (i := 634) (by decide +kernel)⟩
theorem lw_p18 : lw_okq (⟨"BellRope", "payersAhead", "(I)I"⟩, 12) := ⟨⟨by decide +kernel, by decide +kernel⟩, List.mem_of_getElem? (i := 16) (by decide +kernel), List.mem_of_getElem? (i := 714) (by decide +kernel), List.mem_of_getElem? (i := 715) (by decide +kernel)⟩
theorem lw_p19 : lw_okq (⟨"BellRope", "imageOf", "(I)LBellRope$Image;"⟩, 12) := ⟨⟨by decide +kernel, by decide +kernel⟩, List.mem_of_getElem? (i := 16) (by decide +kernel), List.mem_of_getElem? (i := 806) (by decide +kernel), List.mem_of_getElem? (i := 807) (by decide +kernel)⟩
theorem lw_p20 : lw_okq (⟨"BellRopeModel", "here", "()I"⟩, 54) := ⟨⟨by decide +kernel, by decide +kernel⟩, List.mem_of_getElem? (i := 815) (by decide +kernel), List.mem_of_getElem? (i := 999) (by decide +kernel), List.mem_of_getElem? (i := 1000) (by decide +kernel)⟩
theorem lw_p21 : lw_okq (⟨"BellRopeModel", "takeClause", "()I"⟩, 54) := ⟨⟨by decide +kernel, by decide +kernel⟩, List.mem_of_getElem? (i := 815) (by decide +kernel), List.mem_of_getElem? (i := 1003) (by decide +kernel), List.mem_of_getElem? (i := 1004) (by decide +kernel)⟩
theorem lw_p22 : lw_okq (⟨"BellRopeModel", "whichClause", "(I)I"⟩, 54) := ⟨⟨by decide +kernel, by decide +kernel⟩, List.mem_of_getElem? (i := 815) (by decide +kernel), List.mem_of_getElem? (i := 1007) (by decide +kernel), List.mem_of_getElem? (i := 1008) (by decide +kernel)⟩
theorem lw_p23 : lw_okq (⟨"BellRopeModel", "fails", "(II)I"⟩, 54) := ⟨⟨by decide +kernel, by decide +kernel⟩, List.mem_of_getElem? (i := 815) (by decide +kernel), List.mem_of_getElem? (i := 1011) (by decide +kernel), List.mem_of_getElem? (i := 1012) (by decide +kernel)⟩
theorem lw_p24 : lw_okq (⟨"BellRopeModel", "isFull", "(I)Z"⟩, 54) := ⟨⟨by decide +kernel, by decide +kernel⟩, List.mem_of_getElem? (i := 815) (by decide +kernel), List.mem_of_getElem? (i := 1015) (by decide +kernel), List.mem_of_getElem? (i := 1016) (by decide +kernel)⟩
theorem lw_p25 : lw_okq (⟨"BellRopeModel", "takeBody", "(I)I"⟩, 54) := ⟨⟨by decide +kernel, by decide +kernel⟩, List.mem_of_getElem? (i := 815) (by decide +kernel), List.mem_of_getElem? (i := 1019) (by decide +kernel), List.mem_of_getElem? (i := 1020) (by decide +kernel)⟩
theorem lw_p26 : lw_okq (⟨"BellRopeModel", "takeLaw", "()I"⟩, 54) := ⟨⟨by decide +kernel, by decide +kernel⟩, List.mem_of_getElem? (i := 815) (by decide +kernel), List.mem_of_getElem? (i := 1023) (by decide +kernel), List.mem_of_getElem? (i := 1024) (by decide +kernel)⟩
theorem lw_p27 : lw_okq (⟨"BellRopeModel", "into", "([IIII)I"⟩, 54) := ⟨⟨by decide +kernel, by decide +kernel⟩, List.mem_of_getElem? (i := 815) (by decide +kernel), List.mem_of_getElem? (i := 1027) (by decide +kernel), List.mem_of_getElem? (i := 1028) (by decide +kernel)⟩
theorem lw_p28 : lw_okq (⟨"BellRopeModel", "takeNumber", "(II)I"⟩, 54) := ⟨⟨by decide +kernel, by decide +kernel⟩, List.mem_of_getElem? (i := 815) (by decide +kernel), List.mem_of_getElem? (i := 1031) (by decide +kernel), List.mem_of_getElem? (i := 1032) (by decide +kernel)⟩
theorem lw_p29 : lw_okq (⟨"BellRopeModel", "takeDrinker", "()I"⟩, 54) := ⟨⟨by decide +kernel, by decide +kernel⟩, List.mem_of_getElem? (i := 815) (by decide +kernel), List.mem_of_getElem? (i := 1037) (by decide +kernel), List.mem_of_getElem? (i := 1038) (by decide +kernel)⟩
theorem lw_p30 : lw_okq (⟨"BellRopeModel", "takeTime", "()I"⟩, 54) := ⟨⟨by decide +kernel, by decide +kernel⟩, List.mem_of_getElem? (i := 815) (by decide +kernel), List.mem_of_getElem? (i := 1041) (by decide +kernel), List.mem_of_getElem? (i := 1042) (by decide +kernel)⟩
theorem lw_p31 : lw_okq (⟨"BellRopeModel", "takeGoer", "()I"⟩, 54) := ⟨⟨by decide +kernel, by decide +kernel⟩, List.mem_of_getElem? (i := 815) (by decide +kernel), List.mem_of_getElem? (i := 1045) (by decide +kernel), List.mem_of_getElem? (i := 1046) (by decide +kernel)⟩
def lw_privs_2 : List (MethodName × Nat) := [(⟨"BellRope", "draw", "(I)I"⟩, 12), (⟨"BellRope", "lateBy", "(I)I"⟩, 12), (⟨"BellRope", "payersAhead", "(I)I"⟩, 12), (⟨"BellRope", "imageOf", "(I)LBellRope$Image;"⟩, 12), (⟨"BellRopeModel", "here", "()I"⟩, 54), (⟨"BellRopeModel", "takeClause", "()I"⟩, 54), (⟨"BellRopeModel", "whichClause", "(I)I"⟩, 54), (⟨"BellRopeModel", "fails", "(II)I"⟩, 54), (⟨"BellRopeModel", "isFull", "(I)Z"⟩, 54), (⟨"BellRopeModel", "takeBody", "(I)I"⟩, 54), (⟨"BellRopeModel", "takeLaw", "()I"⟩, 54), (⟨"BellRopeModel", "into", "([IIII)I"⟩, 54), (⟨"BellRopeModel", "takeNumber", "(II)I"⟩, 54), (⟨"BellRopeModel", "takeDrinker", "()I"⟩, 54), (⟨"BellRopeModel", "takeTime", "()I"⟩, 54), (⟨"BellRopeModel", "takeGoer", "()I"⟩, 54)]
theorem lw_r2 : ∀ q ∈ lw_privs_2, lw_okq q := List.forall_mem_cons.mpr ⟨lw_p16, List.forall_mem_cons.mpr ⟨lw_p17, List.forall_mem_cons.mpr ⟨lw_p18, List.forall_mem_cons.mpr ⟨lw_p19, List.forall_mem_cons.mpr ⟨lw_p20, List.forall_mem_cons.mpr ⟨lw_p21, List.forall_mem_cons.mpr ⟨lw_p22, List.forall_mem_cons.mpr ⟨lw_p23, List.forall_mem_cons.mpr ⟨lw_p24, List.forall_mem_cons.mpr ⟨lw_p25, List.forall_mem_cons.mpr ⟨lw_p26, List.forall_mem_cons.mpr ⟨lw_p27, List.forall_mem_cons.mpr ⟨lw_p28, List.forall_mem_cons.mpr ⟨lw_p29, List.forall_mem_cons.mpr ⟨lw_p30, List.forall_mem_cons.mpr ⟨lw_p31, fun _ h => absurd h List.not_mem_nil⟩⟩⟩⟩⟩⟩⟩⟩⟩⟩⟩⟩⟩⟩⟩⟩
theorem lw_p32 : lw_okq (⟨"BellRopeModel", "takeSignal", "()I"⟩, 54) := ⟨⟨by decide +kernel, by decide +kernel⟩, List.mem_of_getElem? (i := 815) (by decide +kernel), List.mem_of_getElem? (i := 1049) (by decide +kernel), List.mem_of_getElem? (i := 1050) (by decide +kernel)⟩
theorem lw_p33 : lw_okq (⟨"BellRopeModel", "takeRead", "()V"⟩, 54) := ⟨⟨by decide +kernel, by decide +kernel⟩, List.mem_of_getElem? (i := 815) (by decide +kernel), List.mem_of_getElem? (i := 1053) (by decide +kernel), List.mem_of_getElem? (i := 1054) (by decide +kernel)⟩
theorem lw_p34 : lw_okq (⟨"BellRopeModel", "whoIsIn", "()I"⟩, 54) := ⟨⟨by decide +kernel, by decide +kernel⟩, List.mem_of_getElem? (i := 815) (by decide +kernel), List.mem_of_getElem? (i := 1068) (by decide +kernel), List.mem_of_getElem? (i := 1069) (by decide +kernel)⟩
theorem lw_p35 : lw_okq (⟨"BellRopeModel", "isWet", "()Z"⟩, 54) := ⟨⟨by decide +kernel, by decide +kernel⟩, List.mem_of_getElem? (i := 815) (by decide +kernel), List.mem_of_getElem? (i := 1072) (by decide +kernel), List.mem_of_getElem? (i := 1073) (by decide +kernel)⟩
theorem lw_p36 : lw_okq (⟨"BellRopeModel", "isDrinker", "(I)Z"⟩, 54) := ⟨⟨by decide +kernel, by decide +kernel⟩, List.mem_of_getElem? (i := 815) (by decide +kernel), List.mem_of_getElem? (i := 1083) (by decide +kernel), List.mem_of_getElem? (i := 1084) (by decide +kernel)⟩
theorem lw_p37 : lw_okq (⟨"BellRopeModel", "wouldRing", "(I)Z"⟩, 54) := ⟨⟨by decide +kernel, by decide +kernel⟩, List.mem_of_getElem? (i := 815) (by decide +kernel), List.mem_of_getElem? (i := 1088) (by decide +kernel), List.mem_of_getElem? (i := 1089) (by decide +kernel)⟩
theorem lw_p38 : lw_okq (⟨"BellRopeModel", "isFirstOfDay", "()Z"⟩, 54) := ⟨⟨by decide +kernel, by decide +kernel⟩, List.mem_of_getElem? (i := 815) (by decide +kernel), List.mem_of_getElem? (i := 1092) (by decide +kernel), List.mem_of_getElem? (i := 1093) (by decide +kernel)⟩
theorem lw_p39 : lw_okq (⟨"BellRopeModel", "isTurn", "(II)Z"⟩, 54) := ⟨⟨by decide +kernel, by decide +kernel⟩, List.mem_of_getElem? (i := 815) (by decide +kernel), List.mem_of_getElem? (i := 1096) (by decide +kernel), List.mem_of_getElem? (i := 1097) (by decide +kernel)⟩
theorem lw_p40 : lw_okq (⟨"BellRopeModel", "isGoer", "(I)Z"⟩, 54) := ⟨⟨by decide +kernel, by decide +kernel⟩, List.mem_of_getElem? (i := 815) (by decide +kernel), List.mem_of_getElem? (i := 1104) (by decide +kernel), List.mem_of_getElem? (i := 1105) (by decide +kernel)⟩
theorem lw_p41 : lw_okq (⟨"BellRopeModel", "quartersRefused", "(I)I"⟩, 54) := ⟨⟨by decide +kernel, by decide +kernel⟩, List.mem_of_getElem? (i := 815) (by decide +kernel), List.mem_of_getElem? (i := 1120) (by decide +kernel), List.mem_of_getElem? (i := 1121) (by decide +kernel)⟩
theorem lw_p42 : lw_okq (⟨"BellRopeModel", "remember", "()V"⟩, 54) := ⟨⟨by decide +kernel, by decide +kernel⟩, List.mem_of_getElem? (i := 815) (by decide +kernel), List.mem_of_getElem? (i := 1127) (by decide +kernel), List.mem_of_getElem? (i := 1128) (by decide +kernel)⟩
theorem lw_p43 : lw_okq (⟨"BellRopeModel", "pass", "()I"⟩, 54) := ⟨⟨by decide +kernel, by decide +kernel⟩, List.mem_of_getElem? (i := 815) (by decide +kernel), List.mem_of_getElem? (i := 1131) (by decide +kernel), List.mem_of_getElem? (i := 1132) (by decide +kernel)⟩
theorem lw_p44 : lw_okq (⟨"BellRopeModel", "heardOf", "(I)I"⟩, 54) := ⟨⟨by decide +kernel, by decide +kernel⟩, List.mem_of_getElem? (i := 815) (by decide +kernel), List.mem_of_getElem? (i := 1135) (by decide +kernel), List.mem_of_getElem? (i := 1136) (by decide +kernel)⟩
theorem lw_p45 : lw_okq (⟨"BellRopeModel", "isBlanketed", "(I)Z"⟩, 54) := ⟨⟨by decide +kernel, by decide +kernel⟩, List.mem_of_getElem? (i := 815) (by decide +kernel), List.mem_of_getElem? (i := 1139) (by decide +kernel), List.mem_of_getElem? (i := 1140) (by decide +kernel)⟩
theorem lw_p46 : lw_okq (⟨"BellRopeModel", "muffle", "(II)I"⟩, 54) := ⟨⟨by decide +kernel, by decide +kernel⟩, List.mem_of_getElem? (i := 815) (by decide +kernel), List.mem_of_getElem? (i := 1143) (by decide +kernel), List.mem_of_getElem? (i := 1144) (by decide +kernel)⟩
theorem lw_p47 : lw_okq (⟨"BellRopeModel", "log", "(II)V"⟩, 54) := ⟨⟨by decide +kernel, by decide +kernel⟩, List.mem_of_getElem? (i := 815) (by decide +kernel), List.mem_of_getElem? (i := 1147) (by decide +kernel), List.mem_of_getElem? (i := 1148) (by decide +kernel)⟩
def lw_privs_3 : List (MethodName × Nat) := [(⟨"BellRopeModel", "takeSignal", "()I"⟩, 54), (⟨"BellRopeModel", "takeRead", "()V"⟩, 54), (⟨"BellRopeModel", "whoIsIn", "()I"⟩, 54), (⟨"BellRopeModel", "isWet", "()Z"⟩, 54), (⟨"BellRopeModel", "isDrinker", "(I)Z"⟩, 54), (⟨"BellRopeModel", "wouldRing", "(I)Z"⟩, 54), (⟨"BellRopeModel", "isFirstOfDay", "()Z"⟩, 54), (⟨"BellRopeModel", "isTurn", "(II)Z"⟩, 54), (⟨"BellRopeModel", "isGoer", "(I)Z"⟩, 54), (⟨"BellRopeModel", "quartersRefused", "(I)I"⟩, 54), (⟨"BellRopeModel", "remember", "()V"⟩, 54), (⟨"BellRopeModel", "pass", "()I"⟩, 54), (⟨"BellRopeModel", "heardOf", "(I)I"⟩, 54), (⟨"BellRopeModel", "isBlanketed", "(I)Z"⟩, 54), (⟨"BellRopeModel", "muffle", "(II)I"⟩, 54), (⟨"BellRopeModel", "log", "(II)V"⟩, 54)]
theorem lw_r3 : ∀ q ∈ lw_privs_3, lw_okq q := List.forall_mem_cons.mpr ⟨lw_p32, List.forall_mem_cons.mpr ⟨lw_p33, List.forall_mem_cons.mpr ⟨lw_p34, List.forall_mem_cons.mpr ⟨lw_p35, List.forall_mem_cons.mpr ⟨lw_p36, List.forall_mem_cons.mpr ⟨lw_p37, List.forall_mem_cons.mpr ⟨lw_p38, List.forall_mem_cons.mpr ⟨lw_p39, List.forall_mem_cons.mpr ⟨lw_p40, List.forall_mem_cons.mpr ⟨lw_p41, List.forall_mem_cons.mpr ⟨lw_p42, List.forall_mem_cons.mpr ⟨lw_p43, List.forall_mem_cons.mpr ⟨lw_p44, List.forall_mem_cons.mpr ⟨lw_p45, List.forall_mem_cons.mpr ⟨lw_p46, List.forall_mem_cons.mpr ⟨lw_p47, fun _ h => absurd h List.not_mem_nil⟩⟩⟩⟩⟩⟩⟩⟩⟩⟩⟩⟩⟩⟩⟩⟩
theorem lw_p48 : lw_okq (⟨"BellRopeModel", "happen", "()V"⟩, 54) := ⟨⟨by decide +kernel, by decide +kernel⟩, List.mem_of_getElem? (i := 815) (by decide +kernel), List.mem_of_getElem? (i := 1182) (by decide +kernel), List.mem_of_getElem? (i := 1183) (by decide +kernel)⟩
theorem lw_p49 : lw_okq (⟨"BellRopeModel", "draw", "(I)I"⟩, 54) := ⟨⟨by decide +kernel, by decide +kernel⟩, List.mem_of_getElem? (i := 815) (by decide +kernel), List.mem_of_getElem? (i := 1186) (by decide +kernel), List.mem_of_getElem? (i := 1187) (by decide +kernel)⟩
theorem lw_p50 : lw_okq (⟨"BellRopeModel", "lookAhead", "()V"⟩, 54) := ⟨⟨by decide +kernel, by decide +kernel⟩, List.mem_of_getElem? (i := 815) (by decide +kernel), List.mem_of_getElem? (i := 1203) (by decide +kernel), List.mem_of_getElem? (i := 1204) (by decide +kernel)⟩
theorem lw_p51 : lw_okq (⟨"BellRopeModel", "firstHeard", "(II)I"⟩, 54) := ⟨⟨by decide +kernel, by decide +kernel⟩, List.mem_of_getElem? (i := 815) (by decide +kernel), List.mem_of_getElem? (i := 1212) (by decide +kernel), List.mem_of_getElem? (i := 1213) (by decide +kernel)⟩
theorem lw_p52 : lw_okq (⟨"BellRopeModel", "lateOnes", "(I)I"⟩, 54) := ⟨⟨by decide +kernel, by decide +kernel⟩, List.mem_of_getElem? (i := 815) (by decide +kernel), List.mem_of_getElem? (i := 1229) (by decide +kernel), List.mem_of_getElem? (i := 1230) (by decide +kernel)⟩
theorem lw_p53 : lw_okq (⟨"BellRopeModel", "isLate", "(II)Z"⟩, 54) := ⟨⟨by decide +kernel, by decide +kernel⟩, List.mem_of_getElem? (i := 815) (by decide +kernel), List.mem_of_getElem? (i := 1233) (by decide +kernel), List.mem_of_getElem? (i := 1234) (by decide +kernel)⟩
theorem lw_p54 : lw_okq (⟨"BellRopeModel", "costs", "(I)I"⟩, 54) := ⟨⟨by decide +kernel, by decide +kernel⟩, List.mem_of_getElem? (i := 815) (by decide +kernel), List.mem_of_getElem? (i := 1261) (by decide +kernel), List.mem_of_getElem? (i := 1262) (by decide +kernel)⟩
theorem lw_p55 : lw_okq (⟨"BellRopeModel", "costOf", "(I)I"⟩, 54) := ⟨⟨by decide +kernel, by decide +kernel⟩, List.mem_of_getElem? (i := 815) (by decide +kernel), List.mem_of_getElem? (i := 1265) (by decide +kernel), List.mem_of_getElem? (i := 1266) (by decide +kernel)⟩
theorem lw_p56 : lw_okq (⟨"BellRopeModel", "rungWith", "(I)I"⟩, 54) := ⟨⟨by decide +kernel, by decide +kernel⟩, List.mem_of_getElem? (i := 815) (by decide +kernel), List.mem_of_getElem? (i := 1269) (by decide +kernel), List.mem_of_getElem? (i := 1270) (by decide +kernel)⟩
theorem lw_p57 : lw_okq (⟨"BellRopeModel", "isAhead", "(II)Z"⟩, 54) := ⟨⟨by decide +kernel, by decide +kernel⟩, List.mem_of_getElem? (i := 815) (by decide +kernel), List.mem_of_getElem? (i := 1304) (by decide +kernel), List.mem_of_getElem? (i := 1305) (by decide +kernel)⟩
theorem lw_p58 : lw_okq (⟨"BellRopeModel", "couldBe", "(II)Z"⟩, 54) := ⟨⟨by decide +kernel, by decide +kernel⟩, List.mem_of_getElem? (i := 815) (by decide +kernel), List.mem_of_getElem? (i := 1318) (by decide +kernel), List.mem_of_getElem? (i := 1319) (by decide +kernel)⟩
theorem lw_p59 : lw_okq (⟨"BellRopeModel", "heardBy", "(III)I"⟩, 54) := ⟨⟨by decide +kernel, by decide +kernel⟩, List.mem_of_getElem? (i := 815) (by decide +kernel), List.mem_of_getElem? (i := 1322) (by decide +kernel), List.mem_of_getElem? (i := 1323) (by decide +kernel)⟩
theorem lw_p60 : lw_okq (⟨"BellRopeModel", "greatestPart", "(I)I"⟩, 54) := ⟨⟨by decide +kernel, by decide +kernel⟩, List.mem_of_getElem? (i := 815) (by decide +kernel), List.mem_of_getElem? (i := 1330) (by decide +kernel), List.mem_of_getElem? (i := 1331) (by decide +kernel)⟩
def lw_privs_4 : List (MethodName × Nat) := [(⟨"BellRopeModel", "happen", "()V"⟩, 54), (⟨"BellRopeModel", "draw", "(I)I"⟩, 54), (⟨"BellRopeModel", "lookAhead", "()V"⟩, 54), (⟨"BellRopeModel", "firstHeard", "(II)I"⟩, 54), (⟨"BellRopeModel", "lateOnes", "(I)I"⟩, 54), (⟨"BellRopeModel", "isLate", "(II)Z"⟩, 54), (⟨"BellRopeModel", "costs", "(I)I"⟩, 54), (⟨"BellRopeModel", "costOf", "(I)I"⟩, 54), (⟨"BellRopeModel", "rungWith", "(I)I"⟩, 54), (⟨"BellRopeModel", "isAhead", "(II)Z"⟩, 54), (⟨"BellRopeModel", "couldBe", "(II)Z"⟩, 54), (⟨"BellRopeModel", "heardBy", "(III)I"⟩, 54), (⟨"BellRopeModel", "greatestPart", "(I)I"⟩, 54)]
theorem lw_r4 : ∀ q ∈ lw_privs_4, lw_okq q := List.forall_mem_cons.mpr ⟨lw_p48, List.forall_mem_cons.mpr ⟨lw_p49, List.forall_mem_cons.mpr ⟨lw_p50, List.forall_mem_cons.mpr ⟨lw_p51, List.forall_mem_cons.mpr ⟨lw_p52, List.forall_mem_cons.mpr ⟨lw_p53, List.forall_mem_cons.mpr ⟨lw_p54, List.forall_mem_cons.mpr ⟨lw_p55, List.forall_mem_cons.mpr ⟨lw_p56, List.forall_mem_cons.mpr ⟨lw_p57, List.forall_mem_cons.mpr ⟨lw_p58, List.forall_mem_cons.mpr ⟨lw_p59, List.forall_mem_cons.mpr ⟨lw_p60, fun _ h => absurd h List.not_mem_nil⟩⟩⟩⟩⟩⟩⟩⟩⟩⟩⟩⟩⟩
def lw_privs : List (MethodName × Nat) := lw_privs_1 ++ (lw_privs_2 ++ (lw_privs_3 ++ (lw_privs_4)))
def lw_tbl : List Cond := k2_sels lw_privs ++ tables_1
theorem lw_privs_ok : ∀ q ∈ lw_privs, lw_okq q := by
  show ∀ q ∈ lw_privs_1 ++ (lw_privs_2 ++ (lw_privs_3 ++ (lw_privs_4))), lw_okq q
  exact List.forall_mem_append.mpr ⟨lw_r1, List.forall_mem_append.mpr ⟨lw_r2, List.forall_mem_append.mpr ⟨lw_r3, lw_r4⟩⟩⟩
end
section
def RX0 : String := "BellRope$Book"
def TX0 : u_T := fun k => match k with
  | 0 => ("BellRope$Book", "drinkers", "[I", true)
  | 1 => ("BellRope$Book", "pints", "[I", true)
  | _ => ("BellRope$Book", "many", "I", false)
def tyX0 : Nat → FieldType := fun k => match k with
  | 0 => .array .int
  | 1 => .array .int
  | _ => .int
theorem nmX0 : ∀ a, a < 3 → ∀ b, b < 3 → a ≠ b → (TX0 a).2.1 ≠ (TX0 b).2.1 := by decide +kernel
theorem tyX0_ok : ∀ k, k < 3 → parseFieldDescriptor (TX0 k).2.2.1 = some (tyX0 k) := by decide +kernel
abbrev cX0_init : ByteArray := prog_2_method_1_code
def yX0_init : MethodName := ⟨RX0, "<init>", "()V"⟩
abbrev cX0_append : ByteArray := prog_2_method_2_code
def yX0_append : MethodName := ⟨RX0, "append", "(II)Z"⟩
abbrev cX0_firstWrong : ByteArray := prog_2_method_3_code
def yX0_firstWrong : MethodName := ⟨RX0, "firstWrong", "(LBellRope$Evening;)I"⟩
def RX1 : String := "BellRope$Chances"
def TX1 : u_T := fun k => match k with
  | _ => ("BellRope$Chances", "lies", "[I", true)
def tyX1 : Nat → FieldType := fun k => match k with
  | _ => .array .int
theorem nmX1 : ∀ a, a < 1 → ∀ b, b < 1 → a ≠ b → (TX1 a).2.1 ≠ (TX1 b).2.1 := by decide +kernel
theorem tyX1_ok : ∀ k, k < 1 → parseFieldDescriptor (TX1 k).2.2.1 = some (tyX1 k) := by decide +kernel
abbrev cX1_init : ByteArray := prog_3_method_1_code
def yX1_init : MethodName := ⟨RX1, "<init>", "()V"⟩
abbrev cX1_restart : ByteArray := prog_3_method_2_code
def yX1_restart : MethodName := ⟨RX1, "restart", "()V"⟩
abbrev cX1_lift : ByteArray := prog_3_method_3_code
def yX1_lift : MethodName := ⟨RX1, "lift", "(I)V"⟩
abbrev cX1_above : ByteArray := prog_3_method_4_code
def yX1_above : MethodName := ⟨RX1, "above", "(I)I"⟩
def RX2 : String := "BellRope$Evening"
def TX2 : u_T := fun k => match k with
  | 0 => ("BellRope$Evening", "pints", "[I", true)
  | 1 => ("BellRope$Evening", "turns", "[I", true)
  | 2 => ("BellRope$Evening", "heards", "[I", true)
  | 3 => ("BellRope$Evening", "rungs", "[I", true)
  | 4 => ("BellRope$Evening", "gone", "I", false)
  | 5 => ("BellRope$Evening", "inside", "I", false)
  | 6 => ("BellRope$Evening", "bell", "I", false)
  | 7 => ("BellRope$Evening", "hung", "I", false)
  | 8 => ("BellRope$Evening", "paid", "I", false)
  | _ => ("BellRope$Evening", "weather", "I", false)
def tyX2 : Nat → FieldType := fun k => match k with
  | 0 => .array .int
  | 1 => .array .int
  | 2 => .array .int
  | 3 => .array .int
  | 4 => .int
  | 5 => .int
  | 6 => .int
  | 7 => .int
  | 8 => .int
  | _ => .int
theorem nmX2 : ∀ a, a < 10 → ∀ b, b < 10 → a ≠ b → (TX2 a).2.1 ≠ (TX2 b).2.1 := by decide +kernel
theorem tyX2_ok : ∀ k, k < 10 → parseFieldDescriptor (TX2 k).2.2.1 = some (tyX2 k) := by decide +kernel
abbrev cX2_init : ByteArray := prog_4_method_1_code
def yX2_init : MethodName := ⟨RX2, "<init>", "()V"⟩
abbrev cX2_empty : ByteArray := prog_4_method_2_code
def yX2_empty : MethodName := ⟨RX2, "empty", "()V"⟩
abbrev cX2_become : ByteArray := prog_4_method_3_code
def yX2_become : MethodName := ⟨RX2, "become", "(LBellRope$Evening;)V"⟩
abbrev cX2_logs : ByteArray := prog_4_method_4_code
def yX2_logs : MethodName := ⟨RX2, "logs", "()I"⟩
abbrev cX2_heardAgo : ByteArray := prog_4_method_5_code
def yX2_heardAgo : MethodName := ⟨RX2, "heardAgo", "(I)I"⟩
abbrev cX2_rungAgo : ByteArray := prog_4_method_6_code
def yX2_rungAgo : MethodName := ⟨RX2, "rungAgo", "(I)I"⟩
abbrev cX2_startsDay : ByteArray := prog_4_method_7_code
def yX2_startsDay : MethodName := ⟨RX2, "startsDay", "()Z"⟩
abbrev cX2_isWet : ByteArray := prog_4_method_8_code
def yX2_isWet : MethodName := ⟨RX2, "isWet", "(LBellRope$Inn;)Z"⟩
abbrev cX2_due : ByteArray := prog_4_method_9_code
def yX2_due : MethodName := ⟨RX2, "due", "(LBellRope$Inn;I)I"⟩
abbrev cX2_full : ByteArray := prog_4_method_10_code
def yX2_full : MethodName := ⟨RX2, "full", "(LBellRope$Inn;)I"⟩
abbrev cX2_thirsty : ByteArray := prog_4_method_11_code
def yX2_thirsty : MethodName := ⟨RX2, "thirsty", "(LBellRope$Inn;)I"⟩
abbrev cX2_heardOf : ByteArray := prog_4_method_12_code
def yX2_heardOf : MethodName := ⟨RX2, "heardOf", "(LBellRope$Inn;I)I"⟩
abbrev cX2_pass : ByteArray := prog_4_method_13_code
def yX2_pass : MethodName := ⟨RX2, "pass", "(LBellRope$Inn;)I"⟩
def RX3 : String := "BellRope$Image"
def TX3 : u_T := fun k => match k with
  | 0 => ("BellRope$Image", "evening", "LBellRope$Evening;", true)
  | 1 => ("BellRope$Image", "seedThen", "I", false)
  | _ => ("BellRope$Image", "kept", "Z", false)
def tyX3 : Nat → FieldType := fun k => match k with
  | 0 => .object "BellRope$Evening"
  | 1 => .int
  | _ => .boolean
theorem nmX3 : ∀ a, a < 3 → ∀ b, b < 3 → a ≠ b → (TX3 a).2.1 ≠ (TX3 b).2.1 := by decide +kernel
theorem tyX3_ok : ∀ k, k < 3 → parseFieldDescriptor (TX3 k).2.2.1 = some (tyX3 k) := by decide +kernel
abbrev cX3_init : ByteArray := prog_5_method_1_code
def yX3_init : MethodName := ⟨RX3, "<init>", "()V"⟩
def RX4 : String := "BellRope$Inn"
def TX4 : u_T := fun k => match k with
  | 0 => ("BellRope$Inn", "every", "[I", true)
  | 1 => ("BellRope$Inn", "bears", "[I", true)
  | 2 => ("BellRope$Inn", "hundredths", "[I", true)
  | 3 => ("BellRope$Inn", "mustBe", "[I", true)
  | 4 => ("BellRope$Inn", "walks", "[I", true)
  | 5 => ("BellRope$Inn", "signs", "[I", true)
  | 6 => ("BellRope$Inn", "blanket", "[I", true)
  | 7 => ("BellRope$Inn", "open", "Z", false)
  | 8 => ("BellRope$Inn", "echo", "I", false)
  | 9 => ("BellRope$Inn", "takes", "I", false)
  | 10 => ("BellRope$Inn", "wetDays", "I", false)
  | 11 => ("BellRope$Inn", "drinkers", "I", false)
  | 12 => ("BellRope$Inn", "sextons", "I", false)
  | 13 => ("BellRope$Inn", "goers", "I", false)
  | _ => ("BellRope$Inn", "signals", "I", false)
def tyX4 : Nat → FieldType := fun k => match k with
  | 0 => .array .int
  | 1 => .array .int
  | 2 => .array .int
  | 3 => .array .int
  | 4 => .array .int
  | 5 => .array .int
  | 6 => .array .int
  | 7 => .boolean
  | 8 => .int
  | 9 => .int
  | 10 => .int
  | 11 => .int
  | 12 => .int
  | 13 => .int
  | _ => .int
theorem nmX4 : ∀ a, a < 15 → ∀ b, b < 15 → a ≠ b → (TX4 a).2.1 ≠ (TX4 b).2.1 := by decide +kernel
theorem tyX4_ok : ∀ k, k < 15 → parseFieldDescriptor (TX4 k).2.2.1 = some (tyX4 k) := by decide +kernel
abbrev cX4_init : ByteArray := prog_6_method_1_code
def yX4_init : MethodName := ⟨RX4, "<init>", "()V"⟩
abbrev cX4_empty : ByteArray := prog_6_method_2_code
def yX4_empty : MethodName := ⟨RX4, "empty", "()V"⟩
abbrev cX4_hasDrinker : ByteArray := prog_6_method_3_code
def yX4_hasDrinker : MethodName := ⟨RX4, "hasDrinker", "(I)Z"⟩
abbrev cX4_hasGoer : ByteArray := prog_6_method_4_code
def yX4_hasGoer : MethodName := ⟨RX4, "hasGoer", "(I)Z"⟩
abbrev cX4_sets : ByteArray := prog_6_method_5_code
def yX4_sets : MethodName := ⟨RX4, "sets", "()I"⟩
abbrev cX4_signalsOf : ByteArray := prog_6_method_6_code
def yX4_signalsOf : MethodName := ⟨RX4, "signalsOf", "(I)I"⟩
abbrev cX4_sextonAt : ByteArray := prog_6_method_7_code
def yX4_sextonAt : MethodName := ⟨RX4, "sextonAt", "(I)Z"⟩
abbrev cX4_echoed : ByteArray := prog_6_method_8_code
def yX4_echoed : MethodName := ⟨RX4, "echoed", "(II)I"⟩
def RX5 : String := "BellRope$Known"
def TX5 : u_T := fun k => match k with
  | 0 => ("BellRope$Known", "quarters", "[I", true)
  | 1 => ("BellRope$Known", "heards", "[I", true)
  | 2 => ("BellRope$Known", "sets", "[I", true)
  | 3 => ("BellRope$Known", "alike", "[I", true)
  | 4 => ("BellRope$Known", "many", "I", false)
  | _ => ("BellRope$Known", "fitting", "I", false)
def tyX5 : Nat → FieldType := fun k => match k with
  | 0 => .array .int
  | 1 => .array .int
  | 2 => .array .int
  | 3 => .array .int
  | 4 => .int
  | _ => .int
theorem nmX5 : ∀ a, a < 6 → ∀ b, b < 6 → a ≠ b → (TX5 a).2.1 ≠ (TX5 b).2.1 := by decide +kernel
theorem tyX5_ok : ∀ k, k < 6 → parseFieldDescriptor (TX5 k).2.2.1 = some (tyX5 k) := by decide +kernel
abbrev cX5_init : ByteArray := prog_7_method_1_code
def yX5_init : MethodName := ⟨RX5, "<init>", "()V"⟩
abbrev cX5_append : ByteArray := prog_7_method_2_code
def yX5_append : MethodName := ⟨RX5, "append", "(II)Z"⟩
abbrev cX5_findSets : ByteArray := prog_7_method_3_code
def yX5_findSets : MethodName := ⟨RX5, "findSets", "(LBellRope$Inn;LBellRope$Evening;)V"⟩
abbrev cX5_fits : ByteArray := prog_7_method_4_code
def yX5_fits : MethodName := ⟨RX5, "fits", "(LBellRope$Inn;LBellRope$Evening;II)Z"⟩
abbrev cX5_leastSet : ByteArray := prog_7_method_5_code
def yX5_leastSet : MethodName := ⟨RX5, "leastSet", "()I"⟩
abbrev cX5_sureIn : ByteArray := prog_7_method_6_code
def yX5_sureIn : MethodName := ⟨RX5, "sureIn", "()I"⟩
abbrev cX5_sureOut : ByteArray := prog_7_method_7_code
def yX5_sureOut : MethodName := ⟨RX5, "sureOut", "(LBellRope$Inn;)I"⟩
abbrev cX5_greatestAlike : ByteArray := prog_7_method_8_code
def yX5_greatestAlike : MethodName := ⟨RX5, "greatestAlike", "(LBellRope$Inn;LBellRope$Evening;I)I"⟩
abbrev cX5_heardBy : ByteArray := prog_7_method_9_code
def yX5_heardBy : MethodName := ⟨RX5, "heardBy", "(LBellRope$Inn;III)I"⟩
def RX6 : String := "BellRope$Past"
def TX6 : u_T := fun k => match k with
  | 0 => ("BellRope$Past", "evenings", "[LBellRope$Evening;", true)
  | _ => ("BellRope$Past", "many", "I", false)
def tyX6 : Nat → FieldType := fun k => match k with
  | 0 => .array (.object "BellRope$Evening")
  | _ => .int
theorem nmX6 : ∀ a, a < 2 → ∀ b, b < 2 → a ≠ b → (TX6 a).2.1 ≠ (TX6 b).2.1 := by decide +kernel
theorem tyX6_ok : ∀ k, k < 2 → parseFieldDescriptor (TX6 k).2.2.1 = some (tyX6 k) := by decide +kernel
abbrev cX6_init : ByteArray := prog_8_method_1_code
def yX6_init : MethodName := ⟨RX6, "<init>", "()V"⟩
abbrev cX6_note : ByteArray := prog_8_method_2_code
def yX6_note : MethodName := ⟨RX6, "note", "(LBellRope$Evening;)V"⟩
abbrev cX6_restore : ByteArray := prog_8_method_3_code
def yX6_restore : MethodName := ⟨RX6, "restore", "(LBellRope$Evening;)Z"⟩
abbrev cX6_evening : ByteArray := prog_8_method_4_code
def yX6_evening : MethodName := ⟨RX6, "evening", "(I)LBellRope$Evening;"⟩
abbrev cX6_loseOldest : ByteArray := prog_8_method_5_code
def yX6_loseOldest : MethodName := ⟨RX6, "loseOldest", "()V"⟩
def RX7 : String := "BellRope$Reader"
def TX7 : u_T := fun k => match k with
  | 0 => ("BellRope$Reader", "letters", "[I", true)
  | 1 => ("BellRope$Reader", "at", "I", false)
  | 2 => ("BellRope$Reader", "numberAt", "I", false)
  | 3 => ("BellRope$Reader", "fault", "I", false)
  | 4 => ("BellRope$Reader", "many", "I", false)
  | _ => ("BellRope$Reader", "faultAt", "I", false)
def tyX7 : Nat → FieldType := fun k => match k with
  | 0 => .array .int
  | 1 => .int
  | 2 => .int
  | 3 => .int
  | 4 => .int
  | _ => .int
theorem nmX7 : ∀ a, a < 6 → ∀ b, b < 6 → a ≠ b → (TX7 a).2.1 ≠ (TX7 b).2.1 := by decide +kernel
theorem tyX7_ok : ∀ k, k < 6 → parseFieldDescriptor (TX7 k).2.2.1 = some (tyX7 k) := by decide +kernel
abbrev cX7_init : ByteArray := prog_9_method_1_code
def yX7_init : MethodName := ⟨RX7, "<init>", "()V"⟩
abbrev cX7_append : ByteArray := prog_9_method_2_code
def yX7_append : MethodName := ⟨RX7, "append", "(I)Z"⟩
abbrev cX7_read : ByteArray := prog_9_method_3_code
def yX7_read : MethodName := ⟨RX7, "read", "(LBellRope$Inn;)I"⟩
abbrev cX7_readClause : ByteArray := prog_9_method_4_code
def yX7_readClause : MethodName := ⟨RX7, "readClause", "(LBellRope$Inn;)V"⟩
abbrev cX7_readBell : ByteArray := prog_9_method_5_code
def yX7_readBell : MethodName := ⟨RX7, "readBell", "(LBellRope$Inn;)V"⟩
abbrev cX7_readDrinker : ByteArray := prog_9_method_6_code
def yX7_readDrinker : MethodName := ⟨RX7, "readDrinker", "(LBellRope$Inn;)V"⟩
abbrev cX7_readSexton : ByteArray := prog_9_method_7_code
def yX7_readSexton : MethodName := ⟨RX7, "readSexton", "(LBellRope$Inn;)V"⟩
abbrev cX7_readGoer : ByteArray := prog_9_method_8_code
def yX7_readGoer : MethodName := ⟨RX7, "readGoer", "(LBellRope$Inn;)V"⟩
abbrev cX7_readSignal : ByteArray := prog_9_method_9_code
def yX7_readSignal : MethodName := ⟨RX7, "readSignal", "(LBellRope$Inn;)V"⟩
abbrev cX7_startClause : ByteArray := prog_9_method_10_code
def yX7_startClause : MethodName := ⟨RX7, "startClause", "(Z)V"⟩
abbrev cX7_endClause : ByteArray := prog_9_method_11_code
def yX7_endClause : MethodName := ⟨RX7, "endClause", "()V"⟩
abbrev cX7_readNumber : ByteArray := prog_9_method_12_code
def yX7_readNumber : MethodName := ⟨RX7, "readNumber", "(II)I"⟩
abbrev cX7_skipBlanks : ByteArray := prog_9_method_13_code
def yX7_skipBlanks : MethodName := ⟨RX7, "skipBlanks", "()V"⟩
abbrev cX7_wrong : ByteArray := prog_9_method_14_code
def yX7_wrong : MethodName := ⟨RX7, "wrong", "(II)V"⟩
abbrev cX7_isFigure : ByteArray := prog_9_method_15_code
def yX7_isFigure : MethodName := ⟨RX7, "isFigure", "(I)Z"⟩
def RX8 : String := "BellRope$Rows"
def TX8 : u_T := fun k => match k with
  | _ => ("", "", "", false)
def tyX8 : Nat → FieldType := fun k => match k with
  | _ => .int
theorem nmX8 : ∀ a, a < 0 → ∀ b, b < 0 → a ≠ b → (TX8 a).2.1 ≠ (TX8 b).2.1 := by decide +kernel
theorem tyX8_ok : ∀ k, k < 0 → parseFieldDescriptor (TX8 k).2.2.1 = some (tyX8 k) := by decide +kernel
abbrev cX8_at : ByteArray := prog_10_method_2_code
def yX8_at : MethodName := ⟨RX8, "at", "([II)I"⟩
abbrev cX8_put : ByteArray := prog_10_method_3_code
def yX8_put : MethodName := ⟨RX8, "put", "([III)V"⟩
abbrev cX8_zero : ByteArray := prog_10_method_4_code
def yX8_zero : MethodName := ⟨RX8, "zero", "([I)V"⟩
abbrev cX8_copy : ByteArray := prog_10_method_5_code
def yX8_copy : MethodName := ⟨RX8, "copy", "([I[I)V"⟩
abbrev cX8_sum : ByteArray := prog_10_method_6_code
def yX8_sum : MethodName := ⟨RX8, "sum", "([I)I"⟩
def RX9 : String := "BellRope$Trial"
def TX9 : u_T := fun k => match k with
  | 0 => ("BellRope$Trial", "evening", "LBellRope$Evening;", true)
  | _ => ("BellRope$Trial", "heards", "[I", true)
def tyX9 : Nat → FieldType := fun k => match k with
  | 0 => .object "BellRope$Evening"
  | _ => .array .int
theorem nmX9 : ∀ a, a < 2 → ∀ b, b < 2 → a ≠ b → (TX9 a).2.1 ≠ (TX9 b).2.1 := by decide +kernel
theorem tyX9_ok : ∀ k, k < 2 → parseFieldDescriptor (TX9 k).2.2.1 = some (tyX9 k) := by decide +kernel
abbrev cX9_init : ByteArray := prog_11_method_1_code
def yX9_init : MethodName := ⟨RX9, "<init>", "()V"⟩
abbrev cX9_run : ByteArray := prog_11_method_2_code
def yX9_run : MethodName := ⟨RX9, "run", "(LBellRope$Inn;LBellRope$Evening;I)V"⟩
abbrev cX9_firstHeard : ByteArray := prog_11_method_3_code
def yX9_firstHeard : MethodName := ⟨RX9, "firstHeard", "(II)I"⟩
def RX10 : String := "BellRope"
def TX10 : u_T := fun k => match k with
  | 0 => ("BellRope", "reader", "LBellRope$Reader;", true)
  | 1 => ("BellRope", "now", "LBellRope$Evening;", true)
  | 2 => ("BellRope", "past", "LBellRope$Past;", true)
  | 3 => ("BellRope", "firstImage", "LBellRope$Image;", true)
  | 4 => ("BellRope", "secondImage", "LBellRope$Image;", true)
  | 5 => ("BellRope", "trial", "LBellRope$Trial;", true)
  | 6 => ("BellRope", "known", "LBellRope$Known;", true)
  | 7 => ("BellRope", "book", "LBellRope$Book;", true)
  | 8 => ("BellRope", "chances", "LBellRope$Chances;", true)
  | 9 => ("BellRope", "house", "LBellRope$Inn;", false)
  | 10 => ("BellRope", "draft", "LBellRope$Inn;", false)
  | _ => ("BellRope", "drawn", "I", false)
def tyX10 : Nat → FieldType := fun k => match k with
  | 0 => .object "BellRope$Reader"
  | 1 => .object "BellRope$Evening"
  | 2 => .object "BellRope$Past"
  | 3 => .object "BellRope$Image"
  | 4 => .object "BellRope$Image"
  | 5 => .object "BellRope$Trial"
  | 6 => .object "BellRope$Known"
  | 7 => .object "BellRope$Book"
  | 8 => .object "BellRope$Chances"
  | 9 => .object "BellRope$Inn"
  | 10 => .object "BellRope$Inn"
  | _ => .int
theorem nmX10 : ∀ a, a < 12 → ∀ b, b < 12 → a ≠ b → (TX10 a).2.1 ≠ (TX10 b).2.1 := by decide +kernel
theorem tyX10_ok : ∀ k, k < 12 → parseFieldDescriptor (TX10 k).2.2.1 = some (tyX10 k) := by decide +kernel
abbrev cX10_init : ByteArray := prog_1_method_1_code
def yX10_init : MethodName := ⟨RX10, "<init>", "()V"⟩
abbrev cX10_feed : ByteArray := prog_1_method_2_code
def yX10_feed : MethodName := ⟨RX10, "feed", "(I)I"⟩
abbrev cX10_inn : ByteArray := prog_1_method_3_code
def yX10_inn : MethodName := ⟨RX10, "inn", "()I"⟩
abbrev cX10_fault : ByteArray := prog_1_method_4_code
def yX10_fault : MethodName := ⟨RX10, "fault", "()I"⟩
abbrev cX10_told : ByteArray := prog_1_method_5_code
def yX10_told : MethodName := ⟨RX10, "told", "(I)I"⟩
abbrev cX10_drinker : ByteArray := prog_1_method_6_code
def yX10_drinker : MethodName := ⟨RX10, "drinker", "(II)I"⟩
abbrev cX10_goer : ByteArray := prog_1_method_7_code
def yX10_goer : MethodName := ⟨RX10, "goer", "(II)I"⟩
abbrev cX10_signal : ByteArray := prog_1_method_8_code
def yX10_signal : MethodName := ⟨RX10, "signal", "(I)I"⟩
abbrev cX10_logged : ByteArray := prog_1_method_9_code
def yX10_logged : MethodName := ⟨RX10, "logged", "(II)I"⟩
abbrev cX10_quarter : ByteArray := prog_1_method_10_code
def yX10_quarter : MethodName := ⟨RX10, "quarter", "(I)I"⟩
abbrev cX10_come : ByteArray := prog_1_method_11_code
def yX10_come : MethodName := ⟨RX10, "come", "(I)I"⟩
abbrev cX10_go : ByteArray := prog_1_method_12_code
def yX10_go : MethodName := ⟨RX10, "go", "(I)I"⟩
abbrev cX10_treat : ByteArray := prog_1_method_13_code
def yX10_treat : MethodName := ⟨RX10, "treat", "(II)I"⟩
abbrev cX10_turn : ByteArray := prog_1_method_14_code
def yX10_turn : MethodName := ⟨RX10, "turn", "(II)I"⟩
abbrev cX10_hang : ByteArray := prog_1_method_15_code
def yX10_hang : MethodName := ⟨RX10, "hang", "(I)I"⟩
abbrev cX10_rain : ByteArray := prog_1_method_16_code
def yX10_rain : MethodName := ⟨RX10, "rain", "(I)I"⟩
abbrev cX10_drift : ByteArray := prog_1_method_17_code
def yX10_drift : MethodName := ⟨RX10, "drift", "(I)I"⟩
abbrev cX10_undo : ByteArray := prog_1_method_18_code
def yX10_undo : MethodName := ⟨RX10, "undo", "()I"⟩
abbrev cX10_strikes : ByteArray := prog_1_method_19_code
def yX10_strikes : MethodName := ⟨RX10, "strikes", "(I)I"⟩
abbrev cX10_when : ByteArray := prog_1_method_20_code
def yX10_when : MethodName := ⟨RX10, "when", "(I)I"⟩
abbrev cX10_hour : ByteArray := prog_1_method_21_code
def yX10_hour : MethodName := ⟨RX10, "hour", "(I)I"⟩
abbrev cX10_noon : ByteArray := prog_1_method_22_code
def yX10_noon : MethodName := ⟨RX10, "noon", "()I"⟩
abbrev cX10_late : ByteArray := prog_1_method_23_code
def yX10_late : MethodName := ⟨RX10, "late", "(I)I"⟩
abbrev cX10_best : ByteArray := prog_1_method_24_code
def yX10_best : MethodName := ⟨RX10, "best", "(I)I"⟩
abbrev cX10_alone : ByteArray := prog_1_method_25_code
def yX10_alone : MethodName := ⟨RX10, "alone", "(I)I"⟩
abbrev cX10_given : ByteArray := prog_1_method_26_code
def yX10_given : MethodName := ⟨RX10, "given", "(I)I"⟩
abbrev cX10_mistaken : ByteArray := prog_1_method_27_code
def yX10_mistaken : MethodName := ⟨RX10, "mistaken", "()I"⟩
abbrev cX10_vespers : ByteArray := prog_1_method_28_code
def yX10_vespers : MethodName := ⟨RX10, "vespers", "(II)I"⟩
abbrev cX10_ship : ByteArray := prog_1_method_29_code
def yX10_ship : MethodName := ⟨RX10, "ship", "(I)I"⟩
abbrev cX10_widows : ByteArray := prog_1_method_30_code
def yX10_widows : MethodName := ⟨RX10, "widows", "(I)I"⟩
abbrev cX10_odds : ByteArray := prog_1_method_31_code
def yX10_odds : MethodName := ⟨RX10, "odds", "(I)I"⟩
abbrev cX10_most : ByteArray := prog_1_method_32_code
def yX10_most : MethodName := ⟨RX10, "most", "()I"⟩
abbrev cX10_round : ByteArray := prog_1_method_33_code
def yX10_round : MethodName := ⟨RX10, "round", "()I"⟩
abbrev cX10_share : ByteArray := prog_1_method_34_code
def yX10_share : MethodName := ⟨RX10, "share", "(I)I"⟩
abbrev cX10_was : ByteArray := prog_1_method_35_code
def yX10_was : MethodName := ⟨RX10, "was", "(II)I"⟩
abbrev cX10_could : ByteArray := prog_1_method_36_code
def yX10_could : MethodName := ⟨RX10, "could", "(I)I"⟩
abbrev cX10_listen : ByteArray := prog_1_method_37_code
def yX10_listen : MethodName := ⟨RX10, "listen", "()I"⟩
abbrev cX10_muffled : ByteArray := prog_1_method_38_code
def yX10_muffled : MethodName := ⟨RX10, "muffled", "()I"⟩
abbrev cX10_write : ByteArray := prog_1_method_39_code
def yX10_write : MethodName := ⟨RX10, "write", "(II)I"⟩
abbrev cX10_tear : ByteArray := prog_1_method_40_code
def yX10_tear : MethodName := ⟨RX10, "tear", "()I"⟩
abbrev cX10_judge : ByteArray := prog_1_method_41_code
def yX10_judge : MethodName := ⟨RX10, "judge", "()I"⟩
abbrev cX10_seed : ByteArray := prog_1_method_42_code
def yX10_seed : MethodName := ⟨RX10, "seed", "(I)I"⟩
abbrev cX10_keep : ByteArray := prog_1_method_43_code
def yX10_keep : MethodName := ⟨RX10, "keep", "(I)I"⟩
abbrev cX10_goBack : ByteArray := prog_1_method_44_code
def yX10_goBack : MethodName := ⟨RX10, "goBack", "(I)I"⟩
abbrev cX10_bit : ByteArray := prog_1_method_45_code
def yX10_bit : MethodName := ⟨RX10, "bit", "(II)I"⟩
abbrev cX10_refused : ByteArray := prog_1_method_46_code
def yX10_refused : MethodName := ⟨RX10, "refused", "(Z)I"⟩
abbrev cX10_refusedQuarters : ByteArray := prog_1_method_47_code
def yX10_refusedQuarters : MethodName := ⟨RX10, "refusedQuarters", "(I)I"⟩
abbrev cX10_stir : ByteArray := prog_1_method_48_code
def yX10_stir : MethodName := ⟨RX10, "stir", "()V"⟩
abbrev cX10_draw : ByteArray := prog_1_method_49_code
def yX10_draw : MethodName := ⟨RX10, "draw", "(I)I"⟩
abbrev cX10_lateBy : ByteArray := prog_1_method_50_code
def yX10_lateBy : MethodName := ⟨RX10, "lateBy", "(I)I"⟩
abbrev cX10_leastCommon : ByteArray := prog_1_method_51_code
def yX10_leastCommon : MethodName := ⟨RX10, "leastCommon", "(II)I"⟩
abbrev cX10_payersAhead : ByteArray := prog_1_method_52_code
def yX10_payersAhead : MethodName := ⟨RX10, "payersAhead", "(I)I"⟩
abbrev cX10_imageOf : ByteArray := prog_1_method_53_code
def yX10_imageOf : MethodName := ⟨RX10, "imageOf", "(I)LBellRope$Image;"⟩
def RX11 : String := "BellRopeModel"
def TX11 : u_T := fun k => match k with
  | 0 => ("BellRopeModel", "isInn", "Z", false)
  | 1 => ("BellRopeModel", "echo", "I", false)
  | 2 => ("BellRopeModel", "blanket", "I", false)
  | 3 => ("BellRopeModel", "wetDays", "I", false)
  | 4 => ("BellRopeModel", "drinkers", "I", false)
  | 5 => ("BellRopeModel", "thirst", "[I", true)
  | 6 => ("BellRopeModel", "bears", "[I", true)
  | 7 => ("BellRopeModel", "chance", "[I", true)
  | 8 => ("BellRopeModel", "times", "I", false)
  | 9 => ("BellRopeModel", "begins", "[I", true)
  | 10 => ("BellRopeModel", "lasts", "[I", true)
  | 11 => ("BellRopeModel", "goers", "I", false)
  | 12 => ("BellRopeModel", "due", "[I", true)
  | 13 => ("BellRopeModel", "way", "[I", true)
  | 14 => ("BellRopeModel", "signals", "I", false)
  | 15 => ("BellRopeModel", "strokes", "[I", true)
  | 16 => ("BellRopeModel", "now", "[I", true)
  | 17 => ("BellRopeModel", "seed", "I", false)
  | 18 => ("BellRopeModel", "text", "[I", true)
  | 19 => ("BellRopeModel", "texted", "I", false)
  | 20 => ("BellRopeModel", "faultPlace", "I", false)
  | 21 => ("BellRopeModel", "at0", "I", false)
  | 22 => ("BellRopeModel", "number", "I", false)
  | 23 => ("BellRopeModel", "numberAt", "I", false)
  | 24 => ("BellRopeModel", "readInn", "Z", false)
  | 25 => ("BellRopeModel", "readLaw", "[I", true)
  | 26 => ("BellRopeModel", "readDrinkers", "I", false)
  | 27 => ("BellRopeModel", "readThirst", "[I", true)
  | 28 => ("BellRopeModel", "readBears", "[I", true)
  | 29 => ("BellRopeModel", "readChance", "[I", true)
  | 30 => ("BellRopeModel", "readTimes", "I", false)
  | 31 => ("BellRopeModel", "readBegins", "[I", true)
  | 32 => ("BellRopeModel", "readLasts", "[I", true)
  | 33 => ("BellRopeModel", "readGoers", "I", false)
  | 34 => ("BellRopeModel", "readDue", "[I", true)
  | 35 => ("BellRopeModel", "readWay", "[I", true)
  | 36 => ("BellRopeModel", "readSignals", "I", false)
  | 37 => ("BellRopeModel", "readStrokes", "[I", true)
  | 38 => ("BellRopeModel", "undos", "I", false)
  | 39 => ("BellRopeModel", "past", "[I", true)
  | 40 => ("BellRopeModel", "before", "[I", true)
  | 41 => ("BellRopeModel", "comes", "[I", true)
  | 42 => ("BellRopeModel", "hours", "[I", true)
  | 43 => ("BellRopeModel", "lies", "[I", true)
  | 44 => ("BellRopeModel", "known", "I", false)
  | 45 => ("BellRopeModel", "knownAt", "[I", true)
  | 46 => ("BellRopeModel", "knownIs", "[I", true)
  | 47 => ("BellRopeModel", "fits", "[Z", true)
  | 48 => ("BellRopeModel", "parts", "[I", true)
  | 49 => ("BellRopeModel", "booked", "I", false)
  | 50 => ("BellRopeModel", "bookOf", "[I", true)
  | 51 => ("BellRopeModel", "bookIs", "[I", true)
  | 52 => ("BellRopeModel", "images", "[I", true)
  | _ => ("BellRopeModel", "isKept", "[Z", true)
def tyX11 : Nat → FieldType := fun k => match k with
  | 0 => .boolean
  | 1 => .int
  | 2 => .int
  | 3 => .int
  | 4 => .int
  | 5 => .array .int
  | 6 => .array .int
  | 7 => .array .int
  | 8 => .int
  | 9 => .array .int
  | 10 => .array .int
  | 11 => .int
  | 12 => .array .int
  | 13 => .array .int
  | 14 => .int
  | 15 => .array .int
  | 16 => .array .int
  | 17 => .int
  | 18 => .array .int
  | 19 => .int
  | 20 => .int
  | 21 => .int
  | 22 => .int
  | 23 => .int
  | 24 => .boolean
  | 25 => .array .int
  | 26 => .int
  | 27 => .array .int
  | 28 => .array .int
  | 29 => .array .int
  | 30 => .int
  | 31 => .array .int
  | 32 => .array .int
  | 33 => .int
  | 34 => .array .int
  | 35 => .array .int
  | 36 => .int
  | 37 => .array .int
  | 38 => .int
  | 39 => .array .int
  | 40 => .array .int
  | 41 => .array .int
  | 42 => .array .int
  | 43 => .array .int
  | 44 => .int
  | 45 => .array .int
  | 46 => .array .int
  | 47 => .array .boolean
  | 48 => .array .int
  | 49 => .int
  | 50 => .array .int
  | 51 => .array .int
  | 52 => .array .int
  | _ => .array .boolean
theorem nmX11 : ∀ a, a < 54 → ∀ b, b < 54 → a ≠ b → (TX11 a).2.1 ≠ (TX11 b).2.1 := by decide +kernel
theorem tyX11_ok : ∀ k, k < 54 → parseFieldDescriptor (TX11 k).2.2.1 = some (tyX11 k) := by decide +kernel
abbrev cX11_init : ByteArray := prog_13_method_1_code
def yX11_init : MethodName := ⟨RX11, "<init>", "()V"⟩
abbrev cX11_in : ByteArray := prog_13_method_3_code
def yX11_in : MethodName := ⟨RX11, "in", "(JJJ)Z"⟩
abbrev cX11_has : ByteArray := prog_13_method_4_code
def yX11_has : MethodName := ⟨RX11, "has", "(II)Z"⟩
abbrev cX11_bits : ByteArray := prog_13_method_5_code
def yX11_bits : MethodName := ⟨RX11, "bits", "(I)I"⟩
abbrev cX11_isDrinker : ByteArray := prog_13_method_6_code
def yX11_isDrinker : MethodName := ⟨RX11, "isDrinker", "(I)Z"⟩
abbrev cX11_isGoer : ByteArray := prog_13_method_7_code
def yX11_isGoer : MethodName := ⟨RX11, "isGoer", "(I)Z"⟩
abbrev cX11_feed : ByteArray := prog_13_method_8_code
def yX11_feed : MethodName := ⟨RX11, "feed", "(I)I"⟩
abbrev cX11_here : ByteArray := prog_13_method_9_code
def yX11_here : MethodName := ⟨RX11, "here", "()I"⟩
abbrev cX11_fails : ByteArray := prog_13_method_10_code
def yX11_fails : MethodName := ⟨RX11, "fails", "(II)I"⟩
abbrev cX11_takeNumber : ByteArray := prog_13_method_11_code
def yX11_takeNumber : MethodName := ⟨RX11, "takeNumber", "(II)I"⟩
abbrev cX11_into : ByteArray := prog_13_method_12_code
def yX11_into : MethodName := ⟨RX11, "into", "([IIII)I"⟩
abbrev cX11_takeLaw : ByteArray := prog_13_method_13_code
def yX11_takeLaw : MethodName := ⟨RX11, "takeLaw", "()I"⟩
abbrev cX11_takeDrinker : ByteArray := prog_13_method_14_code
def yX11_takeDrinker : MethodName := ⟨RX11, "takeDrinker", "()I"⟩
abbrev cX11_takeTime : ByteArray := prog_13_method_15_code
def yX11_takeTime : MethodName := ⟨RX11, "takeTime", "()I"⟩
abbrev cX11_takeGoer : ByteArray := prog_13_method_16_code
def yX11_takeGoer : MethodName := ⟨RX11, "takeGoer", "()I"⟩
abbrev cX11_takeSignal : ByteArray := prog_13_method_17_code
def yX11_takeSignal : MethodName := ⟨RX11, "takeSignal", "()I"⟩
abbrev cX11_whichClause : ByteArray := prog_13_method_18_code
def yX11_whichClause : MethodName := ⟨RX11, "whichClause", "(I)I"⟩
abbrev cX11_isFull : ByteArray := prog_13_method_19_code
def yX11_isFull : MethodName := ⟨RX11, "isFull", "(I)Z"⟩
abbrev cX11_takeBody : ByteArray := prog_13_method_20_code
def yX11_takeBody : MethodName := ⟨RX11, "takeBody", "(I)I"⟩
abbrev cX11_takeClause : ByteArray := prog_13_method_21_code
def yX11_takeClause : MethodName := ⟨RX11, "takeClause", "()I"⟩
abbrev cX11_copyRow : ByteArray := prog_13_method_22_code
def yX11_copyRow : MethodName := ⟨RX11, "copyRow", "([I[II)V"⟩
abbrev cX11_takeRead : ByteArray := prog_13_method_23_code
def yX11_takeRead : MethodName := ⟨RX11, "takeRead", "()V"⟩
abbrev cX11_inn : ByteArray := prog_13_method_24_code
def yX11_inn : MethodName := ⟨RX11, "inn", "()I"⟩
abbrev cX11_fault : ByteArray := prog_13_method_25_code
def yX11_fault : MethodName := ⟨RX11, "fault", "()I"⟩
abbrev cX11_whoIsIn : ByteArray := prog_13_method_26_code
def yX11_whoIsIn : MethodName := ⟨RX11, "whoIsIn", "()I"⟩
abbrev cX11_isWet : ByteArray := prog_13_method_27_code
def yX11_isWet : MethodName := ⟨RX11, "isWet", "()Z"⟩
abbrev cX11_isFirstOfDay : ByteArray := prog_13_method_28_code
def yX11_isFirstOfDay : MethodName := ⟨RX11, "isFirstOfDay", "()Z"⟩
abbrev cX11_isBlanketed : ByteArray := prog_13_method_29_code
def yX11_isBlanketed : MethodName := ⟨RX11, "isBlanketed", "(I)Z"⟩
abbrev cX11_isTurn : ByteArray := prog_13_method_30_code
def yX11_isTurn : MethodName := ⟨RX11, "isTurn", "(II)Z"⟩
abbrev cX11_wouldRing : ByteArray := prog_13_method_31_code
def yX11_wouldRing : MethodName := ⟨RX11, "wouldRing", "(I)Z"⟩
abbrev cX11_muffle : ByteArray := prog_13_method_32_code
def yX11_muffle : MethodName := ⟨RX11, "muffle", "(II)I"⟩
abbrev cX11_heardOf : ByteArray := prog_13_method_33_code
def yX11_heardOf : MethodName := ⟨RX11, "heardOf", "(I)I"⟩
abbrev cX11_told : ByteArray := prog_13_method_34_code
def yX11_told : MethodName := ⟨RX11, "told", "(I)I"⟩
abbrev cX11_drinker : ByteArray := prog_13_method_35_code
def yX11_drinker : MethodName := ⟨RX11, "drinker", "(II)I"⟩
abbrev cX11_goer : ByteArray := prog_13_method_36_code
def yX11_goer : MethodName := ⟨RX11, "goer", "(II)I"⟩
abbrev cX11_signal : ByteArray := prog_13_method_37_code
def yX11_signal : MethodName := ⟨RX11, "signal", "(I)I"⟩
abbrev cX11_logged : ByteArray := prog_13_method_38_code
def yX11_logged : MethodName := ⟨RX11, "logged", "(II)I"⟩
abbrev cX11_log : ByteArray := prog_13_method_39_code
def yX11_log : MethodName := ⟨RX11, "log", "(II)V"⟩
abbrev cX11_pass : ByteArray := prog_13_method_40_code
def yX11_pass : MethodName := ⟨RX11, "pass", "()I"⟩
abbrev cX11_remember : ByteArray := prog_13_method_41_code
def yX11_remember : MethodName := ⟨RX11, "remember", "()V"⟩
abbrev cX11_quartersRefused : ByteArray := prog_13_method_42_code
def yX11_quartersRefused : MethodName := ⟨RX11, "quartersRefused", "(I)I"⟩
abbrev cX11_quarter : ByteArray := prog_13_method_43_code
def yX11_quarter : MethodName := ⟨RX11, "quarter", "(I)I"⟩
abbrev cX11_come : ByteArray := prog_13_method_44_code
def yX11_come : MethodName := ⟨RX11, "come", "(I)I"⟩
abbrev cX11_go : ByteArray := prog_13_method_45_code
def yX11_go : MethodName := ⟨RX11, "go", "(I)I"⟩
abbrev cX11_treat : ByteArray := prog_13_method_46_code
def yX11_treat : MethodName := ⟨RX11, "treat", "(II)I"⟩
abbrev cX11_turn : ByteArray := prog_13_method_47_code
def yX11_turn : MethodName := ⟨RX11, "turn", "(II)I"⟩
abbrev cX11_hang : ByteArray := prog_13_method_48_code
def yX11_hang : MethodName := ⟨RX11, "hang", "(I)I"⟩
abbrev cX11_rain : ByteArray := prog_13_method_49_code
def yX11_rain : MethodName := ⟨RX11, "rain", "(I)I"⟩
abbrev cX11_draw : ByteArray := prog_13_method_50_code
def yX11_draw : MethodName := ⟨RX11, "draw", "(I)I"⟩
abbrev cX11_happen : ByteArray := prog_13_method_51_code
def yX11_happen : MethodName := ⟨RX11, "happen", "()V"⟩
abbrev cX11_drift : ByteArray := prog_13_method_52_code
def yX11_drift : MethodName := ⟨RX11, "drift", "(I)I"⟩
abbrev cX11_undo : ByteArray := prog_13_method_53_code
def yX11_undo : MethodName := ⟨RX11, "undo", "()I"⟩
abbrev cX11_lookAhead : ByteArray := prog_13_method_54_code
def yX11_lookAhead : MethodName := ⟨RX11, "lookAhead", "()V"⟩
abbrev cX11_strikes : ByteArray := prog_13_method_55_code
def yX11_strikes : MethodName := ⟨RX11, "strikes", "(I)I"⟩
abbrev cX11_firstHeard : ByteArray := prog_13_method_56_code
def yX11_firstHeard : MethodName := ⟨RX11, "firstHeard", "(II)I"⟩
abbrev cX11_when : ByteArray := prog_13_method_57_code
def yX11_when : MethodName := ⟨RX11, "when", "(I)I"⟩
abbrev cX11_hour : ByteArray := prog_13_method_58_code
def yX11_hour : MethodName := ⟨RX11, "hour", "(I)I"⟩
abbrev cX11_noon : ByteArray := prog_13_method_59_code
def yX11_noon : MethodName := ⟨RX11, "noon", "()I"⟩
abbrev cX11_isLate : ByteArray := prog_13_method_60_code
def yX11_isLate : MethodName := ⟨RX11, "isLate", "(II)Z"⟩
abbrev cX11_lateOnes : ByteArray := prog_13_method_61_code
def yX11_lateOnes : MethodName := ⟨RX11, "lateOnes", "(I)I"⟩
abbrev cX11_late : ByteArray := prog_13_method_62_code
def yX11_late : MethodName := ⟨RX11, "late", "(I)I"⟩
abbrev cX11_best : ByteArray := prog_13_method_63_code
def yX11_best : MethodName := ⟨RX11, "best", "(I)I"⟩
abbrev cX11_alone : ByteArray := prog_13_method_64_code
def yX11_alone : MethodName := ⟨RX11, "alone", "(I)I"⟩
abbrev cX11_given : ByteArray := prog_13_method_65_code
def yX11_given : MethodName := ⟨RX11, "given", "(I)I"⟩
abbrev cX11_mistaken : ByteArray := prog_13_method_66_code
def yX11_mistaken : MethodName := ⟨RX11, "mistaken", "()I"⟩
abbrev cX11_costOf : ByteArray := prog_13_method_67_code
def yX11_costOf : MethodName := ⟨RX11, "costOf", "(I)I"⟩
abbrev cX11_costs : ByteArray := prog_13_method_68_code
def yX11_costs : MethodName := ⟨RX11, "costs", "(I)I"⟩
abbrev cX11_rungWith : ByteArray := prog_13_method_69_code
def yX11_rungWith : MethodName := ⟨RX11, "rungWith", "(I)I"⟩
abbrev cX11_vespers : ByteArray := prog_13_method_70_code
def yX11_vespers : MethodName := ⟨RX11, "vespers", "(II)I"⟩
abbrev cX11_ship : ByteArray := prog_13_method_71_code
def yX11_ship : MethodName := ⟨RX11, "ship", "(I)I"⟩
abbrev cX11_widows : ByteArray := prog_13_method_72_code
def yX11_widows : MethodName := ⟨RX11, "widows", "(I)I"⟩
abbrev cX11_odds : ByteArray := prog_13_method_73_code
def yX11_odds : MethodName := ⟨RX11, "odds", "(I)I"⟩
abbrev cX11_most : ByteArray := prog_13_method_74_code
def yX11_most : MethodName := ⟨RX11, "most", "()I"⟩
abbrev cX11_common : ByteArray := prog_13_method_75_code
def yX11_common : MethodName := ⟨RX11, "common", "(II)I"⟩
abbrev cX11_round : ByteArray := prog_13_method_76_code
def yX11_round : MethodName := ⟨RX11, "round", "()I"⟩
abbrev cX11_isAhead : ByteArray := prog_13_method_77_code
def yX11_isAhead : MethodName := ⟨RX11, "isAhead", "(II)Z"⟩
abbrev cX11_share : ByteArray := prog_13_method_78_code
def yX11_share : MethodName := ⟨RX11, "share", "(I)I"⟩
abbrev cX11_was : ByteArray := prog_13_method_79_code
def yX11_was : MethodName := ⟨RX11, "was", "(II)I"⟩
abbrev cX11_heardBy : ByteArray := prog_13_method_80_code
def yX11_heardBy : MethodName := ⟨RX11, "heardBy", "(III)I"⟩
abbrev cX11_couldBe : ByteArray := prog_13_method_81_code
def yX11_couldBe : MethodName := ⟨RX11, "couldBe", "(II)Z"⟩
abbrev cX11_could : ByteArray := prog_13_method_82_code
def yX11_could : MethodName := ⟨RX11, "could", "(I)I"⟩
abbrev cX11_greatestPart : ByteArray := prog_13_method_83_code
def yX11_greatestPart : MethodName := ⟨RX11, "greatestPart", "(I)I"⟩
abbrev cX11_listen : ByteArray := prog_13_method_84_code
def yX11_listen : MethodName := ⟨RX11, "listen", "()I"⟩
abbrev cX11_muffled : ByteArray := prog_13_method_85_code
def yX11_muffled : MethodName := ⟨RX11, "muffled", "()I"⟩
abbrev cX11_write : ByteArray := prog_13_method_86_code
def yX11_write : MethodName := ⟨RX11, "write", "(II)I"⟩
abbrev cX11_tear : ByteArray := prog_13_method_87_code
def yX11_tear : MethodName := ⟨RX11, "tear", "()I"⟩
abbrev cX11_judge : ByteArray := prog_13_method_88_code
def yX11_judge : MethodName := ⟨RX11, "judge", "()I"⟩
abbrev cX11_seed : ByteArray := prog_13_method_89_code
def yX11_seed : MethodName := ⟨RX11, "seed", "(I)I"⟩
abbrev cX11_keep : ByteArray := prog_13_method_90_code
def yX11_keep : MethodName := ⟨RX11, "keep", "(I)I"⟩
abbrev cX11_goBack : ByteArray := prog_13_method_91_code
def yX11_goBack : MethodName := ⟨RX11, "goBack", "(I)I"⟩
def RJ6 : String := "java/lang/Integer"
abbrev cJ6_bitCount_0f7a4 : ByteArray := prog_14_method_49_code
def yJ6_bitCount_0f7a4 : MethodName := ⟨RJ6, "bitCount", "(I)I"⟩
def RJ9 : String := "java/lang/Math"
abbrev cJ9_max_7cf53 : ByteArray := prog_15_method_65_code
def yJ9_max_7cf53 : MethodName := ⟨RJ9, "max", "(II)I"⟩
abbrev cJ9_min_7cf53 : ByteArray := prog_15_method_69_code
def yJ9_min_7cf53 : MethodName := ⟨RJ9, "min", "(II)I"⟩
def RL : String := "BellRopeLaw"
abbrev cL_law : ByteArray := code
def yL_law : MethodName := ⟨RL, "law", "([I)Z"⟩
end
section
/-! ONE MEMORY: object n, place k. Its cells at the addresses of g; what a method's row does to it. -/
abbrev bo_M : Type := Nat → Nat → Int32
def bo_up (σ : bo_M) (o k : Nat) (v : Int32) : bo_M := fun a => if a = o then upd (σ o) k v else σ a
abbrev bo_cl : List vw_C := [(RX0, TX0, 3), (RX1, TX1, 1), (RX2, TX2, 10), (RX3, TX3, 3), (RX4, TX4, 15), (RX5, TX5, 6), (RX6, TX6, 2), (RX7, TX7, 6), (RX9, TX9, 2), (RX10, TX10, 12), (RX11, TX11, 54)]
abbrev bo_G : Type := (Nat → ClassId) × va_G × (Nat → Nat)
abbrev bo_tys (c3 : Nat → ClassId) : List (ClassId × FieldType) := [(c3 0, .int), (c3 1, .boolean), (c3 2, .object "BellRope$Evening")]
abbrev bo_Lay : Type := (Nat × Nat) ⊕ (Nat × List (Nat × Nat))
abbrev bo_LEv : List (Nat × Nat) := [(2,1),(2,2),(2,3),(2,4),(0,0),(0,0),(0,0),(0,0),(0,0),(0,0)]
abbrev bo_LInn : List (Nat × Nat) := [(2,1),(2,2),(2,3),(2,4),(2,5),(2,6),(2,7),(1,0),(0,0),(0,0),(0,0),(0,0),(0,0),(0,0),(0,0)]
abbrev bo_LIm : List (Nat × Nat) := [(2,1),(0,0),(1,0)]
abbrev bo_LTop : List (Nat × Nat) := [(2,1),(2,50),(2,3),(2,5),(2,11),(2,17),(2,24),(2,29),(2,32),(3,0),(3,0),(0,0)]
abbrev bo_LRead : List (Nat × Nat) := [(2,1),(0,0),(0,0),(0,0),(0,0),(0,0)]
abbrev bo_LPast : List (Nat × Nat) := [(2,1),(0,0)]
abbrev bo_LTri : List (Nat × Nat) := [(2,1),(2,6)]
abbrev bo_LKno : List (Nat × Nat) := [(2,1),(2,2),(2,3),(2,4),(0,0),(0,0)]
abbrev bo_LBook : List (Nat × Nat) := [(2,1),(2,2),(0,0)]
abbrev bo_LCha : List (Nat × Nat) := [(2,1)]
abbrev bo_LMod : List (Nat × Nat) := [(1,0),(0,0),(0,0),(0,0),(0,0),(2,1),(2,2),(2,3),(0,0),(2,4),(2,5),(0,0),(2,6),(2,7),(0,0),(2,8),(2,9),(0,0),(2,10),(0,0),(0,0),(0,0),(0,0),(0,0),(1,0),(2,11),(0,0),(2,12),(2,13),(2,14),(0,0),(2,15),(2,16),(0,0),(2,17),(2,18),(0,0),(2,19),(0,0),(2,20),(2,21),(2,22),(2,23),(2,24),(0,0),(2,25),(2,26),(2,27),(2,28),(0,0),(2,29),(2,30),(2,31),(2,32)]
def bo_evL : List bo_Lay := [.inr (2, bo_LEv), .inl (0,7), .inl (0,7), .inl (0,40), .inl (0,40)]
def bo_innL : List bo_Lay := [.inr (4, bo_LInn), .inl (0,7), .inl (0,7), .inl (0,7), .inl (0,6), .inl (0,6), .inl (0,5), .inl (0,96)]
def bo_ev4 : List bo_Lay := bo_evL ++ (bo_evL ++ (bo_evL ++ bo_evL))
def bo_lays : List bo_Lay :=
  [.inr (9, bo_LTop), .inr (7, bo_LRead), .inl (0,240), .inr (6, bo_LPast), .inl (2,16), .inr (3, bo_LIm)] ++ (bo_evL ++ ([.inr (3, bo_LIm)] ++ (bo_evL ++ ([.inr (8, bo_LTri)] ++ (bo_evL ++
  ([.inl (0,192), .inr (5, bo_LKno), .inl (0,6), .inl (0,6), .inl (0,128), .inl (0,17), .inr (0, bo_LBook), .inl (0,15), .inl (0,15), .inr (1, bo_LCha), .inl (0,8)] ++ (bo_innL ++ (bo_innL ++ (bo_evL ++ (bo_ev4 ++ (bo_ev4 ++ (bo_ev4 ++ (bo_ev4 ++
  [.inr (10, bo_LMod), .inl (0,7), .inl (0,7), .inl (0,7), .inl (0,4), .inl (0,4), .inl (0,6), .inl (0,6), .inl (0,5), .inl (0,107), .inl (0,240), .inl (0,3), .inl (0,7), .inl (0,7), .inl (0,7), .inl (0,4), .inl (0,4), .inl (0,6), .inl (0,6), .inl (0,5), .inl (0,1712), .inl (0,107), .inl (0,192), .inl (0,192), .inl (0,8), .inl (0,6), .inl (0,6), .inl (1,128), .inl (0,20), .inl (0,15), .inl (0,15), .inl (0,216), .inl (1,2)])))))))))))))
def bo_lay (n : Nat) : bo_Lay := bo_lays.getD n (.inl (0,0))
theorem bo_lays_len : bo_lays.length = 168 := by decide +kernel
/-- the INN and the evening that a number in the memory names -/
def bo_inn (x : Int32) : Nat := if x = 0 then 34 else 42
def bo_ev (x : Int32) : Nat := 55 + 5 * (x.toNatClampNeg % 16)
def bo_isInn (i : Nat) : Prop := i = 34 ∨ i = 42
def bo_isEv (e : Nat) : Prop := e = 6 ∨ e = 12 ∨ e = 18 ∨ ∃ j, j < 17 ∧ e = 50 + 5 * j
def bo_isIm (i : Nat) : Prop := i = 5 ∨ i = 11
/-- an array of ints of that length -/
def bo_isA (o n : Nat) : Prop := o < 168 ∧ bo_lay o = .inl (0, n)
def bo_isO (o ci : Nat) (ts : List (Nat × Nat)) : Prop := o < 168 ∧ bo_lay o = .inr (ci, ts)
theorem bo_inn_ok (x : Int32) : bo_isInn (bo_inn x) := by unfold bo_inn bo_isInn; split <;> simp
theorem bo_ev_ok (x : Int32) : bo_isEv (bo_ev x) := Or.inr (Or.inr (Or.inr ⟨x.toNatClampNeg % 16 + 1, by omega, by unfold bo_ev; omega⟩))
theorem bo_isInn.o {i : Nat} (h : bo_isInn i) : bo_isO i 4 bo_LInn := by rcases h with rfl | rfl <;> exact ⟨by decide, by decide +kernel⟩
theorem bo_isInn.a1 {i : Nat} (h : bo_isInn i) : bo_isA (i + 1) 7 := by rcases h with rfl | rfl <;> exact ⟨by decide, by decide +kernel⟩
theorem bo_isInn.a2 {i : Nat} (h : bo_isInn i) : bo_isA (i + 2) 7 := by rcases h with rfl | rfl <;> exact ⟨by decide, by decide +kernel⟩
theorem bo_isInn.a3 {i : Nat} (h : bo_isInn i) : bo_isA (i + 3) 7 := by rcases h with rfl | rfl <;> exact ⟨by decide, by decide +kernel⟩
theorem bo_isInn.a4 {i : Nat} (h : bo_isInn i) : bo_isA (i + 4) 6 := by rcases h with rfl | rfl <;> exact ⟨by decide, by decide +kernel⟩
theorem bo_isInn.a5 {i : Nat} (h : bo_isInn i) : bo_isA (i + 5) 6 := by rcases h with rfl | rfl <;> exact ⟨by decide, by decide +kernel⟩
theorem bo_isInn.a6 {i : Nat} (h : bo_isInn i) : bo_isA (i + 6) 5 := by rcases h with rfl | rfl <;> exact ⟨by decide, by decide +kernel⟩
theorem bo_isInn.a7 {i : Nat} (h : bo_isInn i) : bo_isA (i + 7) 96 := by rcases h with rfl | rfl <;> exact ⟨by decide, by decide +kernel⟩
theorem bo_ev_all (j : Nat) (hj : j < 17) : bo_isO (50 + 5 * j) 2 bo_LEv ∧ bo_isA (50 + 5 * j + 1) 7 ∧ bo_isA (50 + 5 * j + 2) 7 ∧ bo_isA (50 + 5 * j + 3) 40 ∧ bo_isA (50 + 5 * j + 4) 40 := by
  have h : j = 0 ∨ j = 1 ∨ j = 2 ∨ j = 3 ∨ j = 4 ∨ j = 5 ∨ j = 6 ∨ j = 7 ∨ j = 8 ∨ j = 9 ∨ j = 10 ∨ j = 11 ∨ j = 12 ∨ j = 13 ∨ j = 14 ∨ j = 15 ∨ j = 16 := by omega
  rcases h with rfl | rfl | rfl | rfl | rfl | rfl | rfl | rfl | rfl | rfl | rfl | rfl | rfl | rfl | rfl | rfl | rfl <;> exact ⟨⟨by decide, by decide +kernel⟩, ⟨by decide, by decide +kernel⟩, ⟨by decide, by decide +kernel⟩, ⟨by decide, by decide +kernel⟩, ⟨by decide, by decide +kernel⟩⟩
theorem bo_isEv.all {e : Nat} (h : bo_isEv e) : bo_isO e 2 bo_LEv ∧ bo_isA (e + 1) 7 ∧ bo_isA (e + 2) 7 ∧ bo_isA (e + 3) 40 ∧ bo_isA (e + 4) 40 := by
  rcases h with rfl | rfl | rfl | ⟨j, hj, rfl⟩
  · exact ⟨⟨by decide, by decide +kernel⟩, ⟨by decide, by decide +kernel⟩, ⟨by decide, by decide +kernel⟩, ⟨by decide, by decide +kernel⟩, ⟨by decide, by decide +kernel⟩⟩
  · exact ⟨⟨by decide, by decide +kernel⟩, ⟨by decide, by decide +kernel⟩, ⟨by decide, by decide +kernel⟩, ⟨by decide, by decide +kernel⟩, ⟨by decide, by decide +kernel⟩⟩
  · exact ⟨⟨by decide, by decide +kernel⟩, ⟨by decide, by decide +kernel⟩, ⟨by decide, by decide +kernel⟩, ⟨by decide, by decide +kernel⟩, ⟨by decide, by decide +kernel⟩⟩
  · exact bo_ev_all j hj
theorem bo_isEv.o {e : Nat} (h : bo_isEv e) : bo_isO e 2 bo_LEv := h.all.1
theorem bo_isEv.a1 {e : Nat} (h : bo_isEv e) : bo_isA (e + 1) 7 := h.all.2.1
theorem bo_isEv.a2 {e : Nat} (h : bo_isEv e) : bo_isA (e + 2) 7 := h.all.2.2.1
theorem bo_isEv.a3 {e : Nat} (h : bo_isEv e) : bo_isA (e + 3) 40 := h.all.2.2.2.1
theorem bo_isEv.a4 {e : Nat} (h : bo_isEv e) : bo_isA (e + 4) 40 := h.all.2.2.2.2
theorem bo_isIm.o {i : Nat} (h : bo_isIm i) : bo_isO i 3 bo_LIm := by rcases h with rfl | rfl <;> exact ⟨by decide, by decide +kernel⟩
theorem bo_isIm.ev {i : Nat} (h : bo_isIm i) : bo_isEv (i + 1) := by rcases h with rfl | rfl; exact Or.inl rfl; exact Or.inr (Or.inl rfl)
theorem bo_im5 : bo_isIm 5 := Or.inl rfl
theorem bo_im11 : bo_isIm 11 := Or.inr rfl
theorem bo_ev18 : bo_isEv 18 := Or.inr (Or.inr (Or.inl rfl))
theorem bo_ev50 : bo_isEv 50 := Or.inr (Or.inr (Or.inr ⟨0, by decide, rfl⟩))
/-! the world -/
def bo_fv (ad : Nat → Nat) (n : Nat) (f : Nat → Int32) (k : Nat) (t : Nat × Nat) : Value := match t.1 with
  | 0 => .int (f k)
  | 1 => .int (f k &&& 1)
  | 2 => .ref (ad (n + t.2))
  | _ => .ref (ad (bo_inn (f k)))
def bo_fvs (ad : Nat → Nat) (n : Nat) (f : Nat → Int32) : Nat → List (Nat × Nat) → List Value
  | _, [] => []
  | k, t :: ts => bo_fv ad n f k t :: bo_fvs ad n f (k + 1) ts
def bo_cell (g : bo_G) (n : Nat) (f : Nat → Int32) (L : bo_Lay) : va_E := match L with
  | .inl (0, len) => .inl (g.1 0, len, .inl f)
  | .inl (1, len) => .inl (g.1 1, len, .inl f)
  | .inl (_, len) => .inl (g.1 2, len, .inr (.inr (.inr (.inr (fun k => some (g.2.2 (bo_ev (f k))))))))
  | .inr (ci, ts) => .inr (ci, bo_fvs g.2.2 n f 0 ts)
def bo_ws (g : bo_G) (σ : bo_M) : va_W := (List.range 168).map fun n => (g.2.2 n, bo_cell g n (σ n) (bo_lay n))
def bo_inj (g : bo_G) : Prop := ∀ i j, i < 168 → j < 168 → g.2.2 i = g.2.2 j → i = j
theorem bo_ws_get {g : bo_G} {σ : bo_M} {n : Nat} (h : n < 168) : (bo_ws g σ)[n]? = some (g.2.2 n, bo_cell g n (σ n) (bo_lay n)) := by
  unfold bo_ws
  rw [List.getElem?_map, List.getElem?_range h]
  rfl
theorem bo_ws_len {g : bo_G} {σ : bo_M} : (bo_ws g σ).length = 168 := by unfold bo_ws; simp
theorem bo_ws_set {g : bo_G} {σ : bo_M} {n k : Nat} {v : Int32} {e : va_E} (h : n < 168) (he : bo_cell g n (upd (σ n) k v) (bo_lay n) = e) : (bo_ws g σ).set n (g.2.2 n, e) = bo_ws g (bo_up σ n k v) := by
  apply List.ext_getElem?
  intro j
  by_cases hj : j < 168
  · by_cases hn : j = n
    · subst hn
      rw [List.getElem?_set_self (by rw [bo_ws_len]; exact hj), bo_ws_get hj, ← he]
      simp [bo_up]
    · rw [List.getElem?_set_ne (Ne.symm hn), bo_ws_get hj, bo_ws_get hj]
      simp [bo_up, hn]
  · rw [List.getElem?_eq_none (by rw [List.length_set, bo_ws_len]; omega), List.getElem?_eq_none (by rw [bo_ws_len]; omega)]
def bo_A (g : bo_G) : Nat → Prop := fun q => ∃ n, n < 168 ∧ q = g.2.2 n
theorem bo_ws_D {g : bo_G} {σ : bo_M} {A : Nat → Prop} (hi : bo_inj g) (hA : ∀ n, n < 168 → A (g.2.2 n)) : va_D A (bo_ws g σ) := by
  have key : ∀ (k : Nat) (q : Nat × va_E), (bo_ws g σ)[k]? = some q → k < 168 ∧ q.1 = g.2.2 k := by
    intro k q hk
    have hl : k < 168 := by
      have := (List.getElem?_eq_some_iff.mp hk).1
      rwa [bo_ws_len] at this
    rw [bo_ws_get hl] at hk
    cases hk
    exact ⟨hl, rfl⟩
  refine ⟨fun i j p q h1 h2 h3 => ?_, fun k q h => ?_⟩
  · obtain ⟨a1, a2⟩ := key i p h1
    obtain ⟨b1, b2⟩ := key j q h2
    exact hi i j a1 b1 (by rw [← a2, ← b2]; exact h3)
  · obtain ⟨a1, a2⟩ := key k q h
    rw [a2]
    exact hA k a1
def bo_tb : List Cond := lw_tbl.filter goodWord
theorem bo_tb_in {w : Cond} (h : w ∈ bo_tb) : w ∈ lw_tbl := (List.mem_filter.mp h).1
theorem bo_mem {w : Cond} (i : Nat) (h : lw_tbl[i]? = some w) (hg : goodWord w = true) : w ∈ bo_tb := List.mem_filter.mpr ⟨List.mem_of_getElem? h, hg⟩
theorem bo_goodIn {ws : List Cond} (h : ∀ w ∈ ws, w ∈ bo_tb) : GoodIn bo_tb ws := fun w hw => ⟨h w hw, good_of_word (List.mem_filter.mp (h w hw)).2⟩
/-- links to private members of a nest mate: they ride in the world -/
def bo_nests : List (String × Nat × MethodName) := [(RX2, 68, yX10_bit), (RX10, 9, yX7_init), (RX10, 18, yX2_init), (RX6, 17, yX2_init), (RX10, 32, yX3_init), (RX3, 9, yX2_init), (RX10, 42, yX9_init), (RX9, 11, yX2_init), (RX10, 49, yX5_init), (RX10, 56, yX0_init), (RX10, 63, yX1_init), (RX10, 70, yX4_init)]
def bo_NW (U : State) : Prop := ∀ q ∈ bo_nests, va_Nw (.methodLinkNest q.1 q.2.1 q.2.2 "BellRope") U
theorem bo_NW.warm {s U : State} (hW : s.WarmedH U.vm) (h : bo_NW s) : bo_NW U := fun q hq => va_Nw.warmM hW (h q hq)
theorem bo_NW.same {u U : State} (e : u.vm = U.vm) (h : bo_NW u) : bo_NW U := fun q hq => va_Nw.same rfl e (h q hq)
/-- what a method of a finished world starts with and ends with -/
def bo_Pre (g : bo_G) (σ : bo_M) : State → Prop := fun U => va_P g.2.1 bo_cl (bo_ws g σ) U.heap ∧ va_K g.2.1 bo_cl (bo_tys g.1) U ∧ bo_NW U
/-! the walk -/
abbrev bo_X : Type := Program × Launch × Env × Room × State × MethodId × Array Value × List Frame × Method × Code × bo_G × (Nat → Prop) × Nat × Nat × (State → Prop)
def bo_l (x : bo_X) : Launch := x.2.1
def bo_g (x : bo_X) : bo_G := x.2.2.2.2.2.2.2.2.2.2.1
abbrev bo_a (x : bo_X) (n : Nat) : Nat := (bo_g x).2.2 n
def bo_N (x : bo_X) (pc : Nat) (L : List (Nat × Value)) (S : List Value) (σ : bo_M) : Prop := match x with
  | (p, l, e, R, s, m, args, below, meth, c, g, A, cells, slots, Q) => ∀ (H : Heap) (locs : List Loc) (ls : Array Slot), va_P g.2.1 bo_cl (bo_ws g σ) H → va_S A s.heap H locs → lv_has ls c.maxLocals L → W p l e R s m args below meth c H locs cells slots Q (F0 m pc ls S)
def bo_OK (x : bo_X) (cc : ByteArray) (own : String) (nL fr lo : Nat) : Prop := match x with
  | (p, l, e, R, s, m, args, below, meth, c, g, A, cells, slots, Q) => p.tables.exec = Jvm.exec ∧ c.code = cc ∧ c.maxLocals = nL ∧ s.vm.findClass own = some m.cls ∧ (∀ w ∈ bo_tb, w.before args s = true) ∧ va_K g.2.1 bo_cl (bo_tys g.1) s ∧ bo_NW s ∧ bo_inj g ∧ (∀ n, n < 168 → A (g.2.2 n)) ∧ fr ≤ R.frames ∧ lo ≤ R.locals ∧ cells ≤ R.cells ∧ slots ≤ R.slots
/-- if the function M answers a, and from what k says of a it goes on, then it goes on from here -/
def bo_D {α : Type} (x : bo_X) (pc : Nat) (L : List (Nat × Value)) (S : List Value) (σ : bo_M) (M : Option α) (k : α → Prop) : Prop := ∀ a, M = some a → k a → bo_N x pc L S σ
def bo_B (v : Int32) : Prop := v = 0 ∨ v = 1
theorem bo_b1 (v : Int32) : bo_B (v &&& 1) := by
  unfold bo_B
  have h : (v &&& 1).toBitVec = 0#32 ∨ (v &&& 1).toBitVec = 1#32 := by
    rw [Int32.toBitVec_and]
    have : (1 : Int32).toBitVec = 1#32 := by decide
    rw [this]
    rcases Nat.mod_two_eq_zero_or_one v.toBitVec.toNat with h | h
    · left
      apply BitVec.eq_of_toNat_eq
      rw [BitVec.toNat_and]
      show v.toBitVec.toNat &&& 1 = 0
      rw [Nat.and_one_is_mod, h]
    · right
      apply BitVec.eq_of_toNat_eq
      rw [BitVec.toNat_and]
      show v.toBitVec.toNat &&& 1 = 1
      rw [Nat.and_one_is_mod, h]
  rcases h with h | h
  · left; exact Int32.toBitVec_inj.mp (by rw [h]; decide)
  · right; exact Int32.toBitVec_inj.mp (by rw [h]; decide)
theorem bo_B.and {v : Int32} (h : bo_B v) : v &&& 1 = v := by rcases h with rfl | rfl <;> decide
theorem bo_B.fit {v : Int32} (h : bo_B v) : fits .boolean (.int v) = true := by rcases h with rfl | rfl <;> decide
theorem bo_b_0 : bo_B 0 := Or.inl rfl
theorem bo_b_1 : bo_B 1 := Or.inr rfl
theorem bo_bind {α β : Type} {M : Option α} {K : α → Option β} {b : β} (h : M.bind K = some b) : ∃ a, M = some a ∧ K a = some b := by
  cases M with
  | none => cases h
  | some a => exact ⟨a, rfl, h⟩
end
section
/-! the rows of the machine over the one memory -/
section BO
variable {x : bo_X} {cc : ByteArray} {own : String} {nL fr lo : Nat} {pc : Nat} {L : List (Nat × Value)} {S : List Value} {σ : bo_M} {α β : Type} {M M1 M2 : Option α} {k : α → Prop}
theorem bo_iadd (hx : bo_OK x cc own nL fr lo) {a b : Int32} (hd : decode cc pc = .ok (.iadd, 1)) (kk : bo_D x (pc + 1) L (.int (a + b) :: S) σ M k) : bo_D x pc L (.int b :: .int a :: S) σ M k := by
  obtain ⟨p, l, e, R, s, m, args, below, meth, c, g, A, cells, slots, Q⟩ := x
  obtain ⟨hex, hb, hml, hown, hts, hK, hNW, hi, hA, hfr, hlo, hce, hsl⟩ := hx
  intro r h1 h2 H locs ls hP hS hl
  exact lv_iadd hex hb hd (kk r h1 h2 H locs ls hP hS hl)
theorem bo_isub (hx : bo_OK x cc own nL fr lo) {a b : Int32} (hd : decode cc pc = .ok (.isub, 1)) (kk : bo_D x (pc + 1) L (.int (a - b) :: S) σ M k) : bo_D x pc L (.int b :: .int a :: S) σ M k := by
  obtain ⟨p, l, e, R, s, m, args, below, meth, c, g, A, cells, slots, Q⟩ := x
  obtain ⟨hex, hb, hml, hown, hts, hK, hNW, hi, hA, hfr, hlo, hce, hsl⟩ := hx
  intro r h1 h2 H locs ls hP hS hl
  exact lv_isub hex hb hd (kk r h1 h2 H locs ls hP hS hl)
theorem bo_imul (hx : bo_OK x cc own nL fr lo) {a b : Int32} (hd : decode cc pc = .ok (.imul, 1)) (kk : bo_D x (pc + 1) L (.int (a * b) :: S) σ M k) : bo_D x pc L (.int b :: .int a :: S) σ M k := by
  obtain ⟨p, l, e, R, s, m, args, below, meth, c, g, A, cells, slots, Q⟩ := x
  obtain ⟨hex, hb, hml, hown, hts, hK, hNW, hi, hA, hfr, hlo, hce, hsl⟩ := hx
  intro r h1 h2 H locs ls hP hS hl
  exact lv_imul hex hb hd (kk r h1 h2 H locs ls hP hS hl)
theorem bo_iand (hx : bo_OK x cc own nL fr lo) {a b : Int32} (hd : decode cc pc = .ok (.iand, 1)) (kk : bo_D x (pc + 1) L (.int (a &&& b) :: S) σ M k) : bo_D x pc L (.int b :: .int a :: S) σ M k := by
  obtain ⟨p, l, e, R, s, m, args, below, meth, c, g, A, cells, slots, Q⟩ := x
  obtain ⟨hex, hb, hml, hown, hts, hK, hNW, hi, hA, hfr, hlo, hce, hsl⟩ := hx
  intro r h1 h2 H locs ls hP hS hl
  exact lv_iand hex hb hd (kk r h1 h2 H locs ls hP hS hl)
theorem bo_ior (hx : bo_OK x cc own nL fr lo) {a b : Int32} (hd : decode cc pc = .ok (.ior, 1)) (kk : bo_D x (pc + 1) L (.int (a ||| b) :: S) σ M k) : bo_D x pc L (.int b :: .int a :: S) σ M k := by
  obtain ⟨p, l, e, R, s, m, args, below, meth, c, g, A, cells, slots, Q⟩ := x
  obtain ⟨hex, hb, hml, hown, hts, hK, hNW, hi, hA, hfr, hlo, hce, hsl⟩ := hx
  intro r h1 h2 H locs ls hP hS hl
  exact lv_ior hex hb hd (kk r h1 h2 H locs ls hP hS hl)
theorem bo_ixor (hx : bo_OK x cc own nL fr lo) {a b : Int32} (hd : decode cc pc = .ok (.ixor, 1)) (kk : bo_D x (pc + 1) L (.int (a ^^^ b) :: S) σ M k) : bo_D x pc L (.int b :: .int a :: S) σ M k := by
  obtain ⟨p, l, e, R, s, m, args, below, meth, c, g, A, cells, slots, Q⟩ := x
  obtain ⟨hex, hb, hml, hown, hts, hK, hNW, hi, hA, hfr, hlo, hce, hsl⟩ := hx
  intro r h1 h2 H locs ls hP hS hl
  exact lv_ixor hex hb hd (kk r h1 h2 H locs ls hP hS hl)
theorem bo_ishl (hx : bo_OK x cc own nL fr lo) {a b : Int32} (hd : decode cc pc = .ok (.ishl, 1)) (kk : bo_D x (pc + 1) L (.int (a <<< (b &&& 31)) :: S) σ M k) : bo_D x pc L (.int b :: .int a :: S) σ M k := by
  obtain ⟨p, l, e, R, s, m, args, below, meth, c, g, A, cells, slots, Q⟩ := x
  obtain ⟨hex, hb, hml, hown, hts, hK, hNW, hi, hA, hfr, hlo, hce, hsl⟩ := hx
  intro r h1 h2 H locs ls hP hS hl
  exact lv_ishl hex hb hd (kk r h1 h2 H locs ls hP hS hl)
theorem bo_ishr (hx : bo_OK x cc own nL fr lo) {a b : Int32} (hd : decode cc pc = .ok (.ishr, 1)) (kk : bo_D x (pc + 1) L (.int (a >>> (b &&& 31)) :: S) σ M k) : bo_D x pc L (.int b :: .int a :: S) σ M k := by
  obtain ⟨p, l, e, R, s, m, args, below, meth, c, g, A, cells, slots, Q⟩ := x
  obtain ⟨hex, hb, hml, hown, hts, hK, hNW, hi, hA, hfr, hlo, hce, hsl⟩ := hx
  intro r h1 h2 H locs ls hP hS hl
  exact lv_ishr hex hb hd (kk r h1 h2 H locs ls hP hS hl)
theorem bo_iushr (hx : bo_OK x cc own nL fr lo) {a b : Int32} (hd : decode cc pc = .ok (.iushr, 1)) (kk : bo_D x (pc + 1) L (.int ((a.toUInt32 >>> (b.toUInt32 &&& Int32.toUInt32 31)).toInt32) :: S) σ M k) : bo_D x pc L (.int b :: .int a :: S) σ M k := by
  obtain ⟨p, l, e, R, s, m, args, below, meth, c, g, A, cells, slots, Q⟩ := x
  obtain ⟨hex, hb, hml, hown, hts, hK, hNW, hi, hA, hfr, hlo, hce, hsl⟩ := hx
  intro r h1 h2 H locs ls hP hS hl
  exact t_iushr hex hb hd rfl (kk r h1 h2 H locs ls hP hS hl)
theorem bo_ladd (hx : bo_OK x cc own nL fr lo) {a b : Int64} (hd : decode cc pc = .ok (.ladd, 1)) (kk : bo_D x (pc + 1) L (.long (a + b) :: S) σ M k) : bo_D x pc L (.long b :: .long a :: S) σ M k := by
  obtain ⟨p, l, e, R, s, m, args, below, meth, c, g, A, cells, slots, Q⟩ := x
  obtain ⟨hex, hb, hml, hown, hts, hK, hNW, hi, hA, hfr, hlo, hce, hsl⟩ := hx
  intro r h1 h2 H locs ls hP hS hl
  exact lv_ladd hex hb hd (kk r h1 h2 H locs ls hP hS hl)
theorem bo_lmul (hx : bo_OK x cc own nL fr lo) {a b : Int64} (hd : decode cc pc = .ok (.lmul, 1)) (kk : bo_D x (pc + 1) L (.long (a * b) :: S) σ M k) : bo_D x pc L (.long b :: .long a :: S) σ M k := by
  obtain ⟨p, l, e, R, s, m, args, below, meth, c, g, A, cells, slots, Q⟩ := x
  obtain ⟨hex, hb, hml, hown, hts, hK, hNW, hi, hA, hfr, hlo, hce, hsl⟩ := hx
  intro r h1 h2 H locs ls hP hS hl
  exact lv_lmul hex hb hd (kk r h1 h2 H locs ls hP hS hl)
theorem bo_i2l (hx : bo_OK x cc own nL fr lo) {a : Int32} (hd : decode cc pc = .ok (.i2l, 1)) (kk : bo_D x (pc + 1) L (.long a.toInt64 :: S) σ M k) : bo_D x pc L (.int a :: S) σ M k := by
  obtain ⟨p, l, e, R, s, m, args, below, meth, c, g, A, cells, slots, Q⟩ := x
  obtain ⟨hex, hb, hml, hown, hts, hK, hNW, hi, hA, hfr, hlo, hce, hsl⟩ := hx
  intro r h1 h2 H locs ls hP hS hl
  exact lv_i2l hex hb hd rfl (kk r h1 h2 H locs ls hP hS hl)
theorem bo_l2i (hx : bo_OK x cc own nL fr lo) {a : Int64} (hd : decode cc pc = .ok (.l2i, 1)) (kk : bo_D x (pc + 1) L (.int a.toInt32 :: S) σ M k) : bo_D x pc L (.long a :: S) σ M k := by
  obtain ⟨p, l, e, R, s, m, args, below, meth, c, g, A, cells, slots, Q⟩ := x
  obtain ⟨hex, hb, hml, hown, hts, hK, hNW, hi, hA, hfr, hlo, hce, hsl⟩ := hx
  intro r h1 h2 H locs ls hP hS hl
  exact lv_l2i hex hb hd rfl (kk r h1 h2 H locs ls hP hS hl)
theorem bo_lcmp (hx : bo_OK x cc own nL fr lo) {a b : Int64} (hd : decode cc pc = .ok (.lcmp, 1)) (kk : bo_D x (pc + 1) L (.int (lg_cmp a b) :: S) σ M k) : bo_D x pc L (.long b :: .long a :: S) σ M k := by
  obtain ⟨p, l, e, R, s, m, args, below, meth, c, g, A, cells, slots, Q⟩ := x
  obtain ⟨hex, hb, hml, hown, hts, hK, hNW, hi, hA, hfr, hlo, hce, hsl⟩ := hx
  intro r h1 h2 H locs ls hP hS hl
  exact W.lcmp hex hb hd (kk r h1 h2 H locs ls hP hS hl)
theorem bo_iconst (hx : bo_OK x cc own nL fr lo) {n : Int} {v : Int32} (hd : decode cc pc = .ok (.iconst n, 1)) (hv : Int32.ofInt n = v) (kk : bo_D x (pc + 1) L (.int v :: S) σ M k) : bo_D x pc L (S) σ M k := by
  obtain ⟨p, l, e, R, s, m, args, below, meth, c, g, A, cells, slots, Q⟩ := x
  obtain ⟨hex, hb, hml, hown, hts, hK, hNW, hi, hA, hfr, hlo, hce, hsl⟩ := hx
  intro r h1 h2 H locs ls hP hS hl
  exact lv_iconst hex hb hd hv (kk r h1 h2 H locs ls hP hS hl)
theorem bo_bipush (hx : bo_OK x cc own nL fr lo) {n : Int} {v : Int32} (hd : decode cc pc = .ok (.bipush n, 2)) (hv : (Int8.ofInt n).toInt32 = v) (kk : bo_D x (pc + 2) L (.int v :: S) σ M k) : bo_D x pc L (S) σ M k := by
  obtain ⟨p, l, e, R, s, m, args, below, meth, c, g, A, cells, slots, Q⟩ := x
  obtain ⟨hex, hb, hml, hown, hts, hK, hNW, hi, hA, hfr, hlo, hce, hsl⟩ := hx
  intro r h1 h2 H locs ls hP hS hl
  exact lv_bipush hex hb hd hv (kk r h1 h2 H locs ls hP hS hl)
theorem bo_sipush (hx : bo_OK x cc own nL fr lo) {n : Int} {v : Int32} (hd : decode cc pc = .ok (.sipush n, 3)) (hv : (Int16.ofInt n).toInt32 = v) (kk : bo_D x (pc + 3) L (.int v :: S) σ M k) : bo_D x pc L (S) σ M k := by
  obtain ⟨p, l, e, R, s, m, args, below, meth, c, g, A, cells, slots, Q⟩ := x
  obtain ⟨hex, hb, hml, hown, hts, hK, hNW, hi, hA, hfr, hlo, hce, hsl⟩ := hx
  intro r h1 h2 H locs ls hP hS hl
  exact lv_sipush hex hb hd hv (kk r h1 h2 H locs ls hP hS hl)
theorem bo_lconst (hx : bo_OK x cc own nL fr lo) {n : Fin 2} {v : Int64} (hd : decode cc pc = .ok (.lconst n, 1)) (hv : Int64.ofNat (n : Nat) = v) (kk : bo_D x (pc + 1) L (.long v :: S) σ M k) : bo_D x pc L (S) σ M k := by
  obtain ⟨p, l, e, R, s, m, args, below, meth, c, g, A, cells, slots, Q⟩ := x
  obtain ⟨hex, hb, hml, hown, hts, hK, hNW, hi, hA, hfr, hlo, hce, hsl⟩ := hx
  intro r h1 h2 H locs ls hP hS hl
  exact lv_lconst hex hb hd hv (kk r h1 h2 H locs ls hP hS hl)
theorem bo_ldc (hx : bo_OK x cc own nL fr lo) {i : Nat} {v : Int32} (hd : decode cc pc = .ok (.ldc i, 2)) (hc : Cond.constant own i v ∈ bo_tb) (kk : bo_D x (pc + 2) L (.int v :: S) σ M k) : bo_D x pc L (S) σ M k := by
  obtain ⟨p, l, e, R, s, m, args, below, meth, c, g, A, cells, slots, Q⟩ := x
  obtain ⟨hex, hb, hml, hown, hts, hK, hNW, hi, hA, hfr, hlo, hce, hsl⟩ := hx
  intro r h1 h2 H locs ls hP hS hl
  exact lv_ldc hex hb hown (hts _ hc) hd (kk r h1 h2 H locs ls hP hS hl)
theorem bo_ldcw (hx : bo_OK x cc own nL fr lo) {i : Nat} {v : Int32} (hd : decode cc pc = .ok (.ldc_w i, 3)) (hc : Cond.constant own i v ∈ bo_tb) (kk : bo_D x (pc + 3) L (.int v :: S) σ M k) : bo_D x pc L (S) σ M k := by
  obtain ⟨p, l, e, R, s, m, args, below, meth, c, g, A, cells, slots, Q⟩ := x
  obtain ⟨hex, hb, hml, hown, hts, hK, hNW, hi, hA, hfr, hlo, hce, hsl⟩ := hx
  intro r h1 h2 H locs ls hP hS hl
  exact lv_ldcw hex hb hown (hts _ hc) hd (kk r h1 h2 H locs ls hP hS hl)
theorem bo_ldc2 (hx : bo_OK x cc own nL fr lo) {i : Nat} {v : Int64} (hd : decode cc pc = .ok (.ldc2_w i, 3)) (hc : Cond.constantLong own i v ∈ bo_tb) (kk : bo_D x (pc + 3) L (.long v :: S) σ M k) : bo_D x pc L (S) σ M k := by
  obtain ⟨p, l, e, R, s, m, args, below, meth, c, g, A, cells, slots, Q⟩ := x
  obtain ⟨hex, hb, hml, hown, hts, hK, hNW, hi, hA, hfr, hlo, hce, hsl⟩ := hx
  intro r h1 h2 H locs ls hP hS hl
  exact lv_ldc2 hex hb hown (hts _ hc) hd (kk r h1 h2 H locs ls hP hS hl)
theorem bo_null (hx : bo_OK x cc own nL fr lo) (hd : decode cc pc = .ok (.aconst_null, 1)) (kk : bo_D x (pc + 1) L (.null :: S) σ M k) : bo_D x pc L (S) σ M k := by
  obtain ⟨p, l, e, R, s, m, args, below, meth, c, g, A, cells, slots, Q⟩ := x
  obtain ⟨hex, hb, hml, hown, hts, hK, hNW, hi, hA, hfr, hlo, hce, hsl⟩ := hx
  intro r h1 h2 H locs ls hP hS hl
  exact lv_null hex hb hd (kk r h1 h2 H locs ls hP hS hl)
theorem bo_dup (hx : bo_OK x cc own nL fr lo) {v : Value} (hd : decode cc pc = .ok (.dup, 1)) (hv : v.category = 1) (kk : bo_D x (pc + 1) L (v :: v :: S) σ M k) : bo_D x pc L (v :: S) σ M k := by
  obtain ⟨p, l, e, R, s, m, args, below, meth, c, g, A, cells, slots, Q⟩ := x
  obtain ⟨hex, hb, hml, hown, hts, hK, hNW, hi, hA, hfr, hlo, hce, hsl⟩ := hx
  intro r h1 h2 H locs ls hP hS hl
  exact lv_dup hex hb hd hv (kk r h1 h2 H locs ls hP hS hl)
theorem bo_pop (hx : bo_OK x cc own nL fr lo) {v : Value} (hd : decode cc pc = .ok (.pop, 1)) (hv : v.category = 1) (kk : bo_D x (pc + 1) L (S) σ M k) : bo_D x pc L (v :: S) σ M k := by
  obtain ⟨p, l, e, R, s, m, args, below, meth, c, g, A, cells, slots, Q⟩ := x
  obtain ⟨hex, hb, hml, hown, hts, hK, hNW, hi, hA, hfr, hlo, hce, hsl⟩ := hx
  intro r h1 h2 H locs ls hP hS hl
  exact lv_pop hex hb hd hv (kk r h1 h2 H locs ls hP hS hl)
theorem bo_dup2 (hx : bo_OK x cc own nL fr lo) {v w : Value} (hd : decode cc pc = .ok (.dup2, 1)) (hv : v.category = 1) (hw : w.category = 1) (kk : bo_D x (pc + 1) L (v :: w :: v :: w :: S) σ M k) : bo_D x pc L (v :: w :: S) σ M k := by
  obtain ⟨p, l, e, R, s, m, args, below, meth, c, g, A, cells, slots, Q⟩ := x
  obtain ⟨hex, hb, hml, hown, hts, hK, hNW, hi, hA, hfr, hlo, hce, hsl⟩ := hx
  intro r h1 h2 H locs ls hP hS hl
  exact lv_dup2_11 hex hb hd hv hw (kk r h1 h2 H locs ls hP hS hl)
theorem bo_iload_n (hx : bo_OK x cc own nL fr lo) {n : Fin 4} {i : Nat} {v : Int32} (hd : decode cc pc = .ok (.iload_n n, 1)) (hi0 : (n : Nat) = i) (j : Nat) (hj : L[j]? = some (i, .int v)) (kk : bo_D x (pc + 1) L (.int v :: S) σ M k) : bo_D x pc L (S) σ M k := by
  obtain ⟨p, l, e, R, s, m, args, below, meth, c, g, A, cells, slots, Q⟩ := x
  obtain ⟨hex, hb, hml, hown, hts, hK, hNW, hi, hA, hfr, hlo, hce, hsl⟩ := hx
  intro r h1 h2 H locs ls hP hS hl
  exact lv_iload_n hex hb hd hi0 (lv_at hl j hj) (kk r h1 h2 H locs ls hP hS hl)
theorem bo_iload (hx : bo_OK x cc own nL fr lo) {i : Nat} {v : Int32} (hd : decode cc pc = .ok (.iload i, 2)) (j : Nat) (hj : L[j]? = some (i, .int v)) (kk : bo_D x (pc + 2) L (.int v :: S) σ M k) : bo_D x pc L (S) σ M k := by
  obtain ⟨p, l, e, R, s, m, args, below, meth, c, g, A, cells, slots, Q⟩ := x
  obtain ⟨hex, hb, hml, hown, hts, hK, hNW, hi, hA, hfr, hlo, hce, hsl⟩ := hx
  intro r h1 h2 H locs ls hP hS hl
  exact lv_iload hex hb hd (lv_at hl j hj) (kk r h1 h2 H locs ls hP hS hl)
theorem bo_lload_n (hx : bo_OK x cc own nL fr lo) {n : Fin 4} {i : Nat} {v : Int64} (hd : decode cc pc = .ok (.lload_n n, 1)) (hi0 : (n : Nat) = i) (j : Nat) (hj : L[j]? = some (i, .long v)) (kk : bo_D x (pc + 1) L (.long v :: S) σ M k) : bo_D x pc L (S) σ M k := by
  obtain ⟨p, l, e, R, s, m, args, below, meth, c, g, A, cells, slots, Q⟩ := x
  obtain ⟨hex, hb, hml, hown, hts, hK, hNW, hi, hA, hfr, hlo, hce, hsl⟩ := hx
  intro r h1 h2 H locs ls hP hS hl
  exact lv_lload_n hex hb hd hi0 (lv_at hl j hj) (kk r h1 h2 H locs ls hP hS hl)
theorem bo_lload (hx : bo_OK x cc own nL fr lo) {i : Nat} {v : Int64} (hd : decode cc pc = .ok (.lload i, 2)) (j : Nat) (hj : L[j]? = some (i, .long v)) (kk : bo_D x (pc + 2) L (.long v :: S) σ M k) : bo_D x pc L (S) σ M k := by
  obtain ⟨p, l, e, R, s, m, args, below, meth, c, g, A, cells, slots, Q⟩ := x
  obtain ⟨hex, hb, hml, hown, hts, hK, hNW, hi, hA, hfr, hlo, hce, hsl⟩ := hx
  intro r h1 h2 H locs ls hP hS hl
  exact lv_lload hex hb hd (lv_at hl j hj) (kk r h1 h2 H locs ls hP hS hl)
theorem bo_aload_n (hx : bo_OK x cc own nL fr lo) {n : Fin 4} {i : Nat} {v : Nat} (hd : decode cc pc = .ok (.aload_n n, 1)) (hi0 : (n : Nat) = i) (j : Nat) (hj : L[j]? = some (i, .ref v)) (kk : bo_D x (pc + 1) L (.ref v :: S) σ M k) : bo_D x pc L (S) σ M k := by
  obtain ⟨p, l, e, R, s, m, args, below, meth, c, g, A, cells, slots, Q⟩ := x
  obtain ⟨hex, hb, hml, hown, hts, hK, hNW, hi, hA, hfr, hlo, hce, hsl⟩ := hx
  intro r h1 h2 H locs ls hP hS hl
  exact lv_aload_n hex hb hd hi0 (lv_at hl j hj) (kk r h1 h2 H locs ls hP hS hl)
theorem bo_aload (hx : bo_OK x cc own nL fr lo) {i : Nat} {v : Nat} (hd : decode cc pc = .ok (.aload i, 2)) (j : Nat) (hj : L[j]? = some (i, .ref v)) (kk : bo_D x (pc + 2) L (.ref v :: S) σ M k) : bo_D x pc L (S) σ M k := by
  obtain ⟨p, l, e, R, s, m, args, below, meth, c, g, A, cells, slots, Q⟩ := x
  obtain ⟨hex, hb, hml, hown, hts, hK, hNW, hi, hA, hfr, hlo, hce, hsl⟩ := hx
  intro r h1 h2 H locs ls hP hS hl
  exact lv_aload hex hb hd (lv_at hl j hj) (kk r h1 h2 H locs ls hP hS hl)
theorem bo_aload_nN (hx : bo_OK x cc own nL fr lo) {n : Fin 4} {i : Nat} (hd : decode cc pc = .ok (.aload_n n, 1)) (hi0 : (n : Nat) = i) (j : Nat) (hj : L[j]? = some (i, .null)) (kk : bo_D x (pc + 1) L (.null :: S) σ M k) : bo_D x pc L (S) σ M k := by
  obtain ⟨p, l, e, R, s, m, args, below, meth, c, g, A, cells, slots, Q⟩ := x
  obtain ⟨hex, hb, hml, hown, hts, hK, hNW, hi, hA, hfr, hlo, hce, hsl⟩ := hx
  intro r h1 h2 H locs ls hP hS hl
  exact lv_aload_nN hex hb hd hi0 (lv_at hl j hj) (kk r h1 h2 H locs ls hP hS hl)
theorem bo_istore_n (hx : bo_OK x cc own nL fr lo) {n : Fin 4} {i : Nat} {v : Int32} (hd : decode cc pc = .ok (.istore_n n, 1)) (hi0 : (n : Nat) = i) {L' : List (Nat × Value)} (hn : i < nL) (hL : (i, Value.int v) :: L.filter (fun q => !(q.1 == i) && !(q.1 + 1 == i && q.2.category == 2)) = L') (kk : bo_D x (pc + 1) L' S σ M k) : bo_D x pc L (Value.int v :: S) σ M k := by
  obtain ⟨p, l, e, R, s, m, args, below, meth, c, g, A, cells, slots, Q⟩ := x
  obtain ⟨hex, hb, hml, hown, hts, hK, hNW, hi, hA, hfr, hlo, hce, hsl⟩ := hx
  intro r h1 h2 H locs ls hP hS hl
  exact lv_istore_n hex hb hd hi0 hl (by rw [hml]; exact hn) hL (fun ls' hl' => kk r h1 h2 H locs ls' hP hS hl')
theorem bo_istore (hx : bo_OK x cc own nL fr lo) {i : Nat} {v : Int32} (hd : decode cc pc = .ok (.istore i, 2)) {L' : List (Nat × Value)} (hn : i < nL) (hL : (i, Value.int v) :: L.filter (fun q => !(q.1 == i) && !(q.1 + 1 == i && q.2.category == 2)) = L') (kk : bo_D x (pc + 2) L' S σ M k) : bo_D x pc L (Value.int v :: S) σ M k := by
  obtain ⟨p, l, e, R, s, m, args, below, meth, c, g, A, cells, slots, Q⟩ := x
  obtain ⟨hex, hb, hml, hown, hts, hK, hNW, hi, hA, hfr, hlo, hce, hsl⟩ := hx
  intro r h1 h2 H locs ls hP hS hl
  exact lv_istore hex hb hd hl (by rw [hml]; exact hn) hL (fun ls' hl' => kk r h1 h2 H locs ls' hP hS hl')
theorem bo_astore_n (hx : bo_OK x cc own nL fr lo) {n : Fin 4} {i : Nat} {v : Nat} (hd : decode cc pc = .ok (.astore_n n, 1)) (hi0 : (n : Nat) = i) {L' : List (Nat × Value)} (hn : i < nL) (hL : (i, Value.ref v) :: L.filter (fun q => !(q.1 == i) && !(q.1 + 1 == i && q.2.category == 2)) = L') (kk : bo_D x (pc + 1) L' S σ M k) : bo_D x pc L (Value.ref v :: S) σ M k := by
  obtain ⟨p, l, e, R, s, m, args, below, meth, c, g, A, cells, slots, Q⟩ := x
  obtain ⟨hex, hb, hml, hown, hts, hK, hNW, hi, hA, hfr, hlo, hce, hsl⟩ := hx
  intro r h1 h2 H locs ls hP hS hl
  exact lv_astore_n hex hb hd hi0 hl (by rw [hml]; exact hn) hL (fun ls' hl' => kk r h1 h2 H locs ls' hP hS hl')
theorem bo_astore (hx : bo_OK x cc own nL fr lo) {i : Nat} {v : Nat} (hd : decode cc pc = .ok (.astore i, 2)) {L' : List (Nat × Value)} (hn : i < nL) (hL : (i, Value.ref v) :: L.filter (fun q => !(q.1 == i) && !(q.1 + 1 == i && q.2.category == 2)) = L') (kk : bo_D x (pc + 2) L' S σ M k) : bo_D x pc L (Value.ref v :: S) σ M k := by
  obtain ⟨p, l, e, R, s, m, args, below, meth, c, g, A, cells, slots, Q⟩ := x
  obtain ⟨hex, hb, hml, hown, hts, hK, hNW, hi, hA, hfr, hlo, hce, hsl⟩ := hx
  intro r h1 h2 H locs ls hP hS hl
  exact lv_astore hex hb hd hl (by rw [hml]; exact hn) hL (fun ls' hl' => kk r h1 h2 H locs ls' hP hS hl')
theorem bo_astore_nN (hx : bo_OK x cc own nL fr lo) {n : Fin 4} {i : Nat} (hd : decode cc pc = .ok (.astore_n n, 1)) (hi0 : (n : Nat) = i) {L' : List (Nat × Value)} (hn : i < nL) (hL : (i, Value.null) :: L.filter (fun q => !(q.1 == i) && !(q.1 + 1 == i && q.2.category == 2)) = L') (kk : bo_D x (pc + 1) L' S σ M k) : bo_D x pc L (Value.null :: S) σ M k := by
  obtain ⟨p, l, e, R, s, m, args, below, meth, c, g, A, cells, slots, Q⟩ := x
  obtain ⟨hex, hb, hml, hown, hts, hK, hNW, hi, hA, hfr, hlo, hce, hsl⟩ := hx
  intro r h1 h2 H locs ls hP hS hl
  exact lv_astore_nN hex hb hd hi0 hl (by rw [hml]; exact hn) hL (fun ls' hl' => kk r h1 h2 H locs ls' hP hS hl')
theorem bo_lstore_n (hx : bo_OK x cc own nL fr lo) {n : Fin 4} {i : Nat} {v : Int64} (hd : decode cc pc = .ok (.lstore_n n, 1)) (hi0 : (n : Nat) = i) {L' : List (Nat × Value)} (hn : i + 1 < nL) (hL : (i, Value.long v) :: L.filter (fun q => !(q.1 == i) && (!(q.1 == i + 1) && !(q.1 + 1 == i && q.2.category == 2))) = L') (kk : bo_D x (pc + 1) L' S σ M k) : bo_D x pc L (Value.long v :: S) σ M k := by
  obtain ⟨p, l, e, R, s, m, args, below, meth, c, g, A, cells, slots, Q⟩ := x
  obtain ⟨hex, hb, hml, hown, hts, hK, hNW, hi, hA, hfr, hlo, hce, hsl⟩ := hx
  intro r h1 h2 H locs ls hP hS hl
  exact lv_lstore_n hex hb hd hi0 hl (by rw [hml]; exact hn) hL (fun ls' hl' => kk r h1 h2 H locs ls' hP hS hl')
theorem bo_iinc (hx : bo_OK x cc own nL fr lo) {i : Nat} {n : Int} {v w : Int32} {L' : List (Nat × Value)} (hd : decode cc pc = .ok (.iinc i n, 3)) (j : Nat) (hj : L[j]? = some (i, .int v)) (hv : v + Int32.ofInt n = w) (hn : i < nL) (hL : (i, Value.int w) :: L.filter (fun q => !(q.1 == i) && !(q.1 + 1 == i && q.2.category == 2)) = L') (kk : bo_D x (pc + 3) L' S σ M k) : bo_D x pc L S σ M k := by
  obtain ⟨p, l, e, R, s, m, args, below, meth, c, g, A, cells, slots, Q⟩ := x
  obtain ⟨hex, hb, hml, hown, hts, hK, hNW, hi, hA, hfr, hlo, hce, hsl⟩ := hx
  intro r h1 h2 H locs ls hP hS hl
  exact lv_iinc hex hb hd hl hj hv (by rw [hml]; exact hn) hL (fun ls' hl' => kk r h1 h2 H locs ls' hP hS hl')
theorem bo_sub {L' : List (Nat × Value)} (ks : List Nat) (hL : lv_pick L ks = L') (kk : bo_D x pc L' S σ M k) : bo_D x pc L S σ M k := by
  obtain ⟨p, l, e, R, s, m, args, below, meth, c, g, A, cells, slots, Q⟩ := x
  intro r h1 h2 H locs ls hP hS hl
  exact kk r h1 h2 H locs ls hP hS (lv_sub hl ks hL)
theorem bo_icmp_eq (hx : bo_OK x cc own nL fr lo) {a b : Int32} {off : Int} (tgt : Nat) (hd : decode cc pc = .ok (.if_icmp .eq off, 3)) (ht : (pc : Int) + off = (tgt : Int)) (kt : bo_D x tgt L S σ M1 k) (kf : bo_D x (pc + 3) L S σ M2 k) : bo_D x pc L (.int b :: .int a :: S) σ (if a = b then M1 else M2) k := by
  obtain ⟨p, l, e, R, s, m, args, below, meth, c, g, A, cells, slots, Q⟩ := x
  obtain ⟨hex, hb, hml, hown, hts, hK, hNW, hi, hA, hfr, hlo, hce, hsl⟩ := hx
  intro r h1 h2 H locs ls hP hS hl
  exact lv_icmp_eq hex hb hd ht (fun q => kt r (by rw [if_pos q] at h1; exact h1) h2 H locs ls hP hS hl) (fun q => kf r (by rw [if_neg q] at h1; exact h1) h2 H locs ls hP hS hl)
theorem bo_if_eq (hx : bo_OK x cc own nL fr lo) {a : Int32} {off : Int} (tgt : Nat) (hd : decode cc pc = .ok (.ifCond .eq off, 3)) (ht : (pc : Int) + off = (tgt : Int)) (kt : bo_D x tgt L S σ M1 k) (kf : bo_D x (pc + 3) L S σ M2 k) : bo_D x pc L (.int a :: S) σ (if a = 0 then M1 else M2) k := by
  obtain ⟨p, l, e, R, s, m, args, below, meth, c, g, A, cells, slots, Q⟩ := x
  obtain ⟨hex, hb, hml, hown, hts, hK, hNW, hi, hA, hfr, hlo, hce, hsl⟩ := hx
  intro r h1 h2 H locs ls hP hS hl
  exact lv_if_eq hex hb hd ht (fun q => kt r (by rw [if_pos q] at h1; exact h1) h2 H locs ls hP hS hl) (fun q => kf r (by rw [if_neg q] at h1; exact h1) h2 H locs ls hP hS hl)
theorem bo_icmp_ne (hx : bo_OK x cc own nL fr lo) {a b : Int32} {off : Int} (tgt : Nat) (hd : decode cc pc = .ok (.if_icmp .ne off, 3)) (ht : (pc : Int) + off = (tgt : Int)) (kt : bo_D x tgt L S σ M1 k) (kf : bo_D x (pc + 3) L S σ M2 k) : bo_D x pc L (.int b :: .int a :: S) σ (if a = b then M2 else M1) k := by
  obtain ⟨p, l, e, R, s, m, args, below, meth, c, g, A, cells, slots, Q⟩ := x
  obtain ⟨hex, hb, hml, hown, hts, hK, hNW, hi, hA, hfr, hlo, hce, hsl⟩ := hx
  intro r h1 h2 H locs ls hP hS hl
  exact lv_icmp_ne hex hb hd ht (fun q => kt r (by rw [if_neg q] at h1; exact h1) h2 H locs ls hP hS hl) (fun q => kf r (by rw [if_pos q] at h1; exact h1) h2 H locs ls hP hS hl)
theorem bo_if_ne (hx : bo_OK x cc own nL fr lo) {a : Int32} {off : Int} (tgt : Nat) (hd : decode cc pc = .ok (.ifCond .ne off, 3)) (ht : (pc : Int) + off = (tgt : Int)) (kt : bo_D x tgt L S σ M1 k) (kf : bo_D x (pc + 3) L S σ M2 k) : bo_D x pc L (.int a :: S) σ (if a = 0 then M2 else M1) k := by
  obtain ⟨p, l, e, R, s, m, args, below, meth, c, g, A, cells, slots, Q⟩ := x
  obtain ⟨hex, hb, hml, hown, hts, hK, hNW, hi, hA, hfr, hlo, hce, hsl⟩ := hx
  intro r h1 h2 H locs ls hP hS hl
  exact lv_if_ne hex hb hd ht (fun q => kt r (by rw [if_neg q] at h1; exact h1) h2 H locs ls hP hS hl) (fun q => kf r (by rw [if_pos q] at h1; exact h1) h2 H locs ls hP hS hl)
theorem bo_icmp_lt (hx : bo_OK x cc own nL fr lo) {a b : Int32} {off : Int} (tgt : Nat) (hd : decode cc pc = .ok (.if_icmp .lt off, 3)) (ht : (pc : Int) + off = (tgt : Int)) (kt : bo_D x tgt L S σ M1 k) (kf : bo_D x (pc + 3) L S σ M2 k) : bo_D x pc L (.int b :: .int a :: S) σ (if a < b then M1 else M2) k := by
  obtain ⟨p, l, e, R, s, m, args, below, meth, c, g, A, cells, slots, Q⟩ := x
  obtain ⟨hex, hb, hml, hown, hts, hK, hNW, hi, hA, hfr, hlo, hce, hsl⟩ := hx
  intro r h1 h2 H locs ls hP hS hl
  exact lv_icmp_lt hex hb hd ht (fun q => kt r (by rw [if_pos q] at h1; exact h1) h2 H locs ls hP hS hl) (fun q => kf r (by rw [if_neg q] at h1; exact h1) h2 H locs ls hP hS hl)
theorem bo_if_lt (hx : bo_OK x cc own nL fr lo) {a : Int32} {off : Int} (tgt : Nat) (hd : decode cc pc = .ok (.ifCond .lt off, 3)) (ht : (pc : Int) + off = (tgt : Int)) (kt : bo_D x tgt L S σ M1 k) (kf : bo_D x (pc + 3) L S σ M2 k) : bo_D x pc L (.int a :: S) σ (if a < 0 then M1 else M2) k := by
  obtain ⟨p, l, e, R, s, m, args, below, meth, c, g, A, cells, slots, Q⟩ := x
  obtain ⟨hex, hb, hml, hown, hts, hK, hNW, hi, hA, hfr, hlo, hce, hsl⟩ := hx
  intro r h1 h2 H locs ls hP hS hl
  exact lv_if_lt hex hb hd ht (fun q => kt r (by rw [if_pos q] at h1; exact h1) h2 H locs ls hP hS hl) (fun q => kf r (by rw [if_neg q] at h1; exact h1) h2 H locs ls hP hS hl)
theorem bo_icmp_ge (hx : bo_OK x cc own nL fr lo) {a b : Int32} {off : Int} (tgt : Nat) (hd : decode cc pc = .ok (.if_icmp .ge off, 3)) (ht : (pc : Int) + off = (tgt : Int)) (kt : bo_D x tgt L S σ M1 k) (kf : bo_D x (pc + 3) L S σ M2 k) : bo_D x pc L (.int b :: .int a :: S) σ (if b ≤ a then M1 else M2) k := by
  obtain ⟨p, l, e, R, s, m, args, below, meth, c, g, A, cells, slots, Q⟩ := x
  obtain ⟨hex, hb, hml, hown, hts, hK, hNW, hi, hA, hfr, hlo, hce, hsl⟩ := hx
  intro r h1 h2 H locs ls hP hS hl
  exact lv_icmp_ge hex hb hd ht (fun q => kt r (by rw [if_pos q] at h1; exact h1) h2 H locs ls hP hS hl) (fun q => kf r (by rw [if_neg q] at h1; exact h1) h2 H locs ls hP hS hl)
theorem bo_if_ge (hx : bo_OK x cc own nL fr lo) {a : Int32} {off : Int} (tgt : Nat) (hd : decode cc pc = .ok (.ifCond .ge off, 3)) (ht : (pc : Int) + off = (tgt : Int)) (kt : bo_D x tgt L S σ M1 k) (kf : bo_D x (pc + 3) L S σ M2 k) : bo_D x pc L (.int a :: S) σ (if 0 ≤ a then M1 else M2) k := by
  obtain ⟨p, l, e, R, s, m, args, below, meth, c, g, A, cells, slots, Q⟩ := x
  obtain ⟨hex, hb, hml, hown, hts, hK, hNW, hi, hA, hfr, hlo, hce, hsl⟩ := hx
  intro r h1 h2 H locs ls hP hS hl
  exact lv_if_ge hex hb hd ht (fun q => kt r (by rw [if_pos q] at h1; exact h1) h2 H locs ls hP hS hl) (fun q => kf r (by rw [if_neg q] at h1; exact h1) h2 H locs ls hP hS hl)
theorem bo_icmp_gt (hx : bo_OK x cc own nL fr lo) {a b : Int32} {off : Int} (tgt : Nat) (hd : decode cc pc = .ok (.if_icmp .gt off, 3)) (ht : (pc : Int) + off = (tgt : Int)) (kt : bo_D x tgt L S σ M1 k) (kf : bo_D x (pc + 3) L S σ M2 k) : bo_D x pc L (.int b :: .int a :: S) σ (if b < a then M1 else M2) k := by
  obtain ⟨p, l, e, R, s, m, args, below, meth, c, g, A, cells, slots, Q⟩ := x
  obtain ⟨hex, hb, hml, hown, hts, hK, hNW, hi, hA, hfr, hlo, hce, hsl⟩ := hx
  intro r h1 h2 H locs ls hP hS hl
  exact lv_icmp_gt hex hb hd ht (fun q => kt r (by rw [if_pos q] at h1; exact h1) h2 H locs ls hP hS hl) (fun q => kf r (by rw [if_neg q] at h1; exact h1) h2 H locs ls hP hS hl)
theorem bo_if_gt (hx : bo_OK x cc own nL fr lo) {a : Int32} {off : Int} (tgt : Nat) (hd : decode cc pc = .ok (.ifCond .gt off, 3)) (ht : (pc : Int) + off = (tgt : Int)) (kt : bo_D x tgt L S σ M1 k) (kf : bo_D x (pc + 3) L S σ M2 k) : bo_D x pc L (.int a :: S) σ (if 0 < a then M1 else M2) k := by
  obtain ⟨p, l, e, R, s, m, args, below, meth, c, g, A, cells, slots, Q⟩ := x
  obtain ⟨hex, hb, hml, hown, hts, hK, hNW, hi, hA, hfr, hlo, hce, hsl⟩ := hx
  intro r h1 h2 H locs ls hP hS hl
  exact lv_if_gt hex hb hd ht (fun q => kt r (by rw [if_pos q] at h1; exact h1) h2 H locs ls hP hS hl) (fun q => kf r (by rw [if_neg q] at h1; exact h1) h2 H locs ls hP hS hl)
theorem bo_icmp_le (hx : bo_OK x cc own nL fr lo) {a b : Int32} {off : Int} (tgt : Nat) (hd : decode cc pc = .ok (.if_icmp .le off, 3)) (ht : (pc : Int) + off = (tgt : Int)) (kt : bo_D x tgt L S σ M1 k) (kf : bo_D x (pc + 3) L S σ M2 k) : bo_D x pc L (.int b :: .int a :: S) σ (if a ≤ b then M1 else M2) k := by
  obtain ⟨p, l, e, R, s, m, args, below, meth, c, g, A, cells, slots, Q⟩ := x
  obtain ⟨hex, hb, hml, hown, hts, hK, hNW, hi, hA, hfr, hlo, hce, hsl⟩ := hx
  intro r h1 h2 H locs ls hP hS hl
  exact lv_icmp_le hex hb hd ht (fun q => kt r (by rw [if_pos q] at h1; exact h1) h2 H locs ls hP hS hl) (fun q => kf r (by rw [if_neg q] at h1; exact h1) h2 H locs ls hP hS hl)
theorem bo_if_le (hx : bo_OK x cc own nL fr lo) {a : Int32} {off : Int} (tgt : Nat) (hd : decode cc pc = .ok (.ifCond .le off, 3)) (ht : (pc : Int) + off = (tgt : Int)) (kt : bo_D x tgt L S σ M1 k) (kf : bo_D x (pc + 3) L S σ M2 k) : bo_D x pc L (.int a :: S) σ (if a ≤ 0 then M1 else M2) k := by
  obtain ⟨p, l, e, R, s, m, args, below, meth, c, g, A, cells, slots, Q⟩ := x
  obtain ⟨hex, hb, hml, hown, hts, hK, hNW, hi, hA, hfr, hlo, hce, hsl⟩ := hx
  intro r h1 h2 H locs ls hP hS hl
  exact lv_if_le hex hb hd ht (fun q => kt r (by rw [if_pos q] at h1; exact h1) h2 H locs ls hP hS hl) (fun q => kf r (by rw [if_neg q] at h1; exact h1) h2 H locs ls hP hS hl)
theorem bo_goto (hx : bo_OK x cc own nL fr lo) {off : Int} (tgt : Nat) (hd : decode cc pc = .ok (.goto off, 3)) (ht : (pc : Int) + off = (tgt : Int)) (kk : bo_D x tgt L S σ M k) : bo_D x pc L S σ M k := by
  obtain ⟨p, l, e, R, s, m, args, below, meth, c, g, A, cells, slots, Q⟩ := x
  obtain ⟨hex, hb, hml, hown, hts, hK, hNW, hi, hA, hfr, hlo, hce, hsl⟩ := hx
  intro r h1 h2 H locs ls hP hS hl
  exact lv_goto hex hb hd ht (kk r h1 h2 H locs ls hP hS hl)
theorem bo_ifnull (hx : bo_OK x cc own nL fr lo) {a : Nat} {off : Int} (hd : decode cc pc = .ok (.ifnull off, 3)) (kk : bo_D x (pc + 3) L S σ M k) : bo_D x pc L (.ref a :: S) σ M k := by
  obtain ⟨p, l, e, R, s, m, args, below, meth, c, g, A, cells, slots, Q⟩ := x
  obtain ⟨hex, hb, hml, hown, hts, hK, hNW, hi, hA, hfr, hlo, hce, hsl⟩ := hx
  intro r h1 h2 H locs ls hP hS hl
  exact lv_ifnull hex hb hd (kk r h1 h2 H locs ls hP hS hl)
theorem bo_ifnonnull (hx : bo_OK x cc own nL fr lo) {a : Nat} {off : Int} (tgt : Nat) (hd : decode cc pc = .ok (.ifnonnull off, 3)) (ht : (pc : Int) + off = (tgt : Int)) (kk : bo_D x tgt L S σ M k) : bo_D x pc L (.ref a :: S) σ M k := by
  obtain ⟨p, l, e, R, s, m, args, below, meth, c, g, A, cells, slots, Q⟩ := x
  obtain ⟨hex, hb, hml, hown, hts, hK, hNW, hi, hA, hfr, hlo, hce, hsl⟩ := hx
  intro r h1 h2 H locs ls hP hS hl
  exact lv_ifnonnull hex hb hd ht (kk r h1 h2 H locs ls hP hS hl)
theorem bo_ifnullN (hx : bo_OK x cc own nL fr lo) {off : Int} (tgt : Nat) (hd : decode cc pc = .ok (.ifnull off, 3)) (ht : (pc : Int) + off = (tgt : Int)) (kk : bo_D x tgt L S σ M k) : bo_D x pc L (.null :: S) σ M k := by
  obtain ⟨p, l, e, R, s, m, args, below, meth, c, g, A, cells, slots, Q⟩ := x
  obtain ⟨hex, hb, hml, hown, hts, hK, hNW, hi, hA, hfr, hlo, hce, hsl⟩ := hx
  intro r h1 h2 H locs ls hP hS hl
  exact lv_ifnullN hex hb hd ht (kk r h1 h2 H locs ls hP hS hl)
theorem bo_ifnonnullN (hx : bo_OK x cc own nL fr lo) {off : Int} (hd : decode cc pc = .ok (.ifnonnull off, 3)) (kk : bo_D x (pc + 3) L S σ M k) : bo_D x pc L (.null :: S) σ M k := by
  obtain ⟨p, l, e, R, s, m, args, below, meth, c, g, A, cells, slots, Q⟩ := x
  obtain ⟨hex, hb, hml, hown, hts, hK, hNW, hi, hA, hfr, hlo, hce, hsl⟩ := hx
  intro r h1 h2 H locs ls hP hS hl
  exact lv_ifnonnullN hex hb hd (kk r h1 h2 H locs ls hP hS hl)
theorem bo_idivc (hx : bo_OK x cc own nL fr lo) {a b : Int32} (hd : decode cc pc = .ok (.idiv, 1)) (hb0 : ¬ b = 0) (kk : bo_D x (pc + 1) L (.int (a / b) :: S) σ M k) : bo_D x pc L (.int b :: .int a :: S) σ M k := by
  obtain ⟨p, l, e, R, s, m, args, below, meth, c, g, A, cells, slots, Q⟩ := x
  obtain ⟨hex, hb, hml, hown, hts, hK, hNW, hi, hA, hfr, hlo, hce, hsl⟩ := hx
  intro r h1 h2 H locs ls hP hS hl
  exact lv_idiv hex hb hd hb0 (kk r h1 h2 H locs ls hP hS hl)
def bo_idivo (a b : Int32) : Option Int32 := if b = 0 then none else some (a / b)
theorem bo_idiv (hx : bo_OK x cc own nL fr lo) {a b : Int32} {K : Int32 → Option α} (hd : decode cc pc = .ok (.idiv, 1)) (kk : ∀ v : Int32, bo_D x (pc + 1) L (.int v :: S) σ (K v) k) : bo_D x pc L (.int b :: .int a :: S) σ ((bo_idivo a b).bind K) k := by
  intro r h1 h2
  obtain ⟨v, hv, hK0⟩ := bo_bind h1
  unfold bo_idivo at hv
  by_cases hb0 : b = 0
  · rw [if_pos hb0] at hv; cases hv
  · rw [if_neg hb0] at hv
    cases hv
    exact bo_idivc hx hd hb0 (kk _) r hK0 h2
theorem bo_iremc (hx : bo_OK x cc own nL fr lo) {a b : Int32} (hd : decode cc pc = .ok (.irem, 1)) (hb0 : ¬ b = 0) (kk : bo_D x (pc + 1) L (.int (a - a / b * b) :: S) σ M k) : bo_D x pc L (.int b :: .int a :: S) σ M k := by
  obtain ⟨p, l, e, R, s, m, args, below, meth, c, g, A, cells, slots, Q⟩ := x
  obtain ⟨hex, hb, hml, hown, hts, hK, hNW, hi, hA, hfr, hlo, hce, hsl⟩ := hx
  intro r h1 h2 H locs ls hP hS hl
  exact lv_irem hex hb hd hb0 (kk r h1 h2 H locs ls hP hS hl)
def bo_iremo (a b : Int32) : Option Int32 := if b = 0 then none else some (a - a / b * b)
theorem bo_irem (hx : bo_OK x cc own nL fr lo) {a b : Int32} {K : Int32 → Option α} (hd : decode cc pc = .ok (.irem, 1)) (kk : ∀ v : Int32, bo_D x (pc + 1) L (.int v :: S) σ (K v) k) : bo_D x pc L (.int b :: .int a :: S) σ ((bo_iremo a b).bind K) k := by
  intro r h1 h2
  obtain ⟨v, hv, hK0⟩ := bo_bind h1
  unfold bo_iremo at hv
  by_cases hb0 : b = 0
  · rw [if_pos hb0] at hv; cases hv
  · rw [if_neg hb0] at hv
    cases hv
    exact bo_iremc hx hd hb0 (kk _) r hK0 h2
theorem bo_ldivc (hx : bo_OK x cc own nL fr lo) {a b : Int64} (hd : decode cc pc = .ok (.ldiv, 1)) (hb0 : ¬ b = 0) (kk : bo_D x (pc + 1) L (.long (a / b) :: S) σ M k) : bo_D x pc L (.long b :: .long a :: S) σ M k := by
  obtain ⟨p, l, e, R, s, m, args, below, meth, c, g, A, cells, slots, Q⟩ := x
  obtain ⟨hex, hb, hml, hown, hts, hK, hNW, hi, hA, hfr, hlo, hce, hsl⟩ := hx
  intro r h1 h2 H locs ls hP hS hl
  exact lv_ldiv hex hb hd hb0 (kk r h1 h2 H locs ls hP hS hl)
def bo_ldivo (a b : Int64) : Option Int64 := if b = 0 then none else some (a / b)
theorem bo_ldiv (hx : bo_OK x cc own nL fr lo) {a b : Int64} {K : Int64 → Option α} (hd : decode cc pc = .ok (.ldiv, 1)) (kk : ∀ v : Int64, bo_D x (pc + 1) L (.long v :: S) σ (K v) k) : bo_D x pc L (.long b :: .long a :: S) σ ((bo_ldivo a b).bind K) k := by
  intro r h1 h2
  obtain ⟨v, hv, hK0⟩ := bo_bind h1
  unfold bo_ldivo at hv
  by_cases hb0 : b = 0
  · rw [if_pos hb0] at hv; cases hv
  · rw [if_neg hb0] at hv
    cases hv
    exact bo_ldivc hx hd hb0 (kk _) r hK0 h2
theorem bo_lremc (hx : bo_OK x cc own nL fr lo) {a b : Int64} (hd : decode cc pc = .ok (.lrem, 1)) (hb0 : ¬ b = 0) (kk : bo_D x (pc + 1) L (.long (a - a / b * b) :: S) σ M k) : bo_D x pc L (.long b :: .long a :: S) σ M k := by
  obtain ⟨p, l, e, R, s, m, args, below, meth, c, g, A, cells, slots, Q⟩ := x
  obtain ⟨hex, hb, hml, hown, hts, hK, hNW, hi, hA, hfr, hlo, hce, hsl⟩ := hx
  intro r h1 h2 H locs ls hP hS hl
  exact lv_lrem hex hb hd hb0 (kk r h1 h2 H locs ls hP hS hl)
def bo_lremo (a b : Int64) : Option Int64 := if b = 0 then none else some (a - a / b * b)
theorem bo_lrem (hx : bo_OK x cc own nL fr lo) {a b : Int64} {K : Int64 → Option α} (hd : decode cc pc = .ok (.lrem, 1)) (kk : ∀ v : Int64, bo_D x (pc + 1) L (.long v :: S) σ (K v) k) : bo_D x pc L (.long b :: .long a :: S) σ ((bo_lremo a b).bind K) k := by
  intro r h1 h2
  obtain ⟨v, hv, hK0⟩ := bo_bind h1
  unfold bo_lremo at hv
  by_cases hb0 : b = 0
  · rw [if_pos hb0] at hv; cases hv
  · rw [if_neg hb0] at hv
    cases hv
    exact bo_lremc hx hd hb0 (kk _) r hK0 h2
theorem bo_seq {M0 : Option β} {K : β → Option α} (pcJ : Nat) (LJ : β → List (Nat × Value)) (SJ : β → List Value) (σJ : β → bo_M) (h1 : bo_D x pc L S σ M0 (fun a => bo_N x pcJ (LJ a) (SJ a) (σJ a))) (h2 : ∀ a, bo_D x pcJ (LJ a) (SJ a) (σJ a) (K a) k) : bo_D x pc L S σ (M0.bind K) k := by
  intro r h3 h4
  obtain ⟨a, ha, hK0⟩ := bo_bind h3
  exact h1 a ha (h2 a r hK0 h4)
theorem bo_arr {a : β} {J : β → Prop} (h : J a → bo_N x pc L S σ) : bo_D x pc L S σ (some a) J := fun _ h1 h2 => by cases h1; exact h h2
theorem bo_none {J : β → Prop} : bo_D x pc L S σ none J := fun _ h1 _ => by cases h1
theorem bo_by {q : Prop} [Decidable q] (kt : q → bo_D x pc L S σ M1 k) (kf : ¬ q → bo_D x pc L S σ M2 k) : bo_D x pc L S σ (if q then M1 else M2) k := by
  intro r h1 h2
  by_cases h : q
  · rw [if_pos h] at h1; exact kt h r h1 h2
  · rw [if_neg h] at h1; exact kf h r h1 h2
end BO
section BO2
variable {x : bo_X} {cc : ByteArray} {own : String} {nL fr lo : Nat} {pc : Nat} {L : List (Nat × Value)} {S : List Value} {σ : bo_M} {α β : Type} {M M1 M2 : Option α} {k : α → Prop}
theorem bo_tabIn (hx : bo_OK x cc own nL fr lo) {a v : Int32} {dflt lo' hi : Int} {offs : Array Int} {len : Nat} {off : Int} (tgt : Nat) (hd : decode cc pc = .ok (.tableswitch dflt lo' hi offs, len)) (hv : a = v) (h1' : ¬ v.toInt < lo') (h2' : ¬ hi < v.toInt) (ho : offs[(v.toInt - lo').toNat]? = some off) (ht : (pc : Int) + off = (tgt : Int)) (kk : bo_D x tgt L S σ M k) : bo_D x pc L (.int a :: S) σ M k := by
  subst hv
  obtain ⟨p, l, e, R, s, m, args, below, meth, c, g, A, cells, slots, Q⟩ := x
  obtain ⟨hex, hb, hml, hown, hts, hK, hNW, hi, hA, hfr, hlo, hce, hsl⟩ := hx
  intro r h1 h2 H locs ls hP hS hl
  exact lv_tableIn hex hb hd h1' h2' ho ht (kk r h1 h2 H locs ls hP hS hl)
theorem bo_tabOut (hx : bo_OK x cc own nL fr lo) {a : Int32} {dflt lo' hi : Int} {offs : Array Int} {len : Nat} (tgt : Nat) (hd : decode cc pc = .ok (.tableswitch dflt lo' hi offs, len)) (h : a.toInt < lo' ∨ hi < a.toInt) (ht : (pc : Int) + dflt = (tgt : Int)) (kk : bo_D x tgt L S σ M k) : bo_D x pc L (.int a :: S) σ M k := by
  obtain ⟨p, l, e, R, s, m, args, below, meth, c, g, A, cells, slots, Q⟩ := x
  obtain ⟨hex, hb, hml, hown, hts, hK, hNW, hi, hA, hfr, hlo, hce, hsl⟩ := hx
  intro r h1 h2 H locs ls hP hS hl
  exact lv_tableOut hex hb hd h ht (kk r h1 h2 H locs ls hP hS hl)
theorem bo_look (hx : bo_OK x cc own nL fr lo) {a : Int32} {dflt : Int} {ps : Array (Int × Int)} {len : Nat} {off : Int} (tgt : Nat) (hd : decode cc pc = .ok (.lookupswitch dflt ps, len)) (hp : (ps.toList.zip (ps.toList.drop 1)).all (fun (a, next) => a.1 < next.1) = true) (ho : Op.lookupswitch.offset ps.toList dflt a.toInt = off) (ht : (pc : Int) + off = (tgt : Int)) (kk : bo_D x tgt L S σ M k) : bo_D x pc L (.int a :: S) σ M k := by
  obtain ⟨p, l, e, R, s, m, args, below, meth, c, g, A, cells, slots, Q⟩ := x
  obtain ⟨hex, hb, hml, hown, hts, hK, hNW, hi, hA, hfr, hlo, hce, hsl⟩ := hx
  intro r h1 h2 H locs ls hP hS hl
  exact lv_lookup hex hb hd hp ho ht (kk r h1 h2 H locs ls hP hS hl)
theorem bo_neI {a v : Int32} (h : ¬ a = v) : a.toInt ≠ v.toInt := fun e => h (Int32.toInt_inj.mp e)
/-! fields -/
theorem bo_fvs_get {ad : Nat → Nat} {o : Nat} {f : Nat → Int32} {t : Nat × Nat} : ∀ (ts : List (Nat × Nat)) (j i : Nat), ts[i]? = some t → (bo_fvs ad o f j ts)[i]? = some (bo_fv ad o f (j + i) t)
  | [], j, i, h => by simp at h
  | u :: ts, j, 0, h => by
    simp only [List.getElem?_cons_zero, Option.some.injEq] at h
    subst h
    rfl
  | u :: ts, j, i + 1, h => by
    simp only [List.getElem?_cons_succ] at h
    have := bo_fvs_get (ad := ad) (o := o) (f := f) ts (j + 1) i h
    rw [show j + (i + 1) = j + 1 + i by omega, ← this]
    rfl
theorem bo_fvs_len {ad : Nat → Nat} {o : Nat} {f : Nat → Int32} : ∀ (ts : List (Nat × Nat)) (j : Nat), (bo_fvs ad o f j ts).length = ts.length
  | [], _ => rfl
  | _ :: ts, j => congrArg (· + 1) (bo_fvs_len ts (j + 1))
theorem bo_fv_ne {ad : Nat → Nat} {o : Nat} {f : Nat → Int32} {i j : Nat} {v : Int32} {t : Nat × Nat} (h : i ≠ j) : bo_fv ad o (upd f j v) i t = bo_fv ad o f i t := by
  have : upd f j v i = f i := by unfold upd; rw [if_neg h]
  unfold bo_fv
  rw [this]
theorem bo_fvs_upd {ad : Nat → Nat} {o : Nat} {f : Nat → Int32} {i : Nat} {v : Int32} : ∀ (ts : List (Nat × Nat)) (j : Nat), i < j → bo_fvs ad o (upd f i v) j ts = bo_fvs ad o f j ts
  | [], _, _ => rfl
  | t :: ts, j, h => by
    show bo_fv ad o (upd f i v) j t :: _ = bo_fv ad o f j t :: _
    rw [bo_fv_ne (by omega), bo_fvs_upd ts (j + 1) (by omega)]
theorem bo_fvs_set {ad : Nat → Nat} {o : Nat} {f : Nat → Int32} {vi : Int32} {v : Value} {t : Nat × Nat} : ∀ (ts : List (Nat × Nat)) (j i : Nat), ts[i]? = some t → bo_fv ad o (upd f (j + i) vi) (j + i) t = v → (bo_fvs ad o f j ts).set i v = bo_fvs ad o (upd f (j + i) vi) j ts
  | [], j, i, h, _ => by simp at h
  | u :: ts, j, 0, h, hv => by
    simp only [List.getElem?_cons_zero, Option.some.injEq] at h
    subst h
    show v :: bo_fvs ad o f (j + 1) ts = bo_fv ad o (upd f (j + 0) vi) j u :: bo_fvs ad o (upd f (j + 0) vi) (j + 1) ts
    rw [bo_fvs_upd ts (j + 1) (by omega)]
    rw [← hv]
    rfl
  | u :: ts, j, i + 1, h, hv => by
    simp only [List.getElem?_cons_succ] at h
    have e : j + (i + 1) = j + 1 + i := by omega
    have := bo_fvs_set (ad := ad) (o := o) (f := f) (vi := vi) (v := v) ts (j + 1) i h (by rw [← e]; exact hv)
    show bo_fv ad o f j u :: (bo_fvs ad o f (j + 1) ts).set i v = bo_fv ad o (upd f (j + (i + 1)) vi) j u :: bo_fvs ad o (upd f (j + (i + 1)) vi) (j + 1) ts
    rw [this, bo_fv_ne (by omega), e]
theorem bo_at_o {g : bo_G} {σ : bo_M} {o ci : Nat} {ts : List (Nat × Nat)} (h : bo_isO o ci ts) : (bo_ws g σ)[o]? = some (g.2.2 o, .inr (ci, bo_fvs g.2.2 o (σ o) 0 ts)) := by
  rw [bo_ws_get h.1, h.2]
  rfl
theorem bo_get (hx : bo_OK x cc own nL fr lo) {o ci i idx N : Nat} {ts : List (Nat × Nat)} {C : String} {T : u_T} {t : Nat × Nat} (ho : bo_isO o ci ts) (hc : bo_cl[ci]? = some (C, T, N)) (hk : i < N) (hin : ∀ w ∈ u_ws C T N, w ∈ bo_tb) (hlink : Cond.fieldLink own idx C (T i).2.1 (T i).2.2.1 ∈ bo_tb) (hsame : (T i).1 = C) (ht : ts[i]? = some t) (hd : decode cc pc = .ok (.getfield idx, 3)) (kk : bo_D x (pc + 3) L (bo_fv (bo_g x).2.2 o (σ o) i t :: S) σ M k) : bo_D x pc L (.ref (bo_a x o) :: S) σ M k := by
  obtain ⟨p, l, e, R, s, m, args, below, meth, c, g, A, cells, slots, Q⟩ := x
  obtain ⟨hex, hb, hml, hown, hts, hK, hNW, hi, hA, hfr, hlo, hce, hsl⟩ := hx
  intro r h1 h2 H locs ls hP hS hl
  have hv := bo_fvs_get (ad := g.2.2) (o := o) (f := σ o) ts 0 i ht
  rw [Nat.zero_add] at hv
  exact va_get hex hb hts hin hown hK hP o (bo_at_o ho) hc i hk (hts _ hlink) (fun z hz => by rw [hsame] at hz; exact hz) hv hd (kk r h1 h2 H locs ls hP hS hl)
theorem bo_put (hx : bo_OK x cc own nL fr lo) {o ci i idx N : Nat} {ts : List (Nat × Nat)} {C : String} {T : u_T} {t : Nat × Nat} (ho : bo_isO o ci ts) (hc : bo_cl[ci]? = some (C, T, N)) (hk : i < N) (hin : ∀ w ∈ u_ws C T N, w ∈ bo_tb) (hlink : Cond.fieldLink own idx C (T i).2.1 (T i).2.2.1 ∈ bo_tb) (hsame : (T i).1 = C) (ht : ts[i]? = some t)
    {ty0 : Nat → FieldType} (hty : ∀ k, k < N → parseFieldDescriptor (T k).2.2.1 = some (ty0 k)) (hnm : ∀ a, a < N → ∀ b, b < N → a ≠ b → (T a).2.1 ≠ (T b).2.1) (hfin : (T i).2.2.2 = false) {ty : FieldType} {v : Value} {vi : Int32} (hd0 : parseFieldDescriptor (T i).2.2.1 = some ty) (hn : narrow ty v = v) (hfit : fits ty v = true) (hset : bo_fv (bo_g x).2.2 o (upd (σ o) i vi) i t = v)
    {K : bo_M → Option α} (hd : decode cc pc = .ok (.putfield idx, 3)) (kk : ∀ σ', bo_D x (pc + 3) L S σ' (K σ') k) : bo_D x pc L (v :: .ref (bo_a x o) :: S) σ ((some (bo_up σ o i vi)).bind K) k := by
  obtain ⟨p, l, e, R, s, m, args, below, meth, c, g, A, cells, slots, Q⟩ := x
  obtain ⟨hex, hb, hml, hown, hts, hK, hNW, hi, hA, hfr, hlo, hce, hsl⟩ := hx
  intro r h1 h2 H locs ls hP hS hl
  have hset' := bo_fvs_set (ad := g.2.2) (o := o) (f := σ o) (vi := vi) (v := v) ts 0 i ht (by rw [Nat.zero_add]; exact hset)
  rw [Nat.zero_add] at hset'
  have hlt : i < ts.length := (List.getElem?_eq_some_iff.mp ht).1
  refine va_put hex hb hts hin ty0 hty hnm hown hK hP (bo_ws_D hi hA) hS o (bo_at_o ho) hc i hk (hts _ hlink) (fun z hz => by rw [hsame] at hz; exact hz) hfin hd0 hn hfit (by rw [bo_fvs_len]; exact hlt) hd (fun H1 locs1 hP1 _ hS1 => ?_)
  have e : (bo_ws g σ).set o (g.2.2 o, .inr (ci, (bo_fvs g.2.2 o (σ o) 0 ts).set i v)) = bo_ws g (bo_up σ o i vi) := bo_ws_set ho.1 (by rw [ho.2, hset']; rfl)
  exact kk _ r h1 h2 H1 locs1 ls (e ▸ hP1) hS1 hl
/-! arrays -/
def bo_ld (n : Nat) (σ : bo_M) (o : Nat) (i : Int32) : Option Int32 := if 0 ≤ i ∧ i.toNatClampNeg < n then some (σ o i.toNatClampNeg) else none
def bo_st (n : Nat) (σ : bo_M) (o : Nat) (i v : Int32) : Option bo_M := if 0 ≤ i ∧ i.toNatClampNeg < n then some (bo_up σ o i.toNatClampNeg v) else none
theorem bo_in {i : Int32} {n : Nat} (h : 0 ≤ i ∧ i.toNatClampNeg < n) : vp_in i n := by
  rintro (h1 | h1)
  · have a := Int32.lt_iff_toInt_lt.mp h1
    have b := Int32.le_iff_toInt_le.mp h.1
    omega
  · omega
theorem bo_at_a {g : bo_G} {σ : bo_M} {o n : Nat} (h : bo_isA o n) : (bo_ws g σ)[o]? = some (g.2.2 o, .inl (g.1 0, n, .inl (σ o))) := by
  rw [bo_ws_get h.1, h.2]
  rfl
def bo_isZ (o n : Nat) : Prop := o < 168 ∧ bo_lay o = .inl (1, n)
def bo_isQ (o n : Nat) : Prop := o < 168 ∧ bo_lay o = .inl (2, n)
theorem bo_at_z {g : bo_G} {σ : bo_M} {o n : Nat} (h : bo_isZ o n) : (bo_ws g σ)[o]? = some (g.2.2 o, .inl (g.1 1, n, .inl (σ o))) := by
  rw [bo_ws_get h.1, h.2]
  rfl
theorem bo_at_q {g : bo_G} {σ : bo_M} {o n : Nat} (h : bo_isQ o n) : (bo_ws g σ)[o]? = some (g.2.2 o, .inl (g.1 2, n, .inr (.inr (.inr (.inr (fun k => some (g.2.2 (bo_ev (σ o k))))))))) := by
  rw [bo_ws_get h.1, h.2]
  rfl
theorem bo_iald (hx : bo_OK x cc own nL fr lo) {o n : Nat} {i : Int32} {K : Int32 → Option α} (ho : bo_isA o n) (hd : decode cc pc = .ok (.iaload, 1)) (kk : ∀ v, bo_D x (pc + 1) L (.int v :: S) σ (K v) k) : bo_D x pc L (.int i :: .ref (bo_a x o) :: S) σ ((bo_ld n σ o i).bind K) k := by
  obtain ⟨p, l, e, R, s, m, args, below, meth, c, g, A, cells, slots, Q⟩ := x
  obtain ⟨hex, hb, hml, hown, hts, hK, hNW, hi, hA, hfr, hlo, hce, hsl⟩ := hx
  intro r h1 h2 H locs ls hP hS hl
  obtain ⟨v, hv, hK0⟩ := bo_bind h1
  unfold bo_ld at hv
  by_cases h : 0 ≤ i ∧ i.toNatClampNeg < n
  · rw [if_pos h] at hv
    cases hv
    exact va_iald hex hb hK hP o 0 (bo_at_a ho) rfl (bo_in h) hd (kk _ r hK0 h2 H locs ls hP hS hl)
  · rw [if_neg h] at hv; cases hv
theorem bo_zald (hx : bo_OK x cc own nL fr lo) {o n : Nat} {i : Int32} {K : Int32 → Option α} (ho : bo_isZ o n) (hd : decode cc pc = .ok (.baload, 1)) (kk : ∀ v, bo_D x (pc + 1) L (.int v :: S) σ (K v) k) : bo_D x pc L (.int i :: .ref (bo_a x o) :: S) σ ((bo_ld n σ o i).bind K) k := by
  obtain ⟨p, l, e, R, s, m, args, below, meth, c, g, A, cells, slots, Q⟩ := x
  obtain ⟨hex, hb, hml, hown, hts, hK, hNW, hi, hA, hfr, hlo, hce, hsl⟩ := hx
  intro r h1 h2 H locs ls hP hS hl
  obtain ⟨v, hv, hK0⟩ := bo_bind h1
  unfold bo_ld at hv
  by_cases h : 0 ≤ i ∧ i.toNatClampNeg < n
  · rw [if_pos h] at hv
    cases hv
    exact va_zald hex hb hK hP o 1 (bo_at_z ho) rfl (bo_in h) hd (kk _ r hK0 h2 H locs ls hP hS hl)
  · rw [if_neg h] at hv; cases hv
theorem bo_aald (hx : bo_OK x cc own nL fr lo) {o n : Nat} {i : Int32} {K : Int32 → Option α} (ho : bo_isQ o n) (hd : decode cc pc = .ok (.aaload, 1)) (kk : ∀ v, bo_D x (pc + 1) L (.ref (bo_a x (bo_ev v)) :: S) σ (K v) k) : bo_D x pc L (.int i :: .ref (bo_a x o) :: S) σ ((bo_ld n σ o i).bind K) k := by
  obtain ⟨p, l, e, R, s, m, args, below, meth, c, g, A, cells, slots, Q⟩ := x
  obtain ⟨hex, hb, hml, hown, hts, hK, hNW, hi, hA, hfr, hlo, hce, hsl⟩ := hx
  intro r h1 h2 H locs ls hP hS hl
  obtain ⟨v, hv, hK0⟩ := bo_bind h1
  unfold bo_ld at hv
  by_cases h : 0 ≤ i ∧ i.toNatClampNeg < n
  · rw [if_pos h] at hv
    cases hv
    exact va_aldq (C := "BellRope$Evening") hex hb hK hP o 2 (bo_at_q ho) rfl (bo_in h) hd (kk _ r hK0 h2 H locs ls hP hS hl)
  · rw [if_neg h] at hv; cases hv
theorem bo_iast (hx : bo_OK x cc own nL fr lo) {o n : Nat} {i v : Int32} {K : bo_M → Option α} (ho : bo_isA o n) (hd : decode cc pc = .ok (.iastore, 1)) (kk : ∀ σ', bo_D x (pc + 1) L S σ' (K σ') k) : bo_D x pc L (.int v :: .int i :: .ref (bo_a x o) :: S) σ ((bo_st n σ o i v).bind K) k := by
  obtain ⟨p, l, e, R, s, m, args, below, meth, c, g, A, cells, slots, Q⟩ := x
  obtain ⟨hex, hb, hml, hown, hts, hK, hNW, hi, hA, hfr, hlo, hce, hsl⟩ := hx
  intro r h1 h2 H locs ls hP hS hl
  obtain ⟨σ', hv, hK0⟩ := bo_bind h1
  unfold bo_st at hv
  by_cases h : 0 ≤ i ∧ i.toNatClampNeg < n
  · rw [if_pos h] at hv
    cases hv
    refine va_iast hex hb hK hP (bo_ws_D hi hA) hS o 0 (bo_at_a ho) rfl (bo_in h) hd (fun H1 locs1 hP1 _ hS1 => ?_)
    rw [bo_ws_set ho.1 (by rw [ho.2]; rfl)] at hP1
    exact kk _ r hK0 h2 H1 locs1 ls hP1 hS1 hl
  · rw [if_neg h] at hv; cases hv
theorem bo_zast (hx : bo_OK x cc own nL fr lo) {o n : Nat} {i v : Int32} {K : bo_M → Option α} (ho : bo_isZ o n) (hd : decode cc pc = .ok (.bastore, 1)) (kk : ∀ σ', bo_D x (pc + 1) L S σ' (K σ') k) : bo_D x pc L (.int v :: .int i :: .ref (bo_a x o) :: S) σ ((bo_st n σ o i (v &&& 1)).bind K) k := by
  obtain ⟨p, l, e, R, s, m, args, below, meth, c, g, A, cells, slots, Q⟩ := x
  obtain ⟨hex, hb, hml, hown, hts, hK, hNW, hi, hA, hfr, hlo, hce, hsl⟩ := hx
  intro r h1 h2 H locs ls hP hS hl
  obtain ⟨σ', hv, hK0⟩ := bo_bind h1
  unfold bo_st at hv
  by_cases h : 0 ≤ i ∧ i.toNatClampNeg < n
  · rw [if_pos h] at hv
    cases hv
    refine va_zast hex hb hK hP (bo_ws_D hi hA) hS o 1 (bo_at_z ho) rfl (bo_in h) hd (fun H1 locs1 hP1 _ hS1 => ?_)
    rw [bo_ws_set (v := v &&& 1) ho.1 (by rw [ho.2]; rfl)] at hP1
    exact kk _ r hK0 h2 H1 locs1 ls hP1 hS1 hl
  · rw [if_neg h] at hv; cases hv
theorem bo_aast (hx : bo_OK x cc own nL fr lo) {o n : Nat} {i v : Int32} {K : bo_M → Option α} (ho : bo_isQ o n) (hd : decode cc pc = .ok (.aastore, 1)) (kk : ∀ σ', bo_D x (pc + 1) L S σ' (K σ') k) : bo_D x pc L (.ref (bo_a x (bo_ev v)) :: .int i :: .ref (bo_a x o) :: S) σ ((bo_st n σ o i v).bind K) k := by
  obtain ⟨p, l, e, R, s, m, args, below, meth, c, g, A, cells, slots, Q⟩ := x
  obtain ⟨hex, hb, hml, hown, hts, hK, hNW, hi, hA, hfr, hlo, hce, hsl⟩ := hx
  intro r h1 h2 H locs ls hP hS hl
  obtain ⟨σ', hv, hK0⟩ := bo_bind h1
  unfold bo_st at hv
  by_cases h : 0 ≤ i ∧ i.toNatClampNeg < n
  · rw [if_pos h] at hv
    cases hv
    refine va_astq (r := (RX2, TX2, 10)) hex hb hK hP (bo_ws_D hi hA) hS o 2 (bo_ev v) 2 (bo_at_q ho) rfl (bo_at_o (bo_ev_ok v).o) rfl (bo_in h) hd (fun H1 locs1 hP1 _ hS1 => ?_)
    have hf : (fun k => some (g.2.2 (bo_ev (upd (σ o) i.toNatClampNeg v k)))) = va_up (fun k => some (g.2.2 (bo_ev (σ o k)))) i.toNatClampNeg (some (g.2.2 (bo_ev v))) := by
      funext j
      unfold upd va_up
      split <;> rfl
    rw [bo_ws_set (n := o) (k := i.toNatClampNeg) (v := v) ho.1 (by
      rw [ho.2, ← hf]
      rfl)] at hP1
    exact kk _ r hK0 h2 H1 locs1 ls hP1 hS1 hl
  · rw [if_neg h] at hv; cases hv
theorem bo_alen (hx : bo_OK x cc own nL fr lo) {o n : Nat} {v : Int32} (ho : bo_isA o n) (hv : Int32.ofNat n = v) (hd : decode cc pc = .ok (.arraylength, 1)) (kk : bo_D x (pc + 1) L (.int v :: S) σ M k) : bo_D x pc L (.ref (bo_a x o) :: S) σ M k := by
  obtain ⟨p, l, e, R, s, m, args, below, meth, c, g, A, cells, slots, Q⟩ := x
  obtain ⟨hex, hb, hml, hown, hts, hK, hNW, hi, hA, hfr, hlo, hce, hsl⟩ := hx
  intro r h1 h2 H locs ls hP hS hl
  exact va_alen hex hb hK hP o 0 (bo_at_a ho) rfl hv hd (kk r h1 h2 H locs ls hP hS hl)
theorem bo_alenQ (hx : bo_OK x cc own nL fr lo) {o n : Nat} {v : Int32} (ho : bo_isQ o n) (hv : Int32.ofNat n = v) (hd : decode cc pc = .ok (.arraylength, 1)) (kk : bo_D x (pc + 1) L (.int v :: S) σ M k) : bo_D x pc L (.ref (bo_a x o) :: S) σ M k := by
  obtain ⟨p, l, e, R, s, m, args, below, meth, c, g, A, cells, slots, Q⟩ := x
  obtain ⟨hex, hb, hml, hown, hts, hK, hNW, hi, hA, hfr, hlo, hce, hsl⟩ := hx
  intro r h1 h2 H locs ls hP hS hl
  exact va_alen hex hb hK hP o 2 (bo_at_q ho) rfl hv hd (kk r h1 h2 H locs ls hP hS hl)
theorem bo_max (hx : bo_OK x cc own nL fr lo) {a b : Int32} {idx : Nat} (hd : decode cc pc = .ok (.invokestatic idx, 3)) (hl0 : Cond.methodLink own idx Lib.Math.max.name ∈ bo_tb) (hs0 : Cond.static Lib.Math.max.name ∈ bo_tb) (hi0 : Cond.initialized "java/lang/Math" ∈ bo_tb) (hc0 : Cond.code Lib.Math.max.name Lib.Math.max.code 2 (some .int) ∈ bo_tb) (hf : 1 ≤ fr) (hr : (S.map fun v => v.category).sum + 13 ≤ lo) (kk : bo_D x (pc + 3) L (.int (if a < b then b else a) :: S) σ M k) : bo_D x pc L (.int b :: .int a :: S) σ M k := by
  obtain ⟨p, l, e, R, s, m, args, below, meth, c, g, A, cells, slots, Q⟩ := x
  obtain ⟨hex, hb, hml, hown, hts, hK, hNW, hi, hA, hfr, hlo, hce, hsl⟩ := hx
  intro r h1 h2 H locs ls hP hS hl
  exact va_mmax hex hb hl.1.symm hown (hts _ hl0) (hts _ hs0) (hts _ hi0) (hts _ hc0) (Nat.le_trans hf hfr) (Nat.le_trans hr hlo) hce hsl hd (kk r h1 h2 H locs ls hP hS hl)
theorem bo_min (hx : bo_OK x cc own nL fr lo) {a b : Int32} {idx : Nat} (hd : decode cc pc = .ok (.invokestatic idx, 3)) (hl0 : Cond.methodLink own idx Lib.Math.min.name ∈ bo_tb) (hs0 : Cond.static Lib.Math.min.name ∈ bo_tb) (hi0 : Cond.initialized "java/lang/Math" ∈ bo_tb) (hc0 : Cond.code Lib.Math.min.name Lib.Math.min.code 2 (some .int) ∈ bo_tb) (hf : 1 ≤ fr) (hr : (S.map fun v => v.category).sum + 13 ≤ lo) (kk : bo_D x (pc + 3) L (.int (if b < a then b else a) :: S) σ M k) : bo_D x pc L (.int b :: .int a :: S) σ M k := by
  obtain ⟨p, l, e, R, s, m, args, below, meth, c, g, A, cells, slots, Q⟩ := x
  obtain ⟨hex, hb, hml, hown, hts, hK, hNW, hi, hA, hfr, hlo, hce, hsl⟩ := hx
  intro r h1 h2 H locs ls hP hS hl
  exact va_mmin hex hb hl.1.symm hown (hts _ hl0) (hts _ hs0) (hts _ hi0) (hts _ hc0) (Nat.le_trans hf hfr) (Nat.le_trans hr hlo) hce hsl hd (kk r h1 h2 H locs ls hP hS hl)
end BO2
end
