/-! words and decode rows of the constructors: printed by wip/whole/gen/con2.py -/
section CONW
-- BellRope$Book
abbrev d0X0 : List Value := [.null, .null, .int 0]
theorem dfX0 : ∀ j, j < 3 → defaultValue (tyX0 j) = vp_V d0X0 j := by decide +kernel
theorem mIX0 : co_mI yX0_init cX0_init 1 := ⟨bo_mem 241 (by decide +kernel) (by decide +kernel), bo_mem 69 (by decide +kernel) (by decide +kernel), bo_mem 242 (by decide +kernel) (by decide +kernel), rfl, by decide +kernel, by decide +kernel, by decide +kernel⟩
theorem isX0 : Cond.instantiable RX0 3 ∈ bo_tb := bo_mem 239 (by decide +kernel) (by decide +kernel)
theorem iiX0 : Cond.initialized RX0 ∈ bo_tb := bo_mem 69 (by decide +kernel) (by decide +kernel)
theorem dkX0_0 : decode cX0_init 0 = .ok (.aload_n 0, 1) := by decide +kernel
theorem dkX0_1 : decode cX0_init 1 = .ok (.invokespecial 3, 3) := by decide +kernel
theorem mlX0_3 : Cond.methodLink RX0 3 objectInit ∈ bo_tb := bo_mem 243 (by decide +kernel) (by decide +kernel)
theorem dkX0_4 : decode cX0_init 4 = .ok (.aload_n 0, 1) := by decide +kernel
theorem dkX0_5 : decode cX0_init 5 = .ok (.bipush 15, 2) := by decide +kernel
theorem dkX0_7 : decode cX0_init 7 = .ok (.newarray .int, 2) := by decide +kernel
theorem dkX0_9 : decode cX0_init 9 = .ok (.putfield 9, 3) := by decide +kernel
theorem fkX0_9 : Cond.fieldLink RX0 9 RX0 (TX0 0).2.1 (TX0 0).2.2.1 ∈ bo_tb := bo_mem 244 (by decide +kernel) (by decide +kernel)
theorem dkX0_12 : decode cX0_init 12 = .ok (.aload_n 0, 1) := by decide +kernel
theorem dkX0_13 : decode cX0_init 13 = .ok (.bipush 15, 2) := by decide +kernel
theorem dkX0_15 : decode cX0_init 15 = .ok (.newarray .int, 2) := by decide +kernel
theorem dkX0_17 : decode cX0_init 17 = .ok (.putfield 15, 3) := by decide +kernel
theorem fkX0_15 : Cond.fieldLink RX0 15 RX0 (TX0 1).2.1 (TX0 1).2.2.1 ∈ bo_tb := bo_mem 245 (by decide +kernel) (by decide +kernel)
theorem dkX0_20 : decode cX0_init 20 = .ok (.return_, 1) := by decide +kernel
-- BellRope$Chances
abbrev d0X1 : List Value := [.null]
theorem dfX1 : ∀ j, j < 1 → defaultValue (tyX1 j) = vp_V d0X1 j := by decide +kernel
theorem mIX1 : co_mI yX1_init cX1_init 1 := ⟨bo_mem 258 (by decide +kernel) (by decide +kernel), bo_mem 70 (by decide +kernel) (by decide +kernel), bo_mem 259 (by decide +kernel) (by decide +kernel), rfl, by decide +kernel, by decide +kernel, by decide +kernel⟩
theorem isX1 : Cond.instantiable RX1 1 ∈ bo_tb := bo_mem 256 (by decide +kernel) (by decide +kernel)
theorem iiX1 : Cond.initialized RX1 ∈ bo_tb := bo_mem 70 (by decide +kernel) (by decide +kernel)
theorem dkX1_0 : decode cX1_init 0 = .ok (.aload_n 0, 1) := by decide +kernel
theorem dkX1_1 : decode cX1_init 1 = .ok (.invokespecial 3, 3) := by decide +kernel
theorem mlX1_3 : Cond.methodLink RX1 3 objectInit ∈ bo_tb := bo_mem 260 (by decide +kernel) (by decide +kernel)
theorem dkX1_4 : decode cX1_init 4 = .ok (.aload_n 0, 1) := by decide +kernel
theorem dkX1_5 : decode cX1_init 5 = .ok (.bipush 8, 2) := by decide +kernel
theorem dkX1_7 : decode cX1_init 7 = .ok (.newarray .int, 2) := by decide +kernel
theorem dkX1_9 : decode cX1_init 9 = .ok (.putfield 9, 3) := by decide +kernel
theorem fkX1_9 : Cond.fieldLink RX1 9 RX1 (TX1 0).2.1 (TX1 0).2.2.1 ∈ bo_tb := bo_mem 261 (by decide +kernel) (by decide +kernel)
theorem dkX1_12 : decode cX1_init 12 = .ok (.return_, 1) := by decide +kernel
-- BellRope$Evening
abbrev d0X2 : List Value := [.null, .null, .null, .null, .int 0, .int 0, .int 0, .int 0, .int 0, .int 0]
theorem dfX2 : ∀ j, j < 10 → defaultValue (tyX2 j) = vp_V d0X2 j := by decide +kernel
theorem mIX2 : co_mI yX2_init cX2_init 1 := ⟨bo_mem 115 (by decide +kernel) (by decide +kernel), bo_mem 64 (by decide +kernel) (by decide +kernel), bo_mem 116 (by decide +kernel) (by decide +kernel), rfl, by decide +kernel, by decide +kernel, by decide +kernel⟩
theorem isX2 : Cond.instantiable RX2 10 ∈ bo_tb := bo_mem 113 (by decide +kernel) (by decide +kernel)
theorem iiX2 : Cond.initialized RX2 ∈ bo_tb := bo_mem 64 (by decide +kernel) (by decide +kernel)
theorem dkX2_0 : decode cX2_init 0 = .ok (.aload_n 0, 1) := by decide +kernel
theorem dkX2_1 : decode cX2_init 1 = .ok (.invokespecial 3, 3) := by decide +kernel
theorem mlX2_3 : Cond.methodLink RX2 3 objectInit ∈ bo_tb := bo_mem 117 (by decide +kernel) (by decide +kernel)
theorem dkX2_4 : decode cX2_init 4 = .ok (.aload_n 0, 1) := by decide +kernel
theorem dkX2_5 : decode cX2_init 5 = .ok (.bipush 7, 2) := by decide +kernel
theorem dkX2_7 : decode cX2_init 7 = .ok (.newarray .int, 2) := by decide +kernel
theorem dkX2_9 : decode cX2_init 9 = .ok (.putfield 9, 3) := by decide +kernel
theorem fkX2_9 : Cond.fieldLink RX2 9 RX2 (TX2 0).2.1 (TX2 0).2.2.1 ∈ bo_tb := bo_mem 118 (by decide +kernel) (by decide +kernel)
theorem dkX2_12 : decode cX2_init 12 = .ok (.aload_n 0, 1) := by decide +kernel
theorem dkX2_13 : decode cX2_init 13 = .ok (.bipush 7, 2) := by decide +kernel
theorem dkX2_15 : decode cX2_init 15 = .ok (.newarray .int, 2) := by decide +kernel
theorem dkX2_17 : decode cX2_init 17 = .ok (.putfield 15, 3) := by decide +kernel
theorem fkX2_15 : Cond.fieldLink RX2 15 RX2 (TX2 1).2.1 (TX2 1).2.2.1 ∈ bo_tb := bo_mem 121 (by decide +kernel) (by decide +kernel)
theorem dkX2_20 : decode cX2_init 20 = .ok (.aload_n 0, 1) := by decide +kernel
theorem dkX2_21 : decode cX2_init 21 = .ok (.bipush 40, 2) := by decide +kernel
theorem dkX2_23 : decode cX2_init 23 = .ok (.newarray .int, 2) := by decide +kernel
theorem dkX2_25 : decode cX2_init 25 = .ok (.putfield 18, 3) := by decide +kernel
theorem fkX2_18 : Cond.fieldLink RX2 18 RX2 (TX2 2).2.1 (TX2 2).2.2.1 ∈ bo_tb := bo_mem 123 (by decide +kernel) (by decide +kernel)
theorem dkX2_28 : decode cX2_init 28 = .ok (.aload_n 0, 1) := by decide +kernel
theorem dkX2_29 : decode cX2_init 29 = .ok (.bipush 40, 2) := by decide +kernel
theorem dkX2_31 : decode cX2_init 31 = .ok (.newarray .int, 2) := by decide +kernel
theorem dkX2_33 : decode cX2_init 33 = .ok (.putfield 21, 3) := by decide +kernel
theorem fkX2_21 : Cond.fieldLink RX2 21 RX2 (TX2 3).2.1 (TX2 3).2.2.1 ∈ bo_tb := bo_mem 124 (by decide +kernel) (by decide +kernel)
theorem dkX2_36 : decode cX2_init 36 = .ok (.return_, 1) := by decide +kernel
-- BellRope$Image
abbrev d0X3 : List Value := [.null, .int 0, .int 0]
theorem dfX3 : ∀ j, j < 3 → defaultValue (tyX3 j) = vp_V d0X3 j := by decide +kernel
theorem mIX3 : co_mI yX3_init cX3_init 1 := ⟨bo_mem 178 (by decide +kernel) (by decide +kernel), bo_mem 66 (by decide +kernel) (by decide +kernel), bo_mem 179 (by decide +kernel) (by decide +kernel), rfl, by decide +kernel, by decide +kernel, by decide +kernel⟩
theorem isX3 : Cond.instantiable RX3 3 ∈ bo_tb := bo_mem 176 (by decide +kernel) (by decide +kernel)
theorem iiX3 : Cond.initialized RX3 ∈ bo_tb := bo_mem 66 (by decide +kernel) (by decide +kernel)
theorem dkX3_0 : decode cX3_init 0 = .ok (.aload_n 0, 1) := by decide +kernel
theorem dkX3_1 : decode cX3_init 1 = .ok (.invokespecial 1, 3) := by decide +kernel
theorem mlX3_1 : Cond.methodLink RX3 1 objectInit ∈ bo_tb := bo_mem 180 (by decide +kernel) (by decide +kernel)
theorem dkX3_4 : decode cX3_init 4 = .ok (.aload_n 0, 1) := by decide +kernel
theorem dkX3_5 : decode cX3_init 5 = .ok (.new 7, 3) := by decide +kernel
theorem clX3_7 : Cond.classLink RX3 7 RX2 ∈ bo_tb := bo_mem 181 (by decide +kernel) (by decide +kernel)
theorem dkX3_8 : decode cX3_init 8 = .ok (.dup, 1) := by decide +kernel
theorem dkX3_9 : decode cX3_init 9 = .ok (.invokespecial 9, 3) := by decide +kernel
theorem mlX3_9 : (RX3, 9, yX2_init) ∈ bo_nests := by simp [bo_nests]
theorem dkX3_12 : decode cX3_init 12 = .ok (.putfield 10, 3) := by decide +kernel
theorem fkX3_10 : Cond.fieldLink RX3 10 RX3 (TX3 0).2.1 (TX3 0).2.2.1 ∈ bo_tb := bo_mem 183 (by decide +kernel) (by decide +kernel)
theorem dkX3_15 : decode cX3_init 15 = .ok (.return_, 1) := by decide +kernel
-- BellRope$Inn
abbrev d0X4 : List Value := [.null, .null, .null, .null, .null, .null, .null, .int 0, .int 0, .int 0, .int 0, .int 0, .int 0, .int 0, .int 0]
theorem dfX4 : ∀ j, j < 15 → defaultValue (tyX4 j) = vp_V d0X4 j := by decide +kernel
theorem mIX4 : co_mI yX4_init cX4_init 1 := ⟨bo_mem 268 (by decide +kernel) (by decide +kernel), bo_mem 71 (by decide +kernel) (by decide +kernel), bo_mem 269 (by decide +kernel) (by decide +kernel), rfl, by decide +kernel, by decide +kernel, by decide +kernel⟩
theorem isX4 : Cond.instantiable RX4 15 ∈ bo_tb := bo_mem 266 (by decide +kernel) (by decide +kernel)
theorem iiX4 : Cond.initialized RX4 ∈ bo_tb := bo_mem 71 (by decide +kernel) (by decide +kernel)
theorem dkX4_0 : decode cX4_init 0 = .ok (.aload_n 0, 1) := by decide +kernel
theorem dkX4_1 : decode cX4_init 1 = .ok (.invokespecial 3, 3) := by decide +kernel
theorem mlX4_3 : Cond.methodLink RX4 3 objectInit ∈ bo_tb := bo_mem 270 (by decide +kernel) (by decide +kernel)
theorem dkX4_4 : decode cX4_init 4 = .ok (.aload_n 0, 1) := by decide +kernel
theorem dkX4_5 : decode cX4_init 5 = .ok (.bipush 7, 2) := by decide +kernel
theorem dkX4_7 : decode cX4_init 7 = .ok (.newarray .int, 2) := by decide +kernel
theorem dkX4_9 : decode cX4_init 9 = .ok (.putfield 9, 3) := by decide +kernel
theorem fkX4_9 : Cond.fieldLink RX4 9 RX4 (TX4 0).2.1 (TX4 0).2.2.1 ∈ bo_tb := bo_mem 271 (by decide +kernel) (by decide +kernel)
theorem dkX4_12 : decode cX4_init 12 = .ok (.aload_n 0, 1) := by decide +kernel
theorem dkX4_13 : decode cX4_init 13 = .ok (.bipush 7, 2) := by decide +kernel
theorem dkX4_15 : decode cX4_init 15 = .ok (.newarray .int, 2) := by decide +kernel
theorem dkX4_17 : decode cX4_init 17 = .ok (.putfield 15, 3) := by decide +kernel
theorem fkX4_15 : Cond.fieldLink RX4 15 RX4 (TX4 1).2.1 (TX4 1).2.2.1 ∈ bo_tb := bo_mem 275 (by decide +kernel) (by decide +kernel)
theorem dkX4_20 : decode cX4_init 20 = .ok (.aload_n 0, 1) := by decide +kernel
theorem dkX4_21 : decode cX4_init 21 = .ok (.bipush 7, 2) := by decide +kernel
theorem dkX4_23 : decode cX4_init 23 = .ok (.newarray .int, 2) := by decide +kernel
theorem dkX4_25 : decode cX4_init 25 = .ok (.putfield 18, 3) := by decide +kernel
theorem fkX4_18 : Cond.fieldLink RX4 18 RX4 (TX4 2).2.1 (TX4 2).2.2.1 ∈ bo_tb := bo_mem 279 (by decide +kernel) (by decide +kernel)
theorem dkX4_28 : decode cX4_init 28 = .ok (.aload_n 0, 1) := by decide +kernel
theorem dkX4_29 : decode cX4_init 29 = .ok (.bipush 6, 2) := by decide +kernel
theorem dkX4_31 : decode cX4_init 31 = .ok (.newarray .int, 2) := by decide +kernel
theorem dkX4_33 : decode cX4_init 33 = .ok (.putfield 21, 3) := by decide +kernel
theorem fkX4_21 : Cond.fieldLink RX4 21 RX4 (TX4 3).2.1 (TX4 3).2.2.1 ∈ bo_tb := bo_mem 282 (by decide +kernel) (by decide +kernel)
theorem dkX4_36 : decode cX4_init 36 = .ok (.aload_n 0, 1) := by decide +kernel
theorem dkX4_37 : decode cX4_init 37 = .ok (.bipush 6, 2) := by decide +kernel
theorem dkX4_39 : decode cX4_init 39 = .ok (.newarray .int, 2) := by decide +kernel
theorem dkX4_41 : decode cX4_init 41 = .ok (.putfield 24, 3) := by decide +kernel
theorem fkX4_24 : Cond.fieldLink RX4 24 RX4 (TX4 4).2.1 (TX4 4).2.2.1 ∈ bo_tb := bo_mem 285 (by decide +kernel) (by decide +kernel)
theorem dkX4_44 : decode cX4_init 44 = .ok (.aload_n 0, 1) := by decide +kernel
theorem dkX4_45 : decode cX4_init 45 = .ok (.iconst (5), 1) := by decide +kernel
theorem dkX4_46 : decode cX4_init 46 = .ok (.newarray .int, 2) := by decide +kernel
theorem dkX4_48 : decode cX4_init 48 = .ok (.putfield 27, 3) := by decide +kernel
theorem fkX4_27 : Cond.fieldLink RX4 27 RX4 (TX4 5).2.1 (TX4 5).2.2.1 ∈ bo_tb := bo_mem 288 (by decide +kernel) (by decide +kernel)
theorem dkX4_51 : decode cX4_init 51 = .ok (.aload_n 0, 1) := by decide +kernel
theorem dkX4_52 : decode cX4_init 52 = .ok (.bipush 96, 2) := by decide +kernel
theorem dkX4_54 : decode cX4_init 54 = .ok (.newarray .int, 2) := by decide +kernel
theorem dkX4_56 : decode cX4_init 56 = .ok (.putfield 30, 3) := by decide +kernel
theorem fkX4_30 : Cond.fieldLink RX4 30 RX4 (TX4 6).2.1 (TX4 6).2.2.1 ∈ bo_tb := bo_mem 291 (by decide +kernel) (by decide +kernel)
theorem dkX4_59 : decode cX4_init 59 = .ok (.return_, 1) := by decide +kernel
-- BellRope$Known
abbrev d0X5 : List Value := [.null, .null, .null, .null, .int 0, .int 0]
theorem dfX5 : ∀ j, j < 6 → defaultValue (tyX5 j) = vp_V d0X5 j := by decide +kernel
theorem mIX5 : co_mI yX5_init cX5_init 1 := ⟨bo_mem 214 (by decide +kernel) (by decide +kernel), bo_mem 68 (by decide +kernel) (by decide +kernel), bo_mem 215 (by decide +kernel) (by decide +kernel), rfl, by decide +kernel, by decide +kernel, by decide +kernel⟩
theorem isX5 : Cond.instantiable RX5 6 ∈ bo_tb := bo_mem 212 (by decide +kernel) (by decide +kernel)
theorem iiX5 : Cond.initialized RX5 ∈ bo_tb := bo_mem 68 (by decide +kernel) (by decide +kernel)
theorem dkX5_0 : decode cX5_init 0 = .ok (.aload_n 0, 1) := by decide +kernel
theorem dkX5_1 : decode cX5_init 1 = .ok (.invokespecial 3, 3) := by decide +kernel
theorem mlX5_3 : Cond.methodLink RX5 3 objectInit ∈ bo_tb := bo_mem 216 (by decide +kernel) (by decide +kernel)
theorem dkX5_4 : decode cX5_init 4 = .ok (.aload_n 0, 1) := by decide +kernel
theorem dkX5_5 : decode cX5_init 5 = .ok (.bipush 6, 2) := by decide +kernel
theorem dkX5_7 : decode cX5_init 7 = .ok (.newarray .int, 2) := by decide +kernel
theorem dkX5_9 : decode cX5_init 9 = .ok (.putfield 9, 3) := by decide +kernel
theorem fkX5_9 : Cond.fieldLink RX5 9 RX5 (TX5 0).2.1 (TX5 0).2.2.1 ∈ bo_tb := bo_mem 217 (by decide +kernel) (by decide +kernel)
theorem dkX5_12 : decode cX5_init 12 = .ok (.aload_n 0, 1) := by decide +kernel
theorem dkX5_13 : decode cX5_init 13 = .ok (.bipush 6, 2) := by decide +kernel
theorem dkX5_15 : decode cX5_init 15 = .ok (.newarray .int, 2) := by decide +kernel
theorem dkX5_17 : decode cX5_init 17 = .ok (.putfield 15, 3) := by decide +kernel
theorem fkX5_15 : Cond.fieldLink RX5 15 RX5 (TX5 1).2.1 (TX5 1).2.2.1 ∈ bo_tb := bo_mem 218 (by decide +kernel) (by decide +kernel)
theorem dkX5_20 : decode cX5_init 20 = .ok (.aload_n 0, 1) := by decide +kernel
theorem dkX5_21 : decode cX5_init 21 = .ok (.sipush 128, 3) := by decide +kernel
theorem dkX5_24 : decode cX5_init 24 = .ok (.newarray .int, 2) := by decide +kernel
theorem dkX5_26 : decode cX5_init 26 = .ok (.putfield 18, 3) := by decide +kernel
theorem fkX5_18 : Cond.fieldLink RX5 18 RX5 (TX5 2).2.1 (TX5 2).2.2.1 ∈ bo_tb := bo_mem 219 (by decide +kernel) (by decide +kernel)
theorem dkX5_29 : decode cX5_init 29 = .ok (.aload_n 0, 1) := by decide +kernel
theorem dkX5_30 : decode cX5_init 30 = .ok (.bipush 17, 2) := by decide +kernel
theorem dkX5_32 : decode cX5_init 32 = .ok (.newarray .int, 2) := by decide +kernel
theorem dkX5_34 : decode cX5_init 34 = .ok (.putfield 21, 3) := by decide +kernel
theorem fkX5_21 : Cond.fieldLink RX5 21 RX5 (TX5 3).2.1 (TX5 3).2.2.1 ∈ bo_tb := bo_mem 220 (by decide +kernel) (by decide +kernel)
theorem dkX5_37 : decode cX5_init 37 = .ok (.return_, 1) := by decide +kernel
-- BellRope$Past
abbrev d0X6 : List Value := [.null, .int 0]
theorem dfX6 : ∀ j, j < 2 → defaultValue (tyX6 j) = vp_V d0X6 j := by decide +kernel
theorem mIX6 : co_mI yX6_init cX6_init 2 := ⟨bo_mem 161 (by decide +kernel) (by decide +kernel), bo_mem 65 (by decide +kernel) (by decide +kernel), bo_mem 162 (by decide +kernel) (by decide +kernel), rfl, by decide +kernel, by decide +kernel, by decide +kernel⟩
theorem isX6 : Cond.instantiable RX6 2 ∈ bo_tb := bo_mem 159 (by decide +kernel) (by decide +kernel)
theorem iiX6 : Cond.initialized RX6 ∈ bo_tb := bo_mem 65 (by decide +kernel) (by decide +kernel)
theorem dkX6_0 : decode cX6_init 0 = .ok (.aload_n 0, 1) := by decide +kernel
theorem dkX6_1 : decode cX6_init 1 = .ok (.invokespecial 3, 3) := by decide +kernel
theorem mlX6_3 : Cond.methodLink RX6 3 objectInit ∈ bo_tb := bo_mem 163 (by decide +kernel) (by decide +kernel)
theorem dkX6_4 : decode cX6_init 4 = .ok (.aload_n 0, 1) := by decide +kernel
theorem dkX6_5 : decode cX6_init 5 = .ok (.bipush 16, 2) := by decide +kernel
theorem dkX6_7 : decode cX6_init 7 = .ok (.anewarray 9, 3) := by decide +kernel
theorem clX6_9 : Cond.classLink RX6 9 RX2 ∈ bo_tb := bo_mem 164 (by decide +kernel) (by decide +kernel)
theorem dkX6_10 : decode cX6_init 10 = .ok (.putfield 11, 3) := by decide +kernel
theorem fkX6_11 : Cond.fieldLink RX6 11 RX6 (TX6 0).2.1 (TX6 0).2.2.1 ∈ bo_tb := bo_mem 167 (by decide +kernel) (by decide +kernel)
theorem dkX6_13 : decode cX6_init 13 = .ok (.iconst (0), 1) := by decide +kernel
theorem dkX6_14 : decode cX6_init 14 = .ok (.istore_n 1, 1) := by decide +kernel
theorem dkX6_15 : decode cX6_init 15 = .ok (.iload_n 1, 1) := by decide +kernel
theorem dkX6_16 : decode cX6_init 16 = .ok (.aload_n 0, 1) := by decide +kernel
theorem dkX6_17 : decode cX6_init 17 = .ok (.getfield 11, 3) := by decide +kernel
theorem dkX6_20 : decode cX6_init 20 = .ok (.arraylength, 1) := by decide +kernel
theorem dkX6_21 : decode cX6_init 21 = .ok (.if_icmp .ge 22, 3) := by decide +kernel
theorem dkX6_24 : decode cX6_init 24 = .ok (.aload_n 0, 1) := by decide +kernel
theorem dkX6_25 : decode cX6_init 25 = .ok (.getfield 11, 3) := by decide +kernel
theorem dkX6_28 : decode cX6_init 28 = .ok (.iload_n 1, 1) := by decide +kernel
theorem dkX6_29 : decode cX6_init 29 = .ok (.new 9, 3) := by decide +kernel
theorem dkX6_32 : decode cX6_init 32 = .ok (.dup, 1) := by decide +kernel
theorem dkX6_33 : decode cX6_init 33 = .ok (.invokespecial 17, 3) := by decide +kernel
theorem mlX6_17 : (RX6, 17, yX2_init) ∈ bo_nests := by simp [bo_nests]
theorem dkX6_36 : decode cX6_init 36 = .ok (.aastore, 1) := by decide +kernel
theorem dkX6_37 : decode cX6_init 37 = .ok (.iinc 1 1, 3) := by decide +kernel
theorem dkX6_40 : decode cX6_init 40 = .ok (.goto (-25), 3) := by decide +kernel
theorem dkX6_43 : decode cX6_init 43 = .ok (.return_, 1) := by decide +kernel
-- BellRope$Reader
abbrev d0X7 : List Value := [.null, .int 0, .int 0, .int 0, .int 0, .int 0]
theorem dfX7 : ∀ j, j < 6 → defaultValue (tyX7 j) = vp_V d0X7 j := by decide +kernel
theorem mIX7 : co_mI yX7_init cX7_init 1 := ⟨bo_mem 87 (by decide +kernel) (by decide +kernel), bo_mem 63 (by decide +kernel) (by decide +kernel), bo_mem 88 (by decide +kernel) (by decide +kernel), rfl, by decide +kernel, by decide +kernel, by decide +kernel⟩
theorem isX7 : Cond.instantiable RX7 6 ∈ bo_tb := bo_mem 85 (by decide +kernel) (by decide +kernel)
theorem iiX7 : Cond.initialized RX7 ∈ bo_tb := bo_mem 63 (by decide +kernel) (by decide +kernel)
theorem dkX7_0 : decode cX7_init 0 = .ok (.aload_n 0, 1) := by decide +kernel
theorem dkX7_1 : decode cX7_init 1 = .ok (.invokespecial 3, 3) := by decide +kernel
theorem mlX7_3 : Cond.methodLink RX7 3 objectInit ∈ bo_tb := bo_mem 89 (by decide +kernel) (by decide +kernel)
theorem dkX7_4 : decode cX7_init 4 = .ok (.aload_n 0, 1) := by decide +kernel
theorem dkX7_5 : decode cX7_init 5 = .ok (.sipush 240, 3) := by decide +kernel
theorem dkX7_8 : decode cX7_init 8 = .ok (.newarray .int, 2) := by decide +kernel
theorem dkX7_10 : decode cX7_init 10 = .ok (.putfield 9, 3) := by decide +kernel
theorem fkX7_9 : Cond.fieldLink RX7 9 RX7 (TX7 0).2.1 (TX7 0).2.2.1 ∈ bo_tb := bo_mem 90 (by decide +kernel) (by decide +kernel)
theorem dkX7_13 : decode cX7_init 13 = .ok (.aload_n 0, 1) := by decide +kernel
theorem dkX7_14 : decode cX7_init 14 = .ok (.iconst (-1), 1) := by decide +kernel
theorem dkX7_15 : decode cX7_init 15 = .ok (.putfield 15, 3) := by decide +kernel
theorem fkX7_15 : Cond.fieldLink RX7 15 RX7 (TX7 5).2.1 (TX7 5).2.2.1 ∈ bo_tb := bo_mem 96 (by decide +kernel) (by decide +kernel)
theorem dkX7_18 : decode cX7_init 18 = .ok (.return_, 1) := by decide +kernel
-- BellRope$Trial
abbrev d0X9 : List Value := [.null, .null]
theorem dfX9 : ∀ j, j < 2 → defaultValue (tyX9 j) = vp_V d0X9 j := by decide +kernel
theorem mIX9 : co_mI yX9_init cX9_init 1 := ⟨bo_mem 197 (by decide +kernel) (by decide +kernel), bo_mem 67 (by decide +kernel) (by decide +kernel), bo_mem 198 (by decide +kernel) (by decide +kernel), rfl, by decide +kernel, by decide +kernel, by decide +kernel⟩
theorem isX9 : Cond.instantiable RX9 2 ∈ bo_tb := bo_mem 195 (by decide +kernel) (by decide +kernel)
theorem iiX9 : Cond.initialized RX9 ∈ bo_tb := bo_mem 67 (by decide +kernel) (by decide +kernel)
theorem dkX9_0 : decode cX9_init 0 = .ok (.aload_n 0, 1) := by decide +kernel
theorem dkX9_1 : decode cX9_init 1 = .ok (.invokespecial 3, 3) := by decide +kernel
theorem mlX9_3 : Cond.methodLink RX9 3 objectInit ∈ bo_tb := bo_mem 199 (by decide +kernel) (by decide +kernel)
theorem dkX9_4 : decode cX9_init 4 = .ok (.aload_n 0, 1) := by decide +kernel
theorem dkX9_5 : decode cX9_init 5 = .ok (.new 9, 3) := by decide +kernel
theorem clX9_9 : Cond.classLink RX9 9 RX2 ∈ bo_tb := bo_mem 200 (by decide +kernel) (by decide +kernel)
theorem dkX9_8 : decode cX9_init 8 = .ok (.dup, 1) := by decide +kernel
theorem dkX9_9 : decode cX9_init 9 = .ok (.invokespecial 11, 3) := by decide +kernel
theorem mlX9_11 : (RX9, 11, yX2_init) ∈ bo_nests := by simp [bo_nests]
theorem dkX9_12 : decode cX9_init 12 = .ok (.putfield 12, 3) := by decide +kernel
theorem fkX9_12 : Cond.fieldLink RX9 12 RX9 (TX9 0).2.1 (TX9 0).2.2.1 ∈ bo_tb := bo_mem 202 (by decide +kernel) (by decide +kernel)
theorem dkX9_15 : decode cX9_init 15 = .ok (.aload_n 0, 1) := by decide +kernel
theorem dkX9_16 : decode cX9_init 16 = .ok (.sipush 192, 3) := by decide +kernel
theorem dkX9_19 : decode cX9_init 19 = .ok (.newarray .int, 2) := by decide +kernel
theorem dkX9_21 : decode cX9_init 21 = .ok (.putfield 18, 3) := by decide +kernel
theorem fkX9_18 : Cond.fieldLink RX9 18 RX9 (TX9 1).2.1 (TX9 1).2.2.1 ∈ bo_tb := bo_mem 204 (by decide +kernel) (by decide +kernel)
theorem dkX9_24 : decode cX9_init 24 = .ok (.return_, 1) := by decide +kernel
-- BellRope
abbrev d0X10 : List Value := [.null, .null, .null, .null, .null, .null, .null, .null, .null, .null, .null, .int 0]
theorem dfX10 : ∀ j, j < 12 → defaultValue (tyX10 j) = vp_V d0X10 j := by decide +kernel
theorem mIX10 : co_mI yX10_init cX10_init 1 := ⟨bo_mem 79 (by decide +kernel) (by decide +kernel), bo_mem 62 (by decide +kernel) (by decide +kernel), bo_mem 80 (by decide +kernel) (by decide +kernel), rfl, by decide +kernel, by decide +kernel, by decide +kernel⟩
theorem isX10 : Cond.instantiable RX10 12 ∈ bo_tb := bo_mem 77 (by decide +kernel) (by decide +kernel)
theorem iiX10 : Cond.initialized RX10 ∈ bo_tb := bo_mem 62 (by decide +kernel) (by decide +kernel)
theorem dkX10_0 : decode cX10_init 0 = .ok (.aload_n 0, 1) := by decide +kernel
theorem dkX10_1 : decode cX10_init 1 = .ok (.invokespecial 1, 3) := by decide +kernel
theorem mlX10_1 : Cond.methodLink RX10 1 objectInit ∈ bo_tb := bo_mem 81 (by decide +kernel) (by decide +kernel)
theorem dkX10_4 : decode cX10_init 4 = .ok (.aload_n 0, 1) := by decide +kernel
theorem dkX10_5 : decode cX10_init 5 = .ok (.new 7, 3) := by decide +kernel
theorem clX10_7 : Cond.classLink RX10 7 RX7 ∈ bo_tb := bo_mem 84 (by decide +kernel) (by decide +kernel)
theorem dkX10_8 : decode cX10_init 8 = .ok (.dup, 1) := by decide +kernel
theorem dkX10_9 : decode cX10_init 9 = .ok (.invokespecial 9, 3) := by decide +kernel
theorem mlX10_9 : (RX10, 9, yX7_init) ∈ bo_nests := by simp [bo_nests]
theorem dkX10_12 : decode cX10_init 12 = .ok (.putfield 10, 3) := by decide +kernel
theorem fkX10_10 : Cond.fieldLink RX10 10 RX10 (TX10 0).2.1 (TX10 0).2.2.1 ∈ bo_tb := bo_mem 350 (by decide +kernel) (by decide +kernel)
theorem dkX10_15 : decode cX10_init 15 = .ok (.aload_n 0, 1) := by decide +kernel
theorem dkX10_16 : decode cX10_init 16 = .ok (.new 16, 3) := by decide +kernel
theorem clX10_16 : Cond.classLink RX10 16 RX2 ∈ bo_tb := bo_mem 112 (by decide +kernel) (by decide +kernel)
theorem dkX10_19 : decode cX10_init 19 = .ok (.dup, 1) := by decide +kernel
theorem dkX10_20 : decode cX10_init 20 = .ok (.invokespecial 18, 3) := by decide +kernel
theorem mlX10_18 : (RX10, 18, yX2_init) ∈ bo_nests := by simp [bo_nests]
theorem dkX10_23 : decode cX10_init 23 = .ok (.putfield 19, 3) := by decide +kernel
theorem fkX10_19 : Cond.fieldLink RX10 19 RX10 (TX10 1).2.1 (TX10 1).2.2.1 ∈ bo_tb := bo_mem 351 (by decide +kernel) (by decide +kernel)
theorem dkX10_26 : decode cX10_init 26 = .ok (.aload_n 0, 1) := by decide +kernel
theorem dkX10_27 : decode cX10_init 27 = .ok (.new 23, 3) := by decide +kernel
theorem clX10_23 : Cond.classLink RX10 23 RX6 ∈ bo_tb := bo_mem 158 (by decide +kernel) (by decide +kernel)
theorem dkX10_30 : decode cX10_init 30 = .ok (.dup, 1) := by decide +kernel
theorem dkX10_31 : decode cX10_init 31 = .ok (.invokespecial 25, 3) := by decide +kernel
theorem mlX10_25 : Cond.methodLink RX10 25 yX6_init ∈ bo_tb := bo_mem 160 (by decide +kernel) (by decide +kernel)
theorem dkX10_34 : decode cX10_init 34 = .ok (.putfield 26, 3) := by decide +kernel
theorem fkX10_26 : Cond.fieldLink RX10 26 RX10 (TX10 2).2.1 (TX10 2).2.2.1 ∈ bo_tb := bo_mem 352 (by decide +kernel) (by decide +kernel)
theorem dkX10_37 : decode cX10_init 37 = .ok (.aload_n 0, 1) := by decide +kernel
theorem dkX10_38 : decode cX10_init 38 = .ok (.new 30, 3) := by decide +kernel
theorem clX10_30 : Cond.classLink RX10 30 RX3 ∈ bo_tb := bo_mem 175 (by decide +kernel) (by decide +kernel)
theorem dkX10_41 : decode cX10_init 41 = .ok (.dup, 1) := by decide +kernel
theorem dkX10_42 : decode cX10_init 42 = .ok (.invokespecial 32, 3) := by decide +kernel
theorem mlX10_32 : (RX10, 32, yX3_init) ∈ bo_nests := by simp [bo_nests]
theorem dkX10_45 : decode cX10_init 45 = .ok (.putfield 33, 3) := by decide +kernel
theorem fkX10_33 : Cond.fieldLink RX10 33 RX10 (TX10 3).2.1 (TX10 3).2.2.1 ∈ bo_tb := bo_mem 353 (by decide +kernel) (by decide +kernel)
theorem dkX10_48 : decode cX10_init 48 = .ok (.aload_n 0, 1) := by decide +kernel
theorem dkX10_49 : decode cX10_init 49 = .ok (.new 30, 3) := by decide +kernel
theorem dkX10_52 : decode cX10_init 52 = .ok (.dup, 1) := by decide +kernel
theorem dkX10_53 : decode cX10_init 53 = .ok (.invokespecial 32, 3) := by decide +kernel
theorem dkX10_56 : decode cX10_init 56 = .ok (.putfield 37, 3) := by decide +kernel
theorem fkX10_37 : Cond.fieldLink RX10 37 RX10 (TX10 4).2.1 (TX10 4).2.2.1 ∈ bo_tb := bo_mem 354 (by decide +kernel) (by decide +kernel)
theorem dkX10_59 : decode cX10_init 59 = .ok (.aload_n 0, 1) := by decide +kernel
theorem dkX10_60 : decode cX10_init 60 = .ok (.new 40, 3) := by decide +kernel
theorem clX10_40 : Cond.classLink RX10 40 RX9 ∈ bo_tb := bo_mem 194 (by decide +kernel) (by decide +kernel)
theorem dkX10_63 : decode cX10_init 63 = .ok (.dup, 1) := by decide +kernel
theorem dkX10_64 : decode cX10_init 64 = .ok (.invokespecial 42, 3) := by decide +kernel
theorem mlX10_42 : (RX10, 42, yX9_init) ∈ bo_nests := by simp [bo_nests]
theorem dkX10_67 : decode cX10_init 67 = .ok (.putfield 43, 3) := by decide +kernel
theorem fkX10_43 : Cond.fieldLink RX10 43 RX10 (TX10 5).2.1 (TX10 5).2.2.1 ∈ bo_tb := bo_mem 355 (by decide +kernel) (by decide +kernel)
theorem dkX10_70 : decode cX10_init 70 = .ok (.aload_n 0, 1) := by decide +kernel
theorem dkX10_71 : decode cX10_init 71 = .ok (.new 47, 3) := by decide +kernel
theorem clX10_47 : Cond.classLink RX10 47 RX5 ∈ bo_tb := bo_mem 211 (by decide +kernel) (by decide +kernel)
theorem dkX10_74 : decode cX10_init 74 = .ok (.dup, 1) := by decide +kernel
theorem dkX10_75 : decode cX10_init 75 = .ok (.invokespecial 49, 3) := by decide +kernel
theorem mlX10_49 : (RX10, 49, yX5_init) ∈ bo_nests := by simp [bo_nests]
theorem dkX10_78 : decode cX10_init 78 = .ok (.putfield 50, 3) := by decide +kernel
theorem fkX10_50 : Cond.fieldLink RX10 50 RX10 (TX10 6).2.1 (TX10 6).2.2.1 ∈ bo_tb := bo_mem 356 (by decide +kernel) (by decide +kernel)
theorem dkX10_81 : decode cX10_init 81 = .ok (.aload_n 0, 1) := by decide +kernel
theorem dkX10_82 : decode cX10_init 82 = .ok (.new 54, 3) := by decide +kernel
theorem clX10_54 : Cond.classLink RX10 54 RX0 ∈ bo_tb := bo_mem 238 (by decide +kernel) (by decide +kernel)
theorem dkX10_85 : decode cX10_init 85 = .ok (.dup, 1) := by decide +kernel
theorem dkX10_86 : decode cX10_init 86 = .ok (.invokespecial 56, 3) := by decide +kernel
theorem mlX10_56 : (RX10, 56, yX0_init) ∈ bo_nests := by simp [bo_nests]
theorem dkX10_89 : decode cX10_init 89 = .ok (.putfield 57, 3) := by decide +kernel
theorem fkX10_57 : Cond.fieldLink RX10 57 RX10 (TX10 7).2.1 (TX10 7).2.2.1 ∈ bo_tb := bo_mem 357 (by decide +kernel) (by decide +kernel)
theorem dkX10_92 : decode cX10_init 92 = .ok (.aload_n 0, 1) := by decide +kernel
theorem dkX10_93 : decode cX10_init 93 = .ok (.new 61, 3) := by decide +kernel
theorem clX10_61 : Cond.classLink RX10 61 RX1 ∈ bo_tb := bo_mem 255 (by decide +kernel) (by decide +kernel)
theorem dkX10_96 : decode cX10_init 96 = .ok (.dup, 1) := by decide +kernel
theorem dkX10_97 : decode cX10_init 97 = .ok (.invokespecial 63, 3) := by decide +kernel
theorem mlX10_63 : (RX10, 63, yX1_init) ∈ bo_nests := by simp [bo_nests]
theorem dkX10_100 : decode cX10_init 100 = .ok (.putfield 64, 3) := by decide +kernel
theorem fkX10_64 : Cond.fieldLink RX10 64 RX10 (TX10 8).2.1 (TX10 8).2.2.1 ∈ bo_tb := bo_mem 358 (by decide +kernel) (by decide +kernel)
theorem dkX10_103 : decode cX10_init 103 = .ok (.aload_n 0, 1) := by decide +kernel
theorem dkX10_104 : decode cX10_init 104 = .ok (.new 68, 3) := by decide +kernel
theorem clX10_68 : Cond.classLink RX10 68 RX4 ∈ bo_tb := bo_mem 265 (by decide +kernel) (by decide +kernel)
theorem dkX10_107 : decode cX10_init 107 = .ok (.dup, 1) := by decide +kernel
theorem dkX10_108 : decode cX10_init 108 = .ok (.invokespecial 70, 3) := by decide +kernel
theorem mlX10_70 : (RX10, 70, yX4_init) ∈ bo_nests := by simp [bo_nests]
theorem dkX10_111 : decode cX10_init 111 = .ok (.putfield 71, 3) := by decide +kernel
theorem fkX10_71 : Cond.fieldLink RX10 71 RX10 (TX10 9).2.1 (TX10 9).2.2.1 ∈ bo_tb := bo_mem 359 (by decide +kernel) (by decide +kernel)
theorem dkX10_114 : decode cX10_init 114 = .ok (.aload_n 0, 1) := by decide +kernel
theorem dkX10_115 : decode cX10_init 115 = .ok (.new 68, 3) := by decide +kernel
theorem dkX10_118 : decode cX10_init 118 = .ok (.dup, 1) := by decide +kernel
theorem dkX10_119 : decode cX10_init 119 = .ok (.invokespecial 70, 3) := by decide +kernel
theorem dkX10_122 : decode cX10_init 122 = .ok (.putfield 75, 3) := by decide +kernel
theorem fkX10_75 : Cond.fieldLink RX10 75 RX10 (TX10 10).2.1 (TX10 10).2.2.1 ∈ bo_tb := bo_mem 360 (by decide +kernel) (by decide +kernel)
theorem dkX10_125 : decode cX10_init 125 = .ok (.return_, 1) := by decide +kernel
-- BellRopeModel
abbrev d0X11 : List Value := [.int 0, .int 0, .int 0, .int 0, .int 0, .null, .null, .null, .int 0, .null, .null, .int 0, .null, .null, .int 0, .null, .null, .int 0, .null, .int 0, .int 0, .int 0, .int 0, .int 0, .int 0, .null, .int 0, .null, .null, .null, .int 0, .null, .null, .int 0, .null, .null, .int 0, .null, .int 0, .null, .null, .null, .null, .null, .int 0, .null, .null, .null, .null, .int 0, .null, .null, .null, .null]
theorem dfX11 : ∀ j, j < 54 → defaultValue (tyX11 j) = vp_V d0X11 j := by decide +kernel
theorem mIX11 : co_mI yX11_init cX11_init 1 := ⟨bo_mem 878 (by decide +kernel) (by decide +kernel), bo_mem 72 (by decide +kernel) (by decide +kernel), bo_mem 879 (by decide +kernel) (by decide +kernel), rfl, by decide +kernel, by decide +kernel, by decide +kernel⟩
theorem isX11 : Cond.instantiable RX11 54 ∈ bo_tb := bo_mem 876 (by decide +kernel) (by decide +kernel)
theorem iiX11 : Cond.initialized RX11 ∈ bo_tb := bo_mem 72 (by decide +kernel) (by decide +kernel)
theorem dkX11_0 : decode cX11_init 0 = .ok (.aload_n 0, 1) := by decide +kernel
theorem dkX11_1 : decode cX11_init 1 = .ok (.invokespecial 1, 3) := by decide +kernel
theorem mlX11_1 : Cond.methodLink RX11 1 objectInit ∈ bo_tb := bo_mem 880 (by decide +kernel) (by decide +kernel)
theorem dkX11_4 : decode cX11_init 4 = .ok (.aload_n 0, 1) := by decide +kernel
theorem dkX11_5 : decode cX11_init 5 = .ok (.bipush 7, 2) := by decide +kernel
theorem dkX11_7 : decode cX11_init 7 = .ok (.newarray .int, 2) := by decide +kernel
theorem dkX11_9 : decode cX11_init 9 = .ok (.putfield 7, 3) := by decide +kernel
theorem fkX11_7 : Cond.fieldLink RX11 7 RX11 (TX11 5).2.1 (TX11 5).2.2.1 ∈ bo_tb := bo_mem 886 (by decide +kernel) (by decide +kernel)
theorem dkX11_12 : decode cX11_init 12 = .ok (.aload_n 0, 1) := by decide +kernel
theorem dkX11_13 : decode cX11_init 13 = .ok (.bipush 7, 2) := by decide +kernel
theorem dkX11_15 : decode cX11_init 15 = .ok (.newarray .int, 2) := by decide +kernel
theorem dkX11_17 : decode cX11_init 17 = .ok (.putfield 13, 3) := by decide +kernel
theorem fkX11_13 : Cond.fieldLink RX11 13 RX11 (TX11 6).2.1 (TX11 6).2.2.1 ∈ bo_tb := bo_mem 887 (by decide +kernel) (by decide +kernel)
theorem dkX11_20 : decode cX11_init 20 = .ok (.aload_n 0, 1) := by decide +kernel
theorem dkX11_21 : decode cX11_init 21 = .ok (.bipush 7, 2) := by decide +kernel
theorem dkX11_23 : decode cX11_init 23 = .ok (.newarray .int, 2) := by decide +kernel
theorem dkX11_25 : decode cX11_init 25 = .ok (.putfield 16, 3) := by decide +kernel
theorem fkX11_16 : Cond.fieldLink RX11 16 RX11 (TX11 7).2.1 (TX11 7).2.2.1 ∈ bo_tb := bo_mem 888 (by decide +kernel) (by decide +kernel)
theorem dkX11_28 : decode cX11_init 28 = .ok (.aload_n 0, 1) := by decide +kernel
theorem dkX11_29 : decode cX11_init 29 = .ok (.iconst (4), 1) := by decide +kernel
theorem dkX11_30 : decode cX11_init 30 = .ok (.newarray .int, 2) := by decide +kernel
theorem dkX11_32 : decode cX11_init 32 = .ok (.putfield 19, 3) := by decide +kernel
theorem fkX11_19 : Cond.fieldLink RX11 19 RX11 (TX11 9).2.1 (TX11 9).2.2.1 ∈ bo_tb := bo_mem 890 (by decide +kernel) (by decide +kernel)
theorem dkX11_35 : decode cX11_init 35 = .ok (.aload_n 0, 1) := by decide +kernel
theorem dkX11_36 : decode cX11_init 36 = .ok (.iconst (4), 1) := by decide +kernel
theorem dkX11_37 : decode cX11_init 37 = .ok (.newarray .int, 2) := by decide +kernel
theorem dkX11_39 : decode cX11_init 39 = .ok (.putfield 22, 3) := by decide +kernel
theorem fkX11_22 : Cond.fieldLink RX11 22 RX11 (TX11 10).2.1 (TX11 10).2.2.1 ∈ bo_tb := bo_mem 891 (by decide +kernel) (by decide +kernel)
theorem dkX11_42 : decode cX11_init 42 = .ok (.aload_n 0, 1) := by decide +kernel
theorem dkX11_43 : decode cX11_init 43 = .ok (.bipush 6, 2) := by decide +kernel
theorem dkX11_45 : decode cX11_init 45 = .ok (.newarray .int, 2) := by decide +kernel
theorem dkX11_47 : decode cX11_init 47 = .ok (.putfield 25, 3) := by decide +kernel
theorem fkX11_25 : Cond.fieldLink RX11 25 RX11 (TX11 12).2.1 (TX11 12).2.2.1 ∈ bo_tb := bo_mem 893 (by decide +kernel) (by decide +kernel)
theorem dkX11_50 : decode cX11_init 50 = .ok (.aload_n 0, 1) := by decide +kernel
theorem dkX11_51 : decode cX11_init 51 = .ok (.bipush 6, 2) := by decide +kernel
theorem dkX11_53 : decode cX11_init 53 = .ok (.newarray .int, 2) := by decide +kernel
theorem dkX11_55 : decode cX11_init 55 = .ok (.putfield 28, 3) := by decide +kernel
theorem fkX11_28 : Cond.fieldLink RX11 28 RX11 (TX11 13).2.1 (TX11 13).2.2.1 ∈ bo_tb := bo_mem 894 (by decide +kernel) (by decide +kernel)
theorem dkX11_58 : decode cX11_init 58 = .ok (.aload_n 0, 1) := by decide +kernel
theorem dkX11_59 : decode cX11_init 59 = .ok (.iconst (5), 1) := by decide +kernel
theorem dkX11_60 : decode cX11_init 60 = .ok (.newarray .int, 2) := by decide +kernel
theorem dkX11_62 : decode cX11_init 62 = .ok (.putfield 31, 3) := by decide +kernel
theorem fkX11_31 : Cond.fieldLink RX11 31 RX11 (TX11 15).2.1 (TX11 15).2.2.1 ∈ bo_tb := bo_mem 896 (by decide +kernel) (by decide +kernel)
theorem dkX11_65 : decode cX11_init 65 = .ok (.aload_n 0, 1) := by decide +kernel
theorem dkX11_66 : decode cX11_init 66 = .ok (.bipush 107, 2) := by decide +kernel
theorem dkX11_68 : decode cX11_init 68 = .ok (.newarray .int, 2) := by decide +kernel
theorem dkX11_70 : decode cX11_init 70 = .ok (.putfield 34, 3) := by decide +kernel
theorem fkX11_34 : Cond.fieldLink RX11 34 RX11 (TX11 16).2.1 (TX11 16).2.2.1 ∈ bo_tb := bo_mem 897 (by decide +kernel) (by decide +kernel)
theorem dkX11_73 : decode cX11_init 73 = .ok (.aload_n 0, 1) := by decide +kernel
theorem dkX11_74 : decode cX11_init 74 = .ok (.sipush 240, 3) := by decide +kernel
theorem dkX11_77 : decode cX11_init 77 = .ok (.newarray .int, 2) := by decide +kernel
theorem dkX11_79 : decode cX11_init 79 = .ok (.putfield 37, 3) := by decide +kernel
theorem fkX11_37 : Cond.fieldLink RX11 37 RX11 (TX11 18).2.1 (TX11 18).2.2.1 ∈ bo_tb := bo_mem 899 (by decide +kernel) (by decide +kernel)
theorem dkX11_82 : decode cX11_init 82 = .ok (.aload_n 0, 1) := by decide +kernel
theorem dkX11_83 : decode cX11_init 83 = .ok (.iconst (-1), 1) := by decide +kernel
theorem dkX11_84 : decode cX11_init 84 = .ok (.putfield 40, 3) := by decide +kernel
theorem fkX11_40 : Cond.fieldLink RX11 40 RX11 (TX11 20).2.1 (TX11 20).2.2.1 ∈ bo_tb := bo_mem 901 (by decide +kernel) (by decide +kernel)
theorem dkX11_87 : decode cX11_init 87 = .ok (.aload_n 0, 1) := by decide +kernel
theorem dkX11_88 : decode cX11_init 88 = .ok (.iconst (3), 1) := by decide +kernel
theorem dkX11_89 : decode cX11_init 89 = .ok (.newarray .int, 2) := by decide +kernel
theorem dkX11_91 : decode cX11_init 91 = .ok (.putfield 44, 3) := by decide +kernel
theorem fkX11_44 : Cond.fieldLink RX11 44 RX11 (TX11 25).2.1 (TX11 25).2.2.1 ∈ bo_tb := bo_mem 906 (by decide +kernel) (by decide +kernel)
theorem dkX11_94 : decode cX11_init 94 = .ok (.aload_n 0, 1) := by decide +kernel
theorem dkX11_95 : decode cX11_init 95 = .ok (.bipush 7, 2) := by decide +kernel
theorem dkX11_97 : decode cX11_init 97 = .ok (.newarray .int, 2) := by decide +kernel
theorem dkX11_99 : decode cX11_init 99 = .ok (.putfield 47, 3) := by decide +kernel
theorem fkX11_47 : Cond.fieldLink RX11 47 RX11 (TX11 27).2.1 (TX11 27).2.2.1 ∈ bo_tb := bo_mem 908 (by decide +kernel) (by decide +kernel)
theorem dkX11_102 : decode cX11_init 102 = .ok (.aload_n 0, 1) := by decide +kernel
theorem dkX11_103 : decode cX11_init 103 = .ok (.bipush 7, 2) := by decide +kernel
theorem dkX11_105 : decode cX11_init 105 = .ok (.newarray .int, 2) := by decide +kernel
theorem dkX11_107 : decode cX11_init 107 = .ok (.putfield 50, 3) := by decide +kernel
theorem fkX11_50 : Cond.fieldLink RX11 50 RX11 (TX11 28).2.1 (TX11 28).2.2.1 ∈ bo_tb := bo_mem 909 (by decide +kernel) (by decide +kernel)
theorem dkX11_110 : decode cX11_init 110 = .ok (.aload_n 0, 1) := by decide +kernel
theorem dkX11_111 : decode cX11_init 111 = .ok (.bipush 7, 2) := by decide +kernel
theorem dkX11_113 : decode cX11_init 113 = .ok (.newarray .int, 2) := by decide +kernel
theorem dkX11_115 : decode cX11_init 115 = .ok (.putfield 53, 3) := by decide +kernel
theorem fkX11_53 : Cond.fieldLink RX11 53 RX11 (TX11 29).2.1 (TX11 29).2.2.1 ∈ bo_tb := bo_mem 910 (by decide +kernel) (by decide +kernel)
theorem dkX11_118 : decode cX11_init 118 = .ok (.aload_n 0, 1) := by decide +kernel
theorem dkX11_119 : decode cX11_init 119 = .ok (.iconst (4), 1) := by decide +kernel
theorem dkX11_120 : decode cX11_init 120 = .ok (.newarray .int, 2) := by decide +kernel
theorem dkX11_122 : decode cX11_init 122 = .ok (.putfield 56, 3) := by decide +kernel
theorem fkX11_56 : Cond.fieldLink RX11 56 RX11 (TX11 31).2.1 (TX11 31).2.2.1 ∈ bo_tb := bo_mem 912 (by decide +kernel) (by decide +kernel)
theorem dkX11_125 : decode cX11_init 125 = .ok (.aload_n 0, 1) := by decide +kernel
theorem dkX11_126 : decode cX11_init 126 = .ok (.iconst (4), 1) := by decide +kernel
theorem dkX11_127 : decode cX11_init 127 = .ok (.newarray .int, 2) := by decide +kernel
theorem dkX11_129 : decode cX11_init 129 = .ok (.putfield 59, 3) := by decide +kernel
theorem fkX11_59 : Cond.fieldLink RX11 59 RX11 (TX11 32).2.1 (TX11 32).2.2.1 ∈ bo_tb := bo_mem 913 (by decide +kernel) (by decide +kernel)
theorem dkX11_132 : decode cX11_init 132 = .ok (.aload_n 0, 1) := by decide +kernel
theorem dkX11_133 : decode cX11_init 133 = .ok (.bipush 6, 2) := by decide +kernel
theorem dkX11_135 : decode cX11_init 135 = .ok (.newarray .int, 2) := by decide +kernel
theorem dkX11_137 : decode cX11_init 137 = .ok (.putfield 62, 3) := by decide +kernel
theorem fkX11_62 : Cond.fieldLink RX11 62 RX11 (TX11 34).2.1 (TX11 34).2.2.1 ∈ bo_tb := bo_mem 915 (by decide +kernel) (by decide +kernel)
theorem dkX11_140 : decode cX11_init 140 = .ok (.aload_n 0, 1) := by decide +kernel
theorem dkX11_141 : decode cX11_init 141 = .ok (.bipush 6, 2) := by decide +kernel
theorem dkX11_143 : decode cX11_init 143 = .ok (.newarray .int, 2) := by decide +kernel
theorem dkX11_145 : decode cX11_init 145 = .ok (.putfield 65, 3) := by decide +kernel
theorem fkX11_65 : Cond.fieldLink RX11 65 RX11 (TX11 35).2.1 (TX11 35).2.2.1 ∈ bo_tb := bo_mem 916 (by decide +kernel) (by decide +kernel)
theorem dkX11_148 : decode cX11_init 148 = .ok (.aload_n 0, 1) := by decide +kernel
theorem dkX11_149 : decode cX11_init 149 = .ok (.iconst (5), 1) := by decide +kernel
theorem dkX11_150 : decode cX11_init 150 = .ok (.newarray .int, 2) := by decide +kernel
theorem dkX11_152 : decode cX11_init 152 = .ok (.putfield 68, 3) := by decide +kernel
theorem fkX11_68 : Cond.fieldLink RX11 68 RX11 (TX11 37).2.1 (TX11 37).2.2.1 ∈ bo_tb := bo_mem 918 (by decide +kernel) (by decide +kernel)
theorem dkX11_155 : decode cX11_init 155 = .ok (.aload_n 0, 1) := by decide +kernel
theorem dkX11_156 : decode cX11_init 156 = .ok (.sipush 1712, 3) := by decide +kernel
theorem dkX11_159 : decode cX11_init 159 = .ok (.newarray .int, 2) := by decide +kernel
theorem dkX11_161 : decode cX11_init 161 = .ok (.putfield 71, 3) := by decide +kernel
theorem fkX11_71 : Cond.fieldLink RX11 71 RX11 (TX11 39).2.1 (TX11 39).2.2.1 ∈ bo_tb := bo_mem 920 (by decide +kernel) (by decide +kernel)
theorem dkX11_164 : decode cX11_init 164 = .ok (.aload_n 0, 1) := by decide +kernel
theorem dkX11_165 : decode cX11_init 165 = .ok (.bipush 107, 2) := by decide +kernel
theorem dkX11_167 : decode cX11_init 167 = .ok (.newarray .int, 2) := by decide +kernel
theorem dkX11_169 : decode cX11_init 169 = .ok (.putfield 74, 3) := by decide +kernel
theorem fkX11_74 : Cond.fieldLink RX11 74 RX11 (TX11 40).2.1 (TX11 40).2.2.1 ∈ bo_tb := bo_mem 921 (by decide +kernel) (by decide +kernel)
theorem dkX11_172 : decode cX11_init 172 = .ok (.aload_n 0, 1) := by decide +kernel
theorem dkX11_173 : decode cX11_init 173 = .ok (.sipush 192, 3) := by decide +kernel
theorem dkX11_176 : decode cX11_init 176 = .ok (.newarray .int, 2) := by decide +kernel
theorem dkX11_178 : decode cX11_init 178 = .ok (.putfield 77, 3) := by decide +kernel
theorem fkX11_77 : Cond.fieldLink RX11 77 RX11 (TX11 41).2.1 (TX11 41).2.2.1 ∈ bo_tb := bo_mem 922 (by decide +kernel) (by decide +kernel)
theorem dkX11_181 : decode cX11_init 181 = .ok (.aload_n 0, 1) := by decide +kernel
theorem dkX11_182 : decode cX11_init 182 = .ok (.sipush 192, 3) := by decide +kernel
theorem dkX11_185 : decode cX11_init 185 = .ok (.newarray .int, 2) := by decide +kernel
theorem dkX11_187 : decode cX11_init 187 = .ok (.putfield 80, 3) := by decide +kernel
theorem fkX11_80 : Cond.fieldLink RX11 80 RX11 (TX11 42).2.1 (TX11 42).2.2.1 ∈ bo_tb := bo_mem 923 (by decide +kernel) (by decide +kernel)
theorem dkX11_190 : decode cX11_init 190 = .ok (.aload_n 0, 1) := by decide +kernel
theorem dkX11_191 : decode cX11_init 191 = .ok (.bipush 8, 2) := by decide +kernel
theorem dkX11_193 : decode cX11_init 193 = .ok (.newarray .int, 2) := by decide +kernel
theorem dkX11_195 : decode cX11_init 195 = .ok (.putfield 83, 3) := by decide +kernel
theorem fkX11_83 : Cond.fieldLink RX11 83 RX11 (TX11 43).2.1 (TX11 43).2.2.1 ∈ bo_tb := bo_mem 924 (by decide +kernel) (by decide +kernel)
theorem dkX11_198 : decode cX11_init 198 = .ok (.aload_n 0, 1) := by decide +kernel
theorem dkX11_199 : decode cX11_init 199 = .ok (.bipush 6, 2) := by decide +kernel
theorem dkX11_201 : decode cX11_init 201 = .ok (.newarray .int, 2) := by decide +kernel
theorem dkX11_203 : decode cX11_init 203 = .ok (.putfield 86, 3) := by decide +kernel
theorem fkX11_86 : Cond.fieldLink RX11 86 RX11 (TX11 45).2.1 (TX11 45).2.2.1 ∈ bo_tb := bo_mem 926 (by decide +kernel) (by decide +kernel)
theorem dkX11_206 : decode cX11_init 206 = .ok (.aload_n 0, 1) := by decide +kernel
theorem dkX11_207 : decode cX11_init 207 = .ok (.bipush 6, 2) := by decide +kernel
theorem dkX11_209 : decode cX11_init 209 = .ok (.newarray .int, 2) := by decide +kernel
theorem dkX11_211 : decode cX11_init 211 = .ok (.putfield 89, 3) := by decide +kernel
theorem fkX11_89 : Cond.fieldLink RX11 89 RX11 (TX11 46).2.1 (TX11 46).2.2.1 ∈ bo_tb := bo_mem 927 (by decide +kernel) (by decide +kernel)
theorem dkX11_214 : decode cX11_init 214 = .ok (.aload_n 0, 1) := by decide +kernel
theorem dkX11_215 : decode cX11_init 215 = .ok (.sipush 128, 3) := by decide +kernel
theorem dkX11_218 : decode cX11_init 218 = .ok (.newarray .boolean, 2) := by decide +kernel
theorem dkX11_220 : decode cX11_init 220 = .ok (.putfield 92, 3) := by decide +kernel
theorem fkX11_92 : Cond.fieldLink RX11 92 RX11 (TX11 47).2.1 (TX11 47).2.2.1 ∈ bo_tb := bo_mem 928 (by decide +kernel) (by decide +kernel)
theorem dkX11_223 : decode cX11_init 223 = .ok (.aload_n 0, 1) := by decide +kernel
theorem dkX11_224 : decode cX11_init 224 = .ok (.bipush 20, 2) := by decide +kernel
theorem dkX11_226 : decode cX11_init 226 = .ok (.newarray .int, 2) := by decide +kernel
theorem dkX11_228 : decode cX11_init 228 = .ok (.putfield 96, 3) := by decide +kernel
theorem fkX11_96 : Cond.fieldLink RX11 96 RX11 (TX11 48).2.1 (TX11 48).2.2.1 ∈ bo_tb := bo_mem 929 (by decide +kernel) (by decide +kernel)
theorem dkX11_231 : decode cX11_init 231 = .ok (.aload_n 0, 1) := by decide +kernel
theorem dkX11_232 : decode cX11_init 232 = .ok (.bipush 15, 2) := by decide +kernel
theorem dkX11_234 : decode cX11_init 234 = .ok (.newarray .int, 2) := by decide +kernel
theorem dkX11_236 : decode cX11_init 236 = .ok (.putfield 99, 3) := by decide +kernel
theorem fkX11_99 : Cond.fieldLink RX11 99 RX11 (TX11 50).2.1 (TX11 50).2.2.1 ∈ bo_tb := bo_mem 931 (by decide +kernel) (by decide +kernel)
theorem dkX11_239 : decode cX11_init 239 = .ok (.aload_n 0, 1) := by decide +kernel
theorem dkX11_240 : decode cX11_init 240 = .ok (.bipush 15, 2) := by decide +kernel
theorem dkX11_242 : decode cX11_init 242 = .ok (.newarray .int, 2) := by decide +kernel
theorem dkX11_244 : decode cX11_init 244 = .ok (.putfield 102, 3) := by decide +kernel
theorem fkX11_102 : Cond.fieldLink RX11 102 RX11 (TX11 51).2.1 (TX11 51).2.2.1 ∈ bo_tb := bo_mem 932 (by decide +kernel) (by decide +kernel)
theorem dkX11_247 : decode cX11_init 247 = .ok (.aload_n 0, 1) := by decide +kernel
theorem dkX11_248 : decode cX11_init 248 = .ok (.sipush 216, 3) := by decide +kernel
theorem dkX11_251 : decode cX11_init 251 = .ok (.newarray .int, 2) := by decide +kernel
theorem dkX11_253 : decode cX11_init 253 = .ok (.putfield 105, 3) := by decide +kernel
theorem fkX11_105 : Cond.fieldLink RX11 105 RX11 (TX11 52).2.1 (TX11 52).2.2.1 ∈ bo_tb := bo_mem 933 (by decide +kernel) (by decide +kernel)
theorem dkX11_256 : decode cX11_init 256 = .ok (.aload_n 0, 1) := by decide +kernel
theorem dkX11_257 : decode cX11_init 257 = .ok (.iconst (2), 1) := by decide +kernel
theorem dkX11_258 : decode cX11_init 258 = .ok (.newarray .boolean, 2) := by decide +kernel
theorem dkX11_260 : decode cX11_init 260 = .ok (.putfield 108, 3) := by decide +kernel
theorem fkX11_108 : Cond.fieldLink RX11 108 RX11 (TX11 53).2.1 (TX11 53).2.2.1 ∈ bo_tb := bo_mem 934 (by decide +kernel) (by decide +kernel)
theorem dkX11_263 : decode cX11_init 263 = .ok (.aload_n 0, 1) := by decide +kernel
theorem dkX11_264 : decode cX11_init 264 = .ok (.iconst (0), 1) := by decide +kernel
theorem dkX11_265 : decode cX11_init 265 = .ok (.putfield 111, 3) := by decide +kernel
theorem fkX11_111 : Cond.fieldLink RX11 111 RX11 (TX11 0).2.1 (TX11 0).2.2.1 ∈ bo_tb := bo_mem 881 (by decide +kernel) (by decide +kernel)
theorem dkX11_268 : decode cX11_init 268 = .ok (.return_, 1) := by decide +kernel
end CONW
