/-! the class's own constructor: printed by wip/whole/gen/con3.py -/
section CONT
def co_tblL : List Nat := [0, 1, 1, 3, 3, 4, 4, 4, 4, 4, 4, 5, 5, 5, 5, 5, 5, 6, 6, 6, 6, 6, 6, 6, 7, 7, 7, 7, 7, 8, 8, 8, 9, 9, 10, 10, 10, 10, 10, 10, 10, 10, 11, 11, 11, 11, 11, 11, 11, 11, 2, 2, 2, 2, 2, 3, 3, 3, 3, 3, 3, 3, 3, 3, 3, 3, 3, 3, 3, 3, 3, 3, 3, 3, 3, 3, 3, 3, 3, 3, 3, 3, 3, 3, 3, 3, 3, 3, 3, 3, 3, 3, 3, 3, 3, 3, 3, 3, 3, 3, 3, 3, 3, 3, 3, 3, 3, 3, 3, 3, 3, 3, 3, 3, 3, 3, 3, 3, 3, 3, 3, 3, 3, 3, 3, 3, 3, 3, 3, 3, 3, 3, 3, 3, 3]
def co_tbl (n : Nat) : Nat := co_tblL.getD n 0
def co_pick (F : List (Nat → Nat)) (n : Nat) : Nat := F.getD (co_tbl n) (fun _ => 0) n
theorem co_pick_at {F : List (Nat → Nat)} {n j : Nat} (h : co_tbl n = j) : co_pick F n = F.getD j (fun _ => 0) n := by unfold co_pick; rw [h]
theorem tb_1 : ∀ n ∈ [1, 2], co_tbl n = 1 := by decide +kernel
theorem tc_1 : ∀ n ∈ [1, 2], ∀ r ∈ co_refs n, r ∈ [1, 2] := by decide +kernel
theorem tb_2 : ∀ n ∈ (co_iE 50), co_tbl n = 2 := by decide +kernel
theorem tc_2 : ∀ n ∈ (co_iE 50), ∀ r ∈ co_refs n, r ∈ (co_iE 50) := by decide +kernel
theorem tb_3 : ∀ n ∈ (3 :: 4 :: co_evs 16), co_tbl n = 3 := by decide +kernel
theorem tc_3 : ∀ n ∈ (3 :: 4 :: co_evs 16), ∀ r ∈ co_refs n, r ∈ (3 :: 4 :: co_evs 16) := by decide +kernel
theorem tb_4 : ∀ n ∈ (5 :: co_iE (5 + 1)), co_tbl n = 4 := by decide +kernel
theorem tc_4 : ∀ n ∈ (5 :: co_iE (5 + 1)), ∀ r ∈ co_refs n, r ∈ (5 :: co_iE (5 + 1)) := by decide +kernel
theorem tb_5 : ∀ n ∈ (11 :: co_iE (11 + 1)), co_tbl n = 5 := by decide +kernel
theorem tc_5 : ∀ n ∈ (11 :: co_iE (11 + 1)), ∀ r ∈ co_refs n, r ∈ (11 :: co_iE (11 + 1)) := by decide +kernel
theorem tb_6 : ∀ n ∈ (17 :: (co_iE 18 ++ [23])), co_tbl n = 6 := by decide +kernel
theorem tc_6 : ∀ n ∈ (17 :: (co_iE 18 ++ [23])), ∀ r ∈ co_refs n, r ∈ (17 :: (co_iE 18 ++ [23])) := by decide +kernel
theorem tb_7 : ∀ n ∈ [24, 25, 26, 27, 28], co_tbl n = 7 := by decide +kernel
theorem tc_7 : ∀ n ∈ [24, 25, 26, 27, 28], ∀ r ∈ co_refs n, r ∈ [24, 25, 26, 27, 28] := by decide +kernel
theorem tb_8 : ∀ n ∈ [29, 30, 31], co_tbl n = 8 := by decide +kernel
theorem tc_8 : ∀ n ∈ [29, 30, 31], ∀ r ∈ co_refs n, r ∈ [29, 30, 31] := by decide +kernel
theorem tb_9 : ∀ n ∈ [32, 33], co_tbl n = 9 := by decide +kernel
theorem tc_9 : ∀ n ∈ [32, 33], ∀ r ∈ co_refs n, r ∈ [32, 33] := by decide +kernel
theorem tb_10 : ∀ n ∈ [34, 34 + 1, 34 + 2, 34 + 3, 34 + 4, 34 + 5, 34 + 6, 34 + 7], co_tbl n = 10 := by decide +kernel
theorem tc_10 : ∀ n ∈ [34, 34 + 1, 34 + 2, 34 + 3, 34 + 4, 34 + 5, 34 + 6, 34 + 7], ∀ r ∈ co_refs n, r ∈ [34, 34 + 1, 34 + 2, 34 + 3, 34 + 4, 34 + 5, 34 + 6, 34 + 7] := by decide +kernel
theorem tb_11 : ∀ n ∈ [42, 42 + 1, 42 + 2, 42 + 3, 42 + 4, 42 + 5, 42 + 6, 42 + 7], co_tbl n = 11 := by decide +kernel
theorem tc_11 : ∀ n ∈ [42, 42 + 1, 42 + 2, 42 + 3, 42 + 4, 42 + 5, 42 + 6, 42 + 7], ∀ r ∈ co_refs n, r ∈ [42, 42 + 1, 42 + 2, 42 + 3, 42 + 4, 42 + 5, 42 + 6, 42 + 7] := by decide +kernel
def co_topI : List Nat := ((((((((((([] ++ [1, 2]) ++ (co_iE 50)) ++ (3 :: 4 :: co_evs 16)) ++ (5 :: co_iE (5 + 1))) ++ (11 :: co_iE (11 + 1))) ++ (17 :: (co_iE 18 ++ [23]))) ++ [24, 25, 26, 27, 28]) ++ [29, 30, 31]) ++ [32, 33]) ++ [34, 34 + 1, 34 + 2, 34 + 3, 34 + 4, 34 + 5, 34 + 6, 34 + 7]) ++ [42, 42 + 1, 42 + 2, 42 + 3, 42 + 4, 42 + 5, 42 + 6, 42 + 7])
set_option maxRecDepth 100000 in
set_option maxHeartbeats 4000000 in
theorem kIX10 (l : Launch) (c3 : Nat → ClassId) (D : va_G) : co_C l c3 D yX10_init cX10_init 1 3 53 134 3047 9 d0X10 (co_W c3 D (0 :: co_topI)) 0 := by
  refine co_met (by decide) rfl rfl (Nat.le_of_ble_eq_true rfl) ?_
  intro x h0 e1 e2 e3 hx hin fin
  subst e1; subst e2; subst e3
  refine co_aload (a := h0) hx dkX10_0 rfl 0 rfl ?_
  refine co_super hx dkX10_1 mlX10_1 (by decide) (by decide) ?_
  obtain ⟨fs0, f0⟩ : ∃ z : List Value, z = d0X10 := ⟨_, rfl⟩
  have l0 : fs0.length = 12 := by rw [f0]; rfl
  rw [← f0]
  refine co_aload (a := h0) hx dkX10_4 rfl 0 rfl ?_
  refine co_make hx dkX10_5 dkX10_8 dkX10_9 in_X7 tyX7 tyX7_ok clX10_7 isX7 iiX7 rfl dfX7 mIX7 (Or.inr mlX10_9) (kIX7 _ _ _) (by decide) (Nat.le_of_ble_eq_true rfl) (Nat.le_of_ble_eq_true rfl) (Nat.le_of_ble_eq_true rfl) (fun ad1 => ?_)
  refine co_putFL hx hin dkX10_12 in_X10 tyX10 tyX10_ok nmX10 rfl (Nat.le_of_ble_eq_true rfl) fkX10_10 rfl rfl rfl rfl rfl rfl l0 (fun fs1 f1 l1 => ?_)
  refine co_aload (a := h0) hx dkX10_15 rfl 0 rfl ?_
  refine co_make hx dkX10_16 dkX10_19 dkX10_20 in_X2 tyX2 tyX2_ok clX10_16 isX2 iiX2 rfl dfX2 mIX2 (Or.inr mlX10_18) (kIX2 _ _ _ 50 bo_ev50) (by decide) (Nat.le_of_ble_eq_true rfl) (Nat.le_of_ble_eq_true rfl) (Nat.le_of_ble_eq_true rfl) (fun ad2 => ?_)
  refine co_putFL hx hin dkX10_23 in_X10 tyX10 tyX10_ok nmX10 rfl (Nat.le_of_ble_eq_true rfl) fkX10_19 rfl rfl rfl rfl rfl rfl l1 (fun fs2 f2 l2 => ?_)
  refine co_aload (a := h0) hx dkX10_26 rfl 0 rfl ?_
  refine co_make hx dkX10_27 dkX10_30 dkX10_31 in_X6 tyX6 tyX6_ok clX10_23 isX6 iiX6 rfl dfX6 mIX6 (Or.inl mlX10_25) (kIX6 _ _ _) (by decide) (Nat.le_of_ble_eq_true rfl) (Nat.le_of_ble_eq_true rfl) (Nat.le_of_ble_eq_true rfl) (fun ad3 => ?_)
  refine co_putFL hx hin dkX10_34 in_X10 tyX10 tyX10_ok nmX10 rfl (Nat.le_of_ble_eq_true rfl) fkX10_26 rfl rfl rfl rfl rfl rfl l2 (fun fs3 f3 l3 => ?_)
  refine co_aload (a := h0) hx dkX10_37 rfl 0 rfl ?_
  refine co_make hx dkX10_38 dkX10_41 dkX10_42 in_X3 tyX3 tyX3_ok clX10_30 isX3 iiX3 rfl dfX3 mIX3 (Or.inr mlX10_32) (kIX3 _ _ _ 5 bo_im5) (by decide) (Nat.le_of_ble_eq_true rfl) (Nat.le_of_ble_eq_true rfl) (Nat.le_of_ble_eq_true rfl) (fun ad4 => ?_)
  refine co_putFL hx hin dkX10_45 in_X10 tyX10 tyX10_ok nmX10 rfl (Nat.le_of_ble_eq_true rfl) fkX10_33 rfl rfl rfl rfl rfl rfl l3 (fun fs4 f4 l4 => ?_)
  refine co_aload (a := h0) hx dkX10_48 rfl 0 rfl ?_
  refine co_make hx dkX10_49 dkX10_52 dkX10_53 in_X3 tyX3 tyX3_ok clX10_30 isX3 iiX3 rfl dfX3 mIX3 (Or.inr mlX10_32) (kIX3 _ _ _ 11 bo_im11) (by decide) (Nat.le_of_ble_eq_true rfl) (Nat.le_of_ble_eq_true rfl) (Nat.le_of_ble_eq_true rfl) (fun ad5 => ?_)
  refine co_putFL hx hin dkX10_56 in_X10 tyX10 tyX10_ok nmX10 rfl (Nat.le_of_ble_eq_true rfl) fkX10_37 rfl rfl rfl rfl rfl rfl l4 (fun fs5 f5 l5 => ?_)
  refine co_aload (a := h0) hx dkX10_59 rfl 0 rfl ?_
  refine co_make hx dkX10_60 dkX10_63 dkX10_64 in_X9 tyX9 tyX9_ok clX10_40 isX9 iiX9 rfl dfX9 mIX9 (Or.inr mlX10_42) (kIX9 _ _ _) (by decide) (Nat.le_of_ble_eq_true rfl) (Nat.le_of_ble_eq_true rfl) (Nat.le_of_ble_eq_true rfl) (fun ad6 => ?_)
  refine co_putFL hx hin dkX10_67 in_X10 tyX10 tyX10_ok nmX10 rfl (Nat.le_of_ble_eq_true rfl) fkX10_43 rfl rfl rfl rfl rfl rfl l5 (fun fs6 f6 l6 => ?_)
  refine co_aload (a := h0) hx dkX10_70 rfl 0 rfl ?_
  refine co_make hx dkX10_71 dkX10_74 dkX10_75 in_X5 tyX5 tyX5_ok clX10_47 isX5 iiX5 rfl dfX5 mIX5 (Or.inr mlX10_49) (kIX5 _ _ _) (by decide) (Nat.le_of_ble_eq_true rfl) (Nat.le_of_ble_eq_true rfl) (Nat.le_of_ble_eq_true rfl) (fun ad7 => ?_)
  refine co_putFL hx hin dkX10_78 in_X10 tyX10 tyX10_ok nmX10 rfl (Nat.le_of_ble_eq_true rfl) fkX10_50 rfl rfl rfl rfl rfl rfl l6 (fun fs7 f7 l7 => ?_)
  refine co_aload (a := h0) hx dkX10_81 rfl 0 rfl ?_
  refine co_make hx dkX10_82 dkX10_85 dkX10_86 in_X0 tyX0 tyX0_ok clX10_54 isX0 iiX0 rfl dfX0 mIX0 (Or.inr mlX10_56) (kIX0 _ _ _) (by decide) (Nat.le_of_ble_eq_true rfl) (Nat.le_of_ble_eq_true rfl) (Nat.le_of_ble_eq_true rfl) (fun ad8 => ?_)
  refine co_putFL hx hin dkX10_89 in_X10 tyX10 tyX10_ok nmX10 rfl (Nat.le_of_ble_eq_true rfl) fkX10_57 rfl rfl rfl rfl rfl rfl l7 (fun fs8 f8 l8 => ?_)
  refine co_aload (a := h0) hx dkX10_92 rfl 0 rfl ?_
  refine co_make hx dkX10_93 dkX10_96 dkX10_97 in_X1 tyX1 tyX1_ok clX10_61 isX1 iiX1 rfl dfX1 mIX1 (Or.inr mlX10_63) (kIX1 _ _ _) (by decide) (Nat.le_of_ble_eq_true rfl) (Nat.le_of_ble_eq_true rfl) (Nat.le_of_ble_eq_true rfl) (fun ad9 => ?_)
  refine co_putFL hx hin dkX10_100 in_X10 tyX10 tyX10_ok nmX10 rfl (Nat.le_of_ble_eq_true rfl) fkX10_64 rfl rfl rfl rfl rfl rfl l8 (fun fs9 f9 l9 => ?_)
  refine co_aload (a := h0) hx dkX10_103 rfl 0 rfl ?_
  refine co_make hx dkX10_104 dkX10_107 dkX10_108 in_X4 tyX4 tyX4_ok clX10_68 isX4 iiX4 rfl dfX4 mIX4 (Or.inr mlX10_70) (kIX4 _ _ _ 34 (Or.inl rfl)) (by decide) (Nat.le_of_ble_eq_true rfl) (Nat.le_of_ble_eq_true rfl) (Nat.le_of_ble_eq_true rfl) (fun ad10 => ?_)
  refine co_putL hx dkX10_111 in_X10 tyX10 tyX10_ok nmX10 rfl (Nat.le_of_ble_eq_true rfl) fkX10_71 rfl rfl rfl rfl rfl l9 (fun fs10 f10 l10 => ?_)
  refine co_aload (a := h0) hx dkX10_114 rfl 0 rfl ?_
  refine co_make hx dkX10_115 dkX10_118 dkX10_119 in_X4 tyX4 tyX4_ok clX10_68 isX4 iiX4 rfl dfX4 mIX4 (Or.inr mlX10_70) (kIX4 _ _ _ 42 (Or.inr rfl)) (by decide) (Nat.le_of_ble_eq_true rfl) (Nat.le_of_ble_eq_true rfl) (Nat.le_of_ble_eq_true rfl) (fun ad11 => ?_)
  refine co_putL hx dkX10_122 in_X10 tyX10 tyX10_ok nmX10 rfl (Nat.le_of_ble_eq_true rfl) fkX10_75 rfl rfl rfl rfl rfl l10 (fun fs11 f11 l11 => ?_)
  refine fin _ _ (co_pick [fun _ => h0, ad1, ad2, ad3, ad4, ad5, ad6, ad7, ad8, ad9, ad10, ad11]) _ _ _ dkX10_125 ?_ rfl (Nat.le_of_ble_eq_true rfl) (Nat.le_of_ble_eq_true rfl)
  have E1 : co_W (co_c3 x) (co_G x) [1, 2] (co_pick [fun _ => h0, ad1, ad2, ad3, ad4, ad5, ad6, ad7, ad8, ad9, ad10, ad11]) = co_W (co_c3 x) (co_G x) [1, 2] ad1 := co_W_cl tc_1 (fun n hn => co_pick_at (tb_1 n hn))
  have E2 : co_W (co_c3 x) (co_G x) (co_iE 50) (co_pick [fun _ => h0, ad1, ad2, ad3, ad4, ad5, ad6, ad7, ad8, ad9, ad10, ad11]) = co_W (co_c3 x) (co_G x) (co_iE 50) ad2 := co_W_cl tc_2 (fun n hn => co_pick_at (tb_2 n hn))
  have E3 : co_W (co_c3 x) (co_G x) (3 :: 4 :: co_evs 16) (co_pick [fun _ => h0, ad1, ad2, ad3, ad4, ad5, ad6, ad7, ad8, ad9, ad10, ad11]) = co_W (co_c3 x) (co_G x) (3 :: 4 :: co_evs 16) ad3 := co_W_cl tc_3 (fun n hn => co_pick_at (tb_3 n hn))
  have E4 : co_W (co_c3 x) (co_G x) (5 :: co_iE (5 + 1)) (co_pick [fun _ => h0, ad1, ad2, ad3, ad4, ad5, ad6, ad7, ad8, ad9, ad10, ad11]) = co_W (co_c3 x) (co_G x) (5 :: co_iE (5 + 1)) ad4 := co_W_cl tc_4 (fun n hn => co_pick_at (tb_4 n hn))
  have E5 : co_W (co_c3 x) (co_G x) (11 :: co_iE (11 + 1)) (co_pick [fun _ => h0, ad1, ad2, ad3, ad4, ad5, ad6, ad7, ad8, ad9, ad10, ad11]) = co_W (co_c3 x) (co_G x) (11 :: co_iE (11 + 1)) ad5 := co_W_cl tc_5 (fun n hn => co_pick_at (tb_5 n hn))
  have E6 : co_W (co_c3 x) (co_G x) (17 :: (co_iE 18 ++ [23])) (co_pick [fun _ => h0, ad1, ad2, ad3, ad4, ad5, ad6, ad7, ad8, ad9, ad10, ad11]) = co_W (co_c3 x) (co_G x) (17 :: (co_iE 18 ++ [23])) ad6 := co_W_cl tc_6 (fun n hn => co_pick_at (tb_6 n hn))
  have E7 : co_W (co_c3 x) (co_G x) [24, 25, 26, 27, 28] (co_pick [fun _ => h0, ad1, ad2, ad3, ad4, ad5, ad6, ad7, ad8, ad9, ad10, ad11]) = co_W (co_c3 x) (co_G x) [24, 25, 26, 27, 28] ad7 := co_W_cl tc_7 (fun n hn => co_pick_at (tb_7 n hn))
  have E8 : co_W (co_c3 x) (co_G x) [29, 30, 31] (co_pick [fun _ => h0, ad1, ad2, ad3, ad4, ad5, ad6, ad7, ad8, ad9, ad10, ad11]) = co_W (co_c3 x) (co_G x) [29, 30, 31] ad8 := co_W_cl tc_8 (fun n hn => co_pick_at (tb_8 n hn))
  have E9 : co_W (co_c3 x) (co_G x) [32, 33] (co_pick [fun _ => h0, ad1, ad2, ad3, ad4, ad5, ad6, ad7, ad8, ad9, ad10, ad11]) = co_W (co_c3 x) (co_G x) [32, 33] ad9 := co_W_cl tc_9 (fun n hn => co_pick_at (tb_9 n hn))
  have E10 : co_W (co_c3 x) (co_G x) [34, 34 + 1, 34 + 2, 34 + 3, 34 + 4, 34 + 5, 34 + 6, 34 + 7] (co_pick [fun _ => h0, ad1, ad2, ad3, ad4, ad5, ad6, ad7, ad8, ad9, ad10, ad11]) = co_W (co_c3 x) (co_G x) [34, 34 + 1, 34 + 2, 34 + 3, 34 + 4, 34 + 5, 34 + 6, 34 + 7] ad10 := co_W_cl tc_10 (fun n hn => co_pick_at (tb_10 n hn))
  have E11 : co_W (co_c3 x) (co_G x) [42, 42 + 1, 42 + 2, 42 + 3, 42 + 4, 42 + 5, 42 + 6, 42 + 7] (co_pick [fun _ => h0, ad1, ad2, ad3, ad4, ad5, ad6, ad7, ad8, ad9, ad10, ad11]) = co_W (co_c3 x) (co_G x) [42, 42 + 1, 42 + 2, 42 + 3, 42 + 4, 42 + 5, 42 + 6, 42 + 7] ad11 := co_W_cl tc_11 (fun n hn => co_pick_at (tb_11 n hn))
  have i9 : bo_inn (in_s0 0 9) = 34 := by decide
  have i10 : bo_inn (in_s0 0 10) = 42 := by decide
  have E0 : co_cell (co_c3 x) (co_G x) (co_pick [fun _ => h0, ad1, ad2, ad3, ad4, ad5, ad6, ad7, ad8, ad9, ad10, ad11]) 0 = (h0, .inr (9, fs11)) := by
    rw [co_ob' bo_o_0]
    show ((h0, .inr (9, [.ref (ad1 1), .ref (ad2 50), .ref (ad3 3), .ref (ad4 5), .ref (ad5 11), .ref (ad6 17), .ref (ad7 24), .ref (ad8 29), .ref (ad9 32), .ref (co_pick [fun _ => h0, ad1, ad2, ad3, ad4, ad5, ad6, ad7, ad8, ad9, ad10, ad11] (bo_inn (in_s0 0 9))), .ref (co_pick [fun _ => h0, ad1, ad2, ad3, ad4, ad5, ad6, ad7, ad8, ad9, ad10, ad11] (bo_inn (in_s0 0 10))), .int 0])) : Nat × va_E) = _
    rw [i9, i10, f11, f10, f9, f8, f7, f6, f5, f4, f3, f2, f1, f0]
    rfl
  show _ = co_cell _ _ _ 0 :: co_W _ _ co_topI _
  rw [E0]
  unfold co_topI
  rw [co_W_app, co_W_app, co_W_app, co_W_app, co_W_app, co_W_app, co_W_app, co_W_app, co_W_app, co_W_app, co_W_app]
  rw [E1, E2, E3, E4, E5, E6, E7, E8, E9, E10, E11]
  rfl
end CONT
