/-! constructors that make arrays alone: printed by wip/whole/gen/con2.py -/
section CONL
set_option maxRecDepth 100000 in
set_option maxHeartbeats 4000000 in
theorem kIX2 (l : Launch) (c3 : Nat → ClassId) (D : va_G) (e : Nat) (he : bo_isEv e) : co_C l c3 D yX2_init cX2_init 1 1 12 4 94 2 d0X2 (co_W c3 D [e, e + 1, e + 2, e + 3, e + 4]) e := by
  refine co_met (by decide) rfl rfl (Nat.le_of_ble_eq_true rfl) ?_
  intro x h0 e1 e2 e3 hx hin fin
  subst e1; subst e2; subst e3
  refine co_aload (a := h0) hx dkX2_0 rfl 0 rfl ?_
  refine co_super hx dkX2_1 mlX2_3 (Nat.le_refl _) (Nat.le_refl _) ?_
  refine co_aload (a := h0) hx dkX2_4 rfl 0 rfl ?_
  refine co_bipush (v := 7) hx dkX2_5 (by decide) ?_
  refine co_arr (len := 7) hx dkX2_7 (by decide) (by decide) (Nat.le_of_ble_eq_true rfl) (Nat.le_of_ble_eq_true rfl) (Nat.le_of_ble_eq_true rfl) (fun q1 => ?_)
  refine co_putF hx hin dkX2_9 in_X2 tyX2 tyX2_ok nmX2 rfl (Nat.le_of_ble_eq_true rfl) fkX2_9 rfl rfl rfl rfl rfl rfl (Nat.le_of_ble_eq_true rfl) ?_
  refine co_aload (a := h0) hx dkX2_12 rfl 0 rfl ?_
  refine co_bipush (v := 7) hx dkX2_13 (by decide) ?_
  refine co_arr (len := 7) hx dkX2_15 (by decide) (by decide) (Nat.le_of_ble_eq_true rfl) (Nat.le_of_ble_eq_true rfl) (Nat.le_of_ble_eq_true rfl) (fun q2 => ?_)
  refine co_putF hx hin dkX2_17 in_X2 tyX2 tyX2_ok nmX2 rfl (Nat.le_of_ble_eq_true rfl) fkX2_15 rfl rfl rfl rfl rfl rfl (Nat.le_of_ble_eq_true rfl) ?_
  refine co_aload (a := h0) hx dkX2_20 rfl 0 rfl ?_
  refine co_bipush (v := 40) hx dkX2_21 (by decide) ?_
  refine co_arr (len := 40) hx dkX2_23 (by decide) (by decide) (Nat.le_of_ble_eq_true rfl) (Nat.le_of_ble_eq_true rfl) (Nat.le_of_ble_eq_true rfl) (fun q3 => ?_)
  refine co_putF hx hin dkX2_25 in_X2 tyX2 tyX2_ok nmX2 rfl (Nat.le_of_ble_eq_true rfl) fkX2_18 rfl rfl rfl rfl rfl rfl (Nat.le_of_ble_eq_true rfl) ?_
  refine co_aload (a := h0) hx dkX2_28 rfl 0 rfl ?_
  refine co_bipush (v := 40) hx dkX2_29 (by decide) ?_
  refine co_arr (len := 40) hx dkX2_31 (by decide) (by decide) (Nat.le_of_ble_eq_true rfl) (Nat.le_of_ble_eq_true rfl) (Nat.le_of_ble_eq_true rfl) (fun q4 => ?_)
  refine co_putF hx hin dkX2_33 in_X2 tyX2 tyX2_ok nmX2 rfl (Nat.le_of_ble_eq_true rfl) fkX2_21 rfl rfl rfl rfl rfl rfl (Nat.le_of_ble_eq_true rfl) ?_
  refine fin _ _ (co_ad e [h0, q1, q2, q3, q4]) _ _ _ dkX2_36 ?_ ?_ (Nat.le_of_ble_eq_true rfl) (Nat.le_of_ble_eq_true rfl)
  · have z0 : co_ad e [h0, q1, q2, q3, q4] e = h0 := co_ad_0 _ _
    have z1 : co_ad e [h0, q1, q2, q3, q4] (e + 1) = q1 := co_ad_at _ _ 1
    have z2 : co_ad e [h0, q1, q2, q3, q4] (e + 2) = q2 := co_ad_at _ _ 2
    have z3 : co_ad e [h0, q1, q2, q3, q4] (e + 3) = q3 := co_ad_at _ _ 3
    have z4 : co_ad e [h0, q1, q2, q3, q4] (e + 4) = q4 := co_ad_at _ _ 4
    generalize co_ad e [h0, q1, q2, q3, q4] = ad at z0 z1 z2 z3 z4 ⊢
    show _ = [co_cell (co_c3 x) (co_G x) ad (e), co_cell (co_c3 x) (co_G x) ad (e + 1), co_cell (co_c3 x) (co_G x) ad (e + 2), co_cell (co_c3 x) (co_G x) ad (e + 3), co_cell (co_c3 x) (co_G x) ad (e + 4)]
    rw [co_ob he.o (co_qE he 0 (by decide)), co_ar he.a1 (co_qE he 1 (by decide)), co_ar he.a2 (co_qE he 2 (by decide)), co_ar he.a3 (co_qE he 3 (by decide)), co_ar he.a4 (co_qE he 4 (by decide))]
    show _ = ([(ad e, .inr (2, [.ref (ad (e + 1)), .ref (ad (e + 2)), .ref (ad (e + 3)), .ref (ad (e + 4)), .int 0, .int 0, .int 0, .int 0, .int 0, .int 0])), (ad (e + 1), .inl (co_c3 x 0, _, .inl (fun _ => 0))), (ad (e + 2), .inl (co_c3 x 0, _, .inl (fun _ => 0))), (ad (e + 3), .inl (co_c3 x 0, _, .inl (fun _ => 0))), (ad (e + 4), .inl (co_c3 x 0, _, .inl (fun _ => 0)))] : va_W)
    simp only [z0, z1, z2, z3, z4]
    rfl
  · exact co_ad_0 _ _
set_option maxRecDepth 100000 in
set_option maxHeartbeats 4000000 in
theorem kIX4 (l : Launch) (c3 : Nat → ClassId) (D : va_G) (i : Nat) (hi : bo_isInn i) : co_C l c3 D yX4_init cX4_init 1 1 12 7 134 4 d0X4 (co_W c3 D [i, i + 1, i + 2, i + 3, i + 4, i + 5, i + 6, i + 7]) i := by
  refine co_met (by decide) rfl rfl (Nat.le_of_ble_eq_true rfl) ?_
  intro x h0 e1 e2 e3 hx hin fin
  subst e1; subst e2; subst e3
  refine co_aload (a := h0) hx dkX4_0 rfl 0 rfl ?_
  refine co_super hx dkX4_1 mlX4_3 (Nat.le_refl _) (Nat.le_refl _) ?_
  refine co_aload (a := h0) hx dkX4_4 rfl 0 rfl ?_
  refine co_bipush (v := 7) hx dkX4_5 (by decide) ?_
  refine co_arr (len := 7) hx dkX4_7 (by decide) (by decide) (Nat.le_of_ble_eq_true rfl) (Nat.le_of_ble_eq_true rfl) (Nat.le_of_ble_eq_true rfl) (fun q1 => ?_)
  refine co_putF hx hin dkX4_9 in_X4 tyX4 tyX4_ok nmX4 rfl (Nat.le_of_ble_eq_true rfl) fkX4_9 rfl rfl rfl rfl rfl rfl (Nat.le_of_ble_eq_true rfl) ?_
  refine co_aload (a := h0) hx dkX4_12 rfl 0 rfl ?_
  refine co_bipush (v := 7) hx dkX4_13 (by decide) ?_
  refine co_arr (len := 7) hx dkX4_15 (by decide) (by decide) (Nat.le_of_ble_eq_true rfl) (Nat.le_of_ble_eq_true rfl) (Nat.le_of_ble_eq_true rfl) (fun q2 => ?_)
  refine co_putF hx hin dkX4_17 in_X4 tyX4 tyX4_ok nmX4 rfl (Nat.le_of_ble_eq_true rfl) fkX4_15 rfl rfl rfl rfl rfl rfl (Nat.le_of_ble_eq_true rfl) ?_
  refine co_aload (a := h0) hx dkX4_20 rfl 0 rfl ?_
  refine co_bipush (v := 7) hx dkX4_21 (by decide) ?_
  refine co_arr (len := 7) hx dkX4_23 (by decide) (by decide) (Nat.le_of_ble_eq_true rfl) (Nat.le_of_ble_eq_true rfl) (Nat.le_of_ble_eq_true rfl) (fun q3 => ?_)
  refine co_putF hx hin dkX4_25 in_X4 tyX4 tyX4_ok nmX4 rfl (Nat.le_of_ble_eq_true rfl) fkX4_18 rfl rfl rfl rfl rfl rfl (Nat.le_of_ble_eq_true rfl) ?_
  refine co_aload (a := h0) hx dkX4_28 rfl 0 rfl ?_
  refine co_bipush (v := 6) hx dkX4_29 (by decide) ?_
  refine co_arr (len := 6) hx dkX4_31 (by decide) (by decide) (Nat.le_of_ble_eq_true rfl) (Nat.le_of_ble_eq_true rfl) (Nat.le_of_ble_eq_true rfl) (fun q4 => ?_)
  refine co_putF hx hin dkX4_33 in_X4 tyX4 tyX4_ok nmX4 rfl (Nat.le_of_ble_eq_true rfl) fkX4_21 rfl rfl rfl rfl rfl rfl (Nat.le_of_ble_eq_true rfl) ?_
  refine co_aload (a := h0) hx dkX4_36 rfl 0 rfl ?_
  refine co_bipush (v := 6) hx dkX4_37 (by decide) ?_
  refine co_arr (len := 6) hx dkX4_39 (by decide) (by decide) (Nat.le_of_ble_eq_true rfl) (Nat.le_of_ble_eq_true rfl) (Nat.le_of_ble_eq_true rfl) (fun q5 => ?_)
  refine co_putF hx hin dkX4_41 in_X4 tyX4 tyX4_ok nmX4 rfl (Nat.le_of_ble_eq_true rfl) fkX4_24 rfl rfl rfl rfl rfl rfl (Nat.le_of_ble_eq_true rfl) ?_
  refine co_aload (a := h0) hx dkX4_44 rfl 0 rfl ?_
  refine co_iconst (v := 5) hx dkX4_45 (by decide) ?_
  refine co_arr (len := 5) hx dkX4_46 (by decide) (by decide) (Nat.le_of_ble_eq_true rfl) (Nat.le_of_ble_eq_true rfl) (Nat.le_of_ble_eq_true rfl) (fun q6 => ?_)
  refine co_putF hx hin dkX4_48 in_X4 tyX4 tyX4_ok nmX4 rfl (Nat.le_of_ble_eq_true rfl) fkX4_27 rfl rfl rfl rfl rfl rfl (Nat.le_of_ble_eq_true rfl) ?_
  refine co_aload (a := h0) hx dkX4_51 rfl 0 rfl ?_
  refine co_bipush (v := 96) hx dkX4_52 (by decide) ?_
  refine co_arr (len := 96) hx dkX4_54 (by decide) (by decide) (Nat.le_of_ble_eq_true rfl) (Nat.le_of_ble_eq_true rfl) (Nat.le_of_ble_eq_true rfl) (fun q7 => ?_)
  refine co_putF hx hin dkX4_56 in_X4 tyX4 tyX4_ok nmX4 rfl (Nat.le_of_ble_eq_true rfl) fkX4_30 rfl rfl rfl rfl rfl rfl (Nat.le_of_ble_eq_true rfl) ?_
  refine fin _ _ (co_ad i [h0, q1, q2, q3, q4, q5, q6, q7]) _ _ _ dkX4_59 ?_ ?_ (Nat.le_of_ble_eq_true rfl) (Nat.le_of_ble_eq_true rfl)
  · have z0 : co_ad i [h0, q1, q2, q3, q4, q5, q6, q7] i = h0 := co_ad_0 _ _
    have z1 : co_ad i [h0, q1, q2, q3, q4, q5, q6, q7] (i + 1) = q1 := co_ad_at _ _ 1
    have z2 : co_ad i [h0, q1, q2, q3, q4, q5, q6, q7] (i + 2) = q2 := co_ad_at _ _ 2
    have z3 : co_ad i [h0, q1, q2, q3, q4, q5, q6, q7] (i + 3) = q3 := co_ad_at _ _ 3
    have z4 : co_ad i [h0, q1, q2, q3, q4, q5, q6, q7] (i + 4) = q4 := co_ad_at _ _ 4
    have z5 : co_ad i [h0, q1, q2, q3, q4, q5, q6, q7] (i + 5) = q5 := co_ad_at _ _ 5
    have z6 : co_ad i [h0, q1, q2, q3, q4, q5, q6, q7] (i + 6) = q6 := co_ad_at _ _ 6
    have z7 : co_ad i [h0, q1, q2, q3, q4, q5, q6, q7] (i + 7) = q7 := co_ad_at _ _ 7
    generalize co_ad i [h0, q1, q2, q3, q4, q5, q6, q7] = ad at z0 z1 z2 z3 z4 z5 z6 z7 ⊢
    show _ = [co_cell (co_c3 x) (co_G x) ad (i), co_cell (co_c3 x) (co_G x) ad (i + 1), co_cell (co_c3 x) (co_G x) ad (i + 2), co_cell (co_c3 x) (co_G x) ad (i + 3), co_cell (co_c3 x) (co_G x) ad (i + 4), co_cell (co_c3 x) (co_G x) ad (i + 5), co_cell (co_c3 x) (co_G x) ad (i + 6), co_cell (co_c3 x) (co_G x) ad (i + 7)]
    rw [co_ob hi.o (co_qI hi 0 (by decide)), co_ar hi.a1 (co_qI hi 1 (by decide)), co_ar hi.a2 (co_qI hi 2 (by decide)), co_ar hi.a3 (co_qI hi 3 (by decide)), co_ar hi.a4 (co_qI hi 4 (by decide)), co_ar hi.a5 (co_qI hi 5 (by decide)), co_ar hi.a6 (co_qI hi 6 (by decide)), co_ar hi.a7 (co_qI hi 7 (by decide))]
    show _ = ([(ad i, .inr (4, [.ref (ad (i + 1)), .ref (ad (i + 2)), .ref (ad (i + 3)), .ref (ad (i + 4)), .ref (ad (i + 5)), .ref (ad (i + 6)), .ref (ad (i + 7)), .int (0 &&& 1), .int 0, .int 0, .int 0, .int 0, .int 0, .int 0, .int 0])), (ad (i + 1), .inl (co_c3 x 0, _, .inl (fun _ => 0))), (ad (i + 2), .inl (co_c3 x 0, _, .inl (fun _ => 0))), (ad (i + 3), .inl (co_c3 x 0, _, .inl (fun _ => 0))), (ad (i + 4), .inl (co_c3 x 0, _, .inl (fun _ => 0))), (ad (i + 5), .inl (co_c3 x 0, _, .inl (fun _ => 0))), (ad (i + 6), .inl (co_c3 x 0, _, .inl (fun _ => 0))), (ad (i + 7), .inl (co_c3 x 0, _, .inl (fun _ => 0)))] : va_W)
    simp only [z0, z1, z2, z3, z4, z5, z6, z7]
    rfl
  · exact co_ad_0 _ _
set_option maxRecDepth 100000 in
set_option maxHeartbeats 4000000 in
theorem kIX5 (l : Launch) (c3 : Nat → ClassId) (D : va_G) : co_C l c3 D yX5_init cX5_init 1 1 12 4 157 5 d0X5 (co_W c3 D [24, 25, 26, 27, 28]) 24 := by
  refine co_met (by decide) rfl rfl (Nat.le_of_ble_eq_true rfl) ?_
  intro x h0 e1 e2 e3 hx hin fin
  subst e1; subst e2; subst e3
  refine co_aload (a := h0) hx dkX5_0 rfl 0 rfl ?_
  refine co_super hx dkX5_1 mlX5_3 (Nat.le_refl _) (Nat.le_refl _) ?_
  refine co_aload (a := h0) hx dkX5_4 rfl 0 rfl ?_
  refine co_bipush (v := 6) hx dkX5_5 (by decide) ?_
  refine co_arr (len := 6) hx dkX5_7 (by decide) (by decide) (Nat.le_of_ble_eq_true rfl) (Nat.le_of_ble_eq_true rfl) (Nat.le_of_ble_eq_true rfl) (fun q1 => ?_)
  refine co_putF hx hin dkX5_9 in_X5 tyX5 tyX5_ok nmX5 rfl (Nat.le_of_ble_eq_true rfl) fkX5_9 rfl rfl rfl rfl rfl rfl (Nat.le_of_ble_eq_true rfl) ?_
  refine co_aload (a := h0) hx dkX5_12 rfl 0 rfl ?_
  refine co_bipush (v := 6) hx dkX5_13 (by decide) ?_
  refine co_arr (len := 6) hx dkX5_15 (by decide) (by decide) (Nat.le_of_ble_eq_true rfl) (Nat.le_of_ble_eq_true rfl) (Nat.le_of_ble_eq_true rfl) (fun q2 => ?_)
  refine co_putF hx hin dkX5_17 in_X5 tyX5 tyX5_ok nmX5 rfl (Nat.le_of_ble_eq_true rfl) fkX5_15 rfl rfl rfl rfl rfl rfl (Nat.le_of_ble_eq_true rfl) ?_
  refine co_aload (a := h0) hx dkX5_20 rfl 0 rfl ?_
  refine co_sipush (v := 128) hx dkX5_21 (by decide) ?_
  refine co_arr (len := 128) hx dkX5_24 (by decide) (by decide) (Nat.le_of_ble_eq_true rfl) (Nat.le_of_ble_eq_true rfl) (Nat.le_of_ble_eq_true rfl) (fun q3 => ?_)
  refine co_putF hx hin dkX5_26 in_X5 tyX5 tyX5_ok nmX5 rfl (Nat.le_of_ble_eq_true rfl) fkX5_18 rfl rfl rfl rfl rfl rfl (Nat.le_of_ble_eq_true rfl) ?_
  refine co_aload (a := h0) hx dkX5_29 rfl 0 rfl ?_
  refine co_bipush (v := 17) hx dkX5_30 (by decide) ?_
  refine co_arr (len := 17) hx dkX5_32 (by decide) (by decide) (Nat.le_of_ble_eq_true rfl) (Nat.le_of_ble_eq_true rfl) (Nat.le_of_ble_eq_true rfl) (fun q4 => ?_)
  refine co_putF hx hin dkX5_34 in_X5 tyX5 tyX5_ok nmX5 rfl (Nat.le_of_ble_eq_true rfl) fkX5_21 rfl rfl rfl rfl rfl rfl (Nat.le_of_ble_eq_true rfl) ?_
  refine fin _ _ (co_ad 24 [h0, q1, q2, q3, q4]) _ _ _ dkX5_37 ?_ ?_ (Nat.le_of_ble_eq_true rfl) (Nat.le_of_ble_eq_true rfl)
  · show _ = [co_cell (co_c3 x) (co_G x) (co_ad 24 [h0, q1, q2, q3, q4]) 24, co_cell (co_c3 x) (co_G x) (co_ad 24 [h0, q1, q2, q3, q4]) 25, co_cell (co_c3 x) (co_G x) (co_ad 24 [h0, q1, q2, q3, q4]) 26, co_cell (co_c3 x) (co_G x) (co_ad 24 [h0, q1, q2, q3, q4]) 27, co_cell (co_c3 x) (co_G x) (co_ad 24 [h0, q1, q2, q3, q4]) 28]
    rw [co_ob bo_o_24 (by decide), co_ar bo_c_25 (by decide), co_ar bo_c_26 (by decide), co_ar bo_c_27 (by decide), co_ar bo_c_28 (by decide)]
    rfl
  · exact co_ad_0 _ _
set_option maxRecDepth 100000 in
set_option maxHeartbeats 4000000 in
theorem kIX0 (l : Launch) (c3 : Nat → ClassId) (D : va_G) : co_C l c3 D yX0_init cX0_init 1 1 12 2 30 0 d0X0 (co_W c3 D [29, 30, 31]) 29 := by
  refine co_met (by decide) rfl rfl (Nat.le_of_ble_eq_true rfl) ?_
  intro x h0 e1 e2 e3 hx hin fin
  subst e1; subst e2; subst e3
  refine co_aload (a := h0) hx dkX0_0 rfl 0 rfl ?_
  refine co_super hx dkX0_1 mlX0_3 (Nat.le_refl _) (Nat.le_refl _) ?_
  refine co_aload (a := h0) hx dkX0_4 rfl 0 rfl ?_
  refine co_bipush (v := 15) hx dkX0_5 (by decide) ?_
  refine co_arr (len := 15) hx dkX0_7 (by decide) (by decide) (Nat.le_of_ble_eq_true rfl) (Nat.le_of_ble_eq_true rfl) (Nat.le_of_ble_eq_true rfl) (fun q1 => ?_)
  refine co_putF hx hin dkX0_9 in_X0 tyX0 tyX0_ok nmX0 rfl (Nat.le_of_ble_eq_true rfl) fkX0_9 rfl rfl rfl rfl rfl rfl (Nat.le_of_ble_eq_true rfl) ?_
  refine co_aload (a := h0) hx dkX0_12 rfl 0 rfl ?_
  refine co_bipush (v := 15) hx dkX0_13 (by decide) ?_
  refine co_arr (len := 15) hx dkX0_15 (by decide) (by decide) (Nat.le_of_ble_eq_true rfl) (Nat.le_of_ble_eq_true rfl) (Nat.le_of_ble_eq_true rfl) (fun q2 => ?_)
  refine co_putF hx hin dkX0_17 in_X0 tyX0 tyX0_ok nmX0 rfl (Nat.le_of_ble_eq_true rfl) fkX0_15 rfl rfl rfl rfl rfl rfl (Nat.le_of_ble_eq_true rfl) ?_
  refine fin _ _ (co_ad 29 [h0, q1, q2]) _ _ _ dkX0_20 ?_ ?_ (Nat.le_of_ble_eq_true rfl) (Nat.le_of_ble_eq_true rfl)
  · show _ = [co_cell (co_c3 x) (co_G x) (co_ad 29 [h0, q1, q2]) 29, co_cell (co_c3 x) (co_G x) (co_ad 29 [h0, q1, q2]) 30, co_cell (co_c3 x) (co_G x) (co_ad 29 [h0, q1, q2]) 31]
    rw [co_ob bo_o_29 (by decide), co_ar bo_c_30 (by decide), co_ar bo_c_31 (by decide)]
    rfl
  · exact co_ad_0 _ _
set_option maxRecDepth 100000 in
set_option maxHeartbeats 4000000 in
theorem kIX1 (l : Launch) (c3 : Nat → ClassId) (D : va_G) : co_C l c3 D yX1_init cX1_init 1 1 12 1 8 1 d0X1 (co_W c3 D [32, 33]) 32 := by
  refine co_met (by decide) rfl rfl (Nat.le_of_ble_eq_true rfl) ?_
  intro x h0 e1 e2 e3 hx hin fin
  subst e1; subst e2; subst e3
  refine co_aload (a := h0) hx dkX1_0 rfl 0 rfl ?_
  refine co_super hx dkX1_1 mlX1_3 (Nat.le_refl _) (Nat.le_refl _) ?_
  refine co_aload (a := h0) hx dkX1_4 rfl 0 rfl ?_
  refine co_bipush (v := 8) hx dkX1_5 (by decide) ?_
  refine co_arr (len := 8) hx dkX1_7 (by decide) (by decide) (Nat.le_of_ble_eq_true rfl) (Nat.le_of_ble_eq_true rfl) (Nat.le_of_ble_eq_true rfl) (fun q1 => ?_)
  refine co_putF hx hin dkX1_9 in_X1 tyX1 tyX1_ok nmX1 rfl (Nat.le_of_ble_eq_true rfl) fkX1_9 rfl rfl rfl rfl rfl rfl (Nat.le_of_ble_eq_true rfl) ?_
  refine fin _ _ (co_ad 32 [h0, q1]) _ _ _ dkX1_12 ?_ ?_ (Nat.le_of_ble_eq_true rfl) (Nat.le_of_ble_eq_true rfl)
  · show _ = [co_cell (co_c3 x) (co_G x) (co_ad 32 [h0, q1]) 32, co_cell (co_c3 x) (co_G x) (co_ad 32 [h0, q1]) 33]
    rw [co_ob bo_o_32 (by decide), co_ar bo_c_33 (by decide)]
    rfl
  · exact co_ad_0 _ _
set_option maxRecDepth 100000 in
set_option maxHeartbeats 4000000 in
theorem kIX7 (l : Launch) (c3 : Nat → ClassId) (D : va_G) : co_C l c3 D yX7_init cX7_init 1 1 12 1 240 7 d0X7 (co_W c3 D [1, 2]) 1 := by
  refine co_met (by decide) rfl rfl (Nat.le_of_ble_eq_true rfl) ?_
  intro x h0 e1 e2 e3 hx hin fin
  subst e1; subst e2; subst e3
  refine co_aload (a := h0) hx dkX7_0 rfl 0 rfl ?_
  refine co_super hx dkX7_1 mlX7_3 (Nat.le_refl _) (Nat.le_refl _) ?_
  refine co_aload (a := h0) hx dkX7_4 rfl 0 rfl ?_
  refine co_sipush (v := 240) hx dkX7_5 (by decide) ?_
  refine co_arr (len := 240) hx dkX7_8 (by decide) (by decide) (Nat.le_of_ble_eq_true rfl) (Nat.le_of_ble_eq_true rfl) (Nat.le_of_ble_eq_true rfl) (fun q1 => ?_)
  refine co_putF hx hin dkX7_10 in_X7 tyX7 tyX7_ok nmX7 rfl (Nat.le_of_ble_eq_true rfl) fkX7_9 rfl rfl rfl rfl rfl rfl (Nat.le_of_ble_eq_true rfl) ?_
  refine co_aload (a := h0) hx dkX7_13 rfl 0 rfl ?_
  refine co_iconst (v := -1) hx dkX7_14 (by decide) ?_
  refine co_put hx dkX7_15 in_X7 tyX7 tyX7_ok nmX7 rfl (Nat.le_of_ble_eq_true rfl) fkX7_15 rfl rfl rfl rfl rfl (Nat.le_of_ble_eq_true rfl) ?_
  refine fin _ _ (co_ad 1 [h0, q1]) _ _ _ dkX7_18 ?_ ?_ (Nat.le_of_ble_eq_true rfl) (Nat.le_of_ble_eq_true rfl)
  · show _ = [co_cell (co_c3 x) (co_G x) (co_ad 1 [h0, q1]) 1, co_cell (co_c3 x) (co_G x) (co_ad 1 [h0, q1]) 2]
    rw [co_ob' bo_o_1, co_ar bo_c_2 (by decide)]
    rfl
  · exact co_ad_0 _ _
end CONL
