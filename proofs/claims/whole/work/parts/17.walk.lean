-- BellRopeModel.treat
theorem dX11_treat_0 : decode cX11_treat 0 = .ok (.aload_n 0, 1) := by decide +kernel
theorem dX11_treat_1 : decode cX11_treat 1 = .ok (.iload_n 1, 1) := by decide +kernel
theorem dX11_treat_2 : decode cX11_treat 2 = .ok (.invokevirtual 258, 3) := by decide +kernel
theorem dX11_treat_12 : decode cX11_treat 12 = .ok (.iload_n 2, 1) := by decide +kernel
theorem dX11_treat_13 : decode cX11_treat 13 = .ok (.i2l, 1) := by decide +kernel
theorem dX11_treat_14 : decode cX11_treat 14 = .ok (.lconst 1, 1) := by decide +kernel
theorem dX11_treat_15 : decode cX11_treat 15 = .ok (.ldc2_w 288, 3) := by decide +kernel
theorem dX11_treat_18 : decode cX11_treat 18 = .ok (.invokestatic 118, 3) := by decide +kernel
theorem dX11_treat_27 : decode cX11_treat 27 = .ok (.aload_n 0, 1) := by decide +kernel
theorem dX11_treat_28 : decode cX11_treat 28 = .ok (.invokevirtual 282, 3) := by decide +kernel
theorem dX11_treat_31 : decode cX11_treat 31 = .ok (.aload_n 0, 1) := by decide +kernel
theorem dX11_treat_32 : decode cX11_treat 32 = .ok (.getfield 34, 3) := by decide +kernel
theorem dX11_treat_35 : decode cX11_treat 35 = .ok (.bipush 7, 2) := by decide +kernel
theorem dX11_treat_37 : decode cX11_treat 37 = .ok (.iload_n 1, 1) := by decide +kernel
theorem dX11_treat_38 : decode cX11_treat 38 = .ok (.iadd, 1) := by decide +kernel
theorem dX11_treat_39 : decode cX11_treat 39 = .ok (.aload_n 0, 1) := by decide +kernel
theorem dX11_treat_40 : decode cX11_treat 40 = .ok (.getfield 34, 3) := by decide +kernel
theorem dX11_treat_43 : decode cX11_treat 43 = .ok (.bipush 7, 2) := by decide +kernel
theorem dX11_treat_45 : decode cX11_treat 45 = .ok (.iload_n 1, 1) := by decide +kernel
theorem dX11_treat_46 : decode cX11_treat 46 = .ok (.iadd, 1) := by decide +kernel
theorem dX11_treat_47 : decode cX11_treat 47 = .ok (.iaload, 1) := by decide +kernel
theorem dX11_treat_48 : decode cX11_treat 48 = .ok (.iload_n 2, 1) := by decide +kernel
theorem dX11_treat_66 : decode cX11_treat 66 = .ok (.iconst 0, 1) := by decide +kernel
theorem dX11_treat_52 : decode cX11_treat 52 = .ok (.aload_n 0, 1) := by decide +kernel
theorem dX11_treat_53 : decode cX11_treat 53 = .ok (.getfield 34, 3) := by decide +kernel
theorem dX11_treat_56 : decode cX11_treat 56 = .ok (.bipush 7, 2) := by decide +kernel
theorem dX11_treat_58 : decode cX11_treat 58 = .ok (.iload_n 1, 1) := by decide +kernel
theorem dX11_treat_59 : decode cX11_treat 59 = .ok (.iadd, 1) := by decide +kernel
theorem dX11_treat_60 : decode cX11_treat 60 = .ok (.iaload, 1) := by decide +kernel
theorem dX11_treat_61 : decode cX11_treat 61 = .ok (.iload_n 2, 1) := by decide +kernel
theorem dX11_treat_62 : decode cX11_treat 62 = .ok (.isub, 1) := by decide +kernel
theorem dX11_treat_63 : decode cX11_treat 63 = .ok (.goto 4, 3) := by decide +kernel
theorem dX11_treat_49 : decode cX11_treat 49 = .ok (.if_icmp .le 17, 3) := by decide +kernel
theorem dX11_treat_67 : decode cX11_treat 67 = .ok (.iastore, 1) := by decide +kernel
theorem dX11_treat_68 : decode cX11_treat 68 = .ok (.aload_n 0, 1) := by decide +kernel
theorem dX11_treat_69 : decode cX11_treat 69 = .ok (.getfield 34, 3) := by decide +kernel
theorem dX11_treat_72 : decode cX11_treat 72 = .ok (.bipush 7, 2) := by decide +kernel
theorem dX11_treat_74 : decode cX11_treat 74 = .ok (.iload_n 1, 1) := by decide +kernel
theorem dX11_treat_75 : decode cX11_treat 75 = .ok (.iadd, 1) := by decide +kernel
theorem dX11_treat_76 : decode cX11_treat 76 = .ok (.iaload, 1) := by decide +kernel
theorem dX11_treat_77 : decode cX11_treat 77 = .ok (.ireturn, 1) := by decide +kernel
theorem dX11_treat_24 : decode cX11_treat 24 = .ok (.ldc 127, 2) := by decide +kernel
theorem dX11_treat_26 : decode cX11_treat 26 = .ok (.ireturn, 1) := by decide +kernel
theorem dX11_treat_21 : decode cX11_treat 21 = .ok (.ifCond .ne 6, 3) := by decide +kernel
theorem dX11_treat_8 : decode cX11_treat 8 = .ok (.ldc_w 261, 3) := by decide +kernel
theorem dX11_treat_11 : decode cX11_treat 11 = .ok (.ireturn, 1) := by decide +kernel
theorem dX11_treat_5 : decode cX11_treat 5 = .ok (.ifCond .ne 7, 3) := by decide +kernel
theorem bX11_treat (x : bo_X) (hx : bo_OK x cX11_treat RX11 3 2 46) (σ : bo_M) (p1 : Int32) (p2 : Int32) : bo_D x 0 [(0, .ref (bo_a x 135)), (1, .int p1), (2, .int p2)] [] σ (mX11_treat σ p1 p2) (bo_Rw x cX11_treat false) := by
  unfold mX11_treat
  refine bo_aload_n hx dX11_treat_0 rfl 0 rfl ?_
  refine bo_iload_n hx dX11_treat_1 rfl 1 rfl ?_
  refine bo_goR (z := true) hx (fun rr hh => bo_runV (As := [.int p1]) (S := []) hx dX11_treat_2 lk_X11_258 mi_X11_isDrinker bo_o_135 rfl rfl (kX11_isDrinker (bo_l x) (bo_g x) hx.inj σ p1 rr hh) ⟨by decide, by decide⟩ rfl rfl (Nat.le_of_ble_eq_true rfl)) (fun v1 hv1 => ?_)
  refine bo_if_ne hx 12 dX11_treat_5 (by decide) ?_ ?_
  · refine bo_iload_n hx dX11_treat_12 rfl 2 rfl ?_
    refine bo_i2l hx dX11_treat_13 ?_
    refine bo_lconst (v := 1) hx dX11_treat_14 (by decide) ?_
    refine bo_ldc2 (v := 20) hx dX11_treat_15 wl_X11_288 ?_
    refine bo_goR (z := true) hx (fun rr hh => bo_runS (As := [.long (Int32.toInt64 p2), .long 1, .long 20]) (S := []) hx dX11_treat_18 lk_X11_118 ms_X11_in (kX11_in (bo_l x) (bo_g x) hx.inj σ (Int32.toInt64 p2) 1 20 rr hh) ⟨by decide, by decide⟩ rfl rfl (Nat.le_of_ble_eq_true rfl)) (fun v2 hv2 => ?_)
    refine bo_if_ne hx 27 dX11_treat_21 (by decide) ?_ ?_
    · refine bo_aload_n hx dX11_treat_27 rfl 0 rfl ?_
      refine bo_goV hx (fun rr hh => bo_runV (As := []) (S := []) hx dX11_treat_28 lk_X11_282 mi_X11_remember bo_o_135 rfl rfl (kX11_remember (bo_l x) (bo_g x) hx.inj σ rr hh) ⟨by decide, by decide⟩ rfl rfl (Nat.le_of_ble_eq_true rfl)) (fun σ3 => ?_)
      refine bo_aload_n hx dX11_treat_31 rfl 0 rfl ?_
      refine gf_X11_34 hx dX11_treat_32 ?_
      refine bo_bipush (v := 7) hx dX11_treat_35 (by decide) ?_
      refine bo_iload_n hx dX11_treat_37 rfl 1 rfl ?_
      refine bo_iadd hx dX11_treat_38 ?_
      refine bo_aload_n hx dX11_treat_39 rfl 0 rfl ?_
      refine gf_X11_34 hx dX11_treat_40 ?_
      refine bo_bipush (v := 7) hx dX11_treat_43 (by decide) ?_
      refine bo_iload_n hx dX11_treat_45 rfl 1 rfl ?_
      refine bo_iadd hx dX11_treat_46 ?_
      refine bo_iald hx bo_c_144 dX11_treat_47 (fun v4 => ?_)
      refine bo_iload_n hx dX11_treat_48 rfl 2 rfl ?_
      refine bo_seq 67 (fun a => [(0, .ref (bo_a x 135)), (1, .int p1)]) (fun a => [.int a, .int (7 + p1), .ref (bo_a x 144)]) (fun a => σ3) ?_ (fun a5 => ?_)
      · refine bo_icmp_le hx 66 dX11_treat_49 (by decide) ?_ ?_
        · refine bo_iconst (v := 0) hx dX11_treat_66 (by decide) ?_
          refine bo_sub (L' := [(0, .ref (bo_a x 135)), (1, .int p1)]) [0, 1] rfl ?_
          exact bo_arr (fun h => h)
        · refine bo_aload_n hx dX11_treat_52 rfl 0 rfl ?_
          refine gf_X11_34 hx dX11_treat_53 ?_
          refine bo_bipush (v := 7) hx dX11_treat_56 (by decide) ?_
          refine bo_iload_n hx dX11_treat_58 rfl 1 rfl ?_
          refine bo_iadd hx dX11_treat_59 ?_
          refine bo_iald hx bo_c_144 dX11_treat_60 (fun v6 => ?_)
          refine bo_iload_n hx dX11_treat_61 rfl 2 rfl ?_
          refine bo_isub hx dX11_treat_62 ?_
          refine bo_goto hx 67 dX11_treat_63 (by decide) ?_
          refine bo_sub (L' := [(0, .ref (bo_a x 135)), (1, .int p1)]) [0, 1] rfl ?_
          exact bo_arr (fun h => h)
      · refine bo_iast hx bo_c_144 dX11_treat_67 (fun σ7 => ?_)
        refine bo_aload_n hx dX11_treat_68 rfl 0 rfl ?_
        refine gf_X11_34 hx dX11_treat_69 ?_
        refine bo_bipush (v := 7) hx dX11_treat_72 (by decide) ?_
        refine bo_iload_n hx dX11_treat_74 rfl 1 rfl ?_
        refine bo_iadd hx dX11_treat_75 ?_
        refine bo_iald hx bo_c_144 dX11_treat_76 (fun v8 => ?_)
        exact bo_retw dX11_treat_77 (fun h => by cases h)
    · refine bo_ldc (v := (-1000000002)) hx dX11_treat_24 wc_X11_127 ?_
      exact bo_retw dX11_treat_26 (fun h => by cases h)
  · refine bo_ldcw (v := (-1000000001)) hx dX11_treat_8 wc_X11_261 ?_
    exact bo_retw dX11_treat_11 (fun h => by cases h)
theorem kX11_treat (l : Launch) (g : bo_G) (hi : bo_inj g) (σ : bo_M) (p1 : Int32) (p2 : Int32) : bo_CW l g yX11_treat cX11_treat 3 (some .int) 2 46 [.ref (g.2.2 135), .int p1, .int p2] σ false (mX11_treat σ p1 p2) :=
  bo_metW rfl (Or.inl ⟨rfl, rfl⟩) (by decide) rfl hi (Nat.le_of_ble_eq_true rfl) (fun x e1 e2 hx => by subst e1; subst e2; exact bX11_treat x hx σ p1 p2)
-- BellRopeModel.turn
theorem dX11_turn_0 : decode cX11_turn 0 = .ok (.aload_n 0, 1) := by decide +kernel
theorem dX11_turn_1 : decode cX11_turn 1 = .ok (.iload_n 1, 1) := by decide +kernel
theorem dX11_turn_2 : decode cX11_turn 2 = .ok (.invokevirtual 258, 3) := by decide +kernel
theorem dX11_turn_12 : decode cX11_turn 12 = .ok (.iload_n 2, 1) := by decide +kernel
theorem dX11_turn_13 : decode cX11_turn 13 = .ok (.i2l, 1) := by decide +kernel
theorem dX11_turn_14 : decode cX11_turn 14 = .ok (.lconst 0, 1) := by decide +kernel
theorem dX11_turn_15 : decode cX11_turn 15 = .ok (.ldc2_w 290, 3) := by decide +kernel
theorem dX11_turn_18 : decode cX11_turn 18 = .ok (.invokestatic 118, 3) := by decide +kernel
theorem dX11_turn_27 : decode cX11_turn 27 = .ok (.aload_n 0, 1) := by decide +kernel
theorem dX11_turn_28 : decode cX11_turn 28 = .ok (.invokevirtual 282, 3) := by decide +kernel
theorem dX11_turn_31 : decode cX11_turn 31 = .ok (.aload_n 0, 1) := by decide +kernel
theorem dX11_turn_32 : decode cX11_turn 32 = .ok (.getfield 34, 3) := by decide +kernel
theorem dX11_turn_35 : decode cX11_turn 35 = .ok (.bipush 14, 2) := by decide +kernel
theorem dX11_turn_37 : decode cX11_turn 37 = .ok (.iload_n 1, 1) := by decide +kernel
theorem dX11_turn_38 : decode cX11_turn 38 = .ok (.iadd, 1) := by decide +kernel
theorem dX11_turn_39 : decode cX11_turn 39 = .ok (.iaload, 1) := by decide +kernel
theorem dX11_turn_40 : decode cX11_turn 40 = .ok (.istore_n 3, 1) := by decide +kernel
theorem dX11_turn_41 : decode cX11_turn 41 = .ok (.aload_n 0, 1) := by decide +kernel
theorem dX11_turn_42 : decode cX11_turn 42 = .ok (.getfield 34, 3) := by decide +kernel
theorem dX11_turn_45 : decode cX11_turn 45 = .ok (.bipush 14, 2) := by decide +kernel
theorem dX11_turn_47 : decode cX11_turn 47 = .ok (.iload_n 1, 1) := by decide +kernel
theorem dX11_turn_48 : decode cX11_turn 48 = .ok (.iadd, 1) := by decide +kernel
theorem dX11_turn_49 : decode cX11_turn 49 = .ok (.iload_n 2, 1) := by decide +kernel
theorem dX11_turn_50 : decode cX11_turn 50 = .ok (.iastore, 1) := by decide +kernel
theorem dX11_turn_51 : decode cX11_turn 51 = .ok (.iload_n 3, 1) := by decide +kernel
theorem dX11_turn_52 : decode cX11_turn 52 = .ok (.ireturn, 1) := by decide +kernel
theorem dX11_turn_24 : decode cX11_turn 24 = .ok (.ldc 127, 2) := by decide +kernel
theorem dX11_turn_26 : decode cX11_turn 26 = .ok (.ireturn, 1) := by decide +kernel
theorem dX11_turn_21 : decode cX11_turn 21 = .ok (.ifCond .ne 6, 3) := by decide +kernel
theorem dX11_turn_8 : decode cX11_turn 8 = .ok (.ldc_w 261, 3) := by decide +kernel
theorem dX11_turn_11 : decode cX11_turn 11 = .ok (.ireturn, 1) := by decide +kernel
theorem dX11_turn_5 : decode cX11_turn 5 = .ok (.ifCond .ne 7, 3) := by decide +kernel
theorem bX11_turn (x : bo_X) (hx : bo_OK x cX11_turn RX11 4 2 46) (σ : bo_M) (p1 : Int32) (p2 : Int32) : bo_D x 0 [(0, .ref (bo_a x 135)), (1, .int p1), (2, .int p2)] [] σ (mX11_turn σ p1 p2) (bo_Rw x cX11_turn false) := by
  unfold mX11_turn
  refine bo_aload_n hx dX11_turn_0 rfl 0 rfl ?_
  refine bo_iload_n hx dX11_turn_1 rfl 1 rfl ?_
  refine bo_goR (z := true) hx (fun rr hh => bo_runV (As := [.int p1]) (S := []) hx dX11_turn_2 lk_X11_258 mi_X11_isDrinker bo_o_135 rfl rfl (kX11_isDrinker (bo_l x) (bo_g x) hx.inj σ p1 rr hh) ⟨by decide, by decide⟩ rfl rfl (Nat.le_of_ble_eq_true rfl)) (fun v1 hv1 => ?_)
  refine bo_if_ne hx 12 dX11_turn_5 (by decide) ?_ ?_
  · refine bo_iload_n hx dX11_turn_12 rfl 2 rfl ?_
    refine bo_i2l hx dX11_turn_13 ?_
    refine bo_lconst (v := 0) hx dX11_turn_14 (by decide) ?_
    refine bo_ldc2 (v := 39) hx dX11_turn_15 wl_X11_290 ?_
    refine bo_goR (z := true) hx (fun rr hh => bo_runS (As := [.long (Int32.toInt64 p2), .long 0, .long 39]) (S := []) hx dX11_turn_18 lk_X11_118 ms_X11_in (kX11_in (bo_l x) (bo_g x) hx.inj σ (Int32.toInt64 p2) 0 39 rr hh) ⟨by decide, by decide⟩ rfl rfl (Nat.le_of_ble_eq_true rfl)) (fun v2 hv2 => ?_)
    refine bo_if_ne hx 27 dX11_turn_21 (by decide) ?_ ?_
    · refine bo_aload_n hx dX11_turn_27 rfl 0 rfl ?_
      refine bo_goV hx (fun rr hh => bo_runV (As := []) (S := []) hx dX11_turn_28 lk_X11_282 mi_X11_remember bo_o_135 rfl rfl (kX11_remember (bo_l x) (bo_g x) hx.inj σ rr hh) ⟨by decide, by decide⟩ rfl rfl (Nat.le_of_ble_eq_true rfl)) (fun σ3 => ?_)
      refine bo_aload_n hx dX11_turn_31 rfl 0 rfl ?_
      refine gf_X11_34 hx dX11_turn_32 ?_
      refine bo_bipush (v := 14) hx dX11_turn_35 (by decide) ?_
      refine bo_iload_n hx dX11_turn_37 rfl 1 rfl ?_
      refine bo_iadd hx dX11_turn_38 ?_
      refine bo_iald hx bo_c_144 dX11_turn_39 (fun v4 => ?_)
      refine bo_istore_n (L' := [(3, .int v4), (0, .ref (bo_a x 135)), (1, .int p1), (2, .int p2)]) hx dX11_turn_40 rfl (by decide) rfl ?_
      refine bo_aload_n hx dX11_turn_41 rfl 1 rfl ?_
      refine gf_X11_34 hx dX11_turn_42 ?_
      refine bo_bipush (v := 14) hx dX11_turn_45 (by decide) ?_
      refine bo_iload_n hx dX11_turn_47 rfl 2 rfl ?_
      refine bo_iadd hx dX11_turn_48 ?_
      refine bo_iload_n hx dX11_turn_49 rfl 3 rfl ?_
      refine bo_iast hx bo_c_144 dX11_turn_50 (fun σ5 => ?_)
      refine bo_iload_n hx dX11_turn_51 rfl 0 rfl ?_
      exact bo_retw dX11_turn_52 (fun h => by cases h)
    · refine bo_ldc (v := (-1000000002)) hx dX11_turn_24 wc_X11_127 ?_
      exact bo_retw dX11_turn_26 (fun h => by cases h)
  · refine bo_ldcw (v := (-1000000001)) hx dX11_turn_8 wc_X11_261 ?_
    exact bo_retw dX11_turn_11 (fun h => by cases h)
theorem kX11_turn (l : Launch) (g : bo_G) (hi : bo_inj g) (σ : bo_M) (p1 : Int32) (p2 : Int32) : bo_CW l g yX11_turn cX11_turn 4 (some .int) 2 46 [.ref (g.2.2 135), .int p1, .int p2] σ false (mX11_turn σ p1 p2) :=
  bo_metW rfl (Or.inl ⟨rfl, rfl⟩) (by decide) rfl hi (Nat.le_of_ble_eq_true rfl) (fun x e1 e2 hx => by subst e1; subst e2; exact bX11_turn x hx σ p1 p2)
-- BellRopeModel.hang
theorem dX11_hang_0 : decode cX11_hang 0 = .ok (.iload_n 1, 1) := by decide +kernel
theorem dX11_hang_1 : decode cX11_hang 1 = .ok (.i2l, 1) := by decide +kernel
theorem dX11_hang_2 : decode cX11_hang 2 = .ok (.lconst 0, 1) := by decide +kernel
theorem dX11_hang_3 : decode cX11_hang 3 = .ok (.ldc2_w 275, 3) := by decide +kernel
theorem dX11_hang_6 : decode cX11_hang 6 = .ok (.invokestatic 118, 3) := by decide +kernel
theorem dX11_hang_15 : decode cX11_hang 15 = .ok (.aload_n 0, 1) := by decide +kernel
theorem dX11_hang_16 : decode cX11_hang 16 = .ok (.getfield 111, 3) := by decide +kernel
theorem dX11_hang_26 : decode cX11_hang 26 = .ok (.aload_n 0, 1) := by decide +kernel
theorem dX11_hang_27 : decode cX11_hang 27 = .ok (.invokevirtual 282, 3) := by decide +kernel
theorem dX11_hang_30 : decode cX11_hang 30 = .ok (.aload_n 0, 1) := by decide +kernel
theorem dX11_hang_31 : decode cX11_hang 31 = .ok (.getfield 34, 3) := by decide +kernel
theorem dX11_hang_34 : decode cX11_hang 34 = .ok (.bipush 23, 2) := by decide +kernel
theorem dX11_hang_36 : decode cX11_hang 36 = .ok (.iaload, 1) := by decide +kernel
theorem dX11_hang_37 : decode cX11_hang 37 = .ok (.istore_n 2, 1) := by decide +kernel
theorem dX11_hang_38 : decode cX11_hang 38 = .ok (.aload_n 0, 1) := by decide +kernel
theorem dX11_hang_39 : decode cX11_hang 39 = .ok (.getfield 34, 3) := by decide +kernel
theorem dX11_hang_42 : decode cX11_hang 42 = .ok (.bipush 23, 2) := by decide +kernel
theorem dX11_hang_44 : decode cX11_hang 44 = .ok (.iload_n 1, 1) := by decide +kernel
theorem dX11_hang_45 : decode cX11_hang 45 = .ok (.iastore, 1) := by decide +kernel
theorem dX11_hang_46 : decode cX11_hang 46 = .ok (.iload_n 2, 1) := by decide +kernel
theorem dX11_hang_47 : decode cX11_hang 47 = .ok (.ireturn, 1) := by decide +kernel
theorem dX11_hang_22 : decode cX11_hang 22 = .ok (.ldc_w 277, 3) := by decide +kernel
theorem dX11_hang_25 : decode cX11_hang 25 = .ok (.ireturn, 1) := by decide +kernel
theorem dX11_hang_19 : decode cX11_hang 19 = .ok (.ifCond .ne 7, 3) := by decide +kernel
theorem dX11_hang_12 : decode cX11_hang 12 = .ok (.ldc 127, 2) := by decide +kernel
theorem dX11_hang_14 : decode cX11_hang 14 = .ok (.ireturn, 1) := by decide +kernel
theorem dX11_hang_9 : decode cX11_hang 9 = .ok (.ifCond .ne 6, 3) := by decide +kernel
theorem bX11_hang (x : bo_X) (hx : bo_OK x cX11_hang RX11 3 1 25) (σ : bo_M) (p1 : Int32) : bo_D x 0 [(0, .ref (bo_a x 135)), (1, .int p1)] [] σ (mX11_hang σ p1) (bo_Rw x cX11_hang false) := by
  unfold mX11_hang
  refine bo_iload_n hx dX11_hang_0 rfl 1 rfl ?_
  refine bo_i2l hx dX11_hang_1 ?_
  refine bo_lconst (v := 0) hx dX11_hang_2 (by decide) ?_
  refine bo_ldc2 (v := 96) hx dX11_hang_3 wl_X11_275 ?_
  refine bo_goR (z := true) hx (fun rr hh => bo_runS (As := [.long (Int32.toInt64 p1), .long 0, .long 96]) (S := []) hx dX11_hang_6 lk_X11_118 ms_X11_in (kX11_in (bo_l x) (bo_g x) hx.inj σ (Int32.toInt64 p1) 0 96 rr hh) ⟨by decide, by decide⟩ rfl rfl (Nat.le_of_ble_eq_true rfl)) (fun v1 hv1 => ?_)
  refine bo_if_ne hx 15 dX11_hang_9 (by decide) ?_ ?_
  · refine bo_aload_n hx dX11_hang_15 rfl 0 rfl ?_
    refine gf_X11_111 hx dX11_hang_16 ?_
    refine bo_if_ne hx 26 dX11_hang_19 (by decide) ?_ ?_
    · refine bo_aload_n hx dX11_hang_26 rfl 0 rfl ?_
      refine bo_goV hx (fun rr hh => bo_runV (As := []) (S := []) hx dX11_hang_27 lk_X11_282 mi_X11_remember bo_o_135 rfl rfl (kX11_remember (bo_l x) (bo_g x) hx.inj σ rr hh) ⟨by decide, by decide⟩ rfl rfl (Nat.le_of_ble_eq_true rfl)) (fun σ2 => ?_)
      refine bo_aload_n hx dX11_hang_30 rfl 0 rfl ?_
      refine gf_X11_34 hx dX11_hang_31 ?_
      refine bo_bipush (v := 23) hx dX11_hang_34 (by decide) ?_
      refine bo_iald hx bo_c_144 dX11_hang_36 (fun v3 => ?_)
      refine bo_istore_n (L' := [(2, .int v3), (0, .ref (bo_a x 135)), (1, .int p1)]) hx dX11_hang_37 rfl (by decide) rfl ?_
      refine bo_aload_n hx dX11_hang_38 rfl 1 rfl ?_
      refine gf_X11_34 hx dX11_hang_39 ?_
      refine bo_bipush (v := 23) hx dX11_hang_42 (by decide) ?_
      refine bo_iload_n hx dX11_hang_44 rfl 2 rfl ?_
      refine bo_iast hx bo_c_144 dX11_hang_45 (fun σ4 => ?_)
      refine bo_iload_n hx dX11_hang_46 rfl 0 rfl ?_
      exact bo_retw dX11_hang_47 (fun h => by cases h)
    · refine bo_ldcw (v := (-1000000003)) hx dX11_hang_22 wc_X11_277 ?_
      exact bo_retw dX11_hang_25 (fun h => by cases h)
  · refine bo_ldc (v := (-1000000002)) hx dX11_hang_12 wc_X11_127 ?_
    exact bo_retw dX11_hang_14 (fun h => by cases h)
theorem kX11_hang (l : Launch) (g : bo_G) (hi : bo_inj g) (σ : bo_M) (p1 : Int32) : bo_CW l g yX11_hang cX11_hang 3 (some .int) 1 25 [.ref (g.2.2 135), .int p1] σ false (mX11_hang σ p1) :=
  bo_metW rfl (Or.inl ⟨rfl, rfl⟩) (by decide) rfl hi (Nat.le_of_ble_eq_true rfl) (fun x e1 e2 hx => by subst e1; subst e2; exact bX11_hang x hx σ p1)
-- BellRopeModel.rain
theorem dX11_rain_0 : decode cX11_rain 0 = .ok (.iload_n 1, 1) := by decide +kernel
theorem dX11_rain_1 : decode cX11_rain 1 = .ok (.i2l, 1) := by decide +kernel
theorem dX11_rain_2 : decode cX11_rain 2 = .ok (.lconst 0, 1) := by decide +kernel
theorem dX11_rain_3 : decode cX11_rain 3 = .ok (.ldc2_w 292, 3) := by decide +kernel
theorem dX11_rain_6 : decode cX11_rain 6 = .ok (.invokestatic 118, 3) := by decide +kernel
theorem dX11_rain_15 : decode cX11_rain 15 = .ok (.aload_n 0, 1) := by decide +kernel
theorem dX11_rain_16 : decode cX11_rain 16 = .ok (.getfield 111, 3) := by decide +kernel
theorem dX11_rain_26 : decode cX11_rain 26 = .ok (.aload_n 0, 1) := by decide +kernel
theorem dX11_rain_27 : decode cX11_rain 27 = .ok (.invokevirtual 282, 3) := by decide +kernel
theorem dX11_rain_30 : decode cX11_rain 30 = .ok (.aload_n 0, 1) := by decide +kernel
theorem dX11_rain_31 : decode cX11_rain 31 = .ok (.getfield 34, 3) := by decide +kernel
theorem dX11_rain_34 : decode cX11_rain 34 = .ok (.bipush 25, 2) := by decide +kernel
theorem dX11_rain_36 : decode cX11_rain 36 = .ok (.iaload, 1) := by decide +kernel
theorem dX11_rain_37 : decode cX11_rain 37 = .ok (.istore_n 2, 1) := by decide +kernel
theorem dX11_rain_38 : decode cX11_rain 38 = .ok (.aload_n 0, 1) := by decide +kernel
theorem dX11_rain_39 : decode cX11_rain 39 = .ok (.getfield 34, 3) := by decide +kernel
theorem dX11_rain_42 : decode cX11_rain 42 = .ok (.bipush 25, 2) := by decide +kernel
theorem dX11_rain_44 : decode cX11_rain 44 = .ok (.iload_n 1, 1) := by decide +kernel
theorem dX11_rain_45 : decode cX11_rain 45 = .ok (.iastore, 1) := by decide +kernel
theorem dX11_rain_46 : decode cX11_rain 46 = .ok (.iload_n 2, 1) := by decide +kernel
theorem dX11_rain_47 : decode cX11_rain 47 = .ok (.ireturn, 1) := by decide +kernel
theorem dX11_rain_22 : decode cX11_rain 22 = .ok (.ldc_w 277, 3) := by decide +kernel
theorem dX11_rain_25 : decode cX11_rain 25 = .ok (.ireturn, 1) := by decide +kernel
theorem dX11_rain_19 : decode cX11_rain 19 = .ok (.ifCond .ne 7, 3) := by decide +kernel
theorem dX11_rain_12 : decode cX11_rain 12 = .ok (.ldc 127, 2) := by decide +kernel
theorem dX11_rain_14 : decode cX11_rain 14 = .ok (.ireturn, 1) := by decide +kernel
theorem dX11_rain_9 : decode cX11_rain 9 = .ok (.ifCond .ne 6, 3) := by decide +kernel
theorem bX11_rain (x : bo_X) (hx : bo_OK x cX11_rain RX11 3 1 25) (σ : bo_M) (p1 : Int32) : bo_D x 0 [(0, .ref (bo_a x 135)), (1, .int p1)] [] σ (mX11_rain σ p1) (bo_Rw x cX11_rain false) := by
  unfold mX11_rain
  refine bo_iload_n hx dX11_rain_0 rfl 1 rfl ?_
  refine bo_i2l hx dX11_rain_1 ?_
  refine bo_lconst (v := 0) hx dX11_rain_2 (by decide) ?_
  refine bo_ldc2 (v := 2) hx dX11_rain_3 wl_X11_292 ?_
  refine bo_goR (z := true) hx (fun rr hh => bo_runS (As := [.long (Int32.toInt64 p1), .long 0, .long 2]) (S := []) hx dX11_rain_6 lk_X11_118 ms_X11_in (kX11_in (bo_l x) (bo_g x) hx.inj σ (Int32.toInt64 p1) 0 2 rr hh) ⟨by decide, by decide⟩ rfl rfl (Nat.le_of_ble_eq_true rfl)) (fun v1 hv1 => ?_)
  refine bo_if_ne hx 15 dX11_rain_9 (by decide) ?_ ?_
  · refine bo_aload_n hx dX11_rain_15 rfl 0 rfl ?_
    refine gf_X11_111 hx dX11_rain_16 ?_
    refine bo_if_ne hx 26 dX11_rain_19 (by decide) ?_ ?_
    · refine bo_aload_n hx dX11_rain_26 rfl 0 rfl ?_
      refine bo_goV hx (fun rr hh => bo_runV (As := []) (S := []) hx dX11_rain_27 lk_X11_282 mi_X11_remember bo_o_135 rfl rfl (kX11_remember (bo_l x) (bo_g x) hx.inj σ rr hh) ⟨by decide, by decide⟩ rfl rfl (Nat.le_of_ble_eq_true rfl)) (fun σ2 => ?_)
      refine bo_aload_n hx dX11_rain_30 rfl 0 rfl ?_
      refine gf_X11_34 hx dX11_rain_31 ?_
      refine bo_bipush (v := 25) hx dX11_rain_34 (by decide) ?_
      refine bo_iald hx bo_c_144 dX11_rain_36 (fun v3 => ?_)
      refine bo_istore_n (L' := [(2, .int v3), (0, .ref (bo_a x 135)), (1, .int p1)]) hx dX11_rain_37 rfl (by decide) rfl ?_
      refine bo_aload_n hx dX11_rain_38 rfl 1 rfl ?_
      refine gf_X11_34 hx dX11_rain_39 ?_
      refine bo_bipush (v := 25) hx dX11_rain_42 (by decide) ?_
      refine bo_iload_n hx dX11_rain_44 rfl 2 rfl ?_
      refine bo_iast hx bo_c_144 dX11_rain_45 (fun σ4 => ?_)
      refine bo_iload_n hx dX11_rain_46 rfl 0 rfl ?_
      exact bo_retw dX11_rain_47 (fun h => by cases h)
    · refine bo_ldcw (v := (-1000000003)) hx dX11_rain_22 wc_X11_277 ?_
      exact bo_retw dX11_rain_25 (fun h => by cases h)
  · refine bo_ldc (v := (-1000000002)) hx dX11_rain_12 wc_X11_127 ?_
    exact bo_retw dX11_rain_14 (fun h => by cases h)
theorem kX11_rain (l : Launch) (g : bo_G) (hi : bo_inj g) (σ : bo_M) (p1 : Int32) : bo_CW l g yX11_rain cX11_rain 3 (some .int) 1 25 [.ref (g.2.2 135), .int p1] σ false (mX11_rain σ p1) :=
  bo_metW rfl (Or.inl ⟨rfl, rfl⟩) (by decide) rfl hi (Nat.le_of_ble_eq_true rfl) (fun x e1 e2 hx => by subst e1; subst e2; exact bX11_rain x hx σ p1)
-- BellRopeModel.draw
theorem dX11_draw_0 : decode cX11_draw 0 = .ok (.aload_n 0, 1) := by decide +kernel
theorem dX11_draw_1 : decode cX11_draw 1 = .ok (.aload_n 0, 1) := by decide +kernel
theorem dX11_draw_2 : decode cX11_draw 2 = .ok (.getfield 294, 3) := by decide +kernel
theorem dX11_draw_5 : decode cX11_draw 5 = .ok (.i2l, 1) := by decide +kernel
theorem dX11_draw_6 : decode cX11_draw 6 = .ok (.ldc2_w 297, 3) := by decide +kernel
theorem dX11_draw_9 : decode cX11_draw 9 = .ok (.lmul, 1) := by decide +kernel
theorem dX11_draw_10 : decode cX11_draw 10 = .ok (.ldc2_w 299, 3) := by decide +kernel
theorem dX11_draw_13 : decode cX11_draw 13 = .ok (.ladd, 1) := by decide +kernel
theorem dX11_draw_14 : decode cX11_draw 14 = .ok (.ldc2_w 301, 3) := by decide +kernel
theorem dX11_draw_17 : decode cX11_draw 17 = .ok (.lrem, 1) := by decide +kernel
theorem dX11_draw_18 : decode cX11_draw 18 = .ok (.l2i, 1) := by decide +kernel
theorem dX11_draw_19 : decode cX11_draw 19 = .ok (.putfield 294, 3) := by decide +kernel
theorem dX11_draw_22 : decode cX11_draw 22 = .ok (.aload_n 0, 1) := by decide +kernel
theorem dX11_draw_23 : decode cX11_draw 23 = .ok (.getfield 294, 3) := by decide +kernel
theorem dX11_draw_26 : decode cX11_draw 26 = .ok (.ldc_w 303, 3) := by decide +kernel
theorem dX11_draw_29 : decode cX11_draw 29 = .ok (.idiv, 1) := by decide +kernel
theorem dX11_draw_30 : decode cX11_draw 30 = .ok (.iload_n 1, 1) := by decide +kernel
theorem dX11_draw_31 : decode cX11_draw 31 = .ok (.irem, 1) := by decide +kernel
theorem dX11_draw_32 : decode cX11_draw 32 = .ok (.ireturn, 1) := by decide +kernel
theorem bX11_draw (x : bo_X) (hx : bo_OK x cX11_draw RX11 2 0 0) (σ : bo_M) (p1 : Int32) : bo_D x 0 [(0, .ref (bo_a x 135)), (1, .int p1)] [] σ (mX11_draw σ p1) (bo_Rw x cX11_draw false) := by
  unfold mX11_draw
  refine bo_aload_n hx dX11_draw_0 rfl 0 rfl ?_
  refine bo_aload_n hx dX11_draw_1 rfl 0 rfl ?_
  refine gf_X11_294 hx dX11_draw_2 ?_
  refine bo_i2l hx dX11_draw_5 ?_
  refine bo_ldc2 (v := 1103515245) hx dX11_draw_6 wl_X11_297 ?_
  refine bo_lmul hx dX11_draw_9 ?_
  refine bo_ldc2 (v := 12345) hx dX11_draw_10 wl_X11_299 ?_
  refine bo_ladd hx dX11_draw_13 ?_
  refine bo_ldc2 (v := 2147483648) hx dX11_draw_14 wl_X11_301 ?_
  refine bo_lremc hx dX11_draw_17 (by decide) ?_
  refine bo_l2i hx dX11_draw_18 ?_
  refine pf_X11_294 hx dX11_draw_19 (fun σ1 => ?_)
  refine bo_aload_n hx dX11_draw_22 rfl 0 rfl ?_
  refine gf_X11_294 hx dX11_draw_23 ?_
  refine bo_ldcw (v := 65536) hx dX11_draw_26 wc_X11_303 ?_
  refine bo_idivc hx dX11_draw_29 (by decide) ?_
  refine bo_iload_n hx dX11_draw_30 rfl 1 rfl ?_
  refine bo_irem hx dX11_draw_31 (fun v2 => ?_)
  exact bo_retw dX11_draw_32 (fun h => by cases h)
theorem kX11_draw (l : Launch) (g : bo_G) (hi : bo_inj g) (σ : bo_M) (p1 : Int32) : bo_CW l g yX11_draw cX11_draw 2 (some .int) 0 0 [.ref (g.2.2 135), .int p1] σ false (mX11_draw σ p1) :=
  bo_metW rfl (Or.inl ⟨rfl, rfl⟩) (by decide) rfl hi (Nat.le_of_ble_eq_true rfl) (fun x e1 e2 hx => by subst e1; subst e2; exact bX11_draw x hx σ p1)
-- BellRopeModel.happen
theorem dX11_happen_0 : decode cX11_happen 0 = .ok (.aload_n 0, 1) := by decide +kernel
theorem dX11_happen_1 : decode cX11_happen 1 = .ok (.aload_n 0, 1) := by decide +kernel
theorem dX11_happen_2 : decode cX11_happen 2 = .ok (.getfield 115, 3) := by decide +kernel
theorem dX11_happen_5 : decode cX11_happen 5 = .ok (.invokevirtual 304, 3) := by decide +kernel
theorem dX11_happen_8 : decode cX11_happen 8 = .ok (.istore_n 1, 1) := by decide +kernel
theorem dX11_happen_9 : decode cX11_happen 9 = .ok (.aload_n 0, 1) := by decide +kernel
theorem dX11_happen_10 : decode cX11_happen 10 = .ok (.bipush 6, 2) := by decide +kernel
theorem dX11_happen_12 : decode cX11_happen 12 = .ok (.invokevirtual 304, 3) := by decide +kernel
theorem dX11_happen_15 : decode cX11_happen 15 = .ok (.istore_n 2, 1) := by decide +kernel
theorem dX11_happen_16 : decode cX11_happen 16 = .ok (.iload_n 2, 1) := by decide +kernel
theorem dX11_happen_32 : decode cX11_happen 32 = .ok (.iload_n 2, 1) := by decide +kernel
theorem dX11_happen_33 : decode cX11_happen 33 = .ok (.iconst 1, 1) := by decide +kernel
theorem dX11_happen_49 : decode cX11_happen 49 = .ok (.iload_n 2, 1) := by decide +kernel
theorem dX11_happen_50 : decode cX11_happen 50 = .ok (.iconst 2, 1) := by decide +kernel
theorem dX11_happen_66 : decode cX11_happen 66 = .ok (.return_, 1) := by decide +kernel
theorem dX11_happen_54 : decode cX11_happen 54 = .ok (.aload_n 0, 1) := by decide +kernel
theorem dX11_happen_55 : decode cX11_happen 55 = .ok (.getfield 34, 3) := by decide +kernel
theorem dX11_happen_58 : decode cX11_happen 58 = .ok (.bipush 25, 2) := by decide +kernel
theorem dX11_happen_60 : decode cX11_happen 60 = .ok (.aload_n 0, 1) := by decide +kernel
theorem dX11_happen_61 : decode cX11_happen 61 = .ok (.iconst 3, 1) := by decide +kernel
theorem dX11_happen_62 : decode cX11_happen 62 = .ok (.invokevirtual 304, 3) := by decide +kernel
theorem dX11_happen_65 : decode cX11_happen 65 = .ok (.iastore, 1) := by decide +kernel
theorem dX11_happen_51 : decode cX11_happen 51 = .ok (.if_icmp .ne 15, 3) := by decide +kernel
theorem dX11_happen_37 : decode cX11_happen 37 = .ok (.aload_n 0, 1) := by decide +kernel
theorem dX11_happen_38 : decode cX11_happen 38 = .ok (.getfield 34, 3) := by decide +kernel
theorem dX11_happen_41 : decode cX11_happen 41 = .ok (.iconst 0, 1) := by decide +kernel
theorem dX11_happen_42 : decode cX11_happen 42 = .ok (.iload_n 1, 1) := by decide +kernel
theorem dX11_happen_43 : decode cX11_happen 43 = .ok (.iadd, 1) := by decide +kernel
theorem dX11_happen_44 : decode cX11_happen 44 = .ok (.iconst 0, 1) := by decide +kernel
theorem dX11_happen_45 : decode cX11_happen 45 = .ok (.iastore, 1) := by decide +kernel
theorem dX11_happen_46 : decode cX11_happen 46 = .ok (.goto 20, 3) := by decide +kernel
theorem dX11_happen_34 : decode cX11_happen 34 = .ok (.if_icmp .ne 15, 3) := by decide +kernel
theorem dX11_happen_20 : decode cX11_happen 20 = .ok (.aload_n 0, 1) := by decide +kernel
theorem dX11_happen_21 : decode cX11_happen 21 = .ok (.getfield 34, 3) := by decide +kernel
theorem dX11_happen_24 : decode cX11_happen 24 = .ok (.iconst 0, 1) := by decide +kernel
theorem dX11_happen_25 : decode cX11_happen 25 = .ok (.iload_n 1, 1) := by decide +kernel
theorem dX11_happen_26 : decode cX11_happen 26 = .ok (.iadd, 1) := by decide +kernel
theorem dX11_happen_27 : decode cX11_happen 27 = .ok (.iconst 1, 1) := by decide +kernel
theorem dX11_happen_28 : decode cX11_happen 28 = .ok (.iastore, 1) := by decide +kernel
theorem dX11_happen_29 : decode cX11_happen 29 = .ok (.goto 37, 3) := by decide +kernel
theorem dX11_happen_17 : decode cX11_happen 17 = .ok (.ifCond .ne 15, 3) := by decide +kernel
theorem bX11_happen (x : bo_X) (hx : bo_OK x cX11_happen RX11 3 1 21) (σ : bo_M) : bo_D x 0 [(0, .ref (bo_a x 135))] [] σ (mX11_happen σ) (bo_Rv x cX11_happen) := by
  unfold mX11_happen
  refine bo_aload_n hx dX11_happen_0 rfl 0 rfl ?_
  refine bo_aload_n hx dX11_happen_1 rfl 0 rfl ?_
  refine gf_X11_115 hx dX11_happen_2 ?_
  refine bo_goW (z := false) hx (fun rr hh => bo_runV (As := [.int (σ 135 4)]) (S := []) hx dX11_happen_5 lk_X11_304 mi_X11_draw bo_o_135 rfl rfl (kX11_draw (bo_l x) (bo_g x) hx.inj σ (σ 135 4) rr hh) ⟨by decide, by decide⟩ rfl rfl (Nat.le_of_ble_eq_true rfl)) (fun a1 ha1 => ?_)
  refine bo_istore_n (L' := [(1, .int a1.1), (0, .ref (bo_a x 135))]) hx dX11_happen_8 rfl (by decide) rfl ?_
  refine bo_aload_n hx dX11_happen_9 rfl 1 rfl ?_
  refine bo_bipush (v := 6) hx dX11_happen_10 (by decide) ?_
  refine bo_goW (z := false) hx (fun rr hh => bo_runV (As := [.int 6]) (S := []) hx dX11_happen_12 lk_X11_304 mi_X11_draw bo_o_135 rfl rfl (kX11_draw (bo_l x) (bo_g x) hx.inj a1.2 6 rr hh) ⟨by decide, by decide⟩ rfl rfl (Nat.le_of_ble_eq_true rfl)) (fun a2 ha2 => ?_)
  refine bo_istore_n (L' := [(2, .int a2.1), (1, .int a1.1), (0, .ref (bo_a x 135))]) hx dX11_happen_15 rfl (by decide) rfl ?_
  refine bo_iload_n hx dX11_happen_16 rfl 0 rfl ?_
  refine bo_if_ne hx 32 dX11_happen_17 (by decide) ?_ ?_
  · refine bo_iload_n hx dX11_happen_32 rfl 0 rfl ?_
    refine bo_iconst (v := 1) hx dX11_happen_33 (by decide) ?_
    refine bo_icmp_ne hx 49 dX11_happen_34 (by decide) ?_ ?_
    · refine bo_iload_n hx dX11_happen_49 rfl 0 rfl ?_
      refine bo_iconst (v := 2) hx dX11_happen_50 (by decide) ?_
      refine bo_icmp_ne hx 66 dX11_happen_51 (by decide) ?_ ?_
      · exact bo_retv dX11_happen_66
      · refine bo_aload_n hx dX11_happen_54 rfl 2 rfl ?_
        refine gf_X11_34 hx dX11_happen_55 ?_
        refine bo_bipush (v := 25) hx dX11_happen_58 (by decide) ?_
        refine bo_aload_n hx dX11_happen_60 rfl 2 rfl ?_
        refine bo_iconst (v := 3) hx dX11_happen_61 (by decide) ?_
        refine bo_goW (z := false) hx (fun rr hh => bo_runV (As := [.int 3]) (S := [.int 25, .ref (bo_a x 144)]) hx dX11_happen_62 lk_X11_304 mi_X11_draw bo_o_135 rfl rfl (kX11_draw (bo_l x) (bo_g x) hx.inj a2.2 3 rr hh) ⟨by decide, by decide⟩ rfl rfl (Nat.le_of_ble_eq_true rfl)) (fun a3 ha3 => ?_)
        refine bo_iast hx bo_c_144 dX11_happen_65 (fun σ4 => ?_)
        exact bo_retv dX11_happen_66
    · refine bo_aload_n hx dX11_happen_37 rfl 2 rfl ?_
      refine gf_X11_34 hx dX11_happen_38 ?_
      refine bo_iconst (v := 0) hx dX11_happen_41 (by decide) ?_
      refine bo_iload_n hx dX11_happen_42 rfl 1 rfl ?_
      refine bo_iadd hx dX11_happen_43 ?_
      refine bo_iconst (v := 0) hx dX11_happen_44 (by decide) ?_
      refine bo_iast hx bo_c_144 dX11_happen_45 (fun σ5 => ?_)
      refine bo_goto hx 66 dX11_happen_46 (by decide) ?_
      exact bo_retv dX11_happen_66
  · refine bo_aload_n hx dX11_happen_20 rfl 2 rfl ?_
    refine gf_X11_34 hx dX11_happen_21 ?_
    refine bo_iconst (v := 0) hx dX11_happen_24 (by decide) ?_
    refine bo_iload_n hx dX11_happen_25 rfl 1 rfl ?_
    refine bo_iadd hx dX11_happen_26 ?_
    refine bo_iconst (v := 1) hx dX11_happen_27 (by decide) ?_
    refine bo_iast hx bo_c_144 dX11_happen_28 (fun σ6 => ?_)
    refine bo_goto hx 66 dX11_happen_29 (by decide) ?_
    exact bo_retv dX11_happen_66
theorem kX11_happen (l : Launch) (g : bo_G) (hi : bo_inj g) (σ : bo_M) : bo_CV l g yX11_happen cX11_happen 3 none 1 21 [.ref (g.2.2 135)] σ (mX11_happen σ) :=
  bo_metV rfl  (by decide) rfl hi (Nat.le_of_ble_eq_true rfl) (fun x e1 e2 hx => by subst e1; subst e2; exact bX11_happen x hx σ)
-- BellRopeModel.drift
theorem dX11_drift_0 : decode cX11_drift 0 = .ok (.aload_n 0, 1) := by decide +kernel
theorem dX11_drift_1 : decode cX11_drift 1 = .ok (.iload_n 1, 1) := by decide +kernel
theorem dX11_drift_2 : decode cX11_drift 2 = .ok (.invokevirtual 279, 3) := by decide +kernel
theorem dX11_drift_5 : decode cX11_drift 5 = .ok (.istore_n 2, 1) := by decide +kernel
theorem dX11_drift_6 : decode cX11_drift 6 = .ok (.iload_n 2, 1) := by decide +kernel
theorem dX11_drift_12 : decode cX11_drift 12 = .ok (.aload_n 0, 1) := by decide +kernel
theorem dX11_drift_13 : decode cX11_drift 13 = .ok (.invokevirtual 282, 3) := by decide +kernel
theorem dX11_drift_16 : decode cX11_drift 16 = .ok (.iconst 0, 1) := by decide +kernel
theorem dX11_drift_17 : decode cX11_drift 17 = .ok (.istore_n 3, 1) := by decide +kernel
theorem dX11_drift_18 : decode cX11_drift 18 = .ok (.iconst 0, 1) := by decide +kernel
theorem dX11_drift_19 : decode cX11_drift 19 = .ok (.istore 4, 2) := by decide +kernel
theorem dX11_drift_21 : decode cX11_drift 21 = .ok (.iload 4, 2) := by decide +kernel
theorem dX11_drift_23 : decode cX11_drift 23 = .ok (.iload_n 1, 1) := by decide +kernel
theorem dX11_drift_27 : decode cX11_drift 27 = .ok (.aload_n 0, 1) := by decide +kernel
theorem dX11_drift_28 : decode cX11_drift 28 = .ok (.getfield 115, 3) := by decide +kernel
theorem dX11_drift_34 : decode cX11_drift 34 = .ok (.aload_n 0, 1) := by decide +kernel
theorem dX11_drift_35 : decode cX11_drift 35 = .ok (.invokevirtual 307, 3) := by decide +kernel
theorem dX11_drift_31 : decode cX11_drift 31 = .ok (.ifCond .le 7, 3) := by decide +kernel
theorem dX11_drift_38 : decode cX11_drift 38 = .ok (.aload_n 0, 1) := by decide +kernel
theorem dX11_drift_39 : decode cX11_drift 39 = .ok (.invokevirtual 285, 3) := by decide +kernel
theorem dX11_drift_42 : decode cX11_drift 42 = .ok (.istore_n 3, 1) := by decide +kernel
theorem dX11_drift_43 : decode cX11_drift 43 = .ok (.iinc 4 1, 3) := by decide +kernel
theorem dX11_drift_46 : decode cX11_drift 46 = .ok (.goto (-25), 3) := by decide +kernel
theorem dX11_drift_24 : decode cX11_drift 24 = .ok (.if_icmp .ge 25, 3) := by decide +kernel
theorem dX11_drift_49 : decode cX11_drift 49 = .ok (.iload_n 3, 1) := by decide +kernel
theorem dX11_drift_50 : decode cX11_drift 50 = .ok (.ireturn, 1) := by decide +kernel
theorem dX11_drift_10 : decode cX11_drift 10 = .ok (.iload_n 2, 1) := by decide +kernel
theorem dX11_drift_11 : decode cX11_drift 11 = .ok (.ireturn, 1) := by decide +kernel
theorem dX11_drift_7 : decode cX11_drift 7 = .ok (.ifCond .eq 5, 3) := by decide +kernel
theorem lX11_drift_L21 (x : bo_X) (hx : bo_OK x cX11_drift RX11 5 4 95) (f1 : Int32) : ∀ (n : Nat) (w3 : Int32) (w4 : Int32) (σ : bo_M), bo_D x 21 [(0, .ref (bo_a x 135)), (1, .int f1), (3, .int w3), (4, .int w4)] [] σ (mX11_drift_L21 f1 n w3 w4 σ) (fun a => bo_N x 49 [(3, .int a.1)] [] a.2) := by
  intro n
  induction n with
  | zero => intro w3 w4 σ; exact bo_none
  | succ n ih =>
    intro w3 w4 σ
    rw [mX11_drift_L21]
    refine bo_iload hx dX11_drift_21 3 rfl ?_
    refine bo_iload_n hx dX11_drift_23 rfl 1 rfl ?_
    refine bo_icmp_ge hx 49 dX11_drift_24 (by decide) ?_ ?_
    · refine bo_sub (L' := [(3, .int w3)]) [2] rfl ?_
      exact bo_arr (fun h => h)
    · refine bo_aload_n hx dX11_drift_27 rfl 0 rfl ?_
      refine gf_X11_115 hx dX11_drift_28 ?_
      refine bo_seq 38 (fun a => [(0, .ref (bo_a x 135)), (1, .int f1), (4, .int w4)]) (fun a => []) (fun a => a) ?_ (fun a3 => ?_)
      · refine bo_if_le hx 38 dX11_drift_31 (by decide) ?_ ?_
        · refine bo_sub (L' := [(0, .ref (bo_a x 135)), (1, .int f1), (4, .int w4)]) [0, 1, 3] rfl ?_
          exact bo_arr (fun h => h)
        · refine bo_aload_n hx dX11_drift_34 rfl 0 rfl ?_
          refine bo_goV hx (fun rr hh => bo_runV (As := []) (S := []) hx dX11_drift_35 lk_X11_307 mi_X11_happen bo_o_135 rfl rfl (kX11_happen (bo_l x) (bo_g x) hx.inj σ rr hh) ⟨by decide, by decide⟩ rfl rfl (Nat.le_of_ble_eq_true rfl)) (fun σ4 => ?_)
          refine bo_sub (L' := [(0, .ref (bo_a x 135)), (1, .int f1), (4, .int w4)]) [0, 1, 3] rfl ?_
          exact bo_arr (fun h => h)
      · refine bo_aload_n hx dX11_drift_38 rfl 0 rfl ?_
        refine bo_goW (z := false) hx (fun rr hh => bo_runV (As := []) (S := []) hx dX11_drift_39 lk_X11_285 mi_X11_pass bo_o_135 rfl rfl (kX11_pass (bo_l x) (bo_g x) hx.inj a3 rr hh) ⟨by decide, by decide⟩ rfl rfl (Nat.le_of_ble_eq_true rfl)) (fun a5 ha5 => ?_)
        refine bo_istore_n (L' := [(3, .int a5.1), (0, .ref (bo_a x 135)), (1, .int f1), (4, .int w4)]) hx dX11_drift_42 rfl (by decide) rfl ?_
        refine bo_iinc (L' := [(4, .int (w4 + 1)), (3, .int a5.1), (0, .ref (bo_a x 135)), (1, .int f1)]) (w := (w4 + 1)) hx dX11_drift_43 3 rfl rfl (by decide) rfl ?_
        refine bo_goto hx 21 dX11_drift_46 (by decide) ?_
        refine bo_sub (L' := [(0, .ref (bo_a x 135)), (1, .int f1), (3, .int a5.1), (4, .int (w4 + 1))]) [2, 3, 1, 0] rfl ?_
        exact ih a5.1 (w4 + 1) a5.2
theorem bX11_drift (x : bo_X) (hx : bo_OK x cX11_drift RX11 5 4 95) (σ : bo_M) (p1 : Int32) : bo_D x 0 [(0, .ref (bo_a x 135)), (1, .int p1)] [] σ (mX11_drift σ p1) (bo_Rw x cX11_drift false) := by
  unfold mX11_drift
  refine bo_aload_n hx dX11_drift_0 rfl 0 rfl ?_
  refine bo_iload_n hx dX11_drift_1 rfl 1 rfl ?_
  refine bo_goR (z := false) hx (fun rr hh => bo_runV (As := [.int p1]) (S := []) hx dX11_drift_2 lk_X11_279 mi_X11_quartersRefused bo_o_135 rfl rfl (kX11_quartersRefused (bo_l x) (bo_g x) hx.inj σ p1 rr hh) ⟨by decide, by decide⟩ rfl rfl (Nat.le_of_ble_eq_true rfl)) (fun v1 hv1 => ?_)
  refine bo_istore_n (L' := [(2, .int v1), (0, .ref (bo_a x 135)), (1, .int p1)]) hx dX11_drift_5 rfl (by decide) rfl ?_
  refine bo_iload_n hx dX11_drift_6 rfl 0 rfl ?_
  refine bo_if_eq hx 12 dX11_drift_7 (by decide) ?_ ?_
  · refine bo_aload_n hx dX11_drift_12 rfl 1 rfl ?_
    refine bo_goV hx (fun rr hh => bo_runV (As := []) (S := []) hx dX11_drift_13 lk_X11_282 mi_X11_remember bo_o_135 rfl rfl (kX11_remember (bo_l x) (bo_g x) hx.inj σ rr hh) ⟨by decide, by decide⟩ rfl rfl (Nat.le_of_ble_eq_true rfl)) (fun σ2 => ?_)
    refine bo_iconst (v := 0) hx dX11_drift_16 (by decide) ?_
    refine bo_istore_n (L' := [(3, .int 0), (2, .int v1), (0, .ref (bo_a x 135)), (1, .int p1)]) hx dX11_drift_17 rfl (by decide) rfl ?_
    refine bo_iconst (v := 0) hx dX11_drift_18 (by decide) ?_
    refine bo_istore (L' := [(4, .int 0), (3, .int 0), (2, .int v1), (0, .ref (bo_a x 135)), (1, .int p1)]) hx dX11_drift_19 (by decide) rfl ?_
    refine bo_sub (L' := [(0, .ref (bo_a x 135)), (1, .int p1), (3, .int 0), (4, .int 0)]) [3, 4, 1, 0] rfl ?_
    refine bo_seq 49 (fun a => [(3, .int a.1)]) (fun a => []) (fun a => a.2) (lX11_drift_L21 x hx p1 bo_fuel 0 0 σ2) (fun a6 => ?_)
    refine bo_iload_n hx dX11_drift_49 rfl 0 rfl ?_
    exact bo_retw dX11_drift_50 (fun h => by cases h)
  · refine bo_iload_n hx dX11_drift_10 rfl 0 rfl ?_
    exact bo_retw dX11_drift_11 (fun h => by cases h)
theorem kX11_drift (l : Launch) (g : bo_G) (hi : bo_inj g) (σ : bo_M) (p1 : Int32) : bo_CW l g yX11_drift cX11_drift 5 (some .int) 4 95 [.ref (g.2.2 135), .int p1] σ false (mX11_drift σ p1) :=
  bo_metW rfl (Or.inl ⟨rfl, rfl⟩) (by decide) rfl hi (Nat.le_of_ble_eq_true rfl) (fun x e1 e2 hx => by subst e1; subst e2; exact bX11_drift x hx σ p1)
-- BellRopeModel.undo
theorem dX11_undo_0 : decode cX11_undo 0 = .ok (.aload_n 0, 1) := by decide +kernel
theorem dX11_undo_1 : decode cX11_undo 1 = .ok (.getfield 232, 3) := by decide +kernel
theorem dX11_undo_11 : decode cX11_undo 11 = .ok (.aload_n 0, 1) := by decide +kernel
theorem dX11_undo_12 : decode cX11_undo 12 = .ok (.dup, 1) := by decide +kernel
theorem dX11_undo_13 : decode cX11_undo 13 = .ok (.getfield 232, 3) := by decide +kernel
theorem dX11_undo_16 : decode cX11_undo 16 = .ok (.iconst 1, 1) := by decide +kernel
theorem dX11_undo_17 : decode cX11_undo 17 = .ok (.isub, 1) := by decide +kernel
theorem dX11_undo_18 : decode cX11_undo 18 = .ok (.putfield 232, 3) := by decide +kernel
theorem dX11_undo_21 : decode cX11_undo 21 = .ok (.iconst 0, 1) := by decide +kernel
theorem dX11_undo_22 : decode cX11_undo 22 = .ok (.istore_n 1, 1) := by decide +kernel
theorem dX11_undo_23 : decode cX11_undo 23 = .ok (.iload_n 1, 1) := by decide +kernel
theorem dX11_undo_24 : decode cX11_undo 24 = .ok (.bipush 107, 2) := by decide +kernel
theorem dX11_undo_29 : decode cX11_undo 29 = .ok (.aload_n 0, 1) := by decide +kernel
theorem dX11_undo_30 : decode cX11_undo 30 = .ok (.getfield 34, 3) := by decide +kernel
theorem dX11_undo_33 : decode cX11_undo 33 = .ok (.iload_n 1, 1) := by decide +kernel
theorem dX11_undo_34 : decode cX11_undo 34 = .ok (.aload_n 0, 1) := by decide +kernel
theorem dX11_undo_35 : decode cX11_undo 35 = .ok (.getfield 71, 3) := by decide +kernel
theorem dX11_undo_38 : decode cX11_undo 38 = .ok (.bipush 107, 2) := by decide +kernel
theorem dX11_undo_40 : decode cX11_undo 40 = .ok (.aload_n 0, 1) := by decide +kernel
theorem dX11_undo_41 : decode cX11_undo 41 = .ok (.getfield 232, 3) := by decide +kernel
theorem dX11_undo_44 : decode cX11_undo 44 = .ok (.imul, 1) := by decide +kernel
theorem dX11_undo_45 : decode cX11_undo 45 = .ok (.iload_n 1, 1) := by decide +kernel
theorem dX11_undo_46 : decode cX11_undo 46 = .ok (.iadd, 1) := by decide +kernel
theorem dX11_undo_47 : decode cX11_undo 47 = .ok (.iaload, 1) := by decide +kernel
theorem dX11_undo_48 : decode cX11_undo 48 = .ok (.iastore, 1) := by decide +kernel
theorem dX11_undo_49 : decode cX11_undo 49 = .ok (.iinc 1 1, 3) := by decide +kernel
theorem dX11_undo_52 : decode cX11_undo 52 = .ok (.goto (-29), 3) := by decide +kernel
theorem dX11_undo_26 : decode cX11_undo 26 = .ok (.if_icmp .ge 29, 3) := by decide +kernel
theorem dX11_undo_55 : decode cX11_undo 55 = .ok (.aload_n 0, 1) := by decide +kernel
theorem dX11_undo_56 : decode cX11_undo 56 = .ok (.getfield 232, 3) := by decide +kernel
theorem dX11_undo_59 : decode cX11_undo 59 = .ok (.ireturn, 1) := by decide +kernel
theorem dX11_undo_7 : decode cX11_undo 7 = .ok (.ldc_w 277, 3) := by decide +kernel
theorem dX11_undo_10 : decode cX11_undo 10 = .ok (.ireturn, 1) := by decide +kernel
theorem dX11_undo_4 : decode cX11_undo 4 = .ok (.ifCond .ne 7, 3) := by decide +kernel
theorem lX11_undo_L23 (x : bo_X) (hx : bo_OK x cX11_undo RX11 2 0 0)  : ∀ (n : Nat) (w1 : Int32) (σ : bo_M), bo_D x 23 [(0, .ref (bo_a x 135)), (1, .int w1)] [] σ (mX11_undo_L23 n w1 σ) (fun a => bo_N x 55 [(0, .ref (bo_a x 135))] [] a) := by
  intro n
  induction n with
  | zero => intro w1 σ; exact bo_none
  | succ n ih =>
    intro w1 σ
    rw [mX11_undo_L23]
    refine bo_iload_n hx dX11_undo_23 rfl 1 rfl ?_
    refine bo_bipush (v := 107) hx dX11_undo_24 (by decide) ?_
    refine bo_icmp_ge hx 55 dX11_undo_26 (by decide) ?_ ?_
    · refine bo_sub (L' := [(0, .ref (bo_a x 135))]) [0] rfl ?_
      exact bo_arr (fun h => h)
    · refine bo_aload_n hx dX11_undo_29 rfl 0 rfl ?_
      refine gf_X11_34 hx dX11_undo_30 ?_
      refine bo_iload_n hx dX11_undo_33 rfl 1 rfl ?_
      refine bo_aload_n hx dX11_undo_34 rfl 0 rfl ?_
      refine gf_X11_71 hx dX11_undo_35 ?_
      refine bo_bipush (v := 107) hx dX11_undo_38 (by decide) ?_
      refine bo_aload_n hx dX11_undo_40 rfl 0 rfl ?_
      refine gf_X11_232 hx dX11_undo_41 ?_
      refine bo_imul hx dX11_undo_44 ?_
      refine bo_iload_n hx dX11_undo_45 rfl 1 rfl ?_
      refine bo_iadd hx dX11_undo_46 ?_
      refine bo_iald hx bo_c_155 dX11_undo_47 (fun v2 => ?_)
      refine bo_iast hx bo_c_144 dX11_undo_48 (fun σ3 => ?_)
      refine bo_iinc (L' := [(1, .int (w1 + 1)), (0, .ref (bo_a x 135))]) (w := (w1 + 1)) hx dX11_undo_49 1 rfl rfl (by decide) rfl ?_
      refine bo_goto hx 23 dX11_undo_52 (by decide) ?_
      refine bo_sub (L' := [(0, .ref (bo_a x 135)), (1, .int (w1 + 1))]) [1, 0] rfl ?_
      exact ih (w1 + 1) σ3
theorem bX11_undo (x : bo_X) (hx : bo_OK x cX11_undo RX11 2 0 0) (σ : bo_M) : bo_D x 0 [(0, .ref (bo_a x 135))] [] σ (mX11_undo σ) (bo_Rw x cX11_undo false) := by
  unfold mX11_undo
  refine bo_aload_n hx dX11_undo_0 rfl 0 rfl ?_
  refine gf_X11_232 hx dX11_undo_1 ?_
  refine bo_if_ne hx 11 dX11_undo_4 (by decide) ?_ ?_
  · refine bo_aload_n hx dX11_undo_11 rfl 0 rfl ?_
    refine bo_dup hx dX11_undo_12 rfl ?_
    refine gf_X11_232 hx dX11_undo_13 ?_
    refine bo_iconst (v := 1) hx dX11_undo_16 (by decide) ?_
    refine bo_isub hx dX11_undo_17 ?_
    refine pf_X11_232 hx dX11_undo_18 (fun σ1 => ?_)
    refine bo_iconst (v := 0) hx dX11_undo_21 (by decide) ?_
    refine bo_istore_n (L' := [(1, .int 0), (0, .ref (bo_a x 135))]) hx dX11_undo_22 rfl (by decide) rfl ?_
    refine bo_sub (L' := [(0, .ref (bo_a x 135)), (1, .int 0)]) [1, 0] rfl ?_
    refine bo_seq 55 (fun a => [(0, .ref (bo_a x 135))]) (fun a => []) (fun a => a) (lX11_undo_L23 x hx bo_fuel 0 σ1) (fun a4 => ?_)
    refine bo_aload_n hx dX11_undo_55 rfl 0 rfl ?_
    refine gf_X11_232 hx dX11_undo_56 ?_
    exact bo_retw dX11_undo_59 (fun h => by cases h)
  · refine bo_ldcw (v := (-1000000003)) hx dX11_undo_7 wc_X11_277 ?_
    exact bo_retw dX11_undo_10 (fun h => by cases h)
theorem kX11_undo (l : Launch) (g : bo_G) (hi : bo_inj g) (σ : bo_M) : bo_CW l g yX11_undo cX11_undo 2 (some .int) 0 0 [.ref (g.2.2 135)] σ false (mX11_undo σ) :=
  bo_metW rfl (Or.inl ⟨rfl, rfl⟩) (by decide) rfl hi (Nat.le_of_ble_eq_true rfl) (fun x e1 e2 hx => by subst e1; subst e2; exact bX11_undo x hx σ)
-- BellRopeModel.lookAhead
theorem dX11_lookAhead_0 : decode cX11_lookAhead 0 = .ok (.aload_n 0, 1) := by decide +kernel
theorem dX11_lookAhead_1 : decode cX11_lookAhead 1 = .ok (.getfield 34, 3) := by decide +kernel
theorem dX11_lookAhead_4 : decode cX11_lookAhead 4 = .ok (.aload_n 0, 1) := by decide +kernel
theorem dX11_lookAhead_5 : decode cX11_lookAhead 5 = .ok (.getfield 74, 3) := by decide +kernel
theorem dX11_lookAhead_8 : decode cX11_lookAhead 8 = .ok (.bipush 107, 2) := by decide +kernel
theorem dX11_lookAhead_10 : decode cX11_lookAhead 10 = .ok (.invokestatic 216, 3) := by decide +kernel
theorem dX11_lookAhead_13 : decode cX11_lookAhead 13 = .ok (.iconst 0, 1) := by decide +kernel
theorem dX11_lookAhead_14 : decode cX11_lookAhead 14 = .ok (.istore_n 1, 1) := by decide +kernel
theorem dX11_lookAhead_15 : decode cX11_lookAhead 15 = .ok (.iload_n 1, 1) := by decide +kernel
theorem dX11_lookAhead_16 : decode cX11_lookAhead 16 = .ok (.sipush 192, 3) := by decide +kernel
theorem dX11_lookAhead_22 : decode cX11_lookAhead 22 = .ok (.aload_n 0, 1) := by decide +kernel
theorem dX11_lookAhead_23 : decode cX11_lookAhead 23 = .ok (.getfield 77, 3) := by decide +kernel
theorem dX11_lookAhead_26 : decode cX11_lookAhead 26 = .ok (.iload_n 1, 1) := by decide +kernel
theorem dX11_lookAhead_27 : decode cX11_lookAhead 27 = .ok (.aload_n 0, 1) := by decide +kernel
theorem dX11_lookAhead_28 : decode cX11_lookAhead 28 = .ok (.invokevirtual 285, 3) := by decide +kernel
theorem dX11_lookAhead_31 : decode cX11_lookAhead 31 = .ok (.iastore, 1) := by decide +kernel
theorem dX11_lookAhead_32 : decode cX11_lookAhead 32 = .ok (.aload_n 0, 1) := by decide +kernel
theorem dX11_lookAhead_33 : decode cX11_lookAhead 33 = .ok (.getfield 80, 3) := by decide +kernel
theorem dX11_lookAhead_36 : decode cX11_lookAhead 36 = .ok (.iload_n 1, 1) := by decide +kernel
theorem dX11_lookAhead_37 : decode cX11_lookAhead 37 = .ok (.aload_n 0, 1) := by decide +kernel
theorem dX11_lookAhead_38 : decode cX11_lookAhead 38 = .ok (.getfield 34, 3) := by decide +kernel
theorem dX11_lookAhead_41 : decode cX11_lookAhead 41 = .ok (.bipush 22, 2) := by decide +kernel
theorem dX11_lookAhead_43 : decode cX11_lookAhead 43 = .ok (.iaload, 1) := by decide +kernel
theorem dX11_lookAhead_44 : decode cX11_lookAhead 44 = .ok (.iastore, 1) := by decide +kernel
theorem dX11_lookAhead_45 : decode cX11_lookAhead 45 = .ok (.iinc 1 1, 3) := by decide +kernel
theorem dX11_lookAhead_48 : decode cX11_lookAhead 48 = .ok (.goto (-33), 3) := by decide +kernel
theorem dX11_lookAhead_19 : decode cX11_lookAhead 19 = .ok (.if_icmp .ge 32, 3) := by decide +kernel
theorem dX11_lookAhead_51 : decode cX11_lookAhead 51 = .ok (.aload_n 0, 1) := by decide +kernel
theorem dX11_lookAhead_52 : decode cX11_lookAhead 52 = .ok (.getfield 74, 3) := by decide +kernel
theorem dX11_lookAhead_55 : decode cX11_lookAhead 55 = .ok (.aload_n 0, 1) := by decide +kernel
theorem dX11_lookAhead_56 : decode cX11_lookAhead 56 = .ok (.getfield 34, 3) := by decide +kernel
theorem dX11_lookAhead_59 : decode cX11_lookAhead 59 = .ok (.bipush 107, 2) := by decide +kernel
theorem dX11_lookAhead_61 : decode cX11_lookAhead 61 = .ok (.invokestatic 216, 3) := by decide +kernel
theorem dX11_lookAhead_64 : decode cX11_lookAhead 64 = .ok (.return_, 1) := by decide +kernel
theorem lX11_lookAhead_L15 (x : bo_X) (hx : bo_OK x cX11_lookAhead RX11 2 4 95)  : ∀ (n : Nat) (w1 : Int32) (σ : bo_M), bo_D x 15 [(0, .ref (bo_a x 135)), (1, .int w1)] [] σ (mX11_lookAhead_L15 n w1 σ) (fun a => bo_N x 51 [(0, .ref (bo_a x 135))] [] a) := by
  intro n
  induction n with
  | zero => intro w1 σ; exact bo_none
  | succ n ih =>
    intro w1 σ
    rw [mX11_lookAhead_L15]
    refine bo_iload_n hx dX11_lookAhead_15 rfl 1 rfl ?_
    refine bo_sipush (v := 192) hx dX11_lookAhead_16 (by decide) ?_
    refine bo_icmp_ge hx 51 dX11_lookAhead_19 (by decide) ?_ ?_
    · refine bo_sub (L' := [(0, .ref (bo_a x 135))]) [0] rfl ?_
      exact bo_arr (fun h => h)
    · refine bo_aload_n hx dX11_lookAhead_22 rfl 0 rfl ?_
      refine gf_X11_77 hx dX11_lookAhead_23 ?_
      refine bo_iload_n hx dX11_lookAhead_26 rfl 1 rfl ?_
      refine bo_aload_n hx dX11_lookAhead_27 rfl 0 rfl ?_
      refine bo_goW (z := false) hx (fun rr hh => bo_runV (As := []) (S := [.int w1, .ref (bo_a x 157)]) hx dX11_lookAhead_28 lk_X11_285 mi_X11_pass bo_o_135 rfl rfl (kX11_pass (bo_l x) (bo_g x) hx.inj σ rr hh) ⟨by decide, by decide⟩ rfl rfl (Nat.le_of_ble_eq_true rfl)) (fun a2 ha2 => ?_)
      refine bo_iast hx bo_c_157 dX11_lookAhead_31 (fun σ3 => ?_)
      refine bo_aload_n hx dX11_lookAhead_32 rfl 0 rfl ?_
      refine gf_X11_80 hx dX11_lookAhead_33 ?_
      refine bo_iload_n hx dX11_lookAhead_36 rfl 1 rfl ?_
      refine bo_aload_n hx dX11_lookAhead_37 rfl 0 rfl ?_
      refine gf_X11_34 hx dX11_lookAhead_38 ?_
      refine bo_bipush (v := 22) hx dX11_lookAhead_41 (by decide) ?_
      refine bo_iald hx bo_c_144 dX11_lookAhead_43 (fun v4 => ?_)
      refine bo_iast hx bo_c_158 dX11_lookAhead_44 (fun σ5 => ?_)
      refine bo_iinc (L' := [(1, .int (w1 + 1)), (0, .ref (bo_a x 135))]) (w := (w1 + 1)) hx dX11_lookAhead_45 1 rfl rfl (by decide) rfl ?_
      refine bo_goto hx 15 dX11_lookAhead_48 (by decide) ?_
      refine bo_sub (L' := [(0, .ref (bo_a x 135)), (1, .int (w1 + 1))]) [1, 0] rfl ?_
      exact ih (w1 + 1) σ5
theorem bX11_lookAhead (x : bo_X) (hx : bo_OK x cX11_lookAhead RX11 2 4 95) (σ : bo_M) : bo_D x 0 [(0, .ref (bo_a x 135))] [] σ (mX11_lookAhead σ) (bo_Rv x cX11_lookAhead) := by
  unfold mX11_lookAhead
  refine bo_aload_n hx dX11_lookAhead_0 rfl 0 rfl ?_
  refine gf_X11_34 hx dX11_lookAhead_1 ?_
  refine bo_aload_n hx dX11_lookAhead_4 rfl 0 rfl ?_
  refine gf_X11_74 hx dX11_lookAhead_5 ?_
  refine bo_bipush (v := 107) hx dX11_lookAhead_8 (by decide) ?_
  refine bo_goV hx (fun rr hh => bo_runS (As := [.ref (bo_a x 144), .ref (bo_a x 156), .int 107]) (S := []) hx dX11_lookAhead_10 lk_X11_216 ms_X11_copyRow (kX11_copyRow (bo_l x) (bo_g x) hx.inj σ 107 144 107 156 107 bo_c_144 bo_c_156 rr hh) ⟨by decide, by decide⟩ rfl rfl (Nat.le_of_ble_eq_true rfl)) (fun σ1 => ?_)
  refine bo_iconst (v := 0) hx dX11_lookAhead_13 (by decide) ?_
  refine bo_istore_n (L' := [(1, .int 0), (0, .ref (bo_a x 135))]) hx dX11_lookAhead_14 rfl (by decide) rfl ?_
  refine bo_sub (L' := [(0, .ref (bo_a x 135)), (1, .int 0)]) [1, 0] rfl ?_
  refine bo_seq 51 (fun a => [(0, .ref (bo_a x 135))]) (fun a => []) (fun a => a) (lX11_lookAhead_L15 x hx bo_fuel 0 σ1) (fun a6 => ?_)
  refine bo_aload_n hx dX11_lookAhead_51 rfl 0 rfl ?_
  refine gf_X11_74 hx dX11_lookAhead_52 ?_
  refine bo_aload_n hx dX11_lookAhead_55 rfl 0 rfl ?_
  refine gf_X11_34 hx dX11_lookAhead_56 ?_
  refine bo_bipush (v := 107) hx dX11_lookAhead_59 (by decide) ?_
  refine bo_goV hx (fun rr hh => bo_runS (As := [.ref (bo_a x 156), .ref (bo_a x 144), .int 107]) (S := []) hx dX11_lookAhead_61 lk_X11_216 ms_X11_copyRow (kX11_copyRow (bo_l x) (bo_g x) hx.inj a6 107 156 107 144 107 bo_c_156 bo_c_144 rr hh) ⟨by decide, by decide⟩ rfl rfl (Nat.le_of_ble_eq_true rfl)) (fun σ7 => ?_)
  exact bo_retv dX11_lookAhead_64
theorem kX11_lookAhead (l : Launch) (g : bo_G) (hi : bo_inj g) (σ : bo_M) : bo_CV l g yX11_lookAhead cX11_lookAhead 2 none 4 95 [.ref (g.2.2 135)] σ (mX11_lookAhead σ) :=
  bo_metV rfl  (by decide) rfl hi (Nat.le_of_ble_eq_true rfl) (fun x e1 e2 hx => by subst e1; subst e2; exact bX11_lookAhead x hx σ)
-- BellRopeModel.strikes
theorem dX11_strikes_0 : decode cX11_strikes 0 = .ok (.iload_n 1, 1) := by decide +kernel
theorem dX11_strikes_1 : decode cX11_strikes 1 = .ok (.i2l, 1) := by decide +kernel
theorem dX11_strikes_2 : decode cX11_strikes 2 = .ok (.lconst 0, 1) := by decide +kernel
theorem dX11_strikes_3 : decode cX11_strikes 3 = .ok (.ldc2_w 310, 3) := by decide +kernel
theorem dX11_strikes_6 : decode cX11_strikes 6 = .ok (.invokestatic 118, 3) := by decide +kernel
theorem dX11_strikes_15 : decode cX11_strikes 15 = .ok (.aload_n 0, 1) := by decide +kernel
theorem dX11_strikes_16 : decode cX11_strikes 16 = .ok (.getfield 111, 3) := by decide +kernel
theorem dX11_strikes_26 : decode cX11_strikes 26 = .ok (.aload_n 0, 1) := by decide +kernel
theorem dX11_strikes_27 : decode cX11_strikes 27 = .ok (.invokevirtual 312, 3) := by decide +kernel
theorem dX11_strikes_30 : decode cX11_strikes 30 = .ok (.aload_n 0, 1) := by decide +kernel
theorem dX11_strikes_31 : decode cX11_strikes 31 = .ok (.getfield 77, 3) := by decide +kernel
theorem dX11_strikes_34 : decode cX11_strikes 34 = .ok (.iload_n 1, 1) := by decide +kernel
theorem dX11_strikes_35 : decode cX11_strikes 35 = .ok (.iaload, 1) := by decide +kernel
theorem dX11_strikes_36 : decode cX11_strikes 36 = .ok (.ireturn, 1) := by decide +kernel
theorem dX11_strikes_22 : decode cX11_strikes 22 = .ok (.ldc_w 277, 3) := by decide +kernel
theorem dX11_strikes_25 : decode cX11_strikes 25 = .ok (.ireturn, 1) := by decide +kernel
theorem dX11_strikes_19 : decode cX11_strikes 19 = .ok (.ifCond .ne 7, 3) := by decide +kernel
theorem dX11_strikes_12 : decode cX11_strikes 12 = .ok (.ldc 127, 2) := by decide +kernel
theorem dX11_strikes_14 : decode cX11_strikes 14 = .ok (.ireturn, 1) := by decide +kernel
theorem dX11_strikes_9 : decode cX11_strikes 9 = .ok (.ifCond .ne 6, 3) := by decide +kernel
theorem bX11_strikes (x : bo_X) (hx : bo_OK x cX11_strikes RX11 2 5 116) (σ : bo_M) (p1 : Int32) : bo_D x 0 [(0, .ref (bo_a x 135)), (1, .int p1)] [] σ (mX11_strikes σ p1) (bo_Rw x cX11_strikes false) := by
  unfold mX11_strikes
  refine bo_iload_n hx dX11_strikes_0 rfl 1 rfl ?_
  refine bo_i2l hx dX11_strikes_1 ?_
  refine bo_lconst (v := 0) hx dX11_strikes_2 (by decide) ?_
  refine bo_ldc2 (v := 191) hx dX11_strikes_3 wl_X11_310 ?_
  refine bo_goR (z := true) hx (fun rr hh => bo_runS (As := [.long (Int32.toInt64 p1), .long 0, .long 191]) (S := []) hx dX11_strikes_6 lk_X11_118 ms_X11_in (kX11_in (bo_l x) (bo_g x) hx.inj σ (Int32.toInt64 p1) 0 191 rr hh) ⟨by decide, by decide⟩ rfl rfl (Nat.le_of_ble_eq_true rfl)) (fun v1 hv1 => ?_)
  refine bo_if_ne hx 15 dX11_strikes_9 (by decide) ?_ ?_
  · refine bo_aload_n hx dX11_strikes_15 rfl 0 rfl ?_
    refine gf_X11_111 hx dX11_strikes_16 ?_
    refine bo_if_ne hx 26 dX11_strikes_19 (by decide) ?_ ?_
    · refine bo_aload_n hx dX11_strikes_26 rfl 0 rfl ?_
      refine bo_goV hx (fun rr hh => bo_runV (As := []) (S := []) hx dX11_strikes_27 lk_X11_312 mi_X11_lookAhead bo_o_135 rfl rfl (kX11_lookAhead (bo_l x) (bo_g x) hx.inj σ rr hh) ⟨by decide, by decide⟩ rfl rfl (Nat.le_of_ble_eq_true rfl)) (fun σ2 => ?_)
      refine bo_aload_n hx dX11_strikes_30 rfl 0 rfl ?_
      refine gf_X11_77 hx dX11_strikes_31 ?_
      refine bo_iload_n hx dX11_strikes_34 rfl 1 rfl ?_
      refine bo_iald hx bo_c_157 dX11_strikes_35 (fun v3 => ?_)
      exact bo_retw dX11_strikes_36 (fun h => by cases h)
    · refine bo_ldcw (v := (-1000000003)) hx dX11_strikes_22 wc_X11_277 ?_
      exact bo_retw dX11_strikes_25 (fun h => by cases h)
  · refine bo_ldc (v := (-1000000002)) hx dX11_strikes_12 wc_X11_127 ?_
    exact bo_retw dX11_strikes_14 (fun h => by cases h)
theorem kX11_strikes (l : Launch) (g : bo_G) (hi : bo_inj g) (σ : bo_M) (p1 : Int32) : bo_CW l g yX11_strikes cX11_strikes 2 (some .int) 5 116 [.ref (g.2.2 135), .int p1] σ false (mX11_strikes σ p1) :=
  bo_metW rfl (Or.inl ⟨rfl, rfl⟩) (by decide) rfl hi (Nat.le_of_ble_eq_true rfl) (fun x e1 e2 hx => by subst e1; subst e2; exact bX11_strikes x hx σ p1)
-- BellRopeModel.firstHeard
theorem dX11_firstHeard_0 : decode cX11_firstHeard 0 = .ok (.iconst 0, 1) := by decide +kernel
theorem dX11_firstHeard_1 : decode cX11_firstHeard 1 = .ok (.istore_n 3, 1) := by decide +kernel
theorem dX11_firstHeard_2 : decode cX11_firstHeard 2 = .ok (.iload_n 3, 1) := by decide +kernel
theorem dX11_firstHeard_3 : decode cX11_firstHeard 3 = .ok (.iload_n 2, 1) := by decide +kernel
theorem dX11_firstHeard_25 : decode cX11_firstHeard 25 = .ok (.iconst (-1), 1) := by decide +kernel
theorem dX11_firstHeard_26 : decode cX11_firstHeard 26 = .ok (.ireturn, 1) := by decide +kernel
theorem dX11_firstHeard_7 : decode cX11_firstHeard 7 = .ok (.aload_n 0, 1) := by decide +kernel
theorem dX11_firstHeard_8 : decode cX11_firstHeard 8 = .ok (.getfield 77, 3) := by decide +kernel
theorem dX11_firstHeard_11 : decode cX11_firstHeard 11 = .ok (.iload_n 3, 1) := by decide +kernel
theorem dX11_firstHeard_12 : decode cX11_firstHeard 12 = .ok (.iaload, 1) := by decide +kernel
theorem dX11_firstHeard_13 : decode cX11_firstHeard 13 = .ok (.iload_n 1, 1) := by decide +kernel
theorem dX11_firstHeard_19 : decode cX11_firstHeard 19 = .ok (.iinc 3 1, 3) := by decide +kernel
theorem dX11_firstHeard_22 : decode cX11_firstHeard 22 = .ok (.goto (-20), 3) := by decide +kernel
theorem dX11_firstHeard_17 : decode cX11_firstHeard 17 = .ok (.iload_n 3, 1) := by decide +kernel
theorem dX11_firstHeard_18 : decode cX11_firstHeard 18 = .ok (.ireturn, 1) := by decide +kernel
theorem dX11_firstHeard_14 : decode cX11_firstHeard 14 = .ok (.if_icmp .lt 5, 3) := by decide +kernel
theorem dX11_firstHeard_4 : decode cX11_firstHeard 4 = .ok (.if_icmp .ge 21, 3) := by decide +kernel
theorem lX11_firstHeard_L2 (x : bo_X) (hx : bo_OK x cX11_firstHeard RX11 4 0 0) (σ : bo_M) (f1 : Int32) (f2 : Int32) : ∀ (n : Nat) (w3 : Int32), bo_D x 2 [(0, .ref (bo_a x 135)), (1, .int f1), (2, .int f2), (3, .int w3)] [] σ (mX11_firstHeard_L2 σ f1 f2 n w3) (bo_Ri x cX11_firstHeard σ false) := by
  intro n
  induction n with
  | zero => intro w3; exact bo_none
  | succ n ih =>
    intro w3
    rw [mX11_firstHeard_L2]
    refine bo_iload_n hx dX11_firstHeard_2 rfl 3 rfl ?_
    refine bo_iload_n hx dX11_firstHeard_3 rfl 2 rfl ?_
    refine bo_icmp_ge hx 25 dX11_firstHeard_4 (by decide) ?_ ?_
    · refine bo_iconst (v := (-1)) hx dX11_firstHeard_25 (by decide) ?_
      exact bo_ret dX11_firstHeard_26 (fun h => by cases h)
    · refine bo_aload_n hx dX11_firstHeard_7 rfl 0 rfl ?_
      refine gf_X11_77 hx dX11_firstHeard_8 ?_
      refine bo_iload_n hx dX11_firstHeard_11 rfl 3 rfl ?_
      refine bo_iald hx bo_c_157 dX11_firstHeard_12 (fun v1 => ?_)
      refine bo_iload_n hx dX11_firstHeard_13 rfl 1 rfl ?_
      refine bo_icmp_lt hx 19 dX11_firstHeard_14 (by decide) ?_ ?_
      · refine bo_iinc (L' := [(3, .int (w3 + 1)), (0, .ref (bo_a x 135)), (1, .int f1), (2, .int f2)]) (w := (w3 + 1)) hx dX11_firstHeard_19 3 rfl rfl (by decide) rfl ?_
        refine bo_goto hx 2 dX11_firstHeard_22 (by decide) ?_
        refine bo_sub (L' := [(0, .ref (bo_a x 135)), (1, .int f1), (2, .int f2), (3, .int (w3 + 1))]) [1, 2, 3, 0] rfl ?_
        exact ih (w3 + 1)
      · refine bo_iload_n hx dX11_firstHeard_17 rfl 3 rfl ?_
        exact bo_ret dX11_firstHeard_18 (fun h => by cases h)
theorem bX11_firstHeard (x : bo_X) (hx : bo_OK x cX11_firstHeard RX11 4 0 0) (σ : bo_M) (p1 : Int32) (p2 : Int32) : bo_D x 0 [(0, .ref (bo_a x 135)), (1, .int p1), (2, .int p2)] [] σ (mX11_firstHeard σ p1 p2) (bo_Ri x cX11_firstHeard σ false) := by
  unfold mX11_firstHeard
  refine bo_iconst (v := 0) hx dX11_firstHeard_0 (by decide) ?_
  refine bo_istore_n (L' := [(3, .int 0), (0, .ref (bo_a x 135)), (1, .int p1), (2, .int p2)]) hx dX11_firstHeard_1 rfl (by decide) rfl ?_
  refine bo_sub (L' := [(0, .ref (bo_a x 135)), (1, .int p1), (2, .int p2), (3, .int 0)]) [1, 2, 3, 0] rfl ?_
  exact lX11_firstHeard_L2 x hx σ p1 p2 bo_fuel 0
theorem kX11_firstHeard (l : Launch) (g : bo_G) (hi : bo_inj g) (σ : bo_M) (p1 : Int32) (p2 : Int32) : bo_CR l g yX11_firstHeard cX11_firstHeard 4 (some .int) 0 0 [.ref (g.2.2 135), .int p1, .int p2] σ false (mX11_firstHeard σ p1 p2) :=
  bo_metR rfl (Or.inl ⟨rfl, rfl⟩) (by decide) rfl hi (Nat.le_of_ble_eq_true rfl) (fun x e1 e2 hx => by subst e1; subst e2; exact bX11_firstHeard x hx σ p1 p2)
-- BellRopeModel.when
theorem dX11_when_0 : decode cX11_when 0 = .ok (.iload_n 1, 1) := by decide +kernel
theorem dX11_when_1 : decode cX11_when 1 = .ok (.i2l, 1) := by decide +kernel
theorem dX11_when_2 : decode cX11_when 2 = .ok (.lconst 1, 1) := by decide +kernel
theorem dX11_when_3 : decode cX11_when 3 = .ok (.ldc2_w 315, 3) := by decide +kernel
theorem dX11_when_6 : decode cX11_when 6 = .ok (.invokestatic 118, 3) := by decide +kernel
theorem dX11_when_15 : decode cX11_when 15 = .ok (.aload_n 0, 1) := by decide +kernel
theorem dX11_when_16 : decode cX11_when 16 = .ok (.getfield 111, 3) := by decide +kernel
theorem dX11_when_26 : decode cX11_when 26 = .ok (.aload_n 0, 1) := by decide +kernel
theorem dX11_when_27 : decode cX11_when 27 = .ok (.invokevirtual 312, 3) := by decide +kernel
theorem dX11_when_30 : decode cX11_when 30 = .ok (.aload_n 0, 1) := by decide +kernel
theorem dX11_when_31 : decode cX11_when 31 = .ok (.iload_n 1, 1) := by decide +kernel
theorem dX11_when_32 : decode cX11_when 32 = .ok (.sipush 192, 3) := by decide +kernel
theorem dX11_when_35 : decode cX11_when 35 = .ok (.invokevirtual 317, 3) := by decide +kernel
theorem dX11_when_38 : decode cX11_when 38 = .ok (.ireturn, 1) := by decide +kernel
theorem dX11_when_22 : decode cX11_when 22 = .ok (.ldc_w 277, 3) := by decide +kernel
theorem dX11_when_25 : decode cX11_when 25 = .ok (.ireturn, 1) := by decide +kernel
theorem dX11_when_19 : decode cX11_when 19 = .ok (.ifCond .ne 7, 3) := by decide +kernel
theorem dX11_when_12 : decode cX11_when 12 = .ok (.ldc 127, 2) := by decide +kernel
theorem dX11_when_14 : decode cX11_when 14 = .ok (.ireturn, 1) := by decide +kernel
theorem dX11_when_9 : decode cX11_when 9 = .ok (.ifCond .ne 6, 3) := by decide +kernel
theorem bX11_when (x : bo_X) (hx : bo_OK x cX11_when RX11 2 5 116) (σ : bo_M) (p1 : Int32) : bo_D x 0 [(0, .ref (bo_a x 135)), (1, .int p1)] [] σ (mX11_when σ p1) (bo_Rw x cX11_when false) := by
  unfold mX11_when
  refine bo_iload_n hx dX11_when_0 rfl 1 rfl ?_
  refine bo_i2l hx dX11_when_1 ?_
  refine bo_lconst (v := 1) hx dX11_when_2 (by decide) ?_
  refine bo_ldc2 (v := 16) hx dX11_when_3 wl_X11_315 ?_
  refine bo_goR (z := true) hx (fun rr hh => bo_runS (As := [.long (Int32.toInt64 p1), .long 1, .long 16]) (S := []) hx dX11_when_6 lk_X11_118 ms_X11_in (kX11_in (bo_l x) (bo_g x) hx.inj σ (Int32.toInt64 p1) 1 16 rr hh) ⟨by decide, by decide⟩ rfl rfl (Nat.le_of_ble_eq_true rfl)) (fun v1 hv1 => ?_)
  refine bo_if_ne hx 15 dX11_when_9 (by decide) ?_ ?_
  · refine bo_aload_n hx dX11_when_15 rfl 0 rfl ?_
    refine gf_X11_111 hx dX11_when_16 ?_
    refine bo_if_ne hx 26 dX11_when_19 (by decide) ?_ ?_
    · refine bo_aload_n hx dX11_when_26 rfl 0 rfl ?_
      refine bo_goV hx (fun rr hh => bo_runV (As := []) (S := []) hx dX11_when_27 lk_X11_312 mi_X11_lookAhead bo_o_135 rfl rfl (kX11_lookAhead (bo_l x) (bo_g x) hx.inj σ rr hh) ⟨by decide, by decide⟩ rfl rfl (Nat.le_of_ble_eq_true rfl)) (fun σ2 => ?_)
      refine bo_aload_n hx dX11_when_30 rfl 0 rfl ?_
      refine bo_iload_n hx dX11_when_31 rfl 1 rfl ?_
      refine bo_sipush (v := 192) hx dX11_when_32 (by decide) ?_
      refine bo_goR (z := false) hx (fun rr hh => bo_runV (As := [.int p1, .int 192]) (S := []) hx dX11_when_35 lk_X11_317 mi_X11_firstHeard bo_o_135 rfl rfl (kX11_firstHeard (bo_l x) (bo_g x) hx.inj σ2 p1 192 rr hh) ⟨by decide, by decide⟩ rfl rfl (Nat.le_of_ble_eq_true rfl)) (fun v3 hv3 => ?_)
      exact bo_retw dX11_when_38 (fun h => by cases h)
    · refine bo_ldcw (v := (-1000000003)) hx dX11_when_22 wc_X11_277 ?_
      exact bo_retw dX11_when_25 (fun h => by cases h)
  · refine bo_ldc (v := (-1000000002)) hx dX11_when_12 wc_X11_127 ?_
    exact bo_retw dX11_when_14 (fun h => by cases h)
theorem kX11_when (l : Launch) (g : bo_G) (hi : bo_inj g) (σ : bo_M) (p1 : Int32) : bo_CW l g yX11_when cX11_when 2 (some .int) 5 116 [.ref (g.2.2 135), .int p1] σ false (mX11_when σ p1) :=
  bo_metW rfl (Or.inl ⟨rfl, rfl⟩) (by decide) rfl hi (Nat.le_of_ble_eq_true rfl) (fun x e1 e2 hx => by subst e1; subst e2; exact bX11_when x hx σ p1)
-- BellRopeModel.hour
theorem dX11_hour_0 : decode cX11_hour 0 = .ok (.iload_n 1, 1) := by decide +kernel
theorem dX11_hour_1 : decode cX11_hour 1 = .ok (.i2l, 1) := by decide +kernel
theorem dX11_hour_2 : decode cX11_hour 2 = .ok (.lconst 0, 1) := by decide +kernel
theorem dX11_hour_3 : decode cX11_hour 3 = .ok (.ldc2_w 320, 3) := by decide +kernel
theorem dX11_hour_6 : decode cX11_hour 6 = .ok (.invokestatic 118, 3) := by decide +kernel
theorem dX11_hour_15 : decode cX11_hour 15 = .ok (.aload_n 0, 1) := by decide +kernel
theorem dX11_hour_16 : decode cX11_hour 16 = .ok (.getfield 111, 3) := by decide +kernel
theorem dX11_hour_26 : decode cX11_hour 26 = .ok (.aload_n 0, 1) := by decide +kernel
theorem dX11_hour_27 : decode cX11_hour 27 = .ok (.invokevirtual 312, 3) := by decide +kernel
theorem dX11_hour_30 : decode cX11_hour 30 = .ok (.iload_n 1, 1) := by decide +kernel
theorem dX11_hour_44 : decode cX11_hour 44 = .ok (.aload_n 0, 1) := by decide +kernel
theorem dX11_hour_45 : decode cX11_hour 45 = .ok (.getfield 80, 3) := by decide +kernel
theorem dX11_hour_48 : decode cX11_hour 48 = .ok (.iload_n 1, 1) := by decide +kernel
theorem dX11_hour_49 : decode cX11_hour 49 = .ok (.iconst 1, 1) := by decide +kernel
theorem dX11_hour_50 : decode cX11_hour 50 = .ok (.isub, 1) := by decide +kernel
theorem dX11_hour_51 : decode cX11_hour 51 = .ok (.iaload, 1) := by decide +kernel
theorem dX11_hour_52 : decode cX11_hour 52 = .ok (.ireturn, 1) := by decide +kernel
theorem dX11_hour_34 : decode cX11_hour 34 = .ok (.aload_n 0, 1) := by decide +kernel
theorem dX11_hour_35 : decode cX11_hour 35 = .ok (.getfield 34, 3) := by decide +kernel
theorem dX11_hour_38 : decode cX11_hour 38 = .ok (.bipush 22, 2) := by decide +kernel
theorem dX11_hour_40 : decode cX11_hour 40 = .ok (.iaload, 1) := by decide +kernel
theorem dX11_hour_41 : decode cX11_hour 41 = .ok (.goto 11, 3) := by decide +kernel
theorem dX11_hour_31 : decode cX11_hour 31 = .ok (.ifCond .ne 13, 3) := by decide +kernel
theorem dX11_hour_22 : decode cX11_hour 22 = .ok (.ldc_w 277, 3) := by decide +kernel
theorem dX11_hour_25 : decode cX11_hour 25 = .ok (.ireturn, 1) := by decide +kernel
theorem dX11_hour_19 : decode cX11_hour 19 = .ok (.ifCond .ne 7, 3) := by decide +kernel
theorem dX11_hour_12 : decode cX11_hour 12 = .ok (.ldc 127, 2) := by decide +kernel
theorem dX11_hour_14 : decode cX11_hour 14 = .ok (.ireturn, 1) := by decide +kernel
theorem dX11_hour_9 : decode cX11_hour 9 = .ok (.ifCond .ne 6, 3) := by decide +kernel
theorem bX11_hour (x : bo_X) (hx : bo_OK x cX11_hour RX11 2 5 116) (σ : bo_M) (p1 : Int32) : bo_D x 0 [(0, .ref (bo_a x 135)), (1, .int p1)] [] σ (mX11_hour σ p1) (bo_Rw x cX11_hour false) := by
  unfold mX11_hour
  refine bo_iload_n hx dX11_hour_0 rfl 1 rfl ?_
  refine bo_i2l hx dX11_hour_1 ?_
  refine bo_lconst (v := 0) hx dX11_hour_2 (by decide) ?_
  refine bo_ldc2 (v := 192) hx dX11_hour_3 wl_X11_320 ?_
  refine bo_goR (z := true) hx (fun rr hh => bo_runS (As := [.long (Int32.toInt64 p1), .long 0, .long 192]) (S := []) hx dX11_hour_6 lk_X11_118 ms_X11_in (kX11_in (bo_l x) (bo_g x) hx.inj σ (Int32.toInt64 p1) 0 192 rr hh) ⟨by decide, by decide⟩ rfl rfl (Nat.le_of_ble_eq_true rfl)) (fun v1 hv1 => ?_)
  refine bo_if_ne hx 15 dX11_hour_9 (by decide) ?_ ?_
  · refine bo_aload_n hx dX11_hour_15 rfl 0 rfl ?_
    refine gf_X11_111 hx dX11_hour_16 ?_
    refine bo_if_ne hx 26 dX11_hour_19 (by decide) ?_ ?_
    · refine bo_aload_n hx dX11_hour_26 rfl 0 rfl ?_
      refine bo_goV hx (fun rr hh => bo_runV (As := []) (S := []) hx dX11_hour_27 lk_X11_312 mi_X11_lookAhead bo_o_135 rfl rfl (kX11_lookAhead (bo_l x) (bo_g x) hx.inj σ rr hh) ⟨by decide, by decide⟩ rfl rfl (Nat.le_of_ble_eq_true rfl)) (fun σ2 => ?_)
      refine bo_iload_n hx dX11_hour_30 rfl 1 rfl ?_
      refine bo_if_ne hx 44 dX11_hour_31 (by decide) ?_ ?_
      · refine bo_aload_n hx dX11_hour_44 rfl 0 rfl ?_
        refine gf_X11_80 hx dX11_hour_45 ?_
        refine bo_iload_n hx dX11_hour_48 rfl 1 rfl ?_
        refine bo_iconst (v := 1) hx dX11_hour_49 (by decide) ?_
        refine bo_isub hx dX11_hour_50 ?_
        refine bo_iald hx bo_c_158 dX11_hour_51 (fun v3 => ?_)
        exact bo_retw dX11_hour_52 (fun h => by cases h)
      · refine bo_aload_n hx dX11_hour_34 rfl 0 rfl ?_
        refine gf_X11_34 hx dX11_hour_35 ?_
        refine bo_bipush (v := 22) hx dX11_hour_38 (by decide) ?_
        refine bo_iald hx bo_c_144 dX11_hour_40 (fun v4 => ?_)
        refine bo_goto hx 52 dX11_hour_41 (by decide) ?_
        exact bo_retw dX11_hour_52 (fun h => by cases h)
    · refine bo_ldcw (v := (-1000000003)) hx dX11_hour_22 wc_X11_277 ?_
      exact bo_retw dX11_hour_25 (fun h => by cases h)
  · refine bo_ldc (v := (-1000000002)) hx dX11_hour_12 wc_X11_127 ?_
    exact bo_retw dX11_hour_14 (fun h => by cases h)
theorem kX11_hour (l : Launch) (g : bo_G) (hi : bo_inj g) (σ : bo_M) (p1 : Int32) : bo_CW l g yX11_hour cX11_hour 2 (some .int) 5 116 [.ref (g.2.2 135), .int p1] σ false (mX11_hour σ p1) :=
  bo_metW rfl (Or.inl ⟨rfl, rfl⟩) (by decide) rfl hi (Nat.le_of_ble_eq_true rfl) (fun x e1 e2 hx => by subst e1; subst e2; exact bX11_hour x hx σ p1)
-- BellRopeModel.noon
theorem dX11_noon_0 : decode cX11_noon 0 = .ok (.aload_n 0, 1) := by decide +kernel
theorem dX11_noon_1 : decode cX11_noon 1 = .ok (.getfield 111, 3) := by decide +kernel
theorem dX11_noon_11 : decode cX11_noon 11 = .ok (.aload_n 0, 1) := by decide +kernel
theorem dX11_noon_12 : decode cX11_noon 12 = .ok (.invokevirtual 312, 3) := by decide +kernel
theorem dX11_noon_15 : decode cX11_noon 15 = .ok (.iconst 0, 1) := by decide +kernel
theorem dX11_noon_16 : decode cX11_noon 16 = .ok (.istore_n 1, 1) := by decide +kernel
theorem dX11_noon_17 : decode cX11_noon 17 = .ok (.iload_n 1, 1) := by decide +kernel
theorem dX11_noon_18 : decode cX11_noon 18 = .ok (.sipush 192, 3) := by decide +kernel
theorem dX11_noon_52 : decode cX11_noon 52 = .ok (.iconst (-1), 1) := by decide +kernel
theorem dX11_noon_53 : decode cX11_noon 53 = .ok (.ireturn, 1) := by decide +kernel
theorem dX11_noon_24 : decode cX11_noon 24 = .ok (.aload_n 0, 1) := by decide +kernel
theorem dX11_noon_25 : decode cX11_noon 25 = .ok (.getfield 77, 3) := by decide +kernel
theorem dX11_noon_28 : decode cX11_noon 28 = .ok (.iload_n 1, 1) := by decide +kernel
theorem dX11_noon_29 : decode cX11_noon 29 = .ok (.iaload, 1) := by decide +kernel
theorem dX11_noon_46 : decode cX11_noon 46 = .ok (.iinc 1 1, 3) := by decide +kernel
theorem dX11_noon_49 : decode cX11_noon 49 = .ok (.goto (-32), 3) := by decide +kernel
theorem dX11_noon_33 : decode cX11_noon 33 = .ok (.aload_n 0, 1) := by decide +kernel
theorem dX11_noon_34 : decode cX11_noon 34 = .ok (.getfield 80, 3) := by decide +kernel
theorem dX11_noon_37 : decode cX11_noon 37 = .ok (.iload_n 1, 1) := by decide +kernel
theorem dX11_noon_38 : decode cX11_noon 38 = .ok (.iaload, 1) := by decide +kernel
theorem dX11_noon_42 : decode cX11_noon 42 = .ok (.iload_n 1, 1) := by decide +kernel
theorem dX11_noon_43 : decode cX11_noon 43 = .ok (.iconst 1, 1) := by decide +kernel
theorem dX11_noon_44 : decode cX11_noon 44 = .ok (.iadd, 1) := by decide +kernel
theorem dX11_noon_45 : decode cX11_noon 45 = .ok (.ireturn, 1) := by decide +kernel
theorem dX11_noon_39 : decode cX11_noon 39 = .ok (.ifCond .ne 7, 3) := by decide +kernel
theorem dX11_noon_30 : decode cX11_noon 30 = .ok (.ifCond .le 16, 3) := by decide +kernel
theorem dX11_noon_21 : decode cX11_noon 21 = .ok (.if_icmp .ge 31, 3) := by decide +kernel
theorem dX11_noon_7 : decode cX11_noon 7 = .ok (.ldc_w 277, 3) := by decide +kernel
theorem dX11_noon_10 : decode cX11_noon 10 = .ok (.ireturn, 1) := by decide +kernel
theorem dX11_noon_4 : decode cX11_noon 4 = .ok (.ifCond .ne 7, 3) := by decide +kernel
theorem lX11_noon_L17 (x : bo_X) (hx : bo_OK x cX11_noon RX11 2 5 116) (σ : bo_M) : ∀ (n : Nat) (w1 : Int32), bo_D x 17 [(0, .ref (bo_a x 135)), (1, .int w1)] [] σ (mX11_noon_L17 σ n w1) (bo_Rw x cX11_noon false) := by
  intro n
  induction n with
  | zero => intro w1; exact bo_none
  | succ n ih =>
    intro w1
    rw [mX11_noon_L17]
    refine bo_iload_n hx dX11_noon_17 rfl 1 rfl ?_
    refine bo_sipush (v := 192) hx dX11_noon_18 (by decide) ?_
    refine bo_icmp_ge hx 52 dX11_noon_21 (by decide) ?_ ?_
    · refine bo_iconst (v := (-1)) hx dX11_noon_52 (by decide) ?_
      exact bo_retw dX11_noon_53 (fun h => by cases h)
    · refine bo_aload_n hx dX11_noon_24 rfl 0 rfl ?_
      refine gf_X11_77 hx dX11_noon_25 ?_
      refine bo_iload_n hx dX11_noon_28 rfl 1 rfl ?_
      refine bo_iald hx bo_c_157 dX11_noon_29 (fun v2 => ?_)
      refine bo_if_le hx 46 dX11_noon_30 (by decide) ?_ ?_
      · refine bo_iinc (L' := [(1, .int (w1 + 1)), (0, .ref (bo_a x 135))]) (w := (w1 + 1)) hx dX11_noon_46 1 rfl rfl (by decide) rfl ?_
        refine bo_goto hx 17 dX11_noon_49 (by decide) ?_
        refine bo_sub (L' := [(0, .ref (bo_a x 135)), (1, .int (w1 + 1))]) [1, 0] rfl ?_
        exact ih (w1 + 1)
      · refine bo_aload_n hx dX11_noon_33 rfl 0 rfl ?_
        refine gf_X11_80 hx dX11_noon_34 ?_
        refine bo_iload_n hx dX11_noon_37 rfl 1 rfl ?_
        refine bo_iald hx bo_c_158 dX11_noon_38 (fun v3 => ?_)
        refine bo_if_ne hx 46 dX11_noon_39 (by decide) ?_ ?_
        · refine bo_iinc (L' := [(1, .int (w1 + 1)), (0, .ref (bo_a x 135))]) (w := (w1 + 1)) hx dX11_noon_46 1 rfl rfl (by decide) rfl ?_
          refine bo_goto hx 17 dX11_noon_49 (by decide) ?_
          refine bo_sub (L' := [(0, .ref (bo_a x 135)), (1, .int (w1 + 1))]) [1, 0] rfl ?_
          exact ih (w1 + 1)
        · refine bo_iload_n hx dX11_noon_42 rfl 1 rfl ?_
          refine bo_iconst (v := 1) hx dX11_noon_43 (by decide) ?_
          refine bo_iadd hx dX11_noon_44 ?_
          exact bo_retw dX11_noon_45 (fun h => by cases h)
theorem bX11_noon (x : bo_X) (hx : bo_OK x cX11_noon RX11 2 5 116) (σ : bo_M) : bo_D x 0 [(0, .ref (bo_a x 135))] [] σ (mX11_noon σ) (bo_Rw x cX11_noon false) := by
  unfold mX11_noon
  refine bo_aload_n hx dX11_noon_0 rfl 0 rfl ?_
  refine gf_X11_111 hx dX11_noon_1 ?_
  refine bo_if_ne hx 11 dX11_noon_4 (by decide) ?_ ?_
  · refine bo_aload_n hx dX11_noon_11 rfl 0 rfl ?_
    refine bo_goV hx (fun rr hh => bo_runV (As := []) (S := []) hx dX11_noon_12 lk_X11_312 mi_X11_lookAhead bo_o_135 rfl rfl (kX11_lookAhead (bo_l x) (bo_g x) hx.inj σ rr hh) ⟨by decide, by decide⟩ rfl rfl (Nat.le_of_ble_eq_true rfl)) (fun σ1 => ?_)
    refine bo_iconst (v := 0) hx dX11_noon_15 (by decide) ?_
    refine bo_istore_n (L' := [(1, .int 0), (0, .ref (bo_a x 135))]) hx dX11_noon_16 rfl (by decide) rfl ?_
    refine bo_sub (L' := [(0, .ref (bo_a x 135)), (1, .int 0)]) [1, 0] rfl ?_
    exact lX11_noon_L17 x hx σ1 bo_fuel 0
  · refine bo_ldcw (v := (-1000000003)) hx dX11_noon_7 wc_X11_277 ?_
    exact bo_retw dX11_noon_10 (fun h => by cases h)
theorem kX11_noon (l : Launch) (g : bo_G) (hi : bo_inj g) (σ : bo_M) : bo_CW l g yX11_noon cX11_noon 2 (some .int) 5 116 [.ref (g.2.2 135)] σ false (mX11_noon σ) :=
  bo_metW rfl (Or.inl ⟨rfl, rfl⟩) (by decide) rfl hi (Nat.le_of_ble_eq_true rfl) (fun x e1 e2 hx => by subst e1; subst e2; exact bX11_noon x hx σ)
-- BellRopeModel.isLate
theorem dX11_isLate_0 : decode cX11_isLate 0 = .ok (.aload_n 0, 1) := by decide +kernel
theorem dX11_isLate_1 : decode cX11_isLate 1 = .ok (.iload_n 2, 1) := by decide +kernel
theorem dX11_isLate_2 : decode cX11_isLate 2 = .ok (.bipush 96, 2) := by decide +kernel
theorem dX11_isLate_4 : decode cX11_isLate 4 = .ok (.invokevirtual 317, 3) := by decide +kernel
theorem dX11_isLate_7 : decode cX11_isLate 7 = .ok (.istore_n 3, 1) := by decide +kernel
theorem dX11_isLate_8 : decode cX11_isLate 8 = .ok (.aload_n 0, 1) := by decide +kernel
theorem dX11_isLate_9 : decode cX11_isLate 9 = .ok (.getfield 25, 3) := by decide +kernel
theorem dX11_isLate_12 : decode cX11_isLate 12 = .ok (.iload_n 1, 1) := by decide +kernel
theorem dX11_isLate_13 : decode cX11_isLate 13 = .ok (.iaload, 1) := by decide +kernel
theorem dX11_isLate_14 : decode cX11_isLate 14 = .ok (.bipush 96, 2) := by decide +kernel
theorem dX11_isLate_16 : decode cX11_isLate 16 = .ok (.iadd, 1) := by decide +kernel
theorem dX11_isLate_17 : decode cX11_isLate 17 = .ok (.aload_n 0, 1) := by decide +kernel
theorem dX11_isLate_18 : decode cX11_isLate 18 = .ok (.getfield 34, 3) := by decide +kernel
theorem dX11_isLate_21 : decode cX11_isLate 21 = .ok (.bipush 21, 2) := by decide +kernel
theorem dX11_isLate_23 : decode cX11_isLate 23 = .ok (.iaload, 1) := by decide +kernel
theorem dX11_isLate_24 : decode cX11_isLate 24 = .ok (.bipush 96, 2) := by decide +kernel
theorem dX11_isLate_26 : decode cX11_isLate 26 = .ok (.irem, 1) := by decide +kernel
theorem dX11_isLate_27 : decode cX11_isLate 27 = .ok (.isub, 1) := by decide +kernel
theorem dX11_isLate_28 : decode cX11_isLate 28 = .ok (.bipush 96, 2) := by decide +kernel
theorem dX11_isLate_30 : decode cX11_isLate 30 = .ok (.irem, 1) := by decide +kernel
theorem dX11_isLate_31 : decode cX11_isLate 31 = .ok (.istore 4, 2) := by decide +kernel
theorem dX11_isLate_33 : decode cX11_isLate 33 = .ok (.iload_n 3, 1) := by decide +kernel
theorem dX11_isLate_50 : decode cX11_isLate 50 = .ok (.iconst 1, 1) := by decide +kernel
theorem dX11_isLate_51 : decode cX11_isLate 51 = .ok (.goto 4, 3) := by decide +kernel
theorem dX11_isLate_55 : decode cX11_isLate 55 = .ok (.ireturn, 1) := by decide +kernel
theorem dX11_isLate_37 : decode cX11_isLate 37 = .ok (.iload_n 3, 1) := by decide +kernel
theorem dX11_isLate_38 : decode cX11_isLate 38 = .ok (.aload_n 0, 1) := by decide +kernel
theorem dX11_isLate_39 : decode cX11_isLate 39 = .ok (.getfield 28, 3) := by decide +kernel
theorem dX11_isLate_42 : decode cX11_isLate 42 = .ok (.iload_n 1, 1) := by decide +kernel
theorem dX11_isLate_43 : decode cX11_isLate 43 = .ok (.iaload, 1) := by decide +kernel
theorem dX11_isLate_44 : decode cX11_isLate 44 = .ok (.iadd, 1) := by decide +kernel
theorem dX11_isLate_45 : decode cX11_isLate 45 = .ok (.iload 4, 2) := by decide +kernel
theorem dX11_isLate_54 : decode cX11_isLate 54 = .ok (.iconst 0, 1) := by decide +kernel
theorem dX11_isLate_47 : decode cX11_isLate 47 = .ok (.if_icmp .le 7, 3) := by decide +kernel
theorem dX11_isLate_34 : decode cX11_isLate 34 = .ok (.ifCond .lt 16, 3) := by decide +kernel
theorem bX11_isLate (x : bo_X) (hx : bo_OK x cX11_isLate RX11 5 1 23) (σ : bo_M) (p1 : Int32) (p2 : Int32) : bo_D x 0 [(0, .ref (bo_a x 135)), (1, .int p1), (2, .int p2)] [] σ (mX11_isLate σ p1 p2) (bo_Ri x cX11_isLate σ true) := by
  unfold mX11_isLate
  refine bo_aload_n hx dX11_isLate_0 rfl 0 rfl ?_
  refine bo_iload_n hx dX11_isLate_1 rfl 2 rfl ?_
  refine bo_bipush (v := 96) hx dX11_isLate_2 (by decide) ?_
  refine bo_goR (z := false) hx (fun rr hh => bo_runV (As := [.int p2, .int 96]) (S := []) hx dX11_isLate_4 lk_X11_317 mi_X11_firstHeard bo_o_135 rfl rfl (kX11_firstHeard (bo_l x) (bo_g x) hx.inj σ p2 96 rr hh) ⟨by decide, by decide⟩ rfl rfl (Nat.le_of_ble_eq_true rfl)) (fun v1 hv1 => ?_)
  refine bo_istore_n (L' := [(3, .int v1), (0, .ref (bo_a x 135)), (1, .int p1), (2, .int p2)]) hx dX11_isLate_7 rfl (by decide) rfl ?_
  refine bo_aload_n hx dX11_isLate_8 rfl 1 rfl ?_
  refine gf_X11_25 hx dX11_isLate_9 ?_
  refine bo_iload_n hx dX11_isLate_12 rfl 2 rfl ?_
  refine bo_iald hx bo_c_141 dX11_isLate_13 (fun v2 => ?_)
  refine bo_bipush (v := 96) hx dX11_isLate_14 (by decide) ?_
  refine bo_iadd hx dX11_isLate_16 ?_
  refine bo_aload_n hx dX11_isLate_17 rfl 1 rfl ?_
  refine gf_X11_34 hx dX11_isLate_18 ?_
  refine bo_bipush (v := 21) hx dX11_isLate_21 (by decide) ?_
  refine bo_iald hx bo_c_144 dX11_isLate_23 (fun v3 => ?_)
  refine bo_bipush (v := 96) hx dX11_isLate_24 (by decide) ?_
  refine bo_iremc hx dX11_isLate_26 (by decide) ?_
  refine bo_isub hx dX11_isLate_27 ?_
  refine bo_bipush (v := 96) hx dX11_isLate_28 (by decide) ?_
  refine bo_iremc hx dX11_isLate_30 (by decide) ?_
  refine bo_istore (L' := [(4, .int (bo_irm ((v2 + 96) - (bo_irm v3 96)) 96)), (3, .int v1), (0, .ref (bo_a x 135)), (1, .int p1), (2, .int p2)]) hx dX11_isLate_31 (by decide) rfl ?_
  refine bo_iload_n hx dX11_isLate_33 rfl 1 rfl ?_
  refine bo_if_lt hx 50 dX11_isLate_34 (by decide) ?_ ?_
  · refine bo_iconst (v := 1) hx dX11_isLate_50 (by decide) ?_
    refine bo_goto hx 55 dX11_isLate_51 (by decide) ?_
    exact bo_ret dX11_isLate_55 (fun _ => bo_b_1)
  · refine bo_iload_n hx dX11_isLate_37 rfl 1 rfl ?_
    refine bo_aload_n hx dX11_isLate_38 rfl 2 rfl ?_
    refine gf_X11_28 hx dX11_isLate_39 ?_
    refine bo_iload_n hx dX11_isLate_42 rfl 3 rfl ?_
    refine bo_iald hx bo_c_142 dX11_isLate_43 (fun v4 => ?_)
    refine bo_iadd hx dX11_isLate_44 ?_
    refine bo_iload hx dX11_isLate_45 0 rfl ?_
    refine bo_icmp_le hx 54 dX11_isLate_47 (by decide) ?_ ?_
    · refine bo_iconst (v := 0) hx dX11_isLate_54 (by decide) ?_
      exact bo_ret dX11_isLate_55 (fun _ => bo_b_0)
    · refine bo_iconst (v := 1) hx dX11_isLate_50 (by decide) ?_
      refine bo_goto hx 55 dX11_isLate_51 (by decide) ?_
      exact bo_ret dX11_isLate_55 (fun _ => bo_b_1)
theorem kX11_isLate (l : Launch) (g : bo_G) (hi : bo_inj g) (σ : bo_M) (p1 : Int32) (p2 : Int32) : bo_CR l g yX11_isLate cX11_isLate 5 (some .boolean) 1 23 [.ref (g.2.2 135), .int p1, .int p2] σ true (mX11_isLate σ p1 p2) :=
  bo_metR rfl (Or.inr ⟨rfl, rfl⟩) (by decide) rfl hi (Nat.le_of_ble_eq_true rfl) (fun x e1 e2 hx => by subst e1; subst e2; exact bX11_isLate x hx σ p1 p2)
-- BellRopeModel.lateOnes
theorem dX11_lateOnes_0 : decode cX11_lateOnes 0 = .ok (.iconst 0, 1) := by decide +kernel
theorem dX11_lateOnes_1 : decode cX11_lateOnes 1 = .ok (.istore_n 2, 1) := by decide +kernel
theorem dX11_lateOnes_2 : decode cX11_lateOnes 2 = .ok (.iconst 0, 1) := by decide +kernel
theorem dX11_lateOnes_3 : decode cX11_lateOnes 3 = .ok (.istore_n 3, 1) := by decide +kernel
theorem dX11_lateOnes_4 : decode cX11_lateOnes 4 = .ok (.iload_n 3, 1) := by decide +kernel
theorem dX11_lateOnes_5 : decode cX11_lateOnes 5 = .ok (.aload_n 0, 1) := by decide +kernel
theorem dX11_lateOnes_6 : decode cX11_lateOnes 6 = .ok (.getfield 122, 3) := by decide +kernel
theorem dX11_lateOnes_12 : decode cX11_lateOnes 12 = .ok (.iload_n 2, 1) := by decide +kernel
theorem dX11_lateOnes_13 : decode cX11_lateOnes 13 = .ok (.aload_n 0, 1) := by decide +kernel
theorem dX11_lateOnes_14 : decode cX11_lateOnes 14 = .ok (.iload_n 3, 1) := by decide +kernel
theorem dX11_lateOnes_15 : decode cX11_lateOnes 15 = .ok (.iload_n 1, 1) := by decide +kernel
theorem dX11_lateOnes_16 : decode cX11_lateOnes 16 = .ok (.invokevirtual 322, 3) := by decide +kernel
theorem dX11_lateOnes_28 : decode cX11_lateOnes 28 = .ok (.iconst 0, 1) := by decide +kernel
theorem dX11_lateOnes_22 : decode cX11_lateOnes 22 = .ok (.iconst 1, 1) := by decide +kernel
theorem dX11_lateOnes_23 : decode cX11_lateOnes 23 = .ok (.iload_n 3, 1) := by decide +kernel
theorem dX11_lateOnes_24 : decode cX11_lateOnes 24 = .ok (.ishl, 1) := by decide +kernel
theorem dX11_lateOnes_25 : decode cX11_lateOnes 25 = .ok (.goto 4, 3) := by decide +kernel
theorem dX11_lateOnes_19 : decode cX11_lateOnes 19 = .ok (.ifCond .eq 9, 3) := by decide +kernel
theorem dX11_lateOnes_29 : decode cX11_lateOnes 29 = .ok (.ior, 1) := by decide +kernel
theorem dX11_lateOnes_30 : decode cX11_lateOnes 30 = .ok (.istore_n 2, 1) := by decide +kernel
theorem dX11_lateOnes_31 : decode cX11_lateOnes 31 = .ok (.iinc 3 1, 3) := by decide +kernel
theorem dX11_lateOnes_34 : decode cX11_lateOnes 34 = .ok (.goto (-30), 3) := by decide +kernel
theorem dX11_lateOnes_9 : decode cX11_lateOnes 9 = .ok (.if_icmp .ge 28, 3) := by decide +kernel
theorem dX11_lateOnes_37 : decode cX11_lateOnes 37 = .ok (.iload_n 2, 1) := by decide +kernel
theorem dX11_lateOnes_38 : decode cX11_lateOnes 38 = .ok (.ireturn, 1) := by decide +kernel
theorem lX11_lateOnes_L4 (x : bo_X) (hx : bo_OK x cX11_lateOnes RX11 4 2 47) (σ : bo_M) (f1 : Int32) : ∀ (n : Nat) (w2 : Int32) (w3 : Int32), bo_D x 4 [(0, .ref (bo_a x 135)), (1, .int f1), (2, .int w2), (3, .int w3)] [] σ (mX11_lateOnes_L4 σ f1 n w2 w3) (fun a => bo_N x 37 [(2, .int a)] [] σ) := by
  intro n
  induction n with
  | zero => intro w2 w3; exact bo_none
  | succ n ih =>
    intro w2 w3
    rw [mX11_lateOnes_L4]
    refine bo_iload_n hx dX11_lateOnes_4 rfl 3 rfl ?_
    refine bo_aload_n hx dX11_lateOnes_5 rfl 0 rfl ?_
    refine gf_X11_122 hx dX11_lateOnes_6 ?_
    refine bo_icmp_ge hx 37 dX11_lateOnes_9 (by decide) ?_ ?_
    · refine bo_sub (L' := [(2, .int w2)]) [2] rfl ?_
      exact bo_arr (fun h => h)
    · refine bo_iload_n hx dX11_lateOnes_12 rfl 2 rfl ?_
      refine bo_aload_n hx dX11_lateOnes_13 rfl 0 rfl ?_
      refine bo_iload_n hx dX11_lateOnes_14 rfl 3 rfl ?_
      refine bo_iload_n hx dX11_lateOnes_15 rfl 1 rfl ?_
      refine bo_goR (z := true) hx (fun rr hh => bo_runV (As := [.int w3, .int f1]) (S := [.int w2]) hx dX11_lateOnes_16 lk_X11_322 mi_X11_isLate bo_o_135 rfl rfl (kX11_isLate (bo_l x) (bo_g x) hx.inj σ w3 f1 rr hh) ⟨by decide, by decide⟩ rfl rfl (Nat.le_of_ble_eq_true rfl)) (fun v1 hv1 => ?_)
      refine bo_seq 29 (fun a => [(0, .ref (bo_a x 135)), (1, .int f1), (3, .int w3)]) (fun a => [.int a, .int w2]) (fun a => σ) ?_ (fun a2 => ?_)
      · refine bo_if_eq hx 28 dX11_lateOnes_19 (by decide) ?_ ?_
        · refine bo_iconst (v := 0) hx dX11_lateOnes_28 (by decide) ?_
          refine bo_sub (L' := [(0, .ref (bo_a x 135)), (1, .int f1), (3, .int w3)]) [0, 1, 3] rfl ?_
          exact bo_arr (fun h => h)
        · refine bo_iconst (v := 1) hx dX11_lateOnes_22 (by decide) ?_
          refine bo_iload_n hx dX11_lateOnes_23 rfl 3 rfl ?_
          refine bo_ishl hx dX11_lateOnes_24 ?_
          refine bo_goto hx 29 dX11_lateOnes_25 (by decide) ?_
          refine bo_sub (L' := [(0, .ref (bo_a x 135)), (1, .int f1), (3, .int w3)]) [0, 1, 3] rfl ?_
          exact bo_arr (fun h => h)
      · refine bo_ior hx dX11_lateOnes_29 ?_
        refine bo_istore_n (L' := [(2, .int (w2 ||| a2)), (0, .ref (bo_a x 135)), (1, .int f1), (3, .int w3)]) hx dX11_lateOnes_30 rfl (by decide) rfl ?_
        refine bo_iinc (L' := [(3, .int (w3 + 1)), (2, .int (w2 ||| a2)), (0, .ref (bo_a x 135)), (1, .int f1)]) (w := (w3 + 1)) hx dX11_lateOnes_31 3 rfl rfl (by decide) rfl ?_
        refine bo_goto hx 4 dX11_lateOnes_34 (by decide) ?_
        refine bo_sub (L' := [(0, .ref (bo_a x 135)), (1, .int f1), (2, .int (w2 ||| a2)), (3, .int (w3 + 1))]) [2, 3, 1, 0] rfl ?_
        exact ih (w2 ||| a2) (w3 + 1)
theorem bX11_lateOnes (x : bo_X) (hx : bo_OK x cX11_lateOnes RX11 4 2 47) (σ : bo_M) (p1 : Int32) : bo_D x 0 [(0, .ref (bo_a x 135)), (1, .int p1)] [] σ (mX11_lateOnes σ p1) (bo_Ri x cX11_lateOnes σ false) := by
  unfold mX11_lateOnes
  refine bo_iconst (v := 0) hx dX11_lateOnes_0 (by decide) ?_
  refine bo_istore_n (L' := [(2, .int 0), (0, .ref (bo_a x 135)), (1, .int p1)]) hx dX11_lateOnes_1 rfl (by decide) rfl ?_
  refine bo_iconst (v := 0) hx dX11_lateOnes_2 (by decide) ?_
  refine bo_istore_n (L' := [(3, .int 0), (2, .int 0), (0, .ref (bo_a x 135)), (1, .int p1)]) hx dX11_lateOnes_3 rfl (by decide) rfl ?_
  refine bo_sub (L' := [(0, .ref (bo_a x 135)), (1, .int p1), (2, .int 0), (3, .int 0)]) [2, 3, 1, 0] rfl ?_
  refine bo_seq 37 (fun a => [(2, .int a)]) (fun a => []) (fun a => σ) (lX11_lateOnes_L4 x hx σ p1 bo_fuel 0 0) (fun a3 => ?_)
  refine bo_iload_n hx dX11_lateOnes_37 rfl 0 rfl ?_
  exact bo_ret dX11_lateOnes_38 (fun h => by cases h)
theorem kX11_lateOnes (l : Launch) (g : bo_G) (hi : bo_inj g) (σ : bo_M) (p1 : Int32) : bo_CR l g yX11_lateOnes cX11_lateOnes 4 (some .int) 2 47 [.ref (g.2.2 135), .int p1] σ false (mX11_lateOnes σ p1) :=
  bo_metR rfl (Or.inl ⟨rfl, rfl⟩) (by decide) rfl hi (Nat.le_of_ble_eq_true rfl) (fun x e1 e2 hx => by subst e1; subst e2; exact bX11_lateOnes x hx σ p1)
-- BellRopeModel.late
theorem dX11_late_0 : decode cX11_late 0 = .ok (.iload_n 1, 1) := by decide +kernel
theorem dX11_late_1 : decode cX11_late 1 = .ok (.i2l, 1) := by decide +kernel
theorem dX11_late_2 : decode cX11_late 2 = .ok (.lconst 1, 1) := by decide +kernel
theorem dX11_late_3 : decode cX11_late 3 = .ok (.ldc2_w 315, 3) := by decide +kernel
theorem dX11_late_6 : decode cX11_late 6 = .ok (.invokestatic 118, 3) := by decide +kernel
theorem dX11_late_15 : decode cX11_late 15 = .ok (.aload_n 0, 1) := by decide +kernel
theorem dX11_late_16 : decode cX11_late 16 = .ok (.getfield 111, 3) := by decide +kernel
theorem dX11_late_26 : decode cX11_late 26 = .ok (.aload_n 0, 1) := by decide +kernel
theorem dX11_late_27 : decode cX11_late 27 = .ok (.invokevirtual 312, 3) := by decide +kernel
theorem dX11_late_30 : decode cX11_late 30 = .ok (.aload_n 0, 1) := by decide +kernel
theorem dX11_late_31 : decode cX11_late 31 = .ok (.iload_n 1, 1) := by decide +kernel
theorem dX11_late_32 : decode cX11_late 32 = .ok (.invokevirtual 325, 3) := by decide +kernel
theorem dX11_late_35 : decode cX11_late 35 = .ok (.ireturn, 1) := by decide +kernel
theorem dX11_late_22 : decode cX11_late 22 = .ok (.ldc_w 277, 3) := by decide +kernel
theorem dX11_late_25 : decode cX11_late 25 = .ok (.ireturn, 1) := by decide +kernel
theorem dX11_late_19 : decode cX11_late 19 = .ok (.ifCond .ne 7, 3) := by decide +kernel
theorem dX11_late_12 : decode cX11_late 12 = .ok (.ldc 127, 2) := by decide +kernel
theorem dX11_late_14 : decode cX11_late 14 = .ok (.ireturn, 1) := by decide +kernel
theorem dX11_late_9 : decode cX11_late 9 = .ok (.ifCond .ne 6, 3) := by decide +kernel
theorem bX11_late (x : bo_X) (hx : bo_OK x cX11_late RX11 2 5 116) (σ : bo_M) (p1 : Int32) : bo_D x 0 [(0, .ref (bo_a x 135)), (1, .int p1)] [] σ (mX11_late σ p1) (bo_Rw x cX11_late false) := by
  unfold mX11_late
  refine bo_iload_n hx dX11_late_0 rfl 1 rfl ?_
  refine bo_i2l hx dX11_late_1 ?_
  refine bo_lconst (v := 1) hx dX11_late_2 (by decide) ?_
  refine bo_ldc2 (v := 16) hx dX11_late_3 wl_X11_315 ?_
  refine bo_goR (z := true) hx (fun rr hh => bo_runS (As := [.long (Int32.toInt64 p1), .long 1, .long 16]) (S := []) hx dX11_late_6 lk_X11_118 ms_X11_in (kX11_in (bo_l x) (bo_g x) hx.inj σ (Int32.toInt64 p1) 1 16 rr hh) ⟨by decide, by decide⟩ rfl rfl (Nat.le_of_ble_eq_true rfl)) (fun v1 hv1 => ?_)
  refine bo_if_ne hx 15 dX11_late_9 (by decide) ?_ ?_
  · refine bo_aload_n hx dX11_late_15 rfl 0 rfl ?_
    refine gf_X11_111 hx dX11_late_16 ?_
    refine bo_if_ne hx 26 dX11_late_19 (by decide) ?_ ?_
    · refine bo_aload_n hx dX11_late_26 rfl 0 rfl ?_
      refine bo_goV hx (fun rr hh => bo_runV (As := []) (S := []) hx dX11_late_27 lk_X11_312 mi_X11_lookAhead bo_o_135 rfl rfl (kX11_lookAhead (bo_l x) (bo_g x) hx.inj σ rr hh) ⟨by decide, by decide⟩ rfl rfl (Nat.le_of_ble_eq_true rfl)) (fun σ2 => ?_)
      refine bo_aload_n hx dX11_late_30 rfl 0 rfl ?_
      refine bo_iload_n hx dX11_late_31 rfl 1 rfl ?_
      refine bo_goR (z := false) hx (fun rr hh => bo_runV (As := [.int p1]) (S := []) hx dX11_late_32 lk_X11_325 mi_X11_lateOnes bo_o_135 rfl rfl (kX11_lateOnes (bo_l x) (bo_g x) hx.inj σ2 p1 rr hh) ⟨by decide, by decide⟩ rfl rfl (Nat.le_of_ble_eq_true rfl)) (fun v3 hv3 => ?_)
      exact bo_retw dX11_late_35 (fun h => by cases h)
    · refine bo_ldcw (v := (-1000000003)) hx dX11_late_22 wc_X11_277 ?_
      exact bo_retw dX11_late_25 (fun h => by cases h)
  · refine bo_ldc (v := (-1000000002)) hx dX11_late_12 wc_X11_127 ?_
    exact bo_retw dX11_late_14 (fun h => by cases h)
theorem kX11_late (l : Launch) (g : bo_G) (hi : bo_inj g) (σ : bo_M) (p1 : Int32) : bo_CW l g yX11_late cX11_late 2 (some .int) 5 116 [.ref (g.2.2 135), .int p1] σ false (mX11_late σ p1) :=
  bo_metW rfl (Or.inl ⟨rfl, rfl⟩) (by decide) rfl hi (Nat.le_of_ble_eq_true rfl) (fun x e1 e2 hx => by subst e1; subst e2; exact bX11_late x hx σ p1)
-- BellRopeModel.best
theorem dX11_best_0 : decode cX11_best 0 = .ok (.iload_n 1, 1) := by decide +kernel
theorem dX11_best_1 : decode cX11_best 1 = .ok (.i2l, 1) := by decide +kernel
theorem dX11_best_2 : decode cX11_best 2 = .ok (.lconst 0, 1) := by decide +kernel
theorem dX11_best_3 : decode cX11_best 3 = .ok (.lconst 1, 1) := by decide +kernel
theorem dX11_best_4 : decode cX11_best 4 = .ok (.invokestatic 118, 3) := by decide +kernel
theorem dX11_best_13 : decode cX11_best 13 = .ok (.aload_n 0, 1) := by decide +kernel
theorem dX11_best_14 : decode cX11_best 14 = .ok (.getfield 111, 3) := by decide +kernel
theorem dX11_best_24 : decode cX11_best 24 = .ok (.aload_n 0, 1) := by decide +kernel
theorem dX11_best_25 : decode cX11_best 25 = .ok (.invokevirtual 312, 3) := by decide +kernel
theorem dX11_best_28 : decode cX11_best 28 = .ok (.iconst (-1), 1) := by decide +kernel
theorem dX11_best_29 : decode cX11_best 29 = .ok (.istore_n 2, 1) := by decide +kernel
theorem dX11_best_30 : decode cX11_best 30 = .ok (.ldc_w 328, 3) := by decide +kernel
theorem dX11_best_33 : decode cX11_best 33 = .ok (.istore_n 3, 1) := by decide +kernel
theorem dX11_best_34 : decode cX11_best 34 = .ok (.iconst 1, 1) := by decide +kernel
theorem dX11_best_35 : decode cX11_best 35 = .ok (.istore 4, 2) := by decide +kernel
theorem dX11_best_37 : decode cX11_best 37 = .ok (.iload 4, 2) := by decide +kernel
theorem dX11_best_39 : decode cX11_best 39 = .ok (.bipush 16, 2) := by decide +kernel
theorem dX11_best_44 : decode cX11_best 44 = .ok (.aload_n 0, 1) := by decide +kernel
theorem dX11_best_45 : decode cX11_best 45 = .ok (.iload 4, 2) := by decide +kernel
theorem dX11_best_47 : decode cX11_best 47 = .ok (.invokevirtual 325, 3) := by decide +kernel
theorem dX11_best_50 : decode cX11_best 50 = .ok (.invokestatic 329, 3) := by decide +kernel
theorem dX11_best_53 : decode cX11_best 53 = .ok (.istore 5, 2) := by decide +kernel
theorem dX11_best_55 : decode cX11_best 55 = .ok (.iload 5, 2) := by decide +kernel
theorem dX11_best_57 : decode cX11_best 57 = .ok (.iload_n 3, 1) := by decide +kernel
theorem dX11_best_66 : decode cX11_best 66 = .ok (.iload_n 2, 1) := by decide +kernel
theorem dX11_best_61 : decode cX11_best 61 = .ok (.iload 4, 2) := by decide +kernel
theorem dX11_best_63 : decode cX11_best 63 = .ok (.goto 4, 3) := by decide +kernel
theorem dX11_best_58 : decode cX11_best 58 = .ok (.if_icmp .ge 8, 3) := by decide +kernel
theorem dX11_best_67 : decode cX11_best 67 = .ok (.istore_n 2, 1) := by decide +kernel
theorem dX11_best_68 : decode cX11_best 68 = .ok (.iload 5, 2) := by decide +kernel
theorem dX11_best_70 : decode cX11_best 70 = .ok (.iload_n 3, 1) := by decide +kernel
theorem dX11_best_79 : decode cX11_best 79 = .ok (.iload_n 3, 1) := by decide +kernel
theorem dX11_best_74 : decode cX11_best 74 = .ok (.iload 5, 2) := by decide +kernel
theorem dX11_best_76 : decode cX11_best 76 = .ok (.goto 4, 3) := by decide +kernel
theorem dX11_best_71 : decode cX11_best 71 = .ok (.if_icmp .ge 8, 3) := by decide +kernel
theorem dX11_best_80 : decode cX11_best 80 = .ok (.istore_n 3, 1) := by decide +kernel
theorem dX11_best_81 : decode cX11_best 81 = .ok (.iinc 4 1, 3) := by decide +kernel
theorem dX11_best_84 : decode cX11_best 84 = .ok (.goto (-47), 3) := by decide +kernel
theorem dX11_best_41 : decode cX11_best 41 = .ok (.if_icmp .gt 46, 3) := by decide +kernel
theorem dX11_best_87 : decode cX11_best 87 = .ok (.iload_n 1, 1) := by decide +kernel
theorem dX11_best_95 : decode cX11_best 95 = .ok (.iload_n 3, 1) := by decide +kernel
theorem dX11_best_96 : decode cX11_best 96 = .ok (.ireturn, 1) := by decide +kernel
theorem dX11_best_91 : decode cX11_best 91 = .ok (.iload_n 2, 1) := by decide +kernel
theorem dX11_best_92 : decode cX11_best 92 = .ok (.goto 4, 3) := by decide +kernel
theorem dX11_best_88 : decode cX11_best 88 = .ok (.ifCond .ne 7, 3) := by decide +kernel
theorem dX11_best_20 : decode cX11_best 20 = .ok (.ldc_w 277, 3) := by decide +kernel
theorem dX11_best_23 : decode cX11_best 23 = .ok (.ireturn, 1) := by decide +kernel
theorem dX11_best_17 : decode cX11_best 17 = .ok (.ifCond .ne 7, 3) := by decide +kernel
theorem dX11_best_10 : decode cX11_best 10 = .ok (.ldc 127, 2) := by decide +kernel
theorem dX11_best_12 : decode cX11_best 12 = .ok (.ireturn, 1) := by decide +kernel
theorem dX11_best_7 : decode cX11_best 7 = .ok (.ifCond .ne 6, 3) := by decide +kernel
theorem lX11_best_L37 (x : bo_X) (hx : bo_OK x cX11_best RX11 6 5 116) (σ : bo_M) (f1 : Int32) : ∀ (n : Nat) (w2 : Int32) (w3 : Int32) (w4 : Int32), bo_D x 37 [(0, .ref (bo_a x 135)), (1, .int f1), (2, .int w2), (3, .int w3), (4, .int w4)] [] σ (mX11_best_L37 σ f1 n w2 w3 w4) (fun a => bo_N x 87 [(1, .int f1), (2, .int a.1), (3, .int a.2)] [] σ) := by
  intro n
  induction n with
  | zero => intro w2 w3 w4; exact bo_none
  | succ n ih =>
    intro w2 w3 w4
    rw [mX11_best_L37]
    refine bo_iload hx dX11_best_37 4 rfl ?_
    refine bo_bipush (v := 16) hx dX11_best_39 (by decide) ?_
    refine bo_icmp_gt hx 87 dX11_best_41 (by decide) ?_ ?_
    · refine bo_sub (L' := [(1, .int f1), (2, .int w2), (3, .int w3)]) [1, 2, 3] rfl ?_
      exact bo_arr (fun h => h)
    · refine bo_aload_n hx dX11_best_44 rfl 0 rfl ?_
      refine bo_iload hx dX11_best_45 4 rfl ?_
      refine bo_goR (z := false) hx (fun rr hh => bo_runV (As := [.int w4]) (S := []) hx dX11_best_47 lk_X11_325 mi_X11_lateOnes bo_o_135 rfl rfl (kX11_lateOnes (bo_l x) (bo_g x) hx.inj σ w4 rr hh) ⟨by decide, by decide⟩ rfl rfl (Nat.le_of_ble_eq_true rfl)) (fun v3 hv3 => ?_)
      refine bo_goR (z := false) hx (fun rr hh => bo_runS (As := [.int v3]) (S := []) hx dX11_best_50 lk_X11_329 ms_X11_bits (kX11_bits (bo_l x) (bo_g x) hx.inj σ v3 rr hh) ⟨by decide, by decide⟩ rfl rfl (Nat.le_of_ble_eq_true rfl)) (fun v4 hv4 => ?_)
      refine bo_istore (L' := [(5, .int v4), (0, .ref (bo_a x 135)), (1, .int f1), (2, .int w2), (3, .int w3), (4, .int w4)]) hx dX11_best_53 (by decide) rfl ?_
      refine bo_iload hx dX11_best_55 0 rfl ?_
      refine bo_iload_n hx dX11_best_57 rfl 4 rfl ?_
      refine bo_seq 67 (fun a => [(0, .ref (bo_a x 135)), (1, .int f1), (3, .int w3), (4, .int w4), (5, .int v4)]) (fun a => [.int a]) (fun a => σ) ?_ (fun a5 => ?_)
      · refine bo_icmp_ge hx 66 dX11_best_58 (by decide) ?_ ?_
        · refine bo_iload_n hx dX11_best_66 rfl 3 rfl ?_
          refine bo_sub (L' := [(0, .ref (bo_a x 135)), (1, .int f1), (3, .int w3), (4, .int w4), (5, .int v4)]) [1, 2, 4, 5, 0] rfl ?_
          exact bo_arr (fun h => h)
        · refine bo_iload hx dX11_best_61 5 rfl ?_
          refine bo_goto hx 67 dX11_best_63 (by decide) ?_
          refine bo_sub (L' := [(0, .ref (bo_a x 135)), (1, .int f1), (3, .int w3), (4, .int w4), (5, .int v4)]) [1, 2, 4, 5, 0] rfl ?_
          exact bo_arr (fun h => h)
      · refine bo_istore_n (L' := [(2, .int a5), (0, .ref (bo_a x 135)), (1, .int f1), (3, .int w3), (4, .int w4), (5, .int v4)]) hx dX11_best_67 rfl (by decide) rfl ?_
        refine bo_iload hx dX11_best_68 5 rfl ?_
        refine bo_iload_n hx dX11_best_70 rfl 3 rfl ?_
        refine bo_seq 80 (fun a => [(0, .ref (bo_a x 135)), (1, .int f1), (2, .int a5), (4, .int w4)]) (fun a => [.int a]) (fun a => σ) ?_ (fun a6 => ?_)
        · refine bo_icmp_ge hx 79 dX11_best_71 (by decide) ?_ ?_
          · refine bo_iload_n hx dX11_best_79 rfl 3 rfl ?_
            refine bo_sub (L' := [(0, .ref (bo_a x 135)), (1, .int f1), (2, .int a5), (4, .int w4)]) [1, 2, 0, 4] rfl ?_
            exact bo_arr (fun h => h)
          · refine bo_iload hx dX11_best_74 5 rfl ?_
            refine bo_goto hx 80 dX11_best_76 (by decide) ?_
            refine bo_sub (L' := [(0, .ref (bo_a x 135)), (1, .int f1), (2, .int a5), (4, .int w4)]) [1, 2, 0, 4] rfl ?_
            exact bo_arr (fun h => h)
        · refine bo_istore_n (L' := [(3, .int a6), (0, .ref (bo_a x 135)), (1, .int f1), (2, .int a5), (4, .int w4)]) hx dX11_best_80 rfl (by decide) rfl ?_
          refine bo_iinc (L' := [(4, .int (w4 + 1)), (3, .int a6), (0, .ref (bo_a x 135)), (1, .int f1), (2, .int a5)]) (w := (w4 + 1)) hx dX11_best_81 4 rfl rfl (by decide) rfl ?_
          refine bo_goto hx 37 dX11_best_84 (by decide) ?_
          refine bo_sub (L' := [(0, .ref (bo_a x 135)), (1, .int f1), (2, .int a5), (3, .int a6), (4, .int (w4 + 1))]) [2, 3, 4, 1, 0] rfl ?_
          exact ih a5 a6 (w4 + 1)
theorem bX11_best (x : bo_X) (hx : bo_OK x cX11_best RX11 6 5 116) (σ : bo_M) (p1 : Int32) : bo_D x 0 [(0, .ref (bo_a x 135)), (1, .int p1)] [] σ (mX11_best σ p1) (bo_Rw x cX11_best false) := by
  unfold mX11_best
  refine bo_iload_n hx dX11_best_0 rfl 1 rfl ?_
  refine bo_i2l hx dX11_best_1 ?_
  refine bo_lconst (v := 0) hx dX11_best_2 (by decide) ?_
  refine bo_lconst (v := 1) hx dX11_best_3 (by decide) ?_
  refine bo_goR (z := true) hx (fun rr hh => bo_runS (As := [.long (Int32.toInt64 p1), .long 0, .long 1]) (S := []) hx dX11_best_4 lk_X11_118 ms_X11_in (kX11_in (bo_l x) (bo_g x) hx.inj σ (Int32.toInt64 p1) 0 1 rr hh) ⟨by decide, by decide⟩ rfl rfl (Nat.le_of_ble_eq_true rfl)) (fun v1 hv1 => ?_)
  refine bo_if_ne hx 13 dX11_best_7 (by decide) ?_ ?_
  · refine bo_aload_n hx dX11_best_13 rfl 0 rfl ?_
    refine gf_X11_111 hx dX11_best_14 ?_
    refine bo_if_ne hx 24 dX11_best_17 (by decide) ?_ ?_
    · refine bo_aload_n hx dX11_best_24 rfl 0 rfl ?_
      refine bo_goV hx (fun rr hh => bo_runV (As := []) (S := []) hx dX11_best_25 lk_X11_312 mi_X11_lookAhead bo_o_135 rfl rfl (kX11_lookAhead (bo_l x) (bo_g x) hx.inj σ rr hh) ⟨by decide, by decide⟩ rfl rfl (Nat.le_of_ble_eq_true rfl)) (fun σ2 => ?_)
      refine bo_iconst (v := (-1)) hx dX11_best_28 (by decide) ?_
      refine bo_istore_n (L' := [(2, .int (-1)), (0, .ref (bo_a x 135)), (1, .int p1)]) hx dX11_best_29 rfl (by decide) rfl ?_
      refine bo_ldcw (v := 100000) hx dX11_best_30 wc_X11_328 ?_
      refine bo_istore_n (L' := [(3, .int 100000), (2, .int (-1)), (0, .ref (bo_a x 135)), (1, .int p1)]) hx dX11_best_33 rfl (by decide) rfl ?_
      refine bo_iconst (v := 1) hx dX11_best_34 (by decide) ?_
      refine bo_istore (L' := [(4, .int 1), (3, .int 100000), (2, .int (-1)), (0, .ref (bo_a x 135)), (1, .int p1)]) hx dX11_best_35 (by decide) rfl ?_
      refine bo_sub (L' := [(0, .ref (bo_a x 135)), (1, .int p1), (2, .int (-1)), (3, .int 100000), (4, .int 1)]) [3, 4, 2, 1, 0] rfl ?_
      refine bo_seq 87 (fun a => [(1, .int p1), (2, .int a.1), (3, .int a.2)]) (fun a => []) (fun a => σ2) (lX11_best_L37 x hx σ2 p1 bo_fuel (-1) 100000 1) (fun a7 => ?_)
      refine bo_iload_n hx dX11_best_87 rfl 0 rfl ?_
      refine bo_if_ne hx 95 dX11_best_88 (by decide) ?_ ?_
      · refine bo_iload_n hx dX11_best_95 rfl 2 rfl ?_
        exact bo_retw dX11_best_96 (fun h => by cases h)
      · refine bo_iload_n hx dX11_best_91 rfl 1 rfl ?_
        refine bo_goto hx 96 dX11_best_92 (by decide) ?_
        exact bo_retw dX11_best_96 (fun h => by cases h)
    · refine bo_ldcw (v := (-1000000003)) hx dX11_best_20 wc_X11_277 ?_
      exact bo_retw dX11_best_23 (fun h => by cases h)
  · refine bo_ldc (v := (-1000000002)) hx dX11_best_10 wc_X11_127 ?_
    exact bo_retw dX11_best_12 (fun h => by cases h)
theorem kX11_best (l : Launch) (g : bo_G) (hi : bo_inj g) (σ : bo_M) (p1 : Int32) : bo_CW l g yX11_best cX11_best 6 (some .int) 5 116 [.ref (g.2.2 135), .int p1] σ false (mX11_best σ p1) :=
  bo_metW rfl (Or.inl ⟨rfl, rfl⟩) (by decide) rfl hi (Nat.le_of_ble_eq_true rfl) (fun x e1 e2 hx => by subst e1; subst e2; exact bX11_best x hx σ p1)
-- BellRopeModel.alone
theorem dX11_alone_0 : decode cX11_alone 0 = .ok (.aload_n 0, 1) := by decide +kernel
theorem dX11_alone_1 : decode cX11_alone 1 = .ok (.iload_n 1, 1) := by decide +kernel
theorem dX11_alone_2 : decode cX11_alone 2 = .ok (.invokevirtual 265, 3) := by decide +kernel
theorem dX11_alone_12 : decode cX11_alone 12 = .ok (.aload_n 0, 1) := by decide +kernel
theorem dX11_alone_13 : decode cX11_alone 13 = .ok (.invokevirtual 312, 3) := by decide +kernel
theorem dX11_alone_16 : decode cX11_alone 16 = .ok (.iconst 0, 1) := by decide +kernel
theorem dX11_alone_17 : decode cX11_alone 17 = .ok (.istore_n 2, 1) := by decide +kernel
theorem dX11_alone_18 : decode cX11_alone 18 = .ok (.iconst 1, 1) := by decide +kernel
theorem dX11_alone_19 : decode cX11_alone 19 = .ok (.istore_n 3, 1) := by decide +kernel
theorem dX11_alone_20 : decode cX11_alone 20 = .ok (.iload_n 3, 1) := by decide +kernel
theorem dX11_alone_21 : decode cX11_alone 21 = .ok (.bipush 16, 2) := by decide +kernel
theorem dX11_alone_26 : decode cX11_alone 26 = .ok (.iload_n 2, 1) := by decide +kernel
theorem dX11_alone_27 : decode cX11_alone 27 = .ok (.aload_n 0, 1) := by decide +kernel
theorem dX11_alone_28 : decode cX11_alone 28 = .ok (.iload_n 1, 1) := by decide +kernel
theorem dX11_alone_29 : decode cX11_alone 29 = .ok (.iload_n 3, 1) := by decide +kernel
theorem dX11_alone_30 : decode cX11_alone 30 = .ok (.invokevirtual 322, 3) := by decide +kernel
theorem dX11_alone_40 : decode cX11_alone 40 = .ok (.iconst 1, 1) := by decide +kernel
theorem dX11_alone_41 : decode cX11_alone 41 = .ok (.iload_n 3, 1) := by decide +kernel
theorem dX11_alone_42 : decode cX11_alone 42 = .ok (.ishl, 1) := by decide +kernel
theorem dX11_alone_36 : decode cX11_alone 36 = .ok (.iconst 0, 1) := by decide +kernel
theorem dX11_alone_37 : decode cX11_alone 37 = .ok (.goto 6, 3) := by decide +kernel
theorem dX11_alone_33 : decode cX11_alone 33 = .ok (.ifCond .eq 7, 3) := by decide +kernel
theorem dX11_alone_43 : decode cX11_alone 43 = .ok (.ior, 1) := by decide +kernel
theorem dX11_alone_44 : decode cX11_alone 44 = .ok (.istore_n 2, 1) := by decide +kernel
theorem dX11_alone_45 : decode cX11_alone 45 = .ok (.iinc 3 1, 3) := by decide +kernel
theorem dX11_alone_48 : decode cX11_alone 48 = .ok (.goto (-28), 3) := by decide +kernel
theorem dX11_alone_23 : decode cX11_alone 23 = .ok (.if_icmp .gt 28, 3) := by decide +kernel
theorem dX11_alone_51 : decode cX11_alone 51 = .ok (.iload_n 2, 1) := by decide +kernel
theorem dX11_alone_52 : decode cX11_alone 52 = .ok (.ireturn, 1) := by decide +kernel
theorem dX11_alone_8 : decode cX11_alone 8 = .ok (.ldc_w 261, 3) := by decide +kernel
theorem dX11_alone_11 : decode cX11_alone 11 = .ok (.ireturn, 1) := by decide +kernel
theorem dX11_alone_5 : decode cX11_alone 5 = .ok (.ifCond .ne 7, 3) := by decide +kernel
theorem lX11_alone_L20 (x : bo_X) (hx : bo_OK x cX11_alone RX11 4 5 116) (σ : bo_M) (f1 : Int32) : ∀ (n : Nat) (w2 : Int32) (w3 : Int32), bo_D x 20 [(0, .ref (bo_a x 135)), (1, .int f1), (2, .int w2), (3, .int w3)] [] σ (mX11_alone_L20 σ f1 n w2 w3) (fun a => bo_N x 51 [(2, .int a)] [] σ) := by
  intro n
  induction n with
  | zero => intro w2 w3; exact bo_none
  | succ n ih =>
    intro w2 w3
    rw [mX11_alone_L20]
    refine bo_iload_n hx dX11_alone_20 rfl 3 rfl ?_
    refine bo_bipush (v := 16) hx dX11_alone_21 (by decide) ?_
    refine bo_icmp_gt hx 51 dX11_alone_23 (by decide) ?_ ?_
    · refine bo_sub (L' := [(2, .int w2)]) [2] rfl ?_
      exact bo_arr (fun h => h)
    · refine bo_iload_n hx dX11_alone_26 rfl 2 rfl ?_
      refine bo_aload_n hx dX11_alone_27 rfl 0 rfl ?_
      refine bo_iload_n hx dX11_alone_28 rfl 1 rfl ?_
      refine bo_iload_n hx dX11_alone_29 rfl 3 rfl ?_
      refine bo_goR (z := true) hx (fun rr hh => bo_runV (As := [.int f1, .int w3]) (S := [.int w2]) hx dX11_alone_30 lk_X11_322 mi_X11_isLate bo_o_135 rfl rfl (kX11_isLate (bo_l x) (bo_g x) hx.inj σ f1 w3 rr hh) ⟨by decide, by decide⟩ rfl rfl (Nat.le_of_ble_eq_true rfl)) (fun v3 hv3 => ?_)
      refine bo_seq 43 (fun a => [(0, .ref (bo_a x 135)), (1, .int f1), (3, .int w3)]) (fun a => [.int a, .int w2]) (fun a => σ) ?_ (fun a4 => ?_)
      · refine bo_if_eq hx 40 dX11_alone_33 (by decide) ?_ ?_
        · refine bo_iconst (v := 1) hx dX11_alone_40 (by decide) ?_
          refine bo_iload_n hx dX11_alone_41 rfl 3 rfl ?_
          refine bo_ishl hx dX11_alone_42 ?_
          refine bo_sub (L' := [(0, .ref (bo_a x 135)), (1, .int f1), (3, .int w3)]) [0, 1, 3] rfl ?_
          exact bo_arr (fun h => h)
        · refine bo_iconst (v := 0) hx dX11_alone_36 (by decide) ?_
          refine bo_goto hx 43 dX11_alone_37 (by decide) ?_
          refine bo_sub (L' := [(0, .ref (bo_a x 135)), (1, .int f1), (3, .int w3)]) [0, 1, 3] rfl ?_
          exact bo_arr (fun h => h)
      · refine bo_ior hx dX11_alone_43 ?_
        refine bo_istore_n (L' := [(2, .int (w2 ||| a4)), (0, .ref (bo_a x 135)), (1, .int f1), (3, .int w3)]) hx dX11_alone_44 rfl (by decide) rfl ?_
        refine bo_iinc (L' := [(3, .int (w3 + 1)), (2, .int (w2 ||| a4)), (0, .ref (bo_a x 135)), (1, .int f1)]) (w := (w3 + 1)) hx dX11_alone_45 3 rfl rfl (by decide) rfl ?_
        refine bo_goto hx 20 dX11_alone_48 (by decide) ?_
        refine bo_sub (L' := [(0, .ref (bo_a x 135)), (1, .int f1), (2, .int (w2 ||| a4)), (3, .int (w3 + 1))]) [2, 3, 1, 0] rfl ?_
        exact ih (w2 ||| a4) (w3 + 1)
theorem bX11_alone (x : bo_X) (hx : bo_OK x cX11_alone RX11 4 5 116) (σ : bo_M) (p1 : Int32) : bo_D x 0 [(0, .ref (bo_a x 135)), (1, .int p1)] [] σ (mX11_alone σ p1) (bo_Rw x cX11_alone false) := by
  unfold mX11_alone
  refine bo_aload_n hx dX11_alone_0 rfl 0 rfl ?_
  refine bo_iload_n hx dX11_alone_1 rfl 1 rfl ?_
  refine bo_goR (z := true) hx (fun rr hh => bo_runV (As := [.int p1]) (S := []) hx dX11_alone_2 lk_X11_265 mi_X11_isGoer bo_o_135 rfl rfl (kX11_isGoer (bo_l x) (bo_g x) hx.inj σ p1 rr hh) ⟨by decide, by decide⟩ rfl rfl (Nat.le_of_ble_eq_true rfl)) (fun v1 hv1 => ?_)
  refine bo_if_ne hx 12 dX11_alone_5 (by decide) ?_ ?_
  · refine bo_aload_n hx dX11_alone_12 rfl 0 rfl ?_
    refine bo_goV hx (fun rr hh => bo_runV (As := []) (S := []) hx dX11_alone_13 lk_X11_312 mi_X11_lookAhead bo_o_135 rfl rfl (kX11_lookAhead (bo_l x) (bo_g x) hx.inj σ rr hh) ⟨by decide, by decide⟩ rfl rfl (Nat.le_of_ble_eq_true rfl)) (fun σ2 => ?_)
    refine bo_iconst (v := 0) hx dX11_alone_16 (by decide) ?_
    refine bo_istore_n (L' := [(2, .int 0), (0, .ref (bo_a x 135)), (1, .int p1)]) hx dX11_alone_17 rfl (by decide) rfl ?_
    refine bo_iconst (v := 1) hx dX11_alone_18 (by decide) ?_
    refine bo_istore_n (L' := [(3, .int 1), (2, .int 0), (0, .ref (bo_a x 135)), (1, .int p1)]) hx dX11_alone_19 rfl (by decide) rfl ?_
    refine bo_sub (L' := [(0, .ref (bo_a x 135)), (1, .int p1), (2, .int 0), (3, .int 1)]) [2, 3, 1, 0] rfl ?_
    refine bo_seq 51 (fun a => [(2, .int a)]) (fun a => []) (fun a => σ2) (lX11_alone_L20 x hx σ2 p1 bo_fuel 0 1) (fun a5 => ?_)
    refine bo_iload_n hx dX11_alone_51 rfl 0 rfl ?_
    exact bo_retw dX11_alone_52 (fun h => by cases h)
  · refine bo_ldcw (v := (-1000000001)) hx dX11_alone_8 wc_X11_261 ?_
    exact bo_retw dX11_alone_11 (fun h => by cases h)
theorem kX11_alone (l : Launch) (g : bo_G) (hi : bo_inj g) (σ : bo_M) (p1 : Int32) : bo_CW l g yX11_alone cX11_alone 4 (some .int) 5 116 [.ref (g.2.2 135), .int p1] σ false (mX11_alone σ p1) :=
  bo_metW rfl (Or.inl ⟨rfl, rfl⟩) (by decide) rfl hi (Nat.le_of_ble_eq_true rfl) (fun x e1 e2 hx => by subst e1; subst e2; exact bX11_alone x hx σ p1)
-- BellRopeModel.given
theorem dX11_given_0 : decode cX11_given 0 = .ok (.iload_n 1, 1) := by decide +kernel
theorem dX11_given_1 : decode cX11_given 1 = .ok (.i2l, 1) := by decide +kernel
theorem dX11_given_2 : decode cX11_given 2 = .ok (.lconst 1, 1) := by decide +kernel
theorem dX11_given_3 : decode cX11_given 3 = .ok (.ldc2_w 320, 3) := by decide +kernel
theorem dX11_given_6 : decode cX11_given 6 = .ok (.invokestatic 118, 3) := by decide +kernel
theorem dX11_given_15 : decode cX11_given 15 = .ok (.aload_n 0, 1) := by decide +kernel
theorem dX11_given_16 : decode cX11_given 16 = .ok (.getfield 111, 3) := by decide +kernel
theorem dX11_given_26 : decode cX11_given 26 = .ok (.aload_n 0, 1) := by decide +kernel
theorem dX11_given_27 : decode cX11_given 27 = .ok (.invokevirtual 312, 3) := by decide +kernel
theorem dX11_given_30 : decode cX11_given 30 = .ok (.iconst 0, 1) := by decide +kernel
theorem dX11_given_31 : decode cX11_given 31 = .ok (.istore_n 2, 1) := by decide +kernel
theorem dX11_given_32 : decode cX11_given 32 = .ok (.iconst 0, 1) := by decide +kernel
theorem dX11_given_33 : decode cX11_given 33 = .ok (.istore_n 3, 1) := by decide +kernel
theorem dX11_given_34 : decode cX11_given 34 = .ok (.iload_n 3, 1) := by decide +kernel
theorem dX11_given_35 : decode cX11_given 35 = .ok (.iload_n 1, 1) := by decide +kernel
theorem dX11_given_39 : decode cX11_given 39 = .ok (.iconst 0, 1) := by decide +kernel
theorem dX11_given_40 : decode cX11_given 40 = .ok (.istore 4, 2) := by decide +kernel
theorem dX11_given_42 : decode cX11_given 42 = .ok (.iload 4, 2) := by decide +kernel
theorem dX11_given_44 : decode cX11_given 44 = .ok (.aload_n 0, 1) := by decide +kernel
theorem dX11_given_45 : decode cX11_given 45 = .ok (.getfield 213, 3) := by decide +kernel
theorem dX11_given_51 : decode cX11_given 51 = .ok (.iload_n 2, 1) := by decide +kernel
theorem dX11_given_52 : decode cX11_given 52 = .ok (.aload_n 0, 1) := by decide +kernel
theorem dX11_given_53 : decode cX11_given 53 = .ok (.getfield 77, 3) := by decide +kernel
theorem dX11_given_56 : decode cX11_given 56 = .ok (.iload_n 3, 1) := by decide +kernel
theorem dX11_given_57 : decode cX11_given 57 = .ok (.iaload, 1) := by decide +kernel
theorem dX11_given_58 : decode cX11_given 58 = .ok (.aload_n 0, 1) := by decide +kernel
theorem dX11_given_59 : decode cX11_given 59 = .ok (.getfield 31, 3) := by decide +kernel
theorem dX11_given_62 : decode cX11_given 62 = .ok (.iload 4, 2) := by decide +kernel
theorem dX11_given_64 : decode cX11_given 64 = .ok (.iaload, 1) := by decide +kernel
theorem dX11_given_75 : decode cX11_given 75 = .ok (.iconst 0, 1) := by decide +kernel
theorem dX11_given_68 : decode cX11_given 68 = .ok (.iconst 1, 1) := by decide +kernel
theorem dX11_given_69 : decode cX11_given 69 = .ok (.iload 4, 2) := by decide +kernel
theorem dX11_given_71 : decode cX11_given 71 = .ok (.ishl, 1) := by decide +kernel
theorem dX11_given_72 : decode cX11_given 72 = .ok (.goto 4, 3) := by decide +kernel
theorem dX11_given_65 : decode cX11_given 65 = .ok (.if_icmp .ne 10, 3) := by decide +kernel
theorem dX11_given_76 : decode cX11_given 76 = .ok (.ior, 1) := by decide +kernel
theorem dX11_given_77 : decode cX11_given 77 = .ok (.istore_n 2, 1) := by decide +kernel
theorem dX11_given_78 : decode cX11_given 78 = .ok (.iinc 4 1, 3) := by decide +kernel
theorem dX11_given_81 : decode cX11_given 81 = .ok (.goto (-39), 3) := by decide +kernel
theorem dX11_given_48 : decode cX11_given 48 = .ok (.if_icmp .ge 36, 3) := by decide +kernel
theorem dX11_given_84 : decode cX11_given 84 = .ok (.iinc 3 1, 3) := by decide +kernel
theorem dX11_given_87 : decode cX11_given 87 = .ok (.goto (-53), 3) := by decide +kernel
theorem dX11_given_36 : decode cX11_given 36 = .ok (.if_icmp .ge 54, 3) := by decide +kernel
theorem dX11_given_90 : decode cX11_given 90 = .ok (.iload_n 2, 1) := by decide +kernel
theorem dX11_given_91 : decode cX11_given 91 = .ok (.ireturn, 1) := by decide +kernel
theorem dX11_given_22 : decode cX11_given 22 = .ok (.ldc_w 277, 3) := by decide +kernel
theorem dX11_given_25 : decode cX11_given 25 = .ok (.ireturn, 1) := by decide +kernel
theorem dX11_given_19 : decode cX11_given 19 = .ok (.ifCond .ne 7, 3) := by decide +kernel
theorem dX11_given_12 : decode cX11_given 12 = .ok (.ldc 127, 2) := by decide +kernel
theorem dX11_given_14 : decode cX11_given 14 = .ok (.ireturn, 1) := by decide +kernel
theorem dX11_given_9 : decode cX11_given 9 = .ok (.ifCond .ne 6, 3) := by decide +kernel
theorem lX11_given_L42 (x : bo_X) (hx : bo_OK x cX11_given RX11 5 5 116) (σ : bo_M) (f1 : Int32) (f3 : Int32) : ∀ (n : Nat) (w2 : Int32) (w4 : Int32), bo_D x 42 [(0, .ref (bo_a x 135)), (1, .int f1), (2, .int w2), (3, .int f3), (4, .int w4)] [] σ (mX11_given_L42 σ f1 f3 n w2 w4) (fun a => bo_N x 84 [(0, .ref (bo_a x 135)), (1, .int f1), (2, .int a), (3, .int f3)] [] σ) := by
  intro n
  induction n with
  | zero => intro w2 w4; exact bo_none
  | succ n ih =>
    intro w2 w4
    rw [mX11_given_L42]
    refine bo_iload hx dX11_given_42 4 rfl ?_
    refine bo_aload_n hx dX11_given_44 rfl 0 rfl ?_
    refine gf_X11_213 hx dX11_given_45 ?_
    refine bo_icmp_ge hx 84 dX11_given_48 (by decide) ?_ ?_
    · refine bo_sub (L' := [(0, .ref (bo_a x 135)), (1, .int f1), (2, .int w2), (3, .int f3)]) [0, 1, 2, 3] rfl ?_
      exact bo_arr (fun h => h)
    · refine bo_iload_n hx dX11_given_51 rfl 2 rfl ?_
      refine bo_aload_n hx dX11_given_52 rfl 0 rfl ?_
      refine gf_X11_77 hx dX11_given_53 ?_
      refine bo_iload_n hx dX11_given_56 rfl 3 rfl ?_
      refine bo_iald hx bo_c_157 dX11_given_57 (fun v3 => ?_)
      refine bo_aload_n hx dX11_given_58 rfl 0 rfl ?_
      refine gf_X11_31 hx dX11_given_59 ?_
      refine bo_iload hx dX11_given_62 4 rfl ?_
      refine bo_iald hx bo_c_143 dX11_given_64 (fun v4 => ?_)
      refine bo_seq 76 (fun a => [(0, .ref (bo_a x 135)), (1, .int f1), (3, .int f3), (4, .int w4)]) (fun a => [.int a, .int w2]) (fun a => σ) ?_ (fun a5 => ?_)
      · refine bo_icmp_ne hx 75 dX11_given_65 (by decide) ?_ ?_
        · refine bo_iconst (v := 0) hx dX11_given_75 (by decide) ?_
          refine bo_sub (L' := [(0, .ref (bo_a x 135)), (1, .int f1), (3, .int f3), (4, .int w4)]) [0, 1, 3, 4] rfl ?_
          exact bo_arr (fun h => h)
        · refine bo_iconst (v := 1) hx dX11_given_68 (by decide) ?_
          refine bo_iload hx dX11_given_69 4 rfl ?_
          refine bo_ishl hx dX11_given_71 ?_
          refine bo_goto hx 76 dX11_given_72 (by decide) ?_
          refine bo_sub (L' := [(0, .ref (bo_a x 135)), (1, .int f1), (3, .int f3), (4, .int w4)]) [0, 1, 3, 4] rfl ?_
          exact bo_arr (fun h => h)
      · refine bo_ior hx dX11_given_76 ?_
        refine bo_istore_n (L' := [(2, .int (w2 ||| a5)), (0, .ref (bo_a x 135)), (1, .int f1), (3, .int f3), (4, .int w4)]) hx dX11_given_77 rfl (by decide) rfl ?_
        refine bo_iinc (L' := [(4, .int (w4 + 1)), (2, .int (w2 ||| a5)), (0, .ref (bo_a x 135)), (1, .int f1), (3, .int f3)]) (w := (w4 + 1)) hx dX11_given_78 4 rfl rfl (by decide) rfl ?_
        refine bo_goto hx 42 dX11_given_81 (by decide) ?_
        refine bo_sub (L' := [(0, .ref (bo_a x 135)), (1, .int f1), (2, .int (w2 ||| a5)), (3, .int f3), (4, .int (w4 + 1))]) [2, 3, 1, 4, 0] rfl ?_
        exact ih (w2 ||| a5) (w4 + 1)
theorem lX11_given_L34 (x : bo_X) (hx : bo_OK x cX11_given RX11 5 5 116) (σ : bo_M) (f1 : Int32) : ∀ (n : Nat) (w2 : Int32) (w3 : Int32), bo_D x 34 [(0, .ref (bo_a x 135)), (1, .int f1), (2, .int w2), (3, .int w3)] [] σ (mX11_given_L34 σ f1 n w2 w3) (fun a => bo_N x 90 [(2, .int a)] [] σ) := by
  intro n
  induction n with
  | zero => intro w2 w3; exact bo_none
  | succ n ih =>
    intro w2 w3
    rw [mX11_given_L34]
    refine bo_iload_n hx dX11_given_34 rfl 3 rfl ?_
    refine bo_iload_n hx dX11_given_35 rfl 1 rfl ?_
    refine bo_icmp_ge hx 90 dX11_given_36 (by decide) ?_ ?_
    · refine bo_sub (L' := [(2, .int w2)]) [2] rfl ?_
      exact bo_arr (fun h => h)
    · refine bo_iconst (v := 0) hx dX11_given_39 (by decide) ?_
      refine bo_istore (L' := [(4, .int 0), (0, .ref (bo_a x 135)), (1, .int f1), (2, .int w2), (3, .int w3)]) hx dX11_given_40 (by decide) rfl ?_
      refine bo_sub (L' := [(0, .ref (bo_a x 135)), (1, .int f1), (2, .int w2), (3, .int w3), (4, .int 0)]) [1, 2, 3, 4, 0] rfl ?_
      refine bo_seq 84 (fun a => [(0, .ref (bo_a x 135)), (1, .int f1), (2, .int a), (3, .int w3)]) (fun a => []) (fun a => σ) (lX11_given_L42 x hx σ f1 w3 bo_fuel w2 0) (fun a6 => ?_)
      refine bo_iinc (L' := [(3, .int (w3 + 1)), (0, .ref (bo_a x 135)), (1, .int f1), (2, .int a6)]) (w := (w3 + 1)) hx dX11_given_84 3 rfl rfl (by decide) rfl ?_
      refine bo_goto hx 34 dX11_given_87 (by decide) ?_
      refine bo_sub (L' := [(0, .ref (bo_a x 135)), (1, .int f1), (2, .int a6), (3, .int (w3 + 1))]) [1, 2, 3, 0] rfl ?_
      exact ih a6 (w3 + 1)
theorem bX11_given (x : bo_X) (hx : bo_OK x cX11_given RX11 5 5 116) (σ : bo_M) (p1 : Int32) : bo_D x 0 [(0, .ref (bo_a x 135)), (1, .int p1)] [] σ (mX11_given σ p1) (bo_Rw x cX11_given false) := by
  unfold mX11_given
  refine bo_iload_n hx dX11_given_0 rfl 1 rfl ?_
  refine bo_i2l hx dX11_given_1 ?_
  refine bo_lconst (v := 1) hx dX11_given_2 (by decide) ?_
  refine bo_ldc2 (v := 192) hx dX11_given_3 wl_X11_320 ?_
  refine bo_goR (z := true) hx (fun rr hh => bo_runS (As := [.long (Int32.toInt64 p1), .long 1, .long 192]) (S := []) hx dX11_given_6 lk_X11_118 ms_X11_in (kX11_in (bo_l x) (bo_g x) hx.inj σ (Int32.toInt64 p1) 1 192 rr hh) ⟨by decide, by decide⟩ rfl rfl (Nat.le_of_ble_eq_true rfl)) (fun v1 hv1 => ?_)
  refine bo_if_ne hx 15 dX11_given_9 (by decide) ?_ ?_
  · refine bo_aload_n hx dX11_given_15 rfl 0 rfl ?_
    refine gf_X11_111 hx dX11_given_16 ?_
    refine bo_if_ne hx 26 dX11_given_19 (by decide) ?_ ?_
    · refine bo_aload_n hx dX11_given_26 rfl 0 rfl ?_
      refine bo_goV hx (fun rr hh => bo_runV (As := []) (S := []) hx dX11_given_27 lk_X11_312 mi_X11_lookAhead bo_o_135 rfl rfl (kX11_lookAhead (bo_l x) (bo_g x) hx.inj σ rr hh) ⟨by decide, by decide⟩ rfl rfl (Nat.le_of_ble_eq_true rfl)) (fun σ2 => ?_)
      refine bo_iconst (v := 0) hx dX11_given_30 (by decide) ?_
      refine bo_istore_n (L' := [(2, .int 0), (0, .ref (bo_a x 135)), (1, .int p1)]) hx dX11_given_31 rfl (by decide) rfl ?_
      refine bo_iconst (v := 0) hx dX11_given_32 (by decide) ?_
      refine bo_istore_n (L' := [(3, .int 0), (2, .int 0), (0, .ref (bo_a x 135)), (1, .int p1)]) hx dX11_given_33 rfl (by decide) rfl ?_
      refine bo_sub (L' := [(0, .ref (bo_a x 135)), (1, .int p1), (2, .int 0), (3, .int 0)]) [2, 3, 1, 0] rfl ?_
      refine bo_seq 90 (fun a => [(2, .int a)]) (fun a => []) (fun a => σ2) (lX11_given_L34 x hx σ2 p1 bo_fuel 0 0) (fun a7 => ?_)
      refine bo_iload_n hx dX11_given_90 rfl 0 rfl ?_
      exact bo_retw dX11_given_91 (fun h => by cases h)
    · refine bo_ldcw (v := (-1000000003)) hx dX11_given_22 wc_X11_277 ?_
      exact bo_retw dX11_given_25 (fun h => by cases h)
  · refine bo_ldc (v := (-1000000002)) hx dX11_given_12 wc_X11_127 ?_
    exact bo_retw dX11_given_14 (fun h => by cases h)
theorem kX11_given (l : Launch) (g : bo_G) (hi : bo_inj g) (σ : bo_M) (p1 : Int32) : bo_CW l g yX11_given cX11_given 5 (some .int) 5 116 [.ref (g.2.2 135), .int p1] σ false (mX11_given σ p1) :=
  bo_metW rfl (Or.inl ⟨rfl, rfl⟩) (by decide) rfl hi (Nat.le_of_ble_eq_true rfl) (fun x e1 e2 hx => by subst e1; subst e2; exact bX11_given x hx σ p1)
-- BellRopeModel.mistaken
theorem dX11_mistaken_0 : decode cX11_mistaken 0 = .ok (.iconst 0, 1) := by decide +kernel
theorem dX11_mistaken_1 : decode cX11_mistaken 1 = .ok (.istore_n 1, 1) := by decide +kernel
theorem dX11_mistaken_2 : decode cX11_mistaken 2 = .ok (.iconst 0, 1) := by decide +kernel
theorem dX11_mistaken_3 : decode cX11_mistaken 3 = .ok (.istore_n 2, 1) := by decide +kernel
theorem dX11_mistaken_4 : decode cX11_mistaken 4 = .ok (.iload_n 2, 1) := by decide +kernel
theorem dX11_mistaken_5 : decode cX11_mistaken 5 = .ok (.aload_n 0, 1) := by decide +kernel
theorem dX11_mistaken_6 : decode cX11_mistaken 6 = .ok (.getfield 34, 3) := by decide +kernel
theorem dX11_mistaken_9 : decode cX11_mistaken 9 = .ok (.bipush 26, 2) := by decide +kernel
theorem dX11_mistaken_11 : decode cX11_mistaken 11 = .ok (.iaload, 1) := by decide +kernel
theorem dX11_mistaken_15 : decode cX11_mistaken 15 = .ok (.iconst 0, 1) := by decide +kernel
theorem dX11_mistaken_16 : decode cX11_mistaken 16 = .ok (.istore_n 3, 1) := by decide +kernel
theorem dX11_mistaken_17 : decode cX11_mistaken 17 = .ok (.iconst 0, 1) := by decide +kernel
theorem dX11_mistaken_18 : decode cX11_mistaken 18 = .ok (.istore 4, 2) := by decide +kernel
theorem dX11_mistaken_20 : decode cX11_mistaken 20 = .ok (.iload 4, 2) := by decide +kernel
theorem dX11_mistaken_22 : decode cX11_mistaken 22 = .ok (.aload_n 0, 1) := by decide +kernel
theorem dX11_mistaken_23 : decode cX11_mistaken 23 = .ok (.getfield 213, 3) := by decide +kernel
theorem dX11_mistaken_29 : decode cX11_mistaken 29 = .ok (.iload_n 3, 1) := by decide +kernel
theorem dX11_mistaken_52 : decode cX11_mistaken 52 = .ok (.iconst 1, 1) := by decide +kernel
theorem dX11_mistaken_53 : decode cX11_mistaken 53 = .ok (.goto 4, 3) := by decide +kernel
theorem dX11_mistaken_33 : decode cX11_mistaken 33 = .ok (.aload_n 0, 1) := by decide +kernel
theorem dX11_mistaken_34 : decode cX11_mistaken 34 = .ok (.getfield 34, 3) := by decide +kernel
theorem dX11_mistaken_37 : decode cX11_mistaken 37 = .ok (.bipush 67, 2) := by decide +kernel
theorem dX11_mistaken_39 : decode cX11_mistaken 39 = .ok (.iload_n 2, 1) := by decide +kernel
theorem dX11_mistaken_40 : decode cX11_mistaken 40 = .ok (.iadd, 1) := by decide +kernel
theorem dX11_mistaken_41 : decode cX11_mistaken 41 = .ok (.iaload, 1) := by decide +kernel
theorem dX11_mistaken_42 : decode cX11_mistaken 42 = .ok (.aload_n 0, 1) := by decide +kernel
theorem dX11_mistaken_43 : decode cX11_mistaken 43 = .ok (.getfield 31, 3) := by decide +kernel
theorem dX11_mistaken_46 : decode cX11_mistaken 46 = .ok (.iload 4, 2) := by decide +kernel
theorem dX11_mistaken_48 : decode cX11_mistaken 48 = .ok (.iaload, 1) := by decide +kernel
theorem dX11_mistaken_56 : decode cX11_mistaken 56 = .ok (.iconst 0, 1) := by decide +kernel
theorem dX11_mistaken_49 : decode cX11_mistaken 49 = .ok (.if_icmp .ne 7, 3) := by decide +kernel
theorem dX11_mistaken_30 : decode cX11_mistaken 30 = .ok (.ifCond .ne 22, 3) := by decide +kernel
theorem dX11_mistaken_57 : decode cX11_mistaken 57 = .ok (.istore_n 3, 1) := by decide +kernel
theorem dX11_mistaken_58 : decode cX11_mistaken 58 = .ok (.iinc 4 1, 3) := by decide +kernel
theorem dX11_mistaken_61 : decode cX11_mistaken 61 = .ok (.goto (-41), 3) := by decide +kernel
theorem dX11_mistaken_26 : decode cX11_mistaken 26 = .ok (.if_icmp .ge 38, 3) := by decide +kernel
theorem dX11_mistaken_64 : decode cX11_mistaken 64 = .ok (.iload_n 1, 1) := by decide +kernel
theorem dX11_mistaken_65 : decode cX11_mistaken 65 = .ok (.iload_n 3, 1) := by decide +kernel
theorem dX11_mistaken_94 : decode cX11_mistaken 94 = .ok (.iconst 0, 1) := by decide +kernel
theorem dX11_mistaken_69 : decode cX11_mistaken 69 = .ok (.aload_n 0, 1) := by decide +kernel
theorem dX11_mistaken_70 : decode cX11_mistaken 70 = .ok (.getfield 34, 3) := by decide +kernel
theorem dX11_mistaken_73 : decode cX11_mistaken 73 = .ok (.bipush 27, 2) := by decide +kernel
theorem dX11_mistaken_75 : decode cX11_mistaken 75 = .ok (.iload_n 2, 1) := by decide +kernel
theorem dX11_mistaken_76 : decode cX11_mistaken 76 = .ok (.iadd, 1) := by decide +kernel
theorem dX11_mistaken_77 : decode cX11_mistaken 77 = .ok (.iaload, 1) := by decide +kernel
theorem dX11_mistaken_78 : decode cX11_mistaken 78 = .ok (.aload_n 0, 1) := by decide +kernel
theorem dX11_mistaken_79 : decode cX11_mistaken 79 = .ok (.getfield 34, 3) := by decide +kernel
theorem dX11_mistaken_82 : decode cX11_mistaken 82 = .ok (.bipush 67, 2) := by decide +kernel
theorem dX11_mistaken_84 : decode cX11_mistaken 84 = .ok (.iload_n 2, 1) := by decide +kernel
theorem dX11_mistaken_85 : decode cX11_mistaken 85 = .ok (.iadd, 1) := by decide +kernel
theorem dX11_mistaken_86 : decode cX11_mistaken 86 = .ok (.iaload, 1) := by decide +kernel
theorem dX11_mistaken_90 : decode cX11_mistaken 90 = .ok (.iconst 1, 1) := by decide +kernel
theorem dX11_mistaken_91 : decode cX11_mistaken 91 = .ok (.goto 4, 3) := by decide +kernel
theorem dX11_mistaken_87 : decode cX11_mistaken 87 = .ok (.if_icmp .eq 7, 3) := by decide +kernel
theorem dX11_mistaken_66 : decode cX11_mistaken 66 = .ok (.ifCond .eq 28, 3) := by decide +kernel
theorem dX11_mistaken_95 : decode cX11_mistaken 95 = .ok (.iadd, 1) := by decide +kernel
theorem dX11_mistaken_96 : decode cX11_mistaken 96 = .ok (.istore_n 1, 1) := by decide +kernel
theorem dX11_mistaken_97 : decode cX11_mistaken 97 = .ok (.iinc 2 1, 3) := by decide +kernel
theorem dX11_mistaken_100 : decode cX11_mistaken 100 = .ok (.goto (-96), 3) := by decide +kernel
theorem dX11_mistaken_12 : decode cX11_mistaken 12 = .ok (.if_icmp .ge 91, 3) := by decide +kernel
theorem dX11_mistaken_103 : decode cX11_mistaken 103 = .ok (.iload_n 1, 1) := by decide +kernel
theorem dX11_mistaken_104 : decode cX11_mistaken 104 = .ok (.ireturn, 1) := by decide +kernel
theorem lX11_mistaken_L20 (x : bo_X) (hx : bo_OK x cX11_mistaken RX11 5 0 0) (σ : bo_M) (f1 : Int32) (f2 : Int32) : ∀ (n : Nat) (w3 : Int32) (w4 : Int32), bo_D x 20 [(0, .ref (bo_a x 135)), (1, .int f1), (2, .int f2), (3, .int w3), (4, .int w4)] [] σ (mX11_mistaken_L20 σ f1 f2 n w3 w4) (fun a => bo_N x 64 [(0, .ref (bo_a x 135)), (1, .int f1), (2, .int f2), (3, .int a)] [] σ) := by
  intro n
  induction n with
  | zero => intro w3 w4; exact bo_none
  | succ n ih =>
    intro w3 w4
    rw [mX11_mistaken_L20]
    refine bo_iload hx dX11_mistaken_20 4 rfl ?_
    refine bo_aload_n hx dX11_mistaken_22 rfl 0 rfl ?_
    refine gf_X11_213 hx dX11_mistaken_23 ?_
    refine bo_icmp_ge hx 64 dX11_mistaken_26 (by decide) ?_ ?_
    · refine bo_sub (L' := [(0, .ref (bo_a x 135)), (1, .int f1), (2, .int f2), (3, .int w3)]) [0, 1, 2, 3] rfl ?_
      exact bo_arr (fun h => h)
    · refine bo_iload_n hx dX11_mistaken_29 rfl 3 rfl ?_
      refine bo_seq 57 (fun a => [(0, .ref (bo_a x 135)), (1, .int f1), (2, .int f2), (4, .int w4)]) (fun a => [.int a]) (fun a => σ) ?_ (fun a2 => ?_)
      · refine bo_if_ne hx 52 dX11_mistaken_30 (by decide) ?_ ?_
        · refine bo_iconst (v := 1) hx dX11_mistaken_52 (by decide) ?_
          refine bo_goto hx 57 dX11_mistaken_53 (by decide) ?_
          refine bo_sub (L' := [(0, .ref (bo_a x 135)), (1, .int f1), (2, .int f2), (4, .int w4)]) [0, 1, 2, 4] rfl ?_
          exact bo_arr (fun h => h)
        · refine bo_aload_n hx dX11_mistaken_33 rfl 0 rfl ?_
          refine gf_X11_34 hx dX11_mistaken_34 ?_
          refine bo_bipush (v := 67) hx dX11_mistaken_37 (by decide) ?_
          refine bo_iload_n hx dX11_mistaken_39 rfl 2 rfl ?_
          refine bo_iadd hx dX11_mistaken_40 ?_
          refine bo_iald hx bo_c_144 dX11_mistaken_41 (fun v3 => ?_)
          refine bo_aload_n hx dX11_mistaken_42 rfl 0 rfl ?_
          refine gf_X11_31 hx dX11_mistaken_43 ?_
          refine bo_iload hx dX11_mistaken_46 4 rfl ?_
          refine bo_iald hx bo_c_143 dX11_mistaken_48 (fun v4 => ?_)
          refine bo_icmp_ne hx 56 dX11_mistaken_49 (by decide) ?_ ?_
          · refine bo_iconst (v := 0) hx dX11_mistaken_56 (by decide) ?_
            refine bo_sub (L' := [(0, .ref (bo_a x 135)), (1, .int f1), (2, .int f2), (4, .int w4)]) [0, 1, 2, 4] rfl ?_
            exact bo_arr (fun h => h)
          · refine bo_iconst (v := 1) hx dX11_mistaken_52 (by decide) ?_
            refine bo_goto hx 57 dX11_mistaken_53 (by decide) ?_
            refine bo_sub (L' := [(0, .ref (bo_a x 135)), (1, .int f1), (2, .int f2), (4, .int w4)]) [0, 1, 2, 4] rfl ?_
            exact bo_arr (fun h => h)
      · refine bo_istore_n (L' := [(3, .int a2), (0, .ref (bo_a x 135)), (1, .int f1), (2, .int f2), (4, .int w4)]) hx dX11_mistaken_57 rfl (by decide) rfl ?_
        refine bo_iinc (L' := [(4, .int (w4 + 1)), (3, .int a2), (0, .ref (bo_a x 135)), (1, .int f1), (2, .int f2)]) (w := (w4 + 1)) hx dX11_mistaken_58 4 rfl rfl (by decide) rfl ?_
        refine bo_goto hx 20 dX11_mistaken_61 (by decide) ?_
        refine bo_sub (L' := [(0, .ref (bo_a x 135)), (1, .int f1), (2, .int f2), (3, .int a2), (4, .int (w4 + 1))]) [2, 3, 4, 1, 0] rfl ?_
        exact ih a2 (w4 + 1)
theorem lX11_mistaken_L4 (x : bo_X) (hx : bo_OK x cX11_mistaken RX11 5 0 0) (σ : bo_M) : ∀ (n : Nat) (w1 : Int32) (w2 : Int32), bo_D x 4 [(0, .ref (bo_a x 135)), (1, .int w1), (2, .int w2)] [] σ (mX11_mistaken_L4 σ n w1 w2) (fun a => bo_N x 103 [(1, .int a)] [] σ) := by
  intro n
  induction n with
  | zero => intro w1 w2; exact bo_none
  | succ n ih =>
    intro w1 w2
    rw [mX11_mistaken_L4]
    refine bo_iload_n hx dX11_mistaken_4 rfl 2 rfl ?_
    refine bo_aload_n hx dX11_mistaken_5 rfl 0 rfl ?_
    refine gf_X11_34 hx dX11_mistaken_6 ?_
    refine bo_bipush (v := 26) hx dX11_mistaken_9 (by decide) ?_
    refine bo_iald hx bo_c_144 dX11_mistaken_11 (fun v1 => ?_)
    refine bo_icmp_ge hx 103 dX11_mistaken_12 (by decide) ?_ ?_
    · refine bo_sub (L' := [(1, .int w1)]) [1] rfl ?_
      exact bo_arr (fun h => h)
    · refine bo_iconst (v := 0) hx dX11_mistaken_15 (by decide) ?_
      refine bo_istore_n (L' := [(3, .int 0), (0, .ref (bo_a x 135)), (1, .int w1), (2, .int w2)]) hx dX11_mistaken_16 rfl (by decide) rfl ?_
      refine bo_iconst (v := 0) hx dX11_mistaken_17 (by decide) ?_
      refine bo_istore (L' := [(4, .int 0), (3, .int 0), (0, .ref (bo_a x 135)), (1, .int w1), (2, .int w2)]) hx dX11_mistaken_18 (by decide) rfl ?_
      refine bo_sub (L' := [(0, .ref (bo_a x 135)), (1, .int w1), (2, .int w2), (3, .int 0), (4, .int 0)]) [2, 3, 4, 1, 0] rfl ?_
      refine bo_seq 64 (fun a => [(0, .ref (bo_a x 135)), (1, .int w1), (2, .int w2), (3, .int a)]) (fun a => []) (fun a => σ) (lX11_mistaken_L20 x hx σ w1 w2 bo_fuel 0 0) (fun a5 => ?_)
      refine bo_iload_n hx dX11_mistaken_64 rfl 1 rfl ?_
      refine bo_iload_n hx dX11_mistaken_65 rfl 3 rfl ?_
      refine bo_seq 95 (fun a => [(0, .ref (bo_a x 135)), (2, .int w2)]) (fun a => [.int a, .int w1]) (fun a => σ) ?_ (fun a6 => ?_)
      · refine bo_if_eq hx 94 dX11_mistaken_66 (by decide) ?_ ?_
        · refine bo_iconst (v := 0) hx dX11_mistaken_94 (by decide) ?_
          refine bo_sub (L' := [(0, .ref (bo_a x 135)), (2, .int w2)]) [0, 2] rfl ?_
          exact bo_arr (fun h => h)
        · refine bo_aload_n hx dX11_mistaken_69 rfl 0 rfl ?_
          refine gf_X11_34 hx dX11_mistaken_70 ?_
          refine bo_bipush (v := 27) hx dX11_mistaken_73 (by decide) ?_
          refine bo_iload_n hx dX11_mistaken_75 rfl 2 rfl ?_
          refine bo_iadd hx dX11_mistaken_76 ?_
          refine bo_iald hx bo_c_144 dX11_mistaken_77 (fun v7 => ?_)
          refine bo_aload_n hx dX11_mistaken_78 rfl 0 rfl ?_
          refine gf_X11_34 hx dX11_mistaken_79 ?_
          refine bo_bipush (v := 67) hx dX11_mistaken_82 (by decide) ?_
          refine bo_iload_n hx dX11_mistaken_84 rfl 2 rfl ?_
          refine bo_iadd hx dX11_mistaken_85 ?_
          refine bo_iald hx bo_c_144 dX11_mistaken_86 (fun v8 => ?_)
          refine bo_icmp_eq hx 94 dX11_mistaken_87 (by decide) ?_ ?_
          · refine bo_iconst (v := 0) hx dX11_mistaken_94 (by decide) ?_
            refine bo_sub (L' := [(0, .ref (bo_a x 135)), (2, .int w2)]) [0, 2] rfl ?_
            exact bo_arr (fun h => h)
          · refine bo_iconst (v := 1) hx dX11_mistaken_90 (by decide) ?_
            refine bo_goto hx 95 dX11_mistaken_91 (by decide) ?_
            refine bo_sub (L' := [(0, .ref (bo_a x 135)), (2, .int w2)]) [0, 2] rfl ?_
            exact bo_arr (fun h => h)
      · refine bo_iadd hx dX11_mistaken_95 ?_
        refine bo_istore_n (L' := [(1, .int (w1 + a6)), (0, .ref (bo_a x 135)), (2, .int w2)]) hx dX11_mistaken_96 rfl (by decide) rfl ?_
        refine bo_iinc (L' := [(2, .int (w2 + 1)), (1, .int (w1 + a6)), (0, .ref (bo_a x 135))]) (w := (w2 + 1)) hx dX11_mistaken_97 2 rfl rfl (by decide) rfl ?_
        refine bo_goto hx 4 dX11_mistaken_100 (by decide) ?_
        refine bo_sub (L' := [(0, .ref (bo_a x 135)), (1, .int (w1 + a6)), (2, .int (w2 + 1))]) [2, 1, 0] rfl ?_
        exact ih (w1 + a6) (w2 + 1)
theorem bX11_mistaken (x : bo_X) (hx : bo_OK x cX11_mistaken RX11 5 0 0) (σ : bo_M) : bo_D x 0 [(0, .ref (bo_a x 135))] [] σ (mX11_mistaken σ) (bo_Ri x cX11_mistaken σ false) := by
  unfold mX11_mistaken
  refine bo_iconst (v := 0) hx dX11_mistaken_0 (by decide) ?_
  refine bo_istore_n (L' := [(1, .int 0), (0, .ref (bo_a x 135))]) hx dX11_mistaken_1 rfl (by decide) rfl ?_
  refine bo_iconst (v := 0) hx dX11_mistaken_2 (by decide) ?_
  refine bo_istore_n (L' := [(2, .int 0), (1, .int 0), (0, .ref (bo_a x 135))]) hx dX11_mistaken_3 rfl (by decide) rfl ?_
  refine bo_sub (L' := [(0, .ref (bo_a x 135)), (1, .int 0), (2, .int 0)]) [2, 1, 0] rfl ?_
  refine bo_seq 103 (fun a => [(1, .int a)]) (fun a => []) (fun a => σ) (lX11_mistaken_L4 x hx σ bo_fuel 0 0) (fun a9 => ?_)
  refine bo_iload_n hx dX11_mistaken_103 rfl 0 rfl ?_
  exact bo_ret dX11_mistaken_104 (fun h => by cases h)
theorem kX11_mistaken (l : Launch) (g : bo_G) (hi : bo_inj g) (σ : bo_M) : bo_CR l g yX11_mistaken cX11_mistaken 5 (some .int) 0 0 [.ref (g.2.2 135)] σ false (mX11_mistaken σ) :=
  bo_metR rfl (Or.inl ⟨rfl, rfl⟩) (by decide) rfl hi (Nat.le_of_ble_eq_true rfl) (fun x e1 e2 hx => by subst e1; subst e2; exact bX11_mistaken x hx σ)
-- BellRopeModel.costOf
theorem dX11_costOf_0 : decode cX11_costOf 0 = .ok (.aload_n 0, 1) := by decide +kernel
theorem dX11_costOf_1 : decode cX11_costOf 1 = .ok (.getfield 34, 3) := by decide +kernel
theorem dX11_costOf_4 : decode cX11_costOf 4 = .ok (.bipush 7, 2) := by decide +kernel
theorem dX11_costOf_6 : decode cX11_costOf 6 = .ok (.iload_n 1, 1) := by decide +kernel
theorem dX11_costOf_7 : decode cX11_costOf 7 = .ok (.iadd, 1) := by decide +kernel
theorem dX11_costOf_8 : decode cX11_costOf 8 = .ok (.iaload, 1) := by decide +kernel
theorem dX11_costOf_9 : decode cX11_costOf 9 = .ok (.aload_n 0, 1) := by decide +kernel
theorem dX11_costOf_10 : decode cX11_costOf 10 = .ok (.getfield 13, 3) := by decide +kernel
theorem dX11_costOf_13 : decode cX11_costOf 13 = .ok (.iload_n 1, 1) := by decide +kernel
theorem dX11_costOf_14 : decode cX11_costOf 14 = .ok (.iaload, 1) := by decide +kernel
theorem dX11_costOf_29 : decode cX11_costOf 29 = .ok (.iconst 0, 1) := by decide +kernel
theorem dX11_costOf_18 : decode cX11_costOf 18 = .ok (.aload_n 0, 1) := by decide +kernel
theorem dX11_costOf_19 : decode cX11_costOf 19 = .ok (.invokevirtual 239, 3) := by decide +kernel
theorem dX11_costOf_25 : decode cX11_costOf 25 = .ok (.iconst 1, 1) := by decide +kernel
theorem dX11_costOf_26 : decode cX11_costOf 26 = .ok (.goto 4, 3) := by decide +kernel
theorem dX11_costOf_22 : decode cX11_costOf 22 = .ok (.ifCond .ne 7, 3) := by decide +kernel
theorem dX11_costOf_15 : decode cX11_costOf 15 = .ok (.if_icmp .lt 14, 3) := by decide +kernel
theorem dX11_costOf_30 : decode cX11_costOf 30 = .ok (.istore_n 2, 1) := by decide +kernel
theorem dX11_costOf_31 : decode cX11_costOf 31 = .ok (.aload_n 0, 1) := by decide +kernel
theorem dX11_costOf_32 : decode cX11_costOf 32 = .ok (.getfield 34, 3) := by decide +kernel
theorem dX11_costOf_35 : decode cX11_costOf 35 = .ok (.iconst 0, 1) := by decide +kernel
theorem dX11_costOf_36 : decode cX11_costOf 36 = .ok (.iload_n 1, 1) := by decide +kernel
theorem dX11_costOf_37 : decode cX11_costOf 37 = .ok (.iadd, 1) := by decide +kernel
theorem dX11_costOf_38 : decode cX11_costOf 38 = .ok (.iaload, 1) := by decide +kernel
theorem dX11_costOf_46 : decode cX11_costOf 46 = .ok (.iconst 0, 1) := by decide +kernel
theorem dX11_costOf_42 : decode cX11_costOf 42 = .ok (.iconst 1, 1) := by decide +kernel
theorem dX11_costOf_43 : decode cX11_costOf 43 = .ok (.goto 4, 3) := by decide +kernel
theorem dX11_costOf_39 : decode cX11_costOf 39 = .ok (.ifCond .ne 7, 3) := by decide +kernel
theorem dX11_costOf_47 : decode cX11_costOf 47 = .ok (.iload_n 2, 1) := by decide +kernel
theorem dX11_costOf_55 : decode cX11_costOf 55 = .ok (.iconst 0, 1) := by decide +kernel
theorem dX11_costOf_51 : decode cX11_costOf 51 = .ok (.iconst 1, 1) := by decide +kernel
theorem dX11_costOf_52 : decode cX11_costOf 52 = .ok (.goto 4, 3) := by decide +kernel
theorem dX11_costOf_48 : decode cX11_costOf 48 = .ok (.ifCond .eq 7, 3) := by decide +kernel
theorem dX11_costOf_56 : decode cX11_costOf 56 = .ok (.iadd, 1) := by decide +kernel
theorem dX11_costOf_57 : decode cX11_costOf 57 = .ok (.ireturn, 1) := by decide +kernel
theorem bX11_costOf (x : bo_X) (hx : bo_OK x cX11_costOf RX11 3 1 20) (σ : bo_M) (p1 : Int32) : bo_D x 0 [(0, .ref (bo_a x 135)), (1, .int p1)] [] σ (mX11_costOf σ p1) (bo_Ri x cX11_costOf σ false) := by
  unfold mX11_costOf
  refine bo_aload_n hx dX11_costOf_0 rfl 0 rfl ?_
  refine gf_X11_34 hx dX11_costOf_1 ?_
  refine bo_bipush (v := 7) hx dX11_costOf_4 (by decide) ?_
  refine bo_iload_n hx dX11_costOf_6 rfl 1 rfl ?_
  refine bo_iadd hx dX11_costOf_7 ?_
  refine bo_iald hx bo_c_144 dX11_costOf_8 (fun v1 => ?_)
  refine bo_aload_n hx dX11_costOf_9 rfl 0 rfl ?_
  refine gf_X11_13 hx dX11_costOf_10 ?_
  refine bo_iload_n hx dX11_costOf_13 rfl 1 rfl ?_
  refine bo_iald hx bo_c_137 dX11_costOf_14 (fun v2 => ?_)
  refine bo_seq 30 (fun a => [(0, .ref (bo_a x 135)), (1, .int p1)]) (fun a => [.int a]) (fun a => σ) ?_ (fun a3 => ?_)
  · refine bo_icmp_lt hx 29 dX11_costOf_15 (by decide) ?_ ?_
    · refine bo_iconst (v := 0) hx dX11_costOf_29 (by decide) ?_
      exact bo_arr (fun h => h)
    · refine bo_aload_n hx dX11_costOf_18 rfl 0 rfl ?_
      refine bo_goR (z := true) hx (fun rr hh => bo_runV (As := []) (S := []) hx dX11_costOf_19 lk_X11_239 mi_X11_isFirstOfDay bo_o_135 rfl rfl (kX11_isFirstOfDay (bo_l x) (bo_g x) hx.inj σ rr hh) ⟨by decide, by decide⟩ rfl rfl (Nat.le_of_ble_eq_true rfl)) (fun v4 hv4 => ?_)
      refine bo_if_ne hx 29 dX11_costOf_22 (by decide) ?_ ?_
      · refine bo_iconst (v := 0) hx dX11_costOf_29 (by decide) ?_
        exact bo_arr (fun h => h)
      · refine bo_iconst (v := 1) hx dX11_costOf_25 (by decide) ?_
        refine bo_goto hx 30 dX11_costOf_26 (by decide) ?_
        exact bo_arr (fun h => h)
  · refine bo_istore_n (L' := [(2, .int a3), (0, .ref (bo_a x 135)), (1, .int p1)]) hx dX11_costOf_30 rfl (by decide) rfl ?_
    refine bo_aload_n hx dX11_costOf_31 rfl 1 rfl ?_
    refine gf_X11_34 hx dX11_costOf_32 ?_
    refine bo_iconst (v := 0) hx dX11_costOf_35 (by decide) ?_
    refine bo_iload_n hx dX11_costOf_36 rfl 2 rfl ?_
    refine bo_iadd hx dX11_costOf_37 ?_
    refine bo_iald hx bo_c_144 dX11_costOf_38 (fun v5 => ?_)
    refine bo_seq 47 (fun a => [(2, .int a3)]) (fun a => [.int a]) (fun a => σ) ?_ (fun a6 => ?_)
    · refine bo_if_ne hx 46 dX11_costOf_39 (by decide) ?_ ?_
      · refine bo_iconst (v := 0) hx dX11_costOf_46 (by decide) ?_
        refine bo_sub (L' := [(2, .int a3)]) [0] rfl ?_
        exact bo_arr (fun h => h)
      · refine bo_iconst (v := 1) hx dX11_costOf_42 (by decide) ?_
        refine bo_goto hx 47 dX11_costOf_43 (by decide) ?_
        refine bo_sub (L' := [(2, .int a3)]) [0] rfl ?_
        exact bo_arr (fun h => h)
    · refine bo_iload_n hx dX11_costOf_47 rfl 0 rfl ?_
      refine bo_seq 56 (fun a => []) (fun a => [.int a, .int a6]) (fun a => σ) ?_ (fun a7 => ?_)
      · refine bo_if_eq hx 55 dX11_costOf_48 (by decide) ?_ ?_
        · refine bo_iconst (v := 0) hx dX11_costOf_55 (by decide) ?_
          refine bo_sub (L' := []) [] rfl ?_
          exact bo_arr (fun h => h)
        · refine bo_iconst (v := 1) hx dX11_costOf_51 (by decide) ?_
          refine bo_goto hx 56 dX11_costOf_52 (by decide) ?_
          refine bo_sub (L' := []) [] rfl ?_
          exact bo_arr (fun h => h)
      · refine bo_iadd hx dX11_costOf_56 ?_
        exact bo_ret dX11_costOf_57 (fun h => by cases h)
theorem kX11_costOf (l : Launch) (g : bo_G) (hi : bo_inj g) (σ : bo_M) (p1 : Int32) : bo_CR l g yX11_costOf cX11_costOf 3 (some .int) 1 20 [.ref (g.2.2 135), .int p1] σ false (mX11_costOf σ p1) :=
  bo_metR rfl (Or.inl ⟨rfl, rfl⟩) (by decide) rfl hi (Nat.le_of_ble_eq_true rfl) (fun x e1 e2 hx => by subst e1; subst e2; exact bX11_costOf x hx σ p1)
