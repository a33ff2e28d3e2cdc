-- BellRope.share
theorem dX10_share_0 : decode cX10_share 0 = .ok (.aload_n 0, 1) := by decide +kernel
theorem dX10_share_1 : decode cX10_share 1 = .ok (.getfield 71, 3) := by decide +kernel
theorem dX10_share_4 : decode cX10_share 4 = .ok (.iload_n 1, 1) := by decide +kernel
theorem dX10_share_5 : decode cX10_share 5 = .ok (.invokevirtual 146, 3) := by decide +kernel
theorem dX10_share_14 : decode cX10_share 14 = .ok (.aload_n 0, 1) := by decide +kernel
theorem dX10_share_15 : decode cX10_share 15 = .ok (.getfield 19, 3) := by decide +kernel
theorem dX10_share_18 : decode cX10_share 18 = .ok (.getfield 123, 3) := by decide +kernel
theorem dX10_share_21 : decode cX10_share 21 = .ok (.invokestatic 248, 3) := by decide +kernel
theorem dX10_share_24 : decode cX10_share 24 = .ok (.istore_n 2, 1) := by decide +kernel
theorem dX10_share_25 : decode cX10_share 25 = .ok (.aload_n 0, 1) := by decide +kernel
theorem dX10_share_26 : decode cX10_share 26 = .ok (.getfield 19, 3) := by decide +kernel
theorem dX10_share_29 : decode cX10_share 29 = .ok (.getfield 123, 3) := by decide +kernel
theorem dX10_share_32 : decode cX10_share 32 = .ok (.iload_n 1, 1) := by decide +kernel
theorem dX10_share_33 : decode cX10_share 33 = .ok (.invokestatic 166, 3) := by decide +kernel
theorem dX10_share_43 : decode cX10_share 43 = .ok (.iconst 0, 1) := by decide +kernel
theorem dX10_share_44 : decode cX10_share 44 = .ok (.ireturn, 1) := by decide +kernel
theorem dX10_share_39 : decode cX10_share 39 = .ok (.iload_n 2, 1) := by decide +kernel
theorem dX10_share_45 : decode cX10_share 45 = .ok (.aload_n 0, 1) := by decide +kernel
theorem dX10_share_46 : decode cX10_share 46 = .ok (.getfield 19, 3) := by decide +kernel
theorem dX10_share_49 : decode cX10_share 49 = .ok (.getfield 170, 3) := by decide +kernel
theorem dX10_share_52 : decode cX10_share 52 = .ok (.invokestatic 282, 3) := by decide +kernel
theorem dX10_share_55 : decode cX10_share 55 = .ok (.istore_n 3, 1) := by decide +kernel
theorem dX10_share_56 : decode cX10_share 56 = .ok (.aload_n 0, 1) := by decide +kernel
theorem dX10_share_57 : decode cX10_share 57 = .ok (.iload_n 1, 1) := by decide +kernel
theorem dX10_share_58 : decode cX10_share 58 = .ok (.invokevirtual 286, 3) := by decide +kernel
theorem dX10_share_61 : decode cX10_share 61 = .ok (.iload_n 3, 1) := by decide +kernel
theorem dX10_share_62 : decode cX10_share 62 = .ok (.iload_n 2, 1) := by decide +kernel
theorem dX10_share_63 : decode cX10_share 63 = .ok (.irem, 1) := by decide +kernel
theorem dX10_share_71 : decode cX10_share 71 = .ok (.iconst 0, 1) := by decide +kernel
theorem dX10_share_67 : decode cX10_share 67 = .ok (.iconst 1, 1) := by decide +kernel
theorem dX10_share_68 : decode cX10_share 68 = .ok (.goto 4, 3) := by decide +kernel
theorem dX10_share_64 : decode cX10_share 64 = .ok (.if_icmp .ge 7, 3) := by decide +kernel
theorem dX10_share_72 : decode cX10_share 72 = .ok (.istore 4, 2) := by decide +kernel
theorem dX10_share_74 : decode cX10_share 74 = .ok (.iload_n 3, 1) := by decide +kernel
theorem dX10_share_75 : decode cX10_share 75 = .ok (.iload_n 2, 1) := by decide +kernel
theorem dX10_share_76 : decode cX10_share 76 = .ok (.idiv, 1) := by decide +kernel
theorem dX10_share_77 : decode cX10_share 77 = .ok (.iload 4, 2) := by decide +kernel
theorem dX10_share_79 : decode cX10_share 79 = .ok (.iadd, 1) := by decide +kernel
theorem dX10_share_80 : decode cX10_share 80 = .ok (.ireturn, 1) := by decide +kernel
theorem dX10_share_40 : decode cX10_share 40 = .ok (.ifCond .gt 5, 3) := by decide +kernel
theorem dX10_share_36 : decode cX10_share 36 = .ok (.ifCond .eq 7, 3) := by decide +kernel
theorem dX10_share_11 : decode cX10_share 11 = .ok (.ldc 149, 2) := by decide +kernel
theorem dX10_share_13 : decode cX10_share 13 = .ok (.ireturn, 1) := by decide +kernel
theorem dX10_share_8 : decode cX10_share 8 = .ok (.ifCond .ne 6, 3) := by decide +kernel
theorem bX10_share (x : bo_X) (hx : bo_OK x cX10_share RX10 5 2 45) (σ : bo_M) (p1 : Int32) : bo_D x 0 [(0, .ref (bo_a x 0)), (1, .int p1)] [] σ (mX10_share σ p1) (bo_Ri x cX10_share σ false) := by
  unfold mX10_share
  refine bo_aload_n hx dX10_share_0 rfl 0 rfl ?_
  refine gf_X10_71 hx dX10_share_1 ?_
  refine bo_iload_n hx dX10_share_4 rfl 1 rfl ?_
  refine bo_goR (z := true) hx (fun rr hh => bo_runV (As := [.int p1]) (S := []) hx dX10_share_5 lk_X10_146 mi_X4_hasDrinker (bo_inn_ok (σ 0 9)).o rfl rfl (kX4_hasDrinker (bo_l x) (bo_g x) hx.inj σ (bo_inn (σ 0 9)) p1 (bo_inn_ok (σ 0 9)) rr hh) ⟨by decide, by decide⟩ rfl rfl (Nat.le_of_ble_eq_true rfl)) (fun v1 hv1 => ?_)
  refine bo_if_ne hx 14 dX10_share_8 (by decide) ?_ ?_
  · refine bo_aload_n hx dX10_share_14 rfl 0 rfl ?_
    refine gf_X10_19 hx dX10_share_15 ?_
    refine gf_X10_123 hx bo_ev50 dX10_share_18 ?_
    refine bo_goR (z := false) hx (fun rr hh => bo_runS (As := [.int (σ 50 5)]) (S := []) hx dX10_share_21 lk_X10_248 ms_J6_bitCount_0f7a4 (kJ6_bitCount_0f7a4 (bo_l x) (bo_g x) hx.inj σ (σ 50 5) rr hh) ⟨by decide, by decide⟩ rfl rfl (Nat.le_of_ble_eq_true rfl)) (fun v2 hv2 => ?_)
    refine bo_istore_n (L' := [(2, .int v2), (0, .ref (bo_a x 0)), (1, .int p1)]) hx dX10_share_24 rfl (by decide) rfl ?_
    refine bo_aload_n hx dX10_share_25 rfl 1 rfl ?_
    refine gf_X10_19 hx dX10_share_26 ?_
    refine gf_X10_123 hx bo_ev50 dX10_share_29 ?_
    refine bo_iload_n hx dX10_share_32 rfl 2 rfl ?_
    refine bo_goR (z := false) hx (fun rr hh => bo_runS (As := [.int (σ 50 5), .int p1]) (S := []) hx dX10_share_33 lk_X10_166 ms_X10_bit (kX10_bit (bo_l x) (bo_g x) hx.inj σ (σ 50 5) p1 rr hh) ⟨by decide, by decide⟩ rfl rfl (Nat.le_of_ble_eq_true rfl)) (fun v3 hv3 => ?_)
    refine bo_if_eq hx 43 dX10_share_36 (by decide) ?_ ?_
    · refine bo_iconst (v := 0) hx dX10_share_43 (by decide) ?_
      exact bo_ret dX10_share_44 (fun h => by cases h)
    · refine bo_iload_n hx dX10_share_39 rfl 0 rfl ?_
      refine bo_if_gt hx 45 dX10_share_40 (by decide) ?_ ?_
      · refine bo_aload_n hx dX10_share_45 rfl 1 rfl ?_
        refine gf_X10_19 hx dX10_share_46 ?_
        refine gf_X10_170 hx bo_ev50 dX10_share_49 ?_
        refine bo_goR (z := false) hx (fun rr hh => bo_runS (As := [.ref (bo_a x 51)]) (S := []) hx dX10_share_52 lk_X10_282 ms_X8_sum (kX8_sum (bo_l x) (bo_g x) hx.inj σ 7 51 bo_ev50.a1 rr hh) ⟨by decide, by decide⟩ rfl rfl (Nat.le_of_ble_eq_true rfl)) (fun v4 hv4 => ?_)
        refine bo_istore_n (L' := [(3, .int v4), (2, .int v2), (0, .ref (bo_a x 0)), (1, .int p1)]) hx dX10_share_55 rfl (by decide) rfl ?_
        refine bo_aload_n hx dX10_share_56 rfl 2 rfl ?_
        refine bo_iload_n hx dX10_share_57 rfl 3 rfl ?_
        refine bo_goR (z := false) hx (fun rr hh => bo_runV (As := [.int p1]) (S := []) hx dX10_share_58 lk_X10_286 mi_X10_payersAhead bo_o_0 rfl rfl (kX10_payersAhead (bo_l x) (bo_g x) hx.inj σ p1 rr hh) ⟨by decide, by decide⟩ rfl rfl (Nat.le_of_ble_eq_true rfl)) (fun v5 hv5 => ?_)
        refine bo_iload_n hx dX10_share_61 rfl 0 rfl ?_
        refine bo_iload_n hx dX10_share_62 rfl 1 rfl ?_
        refine bo_irem hx dX10_share_63 (fun v6 => ?_)
        refine bo_seq 72 (fun a => [(2, .int v2), (3, .int v4)]) (fun a => [.int a]) (fun a => σ) ?_ (fun a7 => ?_)
        · refine bo_icmp_ge hx 71 dX10_share_64 (by decide) ?_ ?_
          · refine bo_iconst (v := 0) hx dX10_share_71 (by decide) ?_
            refine bo_sub (L' := [(2, .int v2), (3, .int v4)]) [1, 0] rfl ?_
            exact bo_arr (fun h => h)
          · refine bo_iconst (v := 1) hx dX10_share_67 (by decide) ?_
            refine bo_goto hx 72 dX10_share_68 (by decide) ?_
            refine bo_sub (L' := [(2, .int v2), (3, .int v4)]) [1, 0] rfl ?_
            exact bo_arr (fun h => h)
        · refine bo_istore (L' := [(4, .int a7), (2, .int v2), (3, .int v4)]) hx dX10_share_72 (by decide) rfl ?_
          refine bo_iload_n hx dX10_share_74 rfl 2 rfl ?_
          refine bo_iload_n hx dX10_share_75 rfl 1 rfl ?_
          refine bo_idiv hx dX10_share_76 (fun v8 => ?_)
          refine bo_iload hx dX10_share_77 0 rfl ?_
          refine bo_iadd hx dX10_share_79 ?_
          exact bo_ret dX10_share_80 (fun h => by cases h)
      · refine bo_iconst (v := 0) hx dX10_share_43 (by decide) ?_
        exact bo_ret dX10_share_44 (fun h => by cases h)
  · refine bo_ldc (v := (-1000000001)) hx dX10_share_11 wc_X10_149 ?_
    exact bo_ret dX10_share_13 (fun h => by cases h)
theorem kX10_share (l : Launch) (g : bo_G) (hi : bo_inj g) (σ : bo_M) (p1 : Int32) : bo_CR l g yX10_share cX10_share 5 (some .int) 2 45 [.ref (g.2.2 0), .int p1] σ false (mX10_share σ p1) :=
  bo_metR rfl (Or.inl ⟨rfl, rfl⟩) (by decide) rfl hi (Nat.le_of_ble_eq_true rfl) (fun x e1 e2 hx => by subst e1; subst e2; exact bX10_share x hx σ p1)
-- BellRope$Known.append
theorem dX5_append_0 : decode cX5_append 0 = .ok (.aload_n 0, 1) := by decide +kernel
theorem dX5_append_1 : decode cX5_append 1 = .ok (.getfield 24, 3) := by decide +kernel
theorem dX5_append_4 : decode cX5_append 4 = .ok (.bipush 6, 2) := by decide +kernel
theorem dX5_append_11 : decode cX5_append 11 = .ok (.aload_n 0, 1) := by decide +kernel
theorem dX5_append_12 : decode cX5_append 12 = .ok (.getfield 9, 3) := by decide +kernel
theorem dX5_append_15 : decode cX5_append 15 = .ok (.aload_n 0, 1) := by decide +kernel
theorem dX5_append_16 : decode cX5_append 16 = .ok (.getfield 24, 3) := by decide +kernel
theorem dX5_append_19 : decode cX5_append 19 = .ok (.iload_n 1, 1) := by decide +kernel
theorem dX5_append_20 : decode cX5_append 20 = .ok (.invokestatic 28, 3) := by decide +kernel
theorem dX5_append_23 : decode cX5_append 23 = .ok (.aload_n 0, 1) := by decide +kernel
theorem dX5_append_24 : decode cX5_append 24 = .ok (.getfield 15, 3) := by decide +kernel
theorem dX5_append_27 : decode cX5_append 27 = .ok (.aload_n 0, 1) := by decide +kernel
theorem dX5_append_28 : decode cX5_append 28 = .ok (.getfield 24, 3) := by decide +kernel
theorem dX5_append_31 : decode cX5_append 31 = .ok (.iload_n 2, 1) := by decide +kernel
theorem dX5_append_32 : decode cX5_append 32 = .ok (.invokestatic 28, 3) := by decide +kernel
theorem dX5_append_35 : decode cX5_append 35 = .ok (.aload_n 0, 1) := by decide +kernel
theorem dX5_append_36 : decode cX5_append 36 = .ok (.dup, 1) := by decide +kernel
theorem dX5_append_37 : decode cX5_append 37 = .ok (.getfield 24, 3) := by decide +kernel
theorem dX5_append_40 : decode cX5_append 40 = .ok (.iconst 1, 1) := by decide +kernel
theorem dX5_append_41 : decode cX5_append 41 = .ok (.iadd, 1) := by decide +kernel
theorem dX5_append_42 : decode cX5_append 42 = .ok (.putfield 24, 3) := by decide +kernel
theorem dX5_append_45 : decode cX5_append 45 = .ok (.iconst 1, 1) := by decide +kernel
theorem dX5_append_46 : decode cX5_append 46 = .ok (.ireturn, 1) := by decide +kernel
theorem dX5_append_9 : decode cX5_append 9 = .ok (.iconst 0, 1) := by decide +kernel
theorem dX5_append_10 : decode cX5_append 10 = .ok (.ireturn, 1) := by decide +kernel
theorem dX5_append_6 : decode cX5_append 6 = .ok (.if_icmp .lt 5, 3) := by decide +kernel
theorem bX5_append (x : bo_X) (hx : bo_OK x cX5_append RX5 3 1 22) (σ : bo_M) (p1 : Int32) (p2 : Int32) : bo_D x 0 [(0, .ref (bo_a x 24)), (1, .int p1), (2, .int p2)] [] σ (mX5_append σ p1 p2) (bo_Rw x cX5_append true) := by
  unfold mX5_append
  refine bo_aload_n hx dX5_append_0 rfl 0 rfl ?_
  refine gf_X5_24 hx dX5_append_1 ?_
  refine bo_bipush (v := 6) hx dX5_append_4 (by decide) ?_
  refine bo_icmp_lt hx 11 dX5_append_6 (by decide) ?_ ?_
  · refine bo_aload_n hx dX5_append_11 rfl 0 rfl ?_
    refine gf_X5_9 hx dX5_append_12 ?_
    refine bo_aload_n hx dX5_append_15 rfl 0 rfl ?_
    refine gf_X5_24 hx dX5_append_16 ?_
    refine bo_iload_n hx dX5_append_19 rfl 1 rfl ?_
    refine bo_goV hx (fun rr hh => bo_runS (As := [.ref (bo_a x 25), .int (σ 24 4), .int p1]) (S := []) hx dX5_append_20 lk_X5_28 ms_X8_put (kX8_put (bo_l x) (bo_g x) hx.inj σ 6 25 (σ 24 4) p1 bo_c_25 rr hh) ⟨by decide, by decide⟩ rfl rfl (Nat.le_of_ble_eq_true rfl)) (fun σ1 => ?_)
    refine bo_aload_n hx dX5_append_23 rfl 0 rfl ?_
    refine gf_X5_15 hx dX5_append_24 ?_
    refine bo_aload_n hx dX5_append_27 rfl 0 rfl ?_
    refine gf_X5_24 hx dX5_append_28 ?_
    refine bo_iload_n hx dX5_append_31 rfl 2 rfl ?_
    refine bo_goV hx (fun rr hh => bo_runS (As := [.ref (bo_a x 26), .int (σ1 24 4), .int p2]) (S := []) hx dX5_append_32 lk_X5_28 ms_X8_put (kX8_put (bo_l x) (bo_g x) hx.inj σ1 6 26 (σ1 24 4) p2 bo_c_26 rr hh) ⟨by decide, by decide⟩ rfl rfl (Nat.le_of_ble_eq_true rfl)) (fun σ2 => ?_)
    refine bo_aload_n hx dX5_append_35 rfl 0 rfl ?_
    refine bo_dup hx dX5_append_36 rfl ?_
    refine gf_X5_24 hx dX5_append_37 ?_
    refine bo_iconst (v := 1) hx dX5_append_40 (by decide) ?_
    refine bo_iadd hx dX5_append_41 ?_
    refine pf_X5_24 hx dX5_append_42 (fun σ3 => ?_)
    refine bo_iconst (v := 1) hx dX5_append_45 (by decide) ?_
    exact bo_retw dX5_append_46 (fun _ => bo_b_1)
  · refine bo_iconst (v := 0) hx dX5_append_9 (by decide) ?_
    exact bo_retw dX5_append_10 (fun _ => bo_b_0)
theorem kX5_append (l : Launch) (g : bo_G) (hi : bo_inj g) (σ : bo_M) (p1 : Int32) (p2 : Int32) : bo_CW l g yX5_append cX5_append 3 (some .boolean) 1 22 [.ref (g.2.2 24), .int p1, .int p2] σ true (mX5_append σ p1 p2) :=
  bo_metW rfl (Or.inr ⟨rfl, rfl⟩) (by decide) rfl hi (Nat.le_of_ble_eq_true rfl) (fun x e1 e2 hx => by subst e1; subst e2; exact bX5_append x hx σ p1 p2)
-- BellRope.was
theorem dX10_was_0 : decode cX10_was 0 = .ok (.aload_n 0, 1) := by decide +kernel
theorem dX10_was_1 : decode cX10_was 1 = .ok (.iload_n 1, 1) := by decide +kernel
theorem dX10_was_21 : decode cX10_was 21 = .ok (.iconst 1, 1) := by decide +kernel
theorem dX10_was_22 : decode cX10_was 22 = .ok (.goto 4, 3) := by decide +kernel
theorem dX10_was_5 : decode cX10_was 5 = .ok (.iload_n 1, 1) := by decide +kernel
theorem dX10_was_6 : decode cX10_was 6 = .ok (.bipush 96, 2) := by decide +kernel
theorem dX10_was_11 : decode cX10_was 11 = .ok (.iload_n 2, 1) := by decide +kernel
theorem dX10_was_15 : decode cX10_was 15 = .ok (.iload_n 2, 1) := by decide +kernel
theorem dX10_was_16 : decode cX10_was 16 = .ok (.bipush 16, 2) := by decide +kernel
theorem dX10_was_25 : decode cX10_was 25 = .ok (.iconst 0, 1) := by decide +kernel
theorem dX10_was_18 : decode cX10_was 18 = .ok (.if_icmp .le 7, 3) := by decide +kernel
theorem dX10_was_12 : decode cX10_was 12 = .ok (.ifCond .lt 9, 3) := by decide +kernel
theorem dX10_was_8 : decode cX10_was 8 = .ok (.if_icmp .ge 13, 3) := by decide +kernel
theorem dX10_was_2 : decode cX10_was 2 = .ok (.ifCond .lt 19, 3) := by decide +kernel
theorem dX10_was_26 : decode cX10_was 26 = .ok (.invokevirtual 218, 3) := by decide +kernel
theorem dX10_was_29 : decode cX10_was 29 = .ok (.istore_n 3, 1) := by decide +kernel
theorem dX10_was_30 : decode cX10_was 30 = .ok (.iload_n 3, 1) := by decide +kernel
theorem dX10_was_36 : decode cX10_was 36 = .ok (.aload_n 0, 1) := by decide +kernel
theorem dX10_was_37 : decode cX10_was 37 = .ok (.getfield 50, 3) := by decide +kernel
theorem dX10_was_40 : decode cX10_was 40 = .ok (.iload_n 1, 1) := by decide +kernel
theorem dX10_was_41 : decode cX10_was 41 = .ok (.iload_n 2, 1) := by decide +kernel
theorem dX10_was_42 : decode cX10_was 42 = .ok (.invokevirtual 289, 3) := by decide +kernel
theorem dX10_was_58 : decode cX10_was 58 = .ok (.ldc 87, 2) := by decide +kernel
theorem dX10_was_60 : decode cX10_was 60 = .ok (.ireturn, 1) := by decide +kernel
theorem dX10_was_48 : decode cX10_was 48 = .ok (.aload_n 0, 1) := by decide +kernel
theorem dX10_was_49 : decode cX10_was 49 = .ok (.getfield 50, 3) := by decide +kernel
theorem dX10_was_52 : decode cX10_was 52 = .ok (.getfield 100, 3) := by decide +kernel
theorem dX10_was_55 : decode cX10_was 55 = .ok (.goto 5, 3) := by decide +kernel
theorem dX10_was_45 : decode cX10_was 45 = .ok (.ifCond .eq 13, 3) := by decide +kernel
theorem dX10_was_34 : decode cX10_was 34 = .ok (.iload_n 3, 1) := by decide +kernel
theorem dX10_was_35 : decode cX10_was 35 = .ok (.ireturn, 1) := by decide +kernel
theorem dX10_was_31 : decode cX10_was 31 = .ok (.ifCond .eq 5, 3) := by decide +kernel
theorem bX10_was (x : bo_X) (hx : bo_OK x cX10_was RX10 4 2 44) (σ : bo_M) (p1 : Int32) (p2 : Int32) : bo_D x 0 [(0, .ref (bo_a x 0)), (1, .int p1), (2, .int p2)] [] σ (mX10_was σ p1 p2) (bo_Rw x cX10_was false) := by
  unfold mX10_was
  refine bo_aload_n hx dX10_was_0 rfl 0 rfl ?_
  refine bo_iload_n hx dX10_was_1 rfl 1 rfl ?_
  refine bo_seq 26 (fun a => [(0, .ref (bo_a x 0)), (1, .int p1), (2, .int p2)]) (fun a => [.int a, .ref (bo_a x 0)]) (fun a => σ) ?_ (fun a1 => ?_)
  · refine bo_if_lt hx 21 dX10_was_2 (by decide) ?_ ?_
    · refine bo_iconst (v := 1) hx dX10_was_21 (by decide) ?_
      refine bo_goto hx 26 dX10_was_22 (by decide) ?_
      exact bo_arr (fun h => h)
    · refine bo_iload_n hx dX10_was_5 rfl 1 rfl ?_
      refine bo_bipush (v := 96) hx dX10_was_6 (by decide) ?_
      refine bo_icmp_ge hx 21 dX10_was_8 (by decide) ?_ ?_
      · refine bo_iconst (v := 1) hx dX10_was_21 (by decide) ?_
        refine bo_goto hx 26 dX10_was_22 (by decide) ?_
        exact bo_arr (fun h => h)
      · refine bo_iload_n hx dX10_was_11 rfl 2 rfl ?_
        refine bo_if_lt hx 21 dX10_was_12 (by decide) ?_ ?_
        · refine bo_iconst (v := 1) hx dX10_was_21 (by decide) ?_
          refine bo_goto hx 26 dX10_was_22 (by decide) ?_
          exact bo_arr (fun h => h)
        · refine bo_iload_n hx dX10_was_15 rfl 2 rfl ?_
          refine bo_bipush (v := 16) hx dX10_was_16 (by decide) ?_
          refine bo_icmp_le hx 25 dX10_was_18 (by decide) ?_ ?_
          · refine bo_iconst (v := 0) hx dX10_was_25 (by decide) ?_
            exact bo_arr (fun h => h)
          · refine bo_iconst (v := 1) hx dX10_was_21 (by decide) ?_
            refine bo_goto hx 26 dX10_was_22 (by decide) ?_
            exact bo_arr (fun h => h)
  · refine bo_goR (z := false) hx (fun rr hh => bo_runV (As := [.int a1]) (S := []) hx dX10_was_26 lk_X10_218 mi_X10_refused bo_o_0 rfl rfl (kX10_refused (bo_l x) (bo_g x) hx.inj σ a1 rr hh) ⟨by decide, by decide⟩ rfl rfl (Nat.le_of_ble_eq_true rfl)) (fun v2 hv2 => ?_)
    refine bo_istore_n (L' := [(3, .int v2), (0, .ref (bo_a x 0)), (1, .int p1), (2, .int p2)]) hx dX10_was_29 rfl (by decide) rfl ?_
    refine bo_iload_n hx dX10_was_30 rfl 0 rfl ?_
    refine bo_if_eq hx 36 dX10_was_31 (by decide) ?_ ?_
    · refine bo_aload_n hx dX10_was_36 rfl 1 rfl ?_
      refine gf_X10_50 hx dX10_was_37 ?_
      refine bo_iload_n hx dX10_was_40 rfl 2 rfl ?_
      refine bo_iload_n hx dX10_was_41 rfl 3 rfl ?_
      refine bo_goW (z := true) hx (fun rr hh => bo_runV (As := [.int p1, .int p2]) (S := []) hx dX10_was_42 lk_X10_289 mi_X5_append bo_o_24 rfl rfl (kX5_append (bo_l x) (bo_g x) hx.inj σ p1 p2 rr hh) ⟨by decide, by decide⟩ rfl rfl (Nat.le_of_ble_eq_true rfl)) (fun a3 ha3 => ?_)
      refine bo_if_eq hx 58 dX10_was_45 (by decide) ?_ ?_
      · refine bo_ldc (v := (-1000000004)) hx dX10_was_58 wc_X10_87 ?_
        exact bo_retw dX10_was_60 (fun h => by cases h)
      · refine bo_aload_n hx dX10_was_48 rfl 1 rfl ?_
        refine gf_X10_50 hx dX10_was_49 ?_
        refine gf_X10_100 hx dX10_was_52 ?_
        refine bo_goto hx 60 dX10_was_55 (by decide) ?_
        exact bo_retw dX10_was_60 (fun h => by cases h)
    · refine bo_iload_n hx dX10_was_34 rfl 0 rfl ?_
      exact bo_retw dX10_was_35 (fun h => by cases h)
theorem kX10_was (l : Launch) (g : bo_G) (hi : bo_inj g) (σ : bo_M) (p1 : Int32) (p2 : Int32) : bo_CW l g yX10_was cX10_was 4 (some .int) 2 44 [.ref (g.2.2 0), .int p1, .int p2] σ false (mX10_was σ p1 p2) :=
  bo_metW rfl (Or.inl ⟨rfl, rfl⟩) (by decide) rfl hi (Nat.le_of_ble_eq_true rfl) (fun x e1 e2 hx => by subst e1; subst e2; exact bX10_was x hx σ p1 p2)
-- BellRope$Known.heardBy
theorem dX5_heardBy_0 : decode cX5_heardBy 0 = .ok (.aload_n 0, 1) := by decide +kernel
theorem dX5_heardBy_1 : decode cX5_heardBy 1 = .ok (.iload_n 1, 1) := by decide +kernel
theorem dX5_heardBy_2 : decode cX5_heardBy 2 = .ok (.invokestatic 76, 3) := by decide +kernel
theorem dX5_heardBy_5 : decode cX5_heardBy 5 = .ok (.aload_n 0, 1) := by decide +kernel
theorem dX5_heardBy_6 : decode cX5_heardBy 6 = .ok (.iload_n 2, 1) := by decide +kernel
theorem dX5_heardBy_7 : decode cX5_heardBy 7 = .ok (.invokevirtual 82, 3) := by decide +kernel
theorem dX5_heardBy_17 : decode cX5_heardBy 17 = .ok (.iconst 0, 1) := by decide +kernel
theorem dX5_heardBy_13 : decode cX5_heardBy 13 = .ok (.iload_n 3, 1) := by decide +kernel
theorem dX5_heardBy_14 : decode cX5_heardBy 14 = .ok (.goto 4, 3) := by decide +kernel
theorem dX5_heardBy_10 : decode cX5_heardBy 10 = .ok (.ifCond .eq 7, 3) := by decide +kernel
theorem dX5_heardBy_18 : decode cX5_heardBy 18 = .ok (.invokevirtual 86, 3) := by decide +kernel
theorem dX5_heardBy_21 : decode cX5_heardBy 21 = .ok (.ireturn, 1) := by decide +kernel
theorem bX5_heardBy (x : bo_X) (hx : bo_OK x cX5_heardBy RX5 4 2 47) (σ : bo_M) (r0 : Nat) (p1 : Int32) (p2 : Int32) (p3 : Int32) (hr0 : bo_isInn r0) : bo_D x 0 [(0, .ref (bo_a x r0)), (1, .int p1), (2, .int p2), (3, .int p3)] [] σ (mX5_heardBy σ r0 p1 p2 p3) (bo_Ri x cX5_heardBy σ false) := by
  unfold mX5_heardBy
  refine bo_aload_n hx dX5_heardBy_0 rfl 0 rfl ?_
  refine bo_iload_n hx dX5_heardBy_1 rfl 1 rfl ?_
  refine bo_goR (z := false) hx (fun rr hh => bo_runS (As := [.int p1]) (S := [.ref (bo_a x r0)]) hx dX5_heardBy_2 lk_X5_76 ms_J6_bitCount_0f7a4 (kJ6_bitCount_0f7a4 (bo_l x) (bo_g x) hx.inj σ p1 rr hh) ⟨by decide, by decide⟩ rfl rfl (Nat.le_of_ble_eq_true rfl)) (fun v1 hv1 => ?_)
  refine bo_aload_n hx dX5_heardBy_5 rfl 0 rfl ?_
  refine bo_iload_n hx dX5_heardBy_6 rfl 2 rfl ?_
  refine bo_goR (z := true) hx (fun rr hh => bo_runV (As := [.int p2]) (S := [.int v1, .ref (bo_a x r0)]) hx dX5_heardBy_7 lk_X5_82 mi_X4_sextonAt hr0.o rfl rfl (kX4_sextonAt (bo_l x) (bo_g x) hx.inj σ r0 p2 hr0 rr hh) ⟨by decide, by decide⟩ rfl rfl (Nat.le_of_ble_eq_true rfl)) (fun v2 hv2 => ?_)
  refine bo_seq 18 (fun a => []) (fun a => [.int a, .int v1, .ref (bo_a x r0)]) (fun a => σ) ?_ (fun a3 => ?_)
  · refine bo_if_eq hx 17 dX5_heardBy_10 (by decide) ?_ ?_
    · refine bo_iconst (v := 0) hx dX5_heardBy_17 (by decide) ?_
      refine bo_sub (L' := []) [] rfl ?_
      exact bo_arr (fun h => h)
    · refine bo_iload_n hx dX5_heardBy_13 rfl 3 rfl ?_
      refine bo_goto hx 18 dX5_heardBy_14 (by decide) ?_
      refine bo_sub (L' := []) [] rfl ?_
      exact bo_arr (fun h => h)
  · refine bo_goR (z := false) hx (fun rr hh => bo_runV (As := [.int v1, .int a3]) (S := []) hx dX5_heardBy_18 lk_X5_86 mi_X4_echoed hr0.o rfl rfl (kX4_echoed (bo_l x) (bo_g x) hx.inj σ r0 v1 a3 hr0 rr hh) ⟨by decide, by decide⟩ rfl rfl (Nat.le_of_ble_eq_true rfl)) (fun v4 hv4 => ?_)
    exact bo_ret dX5_heardBy_21 (fun h => by cases h)
theorem kX5_heardBy (l : Launch) (g : bo_G) (hi : bo_inj g) (σ : bo_M) (r0 : Nat) (p1 : Int32) (p2 : Int32) (p3 : Int32) (hr0 : bo_isInn r0) : bo_CR l g yX5_heardBy cX5_heardBy 4 (some .int) 2 47 [.ref (g.2.2 r0), .int p1, .int p2, .int p3] σ false (mX5_heardBy σ r0 p1 p2 p3) :=
  bo_metR rfl (Or.inl ⟨rfl, rfl⟩) (by decide) rfl hi (Nat.le_of_ble_eq_true rfl) (fun x e1 e2 hx => by subst e1; subst e2; exact bX5_heardBy x hx σ r0 p1 p2 p3 hr0)
-- BellRope$Known.fits
theorem dX5_fits_0 : decode cX5_fits 0 = .ok (.iconst 0, 1) := by decide +kernel
theorem dX5_fits_1 : decode cX5_fits 1 = .ok (.istore 5, 2) := by decide +kernel
theorem dX5_fits_3 : decode cX5_fits 3 = .ok (.iload 5, 2) := by decide +kernel
theorem dX5_fits_5 : decode cX5_fits 5 = .ok (.aload_n 0, 1) := by decide +kernel
theorem dX5_fits_6 : decode cX5_fits 6 = .ok (.getfield 24, 3) := by decide +kernel
theorem dX5_fits_60 : decode cX5_fits 60 = .ok (.iconst 1, 1) := by decide +kernel
theorem dX5_fits_61 : decode cX5_fits 61 = .ok (.ireturn, 1) := by decide +kernel
theorem dX5_fits_12 : decode cX5_fits 12 = .ok (.aload_n 0, 1) := by decide +kernel
theorem dX5_fits_13 : decode cX5_fits 13 = .ok (.getfield 9, 3) := by decide +kernel
theorem dX5_fits_16 : decode cX5_fits 16 = .ok (.iload 5, 2) := by decide +kernel
theorem dX5_fits_18 : decode cX5_fits 18 = .ok (.invokestatic 49, 3) := by decide +kernel
theorem dX5_fits_21 : decode cX5_fits 21 = .ok (.istore 6, 2) := by decide +kernel
theorem dX5_fits_23 : decode cX5_fits 23 = .ok (.aload_n 1, 1) := by decide +kernel
theorem dX5_fits_24 : decode cX5_fits 24 = .ok (.iload_n 3, 1) := by decide +kernel
theorem dX5_fits_25 : decode cX5_fits 25 = .ok (.aload_n 2, 1) := by decide +kernel
theorem dX5_fits_26 : decode cX5_fits 26 = .ok (.aload_n 1, 1) := by decide +kernel
theorem dX5_fits_27 : decode cX5_fits 27 = .ok (.iload 6, 2) := by decide +kernel
theorem dX5_fits_29 : decode cX5_fits 29 = .ok (.invokevirtual 53, 3) := by decide +kernel
theorem dX5_fits_32 : decode cX5_fits 32 = .ok (.iand, 1) := by decide +kernel
theorem dX5_fits_33 : decode cX5_fits 33 = .ok (.iload 6, 2) := by decide +kernel
theorem dX5_fits_35 : decode cX5_fits 35 = .ok (.iload 4, 2) := by decide +kernel
theorem dX5_fits_37 : decode cX5_fits 37 = .ok (.invokestatic 59, 3) := by decide +kernel
theorem dX5_fits_40 : decode cX5_fits 40 = .ok (.aload_n 0, 1) := by decide +kernel
theorem dX5_fits_41 : decode cX5_fits 41 = .ok (.getfield 15, 3) := by decide +kernel
theorem dX5_fits_44 : decode cX5_fits 44 = .ok (.iload 5, 2) := by decide +kernel
theorem dX5_fits_46 : decode cX5_fits 46 = .ok (.invokestatic 49, 3) := by decide +kernel
theorem dX5_fits_54 : decode cX5_fits 54 = .ok (.iinc 5 1, 3) := by decide +kernel
theorem dX5_fits_57 : decode cX5_fits 57 = .ok (.goto (-54), 3) := by decide +kernel
theorem dX5_fits_52 : decode cX5_fits 52 = .ok (.iconst 0, 1) := by decide +kernel
theorem dX5_fits_53 : decode cX5_fits 53 = .ok (.ireturn, 1) := by decide +kernel
theorem dX5_fits_49 : decode cX5_fits 49 = .ok (.if_icmp .eq 5, 3) := by decide +kernel
theorem dX5_fits_9 : decode cX5_fits 9 = .ok (.if_icmp .ge 51, 3) := by decide +kernel
theorem lX5_fits_L3 (x : bo_X) (hx : bo_OK x cX5_fits RX5 7 3 70) (σ : bo_M) (f1 : Nat) (f2 : Nat) (f3 : Int32) (f4 : Int32) (hf1 : bo_isInn f1) (hf2 : bo_isEv f2) : ∀ (n : Nat) (w5 : Int32), bo_D x 3 [(0, .ref (bo_a x 24)), (1, .ref (bo_a x f1)), (2, .ref (bo_a x f2)), (3, .int f3), (4, .int f4), (5, .int w5)] [] σ (mX5_fits_L3 σ f1 f2 f3 f4 n w5) (bo_Ri x cX5_fits σ true) := by
  intro n
  induction n with
  | zero => intro w5; exact bo_none
  | succ n ih =>
    intro w5
    rw [mX5_fits_L3]
    refine bo_iload hx dX5_fits_3 5 rfl ?_
    refine bo_aload_n hx dX5_fits_5 rfl 0 rfl ?_
    refine gf_X5_24 hx dX5_fits_6 ?_
    refine bo_icmp_ge hx 60 dX5_fits_9 (by decide) ?_ ?_
    · refine bo_iconst (v := 1) hx dX5_fits_60 (by decide) ?_
      exact bo_ret dX5_fits_61 (fun _ => bo_b_1)
    · refine bo_aload_n hx dX5_fits_12 rfl 0 rfl ?_
      refine gf_X5_9 hx dX5_fits_13 ?_
      refine bo_iload hx dX5_fits_16 5 rfl ?_
      refine bo_goR (z := false) hx (fun rr hh => bo_runS (As := [.ref (bo_a x 25), .int w5]) (S := []) hx dX5_fits_18 lk_X5_49 ms_X8_at (kX8_at (bo_l x) (bo_g x) hx.inj σ 6 25 w5 bo_c_25 rr hh) ⟨by decide, by decide⟩ rfl rfl (Nat.le_of_ble_eq_true rfl)) (fun v1 hv1 => ?_)
      refine bo_istore (L' := [(6, .int v1), (0, .ref (bo_a x 24)), (1, .ref (bo_a x f1)), (2, .ref (bo_a x f2)), (3, .int f3), (4, .int f4), (5, .int w5)]) hx dX5_fits_21 (by decide) rfl ?_
      refine bo_aload_n hx dX5_fits_23 rfl 2 rfl ?_
      refine bo_iload_n hx dX5_fits_24 rfl 4 rfl ?_
      refine bo_aload_n hx dX5_fits_25 rfl 3 rfl ?_
      refine bo_aload_n hx dX5_fits_26 rfl 2 rfl ?_
      refine bo_iload hx dX5_fits_27 0 rfl ?_
      refine bo_goR (z := false) hx (fun rr hh => bo_runV (As := [.ref (bo_a x f1), .int v1]) (S := [.int f3, .ref (bo_a x f1)]) hx dX5_fits_29 lk_X5_53 mi_X2_due hf2.o rfl rfl (kX2_due (bo_l x) (bo_g x) hx.inj σ f2 f1 v1 hf2 hf1 rr hh) ⟨by decide, by decide⟩ rfl rfl (Nat.le_of_ble_eq_true rfl)) (fun v2 hv2 => ?_)
      refine bo_iand hx dX5_fits_32 ?_
      refine bo_iload hx dX5_fits_33 0 rfl ?_
      refine bo_iload hx dX5_fits_35 5 rfl ?_
      refine bo_goR (z := false) hx (fun rr hh => bo_runS (As := [.ref (bo_a x f1), .int (f3 &&& v2), .int v1, .int f4]) (S := []) hx dX5_fits_37 lk_X5_59 ms_X5_heardBy (kX5_heardBy (bo_l x) (bo_g x) hx.inj σ f1 (f3 &&& v2) v1 f4 hf1 rr hh) ⟨by decide, by decide⟩ rfl rfl (Nat.le_of_ble_eq_true rfl)) (fun v3 hv3 => ?_)
      refine bo_aload_n hx dX5_fits_40 rfl 1 rfl ?_
      refine gf_X5_15 hx dX5_fits_41 ?_
      refine bo_iload hx dX5_fits_44 6 rfl ?_
      refine bo_goR (z := false) hx (fun rr hh => bo_runS (As := [.ref (bo_a x 26), .int w5]) (S := [.int v3]) hx dX5_fits_46 lk_X5_49 ms_X8_at (kX8_at (bo_l x) (bo_g x) hx.inj σ 6 26 w5 bo_c_26 rr hh) ⟨by decide, by decide⟩ rfl rfl (Nat.le_of_ble_eq_true rfl)) (fun v4 hv4 => ?_)
      refine bo_icmp_eq hx 54 dX5_fits_49 (by decide) ?_ ?_
      · refine bo_iinc (L' := [(5, .int (w5 + 1)), (6, .int v1), (0, .ref (bo_a x 24)), (1, .ref (bo_a x f1)), (2, .ref (bo_a x f2)), (3, .int f3), (4, .int f4)]) (w := (w5 + 1)) hx dX5_fits_54 6 rfl rfl (by decide) rfl ?_
        refine bo_goto hx 3 dX5_fits_57 (by decide) ?_
        refine bo_sub (L' := [(0, .ref (bo_a x 24)), (1, .ref (bo_a x f1)), (2, .ref (bo_a x f2)), (3, .int f3), (4, .int f4), (5, .int (w5 + 1))]) [2, 3, 4, 5, 6, 0] rfl ?_
        exact ih (w5 + 1)
      · refine bo_iconst (v := 0) hx dX5_fits_52 (by decide) ?_
        exact bo_ret dX5_fits_53 (fun _ => bo_b_0)
theorem bX5_fits (x : bo_X) (hx : bo_OK x cX5_fits RX5 7 3 70) (σ : bo_M) (r1 : Nat) (r2 : Nat) (p3 : Int32) (p4 : Int32) (hr1 : bo_isInn r1) (hr2 : bo_isEv r2) : bo_D x 0 [(0, .ref (bo_a x 24)), (1, .ref (bo_a x r1)), (2, .ref (bo_a x r2)), (3, .int p3), (4, .int p4)] [] σ (mX5_fits σ r1 r2 p3 p4) (bo_Ri x cX5_fits σ true) := by
  unfold mX5_fits
  refine bo_iconst (v := 0) hx dX5_fits_0 (by decide) ?_
  refine bo_istore (L' := [(5, .int 0), (0, .ref (bo_a x 24)), (1, .ref (bo_a x r1)), (2, .ref (bo_a x r2)), (3, .int p3), (4, .int p4)]) hx dX5_fits_1 (by decide) rfl ?_
  refine bo_sub (L' := [(0, .ref (bo_a x 24)), (1, .ref (bo_a x r1)), (2, .ref (bo_a x r2)), (3, .int p3), (4, .int p4), (5, .int 0)]) [1, 2, 3, 4, 5, 0] rfl ?_
  exact lX5_fits_L3 x hx σ r1 r2 p3 p4 hr1 hr2 bo_fuel 0
theorem kX5_fits (l : Launch) (g : bo_G) (hi : bo_inj g) (σ : bo_M) (r1 : Nat) (r2 : Nat) (p3 : Int32) (p4 : Int32) (hr1 : bo_isInn r1) (hr2 : bo_isEv r2) : bo_CR l g yX5_fits cX5_fits 7 (some .boolean) 3 70 [.ref (g.2.2 24), .ref (g.2.2 r1), .ref (g.2.2 r2), .int p3, .int p4] σ true (mX5_fits σ r1 r2 p3 p4) :=
  bo_metR rfl (Or.inr ⟨rfl, rfl⟩) (by decide) rfl hi (Nat.le_of_ble_eq_true rfl) (fun x e1 e2 hx => by subst e1; subst e2; exact bX5_fits x hx σ r1 r2 p3 p4 hr1 hr2)
-- BellRope$Known.findSets
theorem dX5_findSets_0 : decode cX5_findSets 0 = .ok (.aload_n 0, 1) := by decide +kernel
theorem dX5_findSets_1 : decode cX5_findSets 1 = .ok (.iconst 0, 1) := by decide +kernel
theorem dX5_findSets_2 : decode cX5_findSets 2 = .ok (.putfield 34, 3) := by decide +kernel
theorem dX5_findSets_5 : decode cX5_findSets 5 = .ok (.iconst 0, 1) := by decide +kernel
theorem dX5_findSets_6 : decode cX5_findSets 6 = .ok (.istore_n 3, 1) := by decide +kernel
theorem dX5_findSets_7 : decode cX5_findSets 7 = .ok (.iload_n 3, 1) := by decide +kernel
theorem dX5_findSets_8 : decode cX5_findSets 8 = .ok (.aload_n 1, 1) := by decide +kernel
theorem dX5_findSets_9 : decode cX5_findSets 9 = .ok (.invokevirtual 37, 3) := by decide +kernel
theorem dX5_findSets_15 : decode cX5_findSets 15 = .ok (.aload_n 0, 1) := by decide +kernel
theorem dX5_findSets_16 : decode cX5_findSets 16 = .ok (.aload_n 1, 1) := by decide +kernel
theorem dX5_findSets_17 : decode cX5_findSets 17 = .ok (.aload_n 2, 1) := by decide +kernel
theorem dX5_findSets_18 : decode cX5_findSets 18 = .ok (.iload_n 3, 1) := by decide +kernel
theorem dX5_findSets_19 : decode cX5_findSets 19 = .ok (.aload_n 1, 1) := by decide +kernel
theorem dX5_findSets_20 : decode cX5_findSets 20 = .ok (.getfield 42, 3) := by decide +kernel
theorem dX5_findSets_23 : decode cX5_findSets 23 = .ok (.invokevirtual 45, 3) := by decide +kernel
theorem dX5_findSets_29 : decode cX5_findSets 29 = .ok (.aload_n 0, 1) := by decide +kernel
theorem dX5_findSets_30 : decode cX5_findSets 30 = .ok (.getfield 18, 3) := by decide +kernel
theorem dX5_findSets_33 : decode cX5_findSets 33 = .ok (.aload_n 0, 1) := by decide +kernel
theorem dX5_findSets_34 : decode cX5_findSets 34 = .ok (.getfield 34, 3) := by decide +kernel
theorem dX5_findSets_37 : decode cX5_findSets 37 = .ok (.iload_n 3, 1) := by decide +kernel
theorem dX5_findSets_38 : decode cX5_findSets 38 = .ok (.invokestatic 28, 3) := by decide +kernel
theorem dX5_findSets_41 : decode cX5_findSets 41 = .ok (.aload_n 0, 1) := by decide +kernel
theorem dX5_findSets_42 : decode cX5_findSets 42 = .ok (.dup, 1) := by decide +kernel
theorem dX5_findSets_43 : decode cX5_findSets 43 = .ok (.getfield 34, 3) := by decide +kernel
theorem dX5_findSets_46 : decode cX5_findSets 46 = .ok (.iconst 1, 1) := by decide +kernel
theorem dX5_findSets_47 : decode cX5_findSets 47 = .ok (.iadd, 1) := by decide +kernel
theorem dX5_findSets_48 : decode cX5_findSets 48 = .ok (.putfield 34, 3) := by decide +kernel
theorem dX5_findSets_26 : decode cX5_findSets 26 = .ok (.ifCond .eq 25, 3) := by decide +kernel
theorem dX5_findSets_51 : decode cX5_findSets 51 = .ok (.iinc 3 1, 3) := by decide +kernel
theorem dX5_findSets_54 : decode cX5_findSets 54 = .ok (.goto (-47), 3) := by decide +kernel
theorem dX5_findSets_12 : decode cX5_findSets 12 = .ok (.if_icmp .ge 45, 3) := by decide +kernel
theorem dX5_findSets_57 : decode cX5_findSets 57 = .ok (.return_, 1) := by decide +kernel
theorem lX5_findSets_L7 (x : bo_X) (hx : bo_OK x cX5_findSets RX5 4 4 96) (f1 : Nat) (f2 : Nat) (hf1 : bo_isInn f1) (hf2 : bo_isEv f2) : ∀ (n : Nat) (w3 : Int32) (σ : bo_M), bo_D x 7 [(0, .ref (bo_a x 24)), (1, .ref (bo_a x f1)), (2, .ref (bo_a x f2)), (3, .int w3)] [] σ (mX5_findSets_L7 f1 f2 n w3 σ) (fun a => bo_N x 57 [] [] a) := by
  intro n
  induction n with
  | zero => intro w3 σ; exact bo_none
  | succ n ih =>
    intro w3 σ
    rw [mX5_findSets_L7]
    refine bo_iload_n hx dX5_findSets_7 rfl 3 rfl ?_
    refine bo_aload_n hx dX5_findSets_8 rfl 1 rfl ?_
    refine bo_goR (z := false) hx (fun rr hh => bo_runV (As := []) (S := [.int w3]) hx dX5_findSets_9 lk_X5_37 mi_X4_sets hf1.o rfl rfl (kX4_sets (bo_l x) (bo_g x) hx.inj σ f1 hf1 rr hh) ⟨by decide, by decide⟩ rfl rfl (Nat.le_of_ble_eq_true rfl)) (fun v2 hv2 => ?_)
    refine bo_icmp_ge hx 57 dX5_findSets_12 (by decide) ?_ ?_
    · refine bo_sub (L' := []) [] rfl ?_
      exact bo_arr (fun h => h)
    · refine bo_aload_n hx dX5_findSets_15 rfl 0 rfl ?_
      refine bo_aload_n hx dX5_findSets_16 rfl 1 rfl ?_
      refine bo_aload_n hx dX5_findSets_17 rfl 2 rfl ?_
      refine bo_iload_n hx dX5_findSets_18 rfl 3 rfl ?_
      refine bo_aload_n hx dX5_findSets_19 rfl 1 rfl ?_
      refine gf_X5_42 hx hf1 dX5_findSets_20 ?_
      refine bo_goR (z := true) hx (fun rr hh => bo_runV (As := [.ref (bo_a x f1), .ref (bo_a x f2), .int w3, .int (σ f1 9)]) (S := []) hx dX5_findSets_23 lk_X5_45 mi_X5_fits bo_o_24 rfl rfl (kX5_fits (bo_l x) (bo_g x) hx.inj σ f1 f2 w3 (σ f1 9) hf1 hf2 rr hh) ⟨by decide, by decide⟩ rfl rfl (Nat.le_of_ble_eq_true rfl)) (fun v3 hv3 => ?_)
      refine bo_seq 51 (fun a => [(0, .ref (bo_a x 24)), (1, .ref (bo_a x f1)), (2, .ref (bo_a x f2)), (3, .int w3)]) (fun a => []) (fun a => a) ?_ (fun a4 => ?_)
      · refine bo_if_eq hx 51 dX5_findSets_26 (by decide) ?_ ?_
        · exact bo_arr (fun h => h)
        · refine bo_aload_n hx dX5_findSets_29 rfl 0 rfl ?_
          refine gf_X5_18 hx dX5_findSets_30 ?_
          refine bo_aload_n hx dX5_findSets_33 rfl 0 rfl ?_
          refine gf_X5_34 hx dX5_findSets_34 ?_
          refine bo_iload_n hx dX5_findSets_37 rfl 3 rfl ?_
          refine bo_goV hx (fun rr hh => bo_runS (As := [.ref (bo_a x 27), .int (σ 24 5), .int w3]) (S := []) hx dX5_findSets_38 lk_X5_28 ms_X8_put (kX8_put (bo_l x) (bo_g x) hx.inj σ 128 27 (σ 24 5) w3 bo_c_27 rr hh) ⟨by decide, by decide⟩ rfl rfl (Nat.le_of_ble_eq_true rfl)) (fun σ5 => ?_)
          refine bo_aload_n hx dX5_findSets_41 rfl 0 rfl ?_
          refine bo_dup hx dX5_findSets_42 rfl ?_
          refine gf_X5_34 hx dX5_findSets_43 ?_
          refine bo_iconst (v := 1) hx dX5_findSets_46 (by decide) ?_
          refine bo_iadd hx dX5_findSets_47 ?_
          refine pf_X5_34 hx dX5_findSets_48 (fun σ6 => ?_)
          exact bo_arr (fun h => h)
      · refine bo_iinc (L' := [(3, .int (w3 + 1)), (0, .ref (bo_a x 24)), (1, .ref (bo_a x f1)), (2, .ref (bo_a x f2))]) (w := (w3 + 1)) hx dX5_findSets_51 3 rfl rfl (by decide) rfl ?_
        refine bo_goto hx 7 dX5_findSets_54 (by decide) ?_
        refine bo_sub (L' := [(0, .ref (bo_a x 24)), (1, .ref (bo_a x f1)), (2, .ref (bo_a x f2)), (3, .int (w3 + 1))]) [1, 2, 3, 0] rfl ?_
        exact ih (w3 + 1) a4
theorem bX5_findSets (x : bo_X) (hx : bo_OK x cX5_findSets RX5 4 4 96) (σ : bo_M) (r1 : Nat) (r2 : Nat) (hr1 : bo_isInn r1) (hr2 : bo_isEv r2) : bo_D x 0 [(0, .ref (bo_a x 24)), (1, .ref (bo_a x r1)), (2, .ref (bo_a x r2))] [] σ (mX5_findSets σ r1 r2) (bo_Rv x cX5_findSets) := by
  unfold mX5_findSets
  refine bo_aload_n hx dX5_findSets_0 rfl 0 rfl ?_
  refine bo_iconst (v := 0) hx dX5_findSets_1 (by decide) ?_
  refine pf_X5_34 hx dX5_findSets_2 (fun σ1 => ?_)
  refine bo_iconst (v := 0) hx dX5_findSets_5 (by decide) ?_
  refine bo_istore_n (L' := [(3, .int 0), (0, .ref (bo_a x 24)), (1, .ref (bo_a x r1)), (2, .ref (bo_a x r2))]) hx dX5_findSets_6 rfl (by decide) rfl ?_
  refine bo_sub (L' := [(0, .ref (bo_a x 24)), (1, .ref (bo_a x r1)), (2, .ref (bo_a x r2)), (3, .int 0)]) [1, 2, 3, 0] rfl ?_
  refine bo_seq 57 (fun a => []) (fun a => []) (fun a => a) (lX5_findSets_L7 x hx r1 r2 hr1 hr2 bo_fuel 0 σ1) (fun a7 => ?_)
  exact bo_retv dX5_findSets_57
theorem kX5_findSets (l : Launch) (g : bo_G) (hi : bo_inj g) (σ : bo_M) (r1 : Nat) (r2 : Nat) (hr1 : bo_isInn r1) (hr2 : bo_isEv r2) : bo_CV l g yX5_findSets cX5_findSets 4 none 4 96 [.ref (g.2.2 24), .ref (g.2.2 r1), .ref (g.2.2 r2)] σ (mX5_findSets σ r1 r2) :=
  bo_metV rfl  (by decide) rfl hi (Nat.le_of_ble_eq_true rfl) (fun x e1 e2 hx => by subst e1; subst e2; exact bX5_findSets x hx σ r1 r2 hr1 hr2)
-- BellRope$Known.leastSet
theorem dX5_leastSet_0 : decode cX5_leastSet 0 = .ok (.aload_n 0, 1) := by decide +kernel
theorem dX5_leastSet_1 : decode cX5_leastSet 1 = .ok (.getfield 34, 3) := by decide +kernel
theorem dX5_leastSet_18 : decode cX5_leastSet 18 = .ok (.iconst (-1), 1) := by decide +kernel
theorem dX5_leastSet_19 : decode cX5_leastSet 19 = .ok (.ireturn, 1) := by decide +kernel
theorem dX5_leastSet_7 : decode cX5_leastSet 7 = .ok (.aload_n 0, 1) := by decide +kernel
theorem dX5_leastSet_8 : decode cX5_leastSet 8 = .ok (.getfield 18, 3) := by decide +kernel
theorem dX5_leastSet_11 : decode cX5_leastSet 11 = .ok (.iconst 0, 1) := by decide +kernel
theorem dX5_leastSet_12 : decode cX5_leastSet 12 = .ok (.invokestatic 49, 3) := by decide +kernel
theorem dX5_leastSet_15 : decode cX5_leastSet 15 = .ok (.goto 4, 3) := by decide +kernel
theorem dX5_leastSet_4 : decode cX5_leastSet 4 = .ok (.ifCond .le 14, 3) := by decide +kernel
theorem bX5_leastSet (x : bo_X) (hx : bo_OK x cX5_leastSet RX5 1 1 21) (σ : bo_M) : bo_D x 0 [(0, .ref (bo_a x 24))] [] σ (mX5_leastSet σ) (bo_Ri x cX5_leastSet σ false) := by
  unfold mX5_leastSet
  refine bo_aload_n hx dX5_leastSet_0 rfl 0 rfl ?_
  refine gf_X5_34 hx dX5_leastSet_1 ?_
  refine bo_if_le hx 18 dX5_leastSet_4 (by decide) ?_ ?_
  · refine bo_iconst (v := (-1)) hx dX5_leastSet_18 (by decide) ?_
    exact bo_ret dX5_leastSet_19 (fun h => by cases h)
  · refine bo_aload_n hx dX5_leastSet_7 rfl 0 rfl ?_
    refine gf_X5_18 hx dX5_leastSet_8 ?_
    refine bo_iconst (v := 0) hx dX5_leastSet_11 (by decide) ?_
    refine bo_goR (z := false) hx (fun rr hh => bo_runS (As := [.ref (bo_a x 27), .int 0]) (S := []) hx dX5_leastSet_12 lk_X5_49 ms_X8_at (kX8_at (bo_l x) (bo_g x) hx.inj σ 128 27 0 bo_c_27 rr hh) ⟨by decide, by decide⟩ rfl rfl (Nat.le_of_ble_eq_true rfl)) (fun v1 hv1 => ?_)
    refine bo_goto hx 19 dX5_leastSet_15 (by decide) ?_
    exact bo_ret dX5_leastSet_19 (fun h => by cases h)
theorem kX5_leastSet (l : Launch) (g : bo_G) (hi : bo_inj g) (σ : bo_M) : bo_CR l g yX5_leastSet cX5_leastSet 1 (some .int) 1 21 [.ref (g.2.2 24)] σ false (mX5_leastSet σ) :=
  bo_metR rfl (Or.inl ⟨rfl, rfl⟩) (by decide) rfl hi (Nat.le_of_ble_eq_true rfl) (fun x e1 e2 hx => by subst e1; subst e2; exact bX5_leastSet x hx σ)
-- BellRope$Known.sureIn
theorem dX5_sureIn_0 : decode cX5_sureIn 0 = .ok (.aload_n 0, 1) := by decide +kernel
theorem dX5_sureIn_1 : decode cX5_sureIn 1 = .ok (.invokevirtual 63, 3) := by decide +kernel
theorem dX5_sureIn_4 : decode cX5_sureIn 4 = .ok (.istore_n 1, 1) := by decide +kernel
theorem dX5_sureIn_5 : decode cX5_sureIn 5 = .ok (.iconst 0, 1) := by decide +kernel
theorem dX5_sureIn_6 : decode cX5_sureIn 6 = .ok (.istore_n 2, 1) := by decide +kernel
theorem dX5_sureIn_7 : decode cX5_sureIn 7 = .ok (.iload_n 2, 1) := by decide +kernel
theorem dX5_sureIn_8 : decode cX5_sureIn 8 = .ok (.aload_n 0, 1) := by decide +kernel
theorem dX5_sureIn_9 : decode cX5_sureIn 9 = .ok (.getfield 34, 3) := by decide +kernel
theorem dX5_sureIn_15 : decode cX5_sureIn 15 = .ok (.iload_n 1, 1) := by decide +kernel
theorem dX5_sureIn_16 : decode cX5_sureIn 16 = .ok (.aload_n 0, 1) := by decide +kernel
theorem dX5_sureIn_17 : decode cX5_sureIn 17 = .ok (.getfield 18, 3) := by decide +kernel
theorem dX5_sureIn_20 : decode cX5_sureIn 20 = .ok (.iload_n 2, 1) := by decide +kernel
theorem dX5_sureIn_21 : decode cX5_sureIn 21 = .ok (.invokestatic 49, 3) := by decide +kernel
theorem dX5_sureIn_24 : decode cX5_sureIn 24 = .ok (.iand, 1) := by decide +kernel
theorem dX5_sureIn_25 : decode cX5_sureIn 25 = .ok (.istore_n 1, 1) := by decide +kernel
theorem dX5_sureIn_26 : decode cX5_sureIn 26 = .ok (.iinc 2 1, 3) := by decide +kernel
theorem dX5_sureIn_29 : decode cX5_sureIn 29 = .ok (.goto (-22), 3) := by decide +kernel
theorem dX5_sureIn_12 : decode cX5_sureIn 12 = .ok (.if_icmp .ge 20, 3) := by decide +kernel
theorem dX5_sureIn_32 : decode cX5_sureIn 32 = .ok (.aload_n 0, 1) := by decide +kernel
theorem dX5_sureIn_33 : decode cX5_sureIn 33 = .ok (.getfield 34, 3) := by decide +kernel
theorem dX5_sureIn_43 : decode cX5_sureIn 43 = .ok (.iconst 0, 1) := by decide +kernel
theorem dX5_sureIn_44 : decode cX5_sureIn 44 = .ok (.ireturn, 1) := by decide +kernel
theorem dX5_sureIn_39 : decode cX5_sureIn 39 = .ok (.iload_n 1, 1) := by decide +kernel
theorem dX5_sureIn_40 : decode cX5_sureIn 40 = .ok (.goto 4, 3) := by decide +kernel
theorem dX5_sureIn_36 : decode cX5_sureIn 36 = .ok (.ifCond .le 7, 3) := by decide +kernel
theorem lX5_sureIn_L7 (x : bo_X) (hx : bo_OK x cX5_sureIn RX5 3 2 41) (σ : bo_M) : ∀ (n : Nat) (w1 : Int32) (w2 : Int32), bo_D x 7 [(0, .ref (bo_a x 24)), (1, .int w1), (2, .int w2)] [] σ (mX5_sureIn_L7 σ n w1 w2) (fun a => bo_N x 32 [(0, .ref (bo_a x 24)), (1, .int a)] [] σ) := by
  intro n
  induction n with
  | zero => intro w1 w2; exact bo_none
  | succ n ih =>
    intro w1 w2
    rw [mX5_sureIn_L7]
    refine bo_iload_n hx dX5_sureIn_7 rfl 2 rfl ?_
    refine bo_aload_n hx dX5_sureIn_8 rfl 0 rfl ?_
    refine gf_X5_34 hx dX5_sureIn_9 ?_
    refine bo_icmp_ge hx 32 dX5_sureIn_12 (by decide) ?_ ?_
    · refine bo_sub (L' := [(0, .ref (bo_a x 24)), (1, .int w1)]) [0, 1] rfl ?_
      exact bo_arr (fun h => h)
    · refine bo_iload_n hx dX5_sureIn_15 rfl 1 rfl ?_
      refine bo_aload_n hx dX5_sureIn_16 rfl 0 rfl ?_
      refine gf_X5_18 hx dX5_sureIn_17 ?_
      refine bo_iload_n hx dX5_sureIn_20 rfl 2 rfl ?_
      refine bo_goR (z := false) hx (fun rr hh => bo_runS (As := [.ref (bo_a x 27), .int w2]) (S := [.int w1]) hx dX5_sureIn_21 lk_X5_49 ms_X8_at (kX8_at (bo_l x) (bo_g x) hx.inj σ 128 27 w2 bo_c_27 rr hh) ⟨by decide, by decide⟩ rfl rfl (Nat.le_of_ble_eq_true rfl)) (fun v2 hv2 => ?_)
      refine bo_iand hx dX5_sureIn_24 ?_
      refine bo_istore_n (L' := [(1, .int (w1 &&& v2)), (0, .ref (bo_a x 24)), (2, .int w2)]) hx dX5_sureIn_25 rfl (by decide) rfl ?_
      refine bo_iinc (L' := [(2, .int (w2 + 1)), (1, .int (w1 &&& v2)), (0, .ref (bo_a x 24))]) (w := (w2 + 1)) hx dX5_sureIn_26 2 rfl rfl (by decide) rfl ?_
      refine bo_goto hx 7 dX5_sureIn_29 (by decide) ?_
      refine bo_sub (L' := [(0, .ref (bo_a x 24)), (1, .int (w1 &&& v2)), (2, .int (w2 + 1))]) [2, 1, 0] rfl ?_
      exact ih (w1 &&& v2) (w2 + 1)
theorem bX5_sureIn (x : bo_X) (hx : bo_OK x cX5_sureIn RX5 3 2 41) (σ : bo_M) : bo_D x 0 [(0, .ref (bo_a x 24))] [] σ (mX5_sureIn σ) (bo_Ri x cX5_sureIn σ false) := by
  unfold mX5_sureIn
  refine bo_aload_n hx dX5_sureIn_0 rfl 0 rfl ?_
  refine bo_goR (z := false) hx (fun rr hh => bo_runV (As := []) (S := []) hx dX5_sureIn_1 lk_X5_63 mi_X5_leastSet bo_o_24 rfl rfl (kX5_leastSet (bo_l x) (bo_g x) hx.inj σ rr hh) ⟨by decide, by decide⟩ rfl rfl (Nat.le_of_ble_eq_true rfl)) (fun v1 hv1 => ?_)
  refine bo_istore_n (L' := [(1, .int v1), (0, .ref (bo_a x 24))]) hx dX5_sureIn_4 rfl (by decide) rfl ?_
  refine bo_iconst (v := 0) hx dX5_sureIn_5 (by decide) ?_
  refine bo_istore_n (L' := [(2, .int 0), (1, .int v1), (0, .ref (bo_a x 24))]) hx dX5_sureIn_6 rfl (by decide) rfl ?_
  refine bo_sub (L' := [(0, .ref (bo_a x 24)), (1, .int v1), (2, .int 0)]) [2, 1, 0] rfl ?_
  refine bo_seq 32 (fun a => [(0, .ref (bo_a x 24)), (1, .int a)]) (fun a => []) (fun a => σ) (lX5_sureIn_L7 x hx σ bo_fuel v1 0) (fun a3 => ?_)
  refine bo_aload_n hx dX5_sureIn_32 rfl 0 rfl ?_
  refine gf_X5_34 hx dX5_sureIn_33 ?_
  refine bo_if_le hx 43 dX5_sureIn_36 (by decide) ?_ ?_
  · refine bo_iconst (v := 0) hx dX5_sureIn_43 (by decide) ?_
    exact bo_ret dX5_sureIn_44 (fun h => by cases h)
  · refine bo_iload_n hx dX5_sureIn_39 rfl 1 rfl ?_
    refine bo_goto hx 44 dX5_sureIn_40 (by decide) ?_
    exact bo_ret dX5_sureIn_44 (fun h => by cases h)
theorem kX5_sureIn (l : Launch) (g : bo_G) (hi : bo_inj g) (σ : bo_M) : bo_CR l g yX5_sureIn cX5_sureIn 3 (some .int) 2 41 [.ref (g.2.2 24)] σ false (mX5_sureIn σ) :=
  bo_metR rfl (Or.inl ⟨rfl, rfl⟩) (by decide) rfl hi (Nat.le_of_ble_eq_true rfl) (fun x e1 e2 hx => by subst e1; subst e2; exact bX5_sureIn x hx σ)
-- BellRope$Known.sureOut
theorem dX5_sureOut_0 : decode cX5_sureOut 0 = .ok (.iconst 0, 1) := by decide +kernel
theorem dX5_sureOut_1 : decode cX5_sureOut 1 = .ok (.istore_n 2, 1) := by decide +kernel
theorem dX5_sureOut_2 : decode cX5_sureOut 2 = .ok (.iconst 0, 1) := by decide +kernel
theorem dX5_sureOut_3 : decode cX5_sureOut 3 = .ok (.istore_n 3, 1) := by decide +kernel
theorem dX5_sureOut_4 : decode cX5_sureOut 4 = .ok (.iload_n 3, 1) := by decide +kernel
theorem dX5_sureOut_5 : decode cX5_sureOut 5 = .ok (.aload_n 0, 1) := by decide +kernel
theorem dX5_sureOut_6 : decode cX5_sureOut 6 = .ok (.getfield 34, 3) := by decide +kernel
theorem dX5_sureOut_12 : decode cX5_sureOut 12 = .ok (.iload_n 2, 1) := by decide +kernel
theorem dX5_sureOut_13 : decode cX5_sureOut 13 = .ok (.aload_n 0, 1) := by decide +kernel
theorem dX5_sureOut_14 : decode cX5_sureOut 14 = .ok (.getfield 18, 3) := by decide +kernel
theorem dX5_sureOut_17 : decode cX5_sureOut 17 = .ok (.iload_n 3, 1) := by decide +kernel
theorem dX5_sureOut_18 : decode cX5_sureOut 18 = .ok (.invokestatic 49, 3) := by decide +kernel
theorem dX5_sureOut_21 : decode cX5_sureOut 21 = .ok (.ior, 1) := by decide +kernel
theorem dX5_sureOut_22 : decode cX5_sureOut 22 = .ok (.istore_n 2, 1) := by decide +kernel
theorem dX5_sureOut_23 : decode cX5_sureOut 23 = .ok (.iinc 3 1, 3) := by decide +kernel
theorem dX5_sureOut_26 : decode cX5_sureOut 26 = .ok (.goto (-22), 3) := by decide +kernel
theorem dX5_sureOut_9 : decode cX5_sureOut 9 = .ok (.if_icmp .ge 20, 3) := by decide +kernel
theorem dX5_sureOut_29 : decode cX5_sureOut 29 = .ok (.aload_n 0, 1) := by decide +kernel
theorem dX5_sureOut_30 : decode cX5_sureOut 30 = .ok (.getfield 34, 3) := by decide +kernel
theorem dX5_sureOut_49 : decode cX5_sureOut 49 = .ok (.iconst 0, 1) := by decide +kernel
theorem dX5_sureOut_50 : decode cX5_sureOut 50 = .ok (.ireturn, 1) := by decide +kernel
theorem dX5_sureOut_36 : decode cX5_sureOut 36 = .ok (.aload_n 1, 1) := by decide +kernel
theorem dX5_sureOut_37 : decode cX5_sureOut 37 = .ok (.invokevirtual 37, 3) := by decide +kernel
theorem dX5_sureOut_40 : decode cX5_sureOut 40 = .ok (.iconst 1, 1) := by decide +kernel
theorem dX5_sureOut_41 : decode cX5_sureOut 41 = .ok (.isub, 1) := by decide +kernel
theorem dX5_sureOut_42 : decode cX5_sureOut 42 = .ok (.iload_n 2, 1) := by decide +kernel
theorem dX5_sureOut_43 : decode cX5_sureOut 43 = .ok (.iconst (-1), 1) := by decide +kernel
theorem dX5_sureOut_44 : decode cX5_sureOut 44 = .ok (.ixor, 1) := by decide +kernel
theorem dX5_sureOut_45 : decode cX5_sureOut 45 = .ok (.iand, 1) := by decide +kernel
theorem dX5_sureOut_46 : decode cX5_sureOut 46 = .ok (.goto 4, 3) := by decide +kernel
theorem dX5_sureOut_33 : decode cX5_sureOut 33 = .ok (.ifCond .le 16, 3) := by decide +kernel
theorem lX5_sureOut_L4 (x : bo_X) (hx : bo_OK x cX5_sureOut RX5 4 1 21) (σ : bo_M) (f1 : Nat) (hf1 : bo_isInn f1) : ∀ (n : Nat) (w2 : Int32) (w3 : Int32), bo_D x 4 [(0, .ref (bo_a x 24)), (1, .ref (bo_a x f1)), (2, .int w2), (3, .int w3)] [] σ (mX5_sureOut_L4 σ f1 n w2 w3) (fun a => bo_N x 29 [(0, .ref (bo_a x 24)), (1, .ref (bo_a x f1)), (2, .int a)] [] σ) := by
  intro n
  induction n with
  | zero => intro w2 w3; exact bo_none
  | succ n ih =>
    intro w2 w3
    rw [mX5_sureOut_L4]
    refine bo_iload_n hx dX5_sureOut_4 rfl 3 rfl ?_
    refine bo_aload_n hx dX5_sureOut_5 rfl 0 rfl ?_
    refine gf_X5_34 hx dX5_sureOut_6 ?_
    refine bo_icmp_ge hx 29 dX5_sureOut_9 (by decide) ?_ ?_
    · refine bo_sub (L' := [(0, .ref (bo_a x 24)), (1, .ref (bo_a x f1)), (2, .int w2)]) [0, 1, 2] rfl ?_
      exact bo_arr (fun h => h)
    · refine bo_iload_n hx dX5_sureOut_12 rfl 2 rfl ?_
      refine bo_aload_n hx dX5_sureOut_13 rfl 0 rfl ?_
      refine gf_X5_18 hx dX5_sureOut_14 ?_
      refine bo_iload_n hx dX5_sureOut_17 rfl 3 rfl ?_
      refine bo_goR (z := false) hx (fun rr hh => bo_runS (As := [.ref (bo_a x 27), .int w3]) (S := [.int w2]) hx dX5_sureOut_18 lk_X5_49 ms_X8_at (kX8_at (bo_l x) (bo_g x) hx.inj σ 128 27 w3 bo_c_27 rr hh) ⟨by decide, by decide⟩ rfl rfl (Nat.le_of_ble_eq_true rfl)) (fun v1 hv1 => ?_)
      refine bo_ior hx dX5_sureOut_21 ?_
      refine bo_istore_n (L' := [(2, .int (w2 ||| v1)), (0, .ref (bo_a x 24)), (1, .ref (bo_a x f1)), (3, .int w3)]) hx dX5_sureOut_22 rfl (by decide) rfl ?_
      refine bo_iinc (L' := [(3, .int (w3 + 1)), (2, .int (w2 ||| v1)), (0, .ref (bo_a x 24)), (1, .ref (bo_a x f1))]) (w := (w3 + 1)) hx dX5_sureOut_23 3 rfl rfl (by decide) rfl ?_
      refine bo_goto hx 4 dX5_sureOut_26 (by decide) ?_
      refine bo_sub (L' := [(0, .ref (bo_a x 24)), (1, .ref (bo_a x f1)), (2, .int (w2 ||| v1)), (3, .int (w3 + 1))]) [2, 3, 1, 0] rfl ?_
      exact ih (w2 ||| v1) (w3 + 1)
theorem bX5_sureOut (x : bo_X) (hx : bo_OK x cX5_sureOut RX5 4 1 21) (σ : bo_M) (r1 : Nat) (hr1 : bo_isInn r1) : bo_D x 0 [(0, .ref (bo_a x 24)), (1, .ref (bo_a x r1))] [] σ (mX5_sureOut σ r1) (bo_Ri x cX5_sureOut σ false) := by
  unfold mX5_sureOut
  refine bo_iconst (v := 0) hx dX5_sureOut_0 (by decide) ?_
  refine bo_istore_n (L' := [(2, .int 0), (0, .ref (bo_a x 24)), (1, .ref (bo_a x r1))]) hx dX5_sureOut_1 rfl (by decide) rfl ?_
  refine bo_iconst (v := 0) hx dX5_sureOut_2 (by decide) ?_
  refine bo_istore_n (L' := [(3, .int 0), (2, .int 0), (0, .ref (bo_a x 24)), (1, .ref (bo_a x r1))]) hx dX5_sureOut_3 rfl (by decide) rfl ?_
  refine bo_sub (L' := [(0, .ref (bo_a x 24)), (1, .ref (bo_a x r1)), (2, .int 0), (3, .int 0)]) [2, 3, 1, 0] rfl ?_
  refine bo_seq 29 (fun a => [(0, .ref (bo_a x 24)), (1, .ref (bo_a x r1)), (2, .int a)]) (fun a => []) (fun a => σ) (lX5_sureOut_L4 x hx σ r1 hr1 bo_fuel 0 0) (fun a2 => ?_)
  refine bo_aload_n hx dX5_sureOut_29 rfl 0 rfl ?_
  refine gf_X5_34 hx dX5_sureOut_30 ?_
  refine bo_if_le hx 49 dX5_sureOut_33 (by decide) ?_ ?_
  · refine bo_iconst (v := 0) hx dX5_sureOut_49 (by decide) ?_
    exact bo_ret dX5_sureOut_50 (fun h => by cases h)
  · refine bo_aload_n hx dX5_sureOut_36 rfl 1 rfl ?_
    refine bo_goR (z := false) hx (fun rr hh => bo_runV (As := []) (S := []) hx dX5_sureOut_37 lk_X5_37 mi_X4_sets hr1.o rfl rfl (kX4_sets (bo_l x) (bo_g x) hx.inj σ r1 hr1 rr hh) ⟨by decide, by decide⟩ rfl rfl (Nat.le_of_ble_eq_true rfl)) (fun v3 hv3 => ?_)
    refine bo_iconst (v := 1) hx dX5_sureOut_40 (by decide) ?_
    refine bo_isub hx dX5_sureOut_41 ?_
    refine bo_iload_n hx dX5_sureOut_42 rfl 2 rfl ?_
    refine bo_iconst (v := (-1)) hx dX5_sureOut_43 (by decide) ?_
    refine bo_ixor hx dX5_sureOut_44 ?_
    refine bo_iand hx dX5_sureOut_45 ?_
    refine bo_goto hx 50 dX5_sureOut_46 (by decide) ?_
    exact bo_ret dX5_sureOut_50 (fun h => by cases h)
theorem kX5_sureOut (l : Launch) (g : bo_G) (hi : bo_inj g) (σ : bo_M) (r1 : Nat) (hr1 : bo_isInn r1) : bo_CR l g yX5_sureOut cX5_sureOut 4 (some .int) 1 21 [.ref (g.2.2 24), .ref (g.2.2 r1)] σ false (mX5_sureOut σ r1) :=
  bo_metR rfl (Or.inl ⟨rfl, rfl⟩) (by decide) rfl hi (Nat.le_of_ble_eq_true rfl) (fun x e1 e2 hx => by subst e1; subst e2; exact bX5_sureOut x hx σ r1 hr1)
-- BellRope.could
theorem dX10_could_0 : decode cX10_could 0 = .ok (.aload_n 0, 1) := by decide +kernel
theorem dX10_could_1 : decode cX10_could 1 = .ok (.iload_n 1, 1) := by decide +kernel
theorem dX10_could_10 : decode cX10_could 10 = .ok (.iconst 1, 1) := by decide +kernel
theorem dX10_could_11 : decode cX10_could 11 = .ok (.goto 4, 3) := by decide +kernel
theorem dX10_could_5 : decode cX10_could 5 = .ok (.iload_n 1, 1) := by decide +kernel
theorem dX10_could_6 : decode cX10_could 6 = .ok (.iconst 3, 1) := by decide +kernel
theorem dX10_could_14 : decode cX10_could 14 = .ok (.iconst 0, 1) := by decide +kernel
theorem dX10_could_7 : decode cX10_could 7 = .ok (.if_icmp .le 7, 3) := by decide +kernel
theorem dX10_could_2 : decode cX10_could 2 = .ok (.ifCond .lt 8, 3) := by decide +kernel
theorem dX10_could_15 : decode cX10_could 15 = .ok (.invokevirtual 218, 3) := by decide +kernel
theorem dX10_could_18 : decode cX10_could 18 = .ok (.istore_n 2, 1) := by decide +kernel
theorem dX10_could_19 : decode cX10_could 19 = .ok (.iload_n 2, 1) := by decide +kernel
theorem dX10_could_25 : decode cX10_could 25 = .ok (.aload_n 0, 1) := by decide +kernel
theorem dX10_could_26 : decode cX10_could 26 = .ok (.getfield 50, 3) := by decide +kernel
theorem dX10_could_29 : decode cX10_could 29 = .ok (.aload_n 0, 1) := by decide +kernel
theorem dX10_could_30 : decode cX10_could 30 = .ok (.getfield 71, 3) := by decide +kernel
theorem dX10_could_33 : decode cX10_could 33 = .ok (.aload_n 0, 1) := by decide +kernel
theorem dX10_could_34 : decode cX10_could 34 = .ok (.getfield 19, 3) := by decide +kernel
theorem dX10_could_37 : decode cX10_could 37 = .ok (.invokevirtual 292, 3) := by decide +kernel
theorem dX10_could_40 : decode cX10_could 40 = .ok (.iload_n 1, 1) := by decide +kernel
theorem dX10_could_68 : decode cX10_could 68 = .ok (.aload_n 0, 1) := by decide +kernel
theorem dX10_could_69 : decode cX10_could 69 = .ok (.getfield 50, 3) := by decide +kernel
theorem dX10_could_72 : decode cX10_could 72 = .ok (.getfield 296, 3) := by decide +kernel
theorem dX10_could_75 : decode cX10_could 75 = .ok (.ireturn, 1) := by decide +kernel
theorem dX10_could_76 : decode cX10_could 76 = .ok (.aload_n 0, 1) := by decide +kernel
theorem dX10_could_77 : decode cX10_could 77 = .ok (.getfield 50, 3) := by decide +kernel
theorem dX10_could_80 : decode cX10_could 80 = .ok (.invokevirtual 299, 3) := by decide +kernel
theorem dX10_could_83 : decode cX10_could 83 = .ok (.ireturn, 1) := by decide +kernel
theorem dX10_could_84 : decode cX10_could 84 = .ok (.aload_n 0, 1) := by decide +kernel
theorem dX10_could_85 : decode cX10_could 85 = .ok (.getfield 50, 3) := by decide +kernel
theorem dX10_could_88 : decode cX10_could 88 = .ok (.invokevirtual 302, 3) := by decide +kernel
theorem dX10_could_91 : decode cX10_could 91 = .ok (.ireturn, 1) := by decide +kernel
theorem dX10_could_92 : decode cX10_could 92 = .ok (.aload_n 0, 1) := by decide +kernel
theorem dX10_could_93 : decode cX10_could 93 = .ok (.getfield 50, 3) := by decide +kernel
theorem dX10_could_96 : decode cX10_could 96 = .ok (.aload_n 0, 1) := by decide +kernel
theorem dX10_could_97 : decode cX10_could 97 = .ok (.getfield 71, 3) := by decide +kernel
theorem dX10_could_100 : decode cX10_could 100 = .ok (.invokevirtual 305, 3) := by decide +kernel
theorem dX10_could_103 : decode cX10_could 103 = .ok (.ireturn, 1) := by decide +kernel
theorem dX10_could_41 : decode cX10_could 41 = .ok (.tableswitch 51 0 2 #[27, 35, 43], 27) := by decide +kernel
theorem dX10_could_23 : decode cX10_could 23 = .ok (.iload_n 2, 1) := by decide +kernel
theorem dX10_could_24 : decode cX10_could 24 = .ok (.ireturn, 1) := by decide +kernel
theorem dX10_could_20 : decode cX10_could 20 = .ok (.ifCond .eq 5, 3) := by decide +kernel
theorem bX10_could (x : bo_X) (hx : bo_OK x cX10_could RX10 3 5 119) (σ : bo_M) (p1 : Int32) : bo_D x 0 [(0, .ref (bo_a x 0)), (1, .int p1)] [] σ (mX10_could σ p1) (bo_Rw x cX10_could false) := by
  unfold mX10_could
  refine bo_aload_n hx dX10_could_0 rfl 0 rfl ?_
  refine bo_iload_n hx dX10_could_1 rfl 1 rfl ?_
  refine bo_seq 15 (fun a => [(0, .ref (bo_a x 0)), (1, .int p1)]) (fun a => [.int a, .ref (bo_a x 0)]) (fun a => σ) ?_ (fun a1 => ?_)
  · refine bo_if_lt hx 10 dX10_could_2 (by decide) ?_ ?_
    · refine bo_iconst (v := 1) hx dX10_could_10 (by decide) ?_
      refine bo_goto hx 15 dX10_could_11 (by decide) ?_
      exact bo_arr (fun h => h)
    · refine bo_iload_n hx dX10_could_5 rfl 1 rfl ?_
      refine bo_iconst (v := 3) hx dX10_could_6 (by decide) ?_
      refine bo_icmp_le hx 14 dX10_could_7 (by decide) ?_ ?_
      · refine bo_iconst (v := 0) hx dX10_could_14 (by decide) ?_
        exact bo_arr (fun h => h)
      · refine bo_iconst (v := 1) hx dX10_could_10 (by decide) ?_
        refine bo_goto hx 15 dX10_could_11 (by decide) ?_
        exact bo_arr (fun h => h)
  · refine bo_goR (z := false) hx (fun rr hh => bo_runV (As := [.int a1]) (S := []) hx dX10_could_15 lk_X10_218 mi_X10_refused bo_o_0 rfl rfl (kX10_refused (bo_l x) (bo_g x) hx.inj σ a1 rr hh) ⟨by decide, by decide⟩ rfl rfl (Nat.le_of_ble_eq_true rfl)) (fun v2 hv2 => ?_)
    refine bo_istore_n (L' := [(2, .int v2), (0, .ref (bo_a x 0)), (1, .int p1)]) hx dX10_could_18 rfl (by decide) rfl ?_
    refine bo_iload_n hx dX10_could_19 rfl 0 rfl ?_
    refine bo_if_eq hx 25 dX10_could_20 (by decide) ?_ ?_
    · refine bo_aload_n hx dX10_could_25 rfl 1 rfl ?_
      refine gf_X10_50 hx dX10_could_26 ?_
      refine bo_aload_n hx dX10_could_29 rfl 1 rfl ?_
      refine gf_X10_71 hx dX10_could_30 ?_
      refine bo_aload_n hx dX10_could_33 rfl 1 rfl ?_
      refine gf_X10_19 hx dX10_could_34 ?_
      refine bo_goV hx (fun rr hh => bo_runV (As := [.ref (bo_a x (bo_inn (σ 0 9))), .ref (bo_a x 50)]) (S := []) hx dX10_could_37 lk_X10_292 mi_X5_findSets bo_o_24 rfl rfl (kX5_findSets (bo_l x) (bo_g x) hx.inj σ (bo_inn (σ 0 9)) 50 (bo_inn_ok (σ 0 9)) bo_ev50 rr hh) ⟨by decide, by decide⟩ rfl rfl (Nat.le_of_ble_eq_true rfl)) (fun σ3 => ?_)
      refine bo_iload_n hx dX10_could_40 rfl 2 rfl ?_
      refine bo_by (fun c4 => ?_) (fun c4 => ?_)
      · refine bo_tabIn (v := 0) (off := 27) hx 68 dX10_could_41 c4 (by decide) (by decide) (by decide) (by decide) ?_
        refine bo_aload_n hx dX10_could_68 rfl 1 rfl ?_
        refine gf_X10_50 hx dX10_could_69 ?_
        refine gf_X10_296 hx dX10_could_72 ?_
        exact bo_retw dX10_could_75 (fun h => by cases h)
      · refine bo_by (fun c5 => ?_) (fun c5 => ?_)
        · refine bo_tabIn (v := 1) (off := 35) hx 76 dX10_could_41 c5 (by decide) (by decide) (by decide) (by decide) ?_
          refine bo_aload_n hx dX10_could_76 rfl 1 rfl ?_
          refine gf_X10_50 hx dX10_could_77 ?_
          refine bo_goR (z := false) hx (fun rr hh => bo_runV (As := []) (S := []) hx dX10_could_80 lk_X10_299 mi_X5_leastSet bo_o_24 rfl rfl (kX5_leastSet (bo_l x) (bo_g x) hx.inj σ3 rr hh) ⟨by decide, by decide⟩ rfl rfl (Nat.le_of_ble_eq_true rfl)) (fun v6 hv6 => ?_)
          exact bo_retw dX10_could_83 (fun h => by cases h)
        · refine bo_by (fun c7 => ?_) (fun c7 => ?_)
          · refine bo_tabIn (v := 2) (off := 43) hx 84 dX10_could_41 c7 (by decide) (by decide) (by decide) (by decide) ?_
            refine bo_aload_n hx dX10_could_84 rfl 1 rfl ?_
            refine gf_X10_50 hx dX10_could_85 ?_
            refine bo_goR (z := false) hx (fun rr hh => bo_runV (As := []) (S := []) hx dX10_could_88 lk_X10_302 mi_X5_sureIn bo_o_24 rfl rfl (kX5_sureIn (bo_l x) (bo_g x) hx.inj σ3 rr hh) ⟨by decide, by decide⟩ rfl rfl (Nat.le_of_ble_eq_true rfl)) (fun v8 hv8 => ?_)
            exact bo_retw dX10_could_91 (fun h => by cases h)
          · refine bo_tabOut hx 92 dX10_could_41 (by have e4 : (p1).toInt ≠ 0 := bo_ne_n c4 (by decide); have e5 : (p1).toInt ≠ 1 := bo_ne_n c5 (by decide); have e7 : (p1).toInt ≠ 2 := bo_ne_n c7 (by decide); omega) (by decide) ?_
            refine bo_aload_n hx dX10_could_92 rfl 1 rfl ?_
            refine gf_X10_50 hx dX10_could_93 ?_
            refine bo_aload_n hx dX10_could_96 rfl 1 rfl ?_
            refine gf_X10_71 hx dX10_could_97 ?_
            refine bo_goR (z := false) hx (fun rr hh => bo_runV (As := [.ref (bo_a x (bo_inn (σ3 0 9)))]) (S := []) hx dX10_could_100 lk_X10_305 mi_X5_sureOut bo_o_24 rfl rfl (kX5_sureOut (bo_l x) (bo_g x) hx.inj σ3 (bo_inn (σ3 0 9)) (bo_inn_ok (σ3 0 9)) rr hh) ⟨by decide, by decide⟩ rfl rfl (Nat.le_of_ble_eq_true rfl)) (fun v9 hv9 => ?_)
            exact bo_retw dX10_could_103 (fun h => by cases h)
    · refine bo_iload_n hx dX10_could_23 rfl 0 rfl ?_
      exact bo_retw dX10_could_24 (fun h => by cases h)
theorem kX10_could (l : Launch) (g : bo_G) (hi : bo_inj g) (σ : bo_M) (p1 : Int32) : bo_CW l g yX10_could cX10_could 3 (some .int) 5 119 [.ref (g.2.2 0), .int p1] σ false (mX10_could σ p1) :=
  bo_metW rfl (Or.inl ⟨rfl, rfl⟩) (by decide) rfl hi (Nat.le_of_ble_eq_true rfl) (fun x e1 e2 hx => by subst e1; subst e2; exact bX10_could x hx σ p1)
-- BellRope$Known.greatestAlike
theorem dX5_greatestAlike_0 : decode cX5_greatestAlike 0 = .ok (.aload_n 2, 1) := by decide +kernel
theorem dX5_greatestAlike_1 : decode cX5_greatestAlike 1 = .ok (.aload_n 1, 1) := by decide +kernel
theorem dX5_greatestAlike_2 : decode cX5_greatestAlike 2 = .ok (.iload_n 3, 1) := by decide +kernel
theorem dX5_greatestAlike_3 : decode cX5_greatestAlike 3 = .ok (.invokevirtual 53, 3) := by decide +kernel
theorem dX5_greatestAlike_6 : decode cX5_greatestAlike 6 = .ok (.istore 4, 2) := by decide +kernel
theorem dX5_greatestAlike_8 : decode cX5_greatestAlike 8 = .ok (.iconst 0, 1) := by decide +kernel
theorem dX5_greatestAlike_9 : decode cX5_greatestAlike 9 = .ok (.istore 5, 2) := by decide +kernel
theorem dX5_greatestAlike_11 : decode cX5_greatestAlike 11 = .ok (.aload_n 0, 1) := by decide +kernel
theorem dX5_greatestAlike_12 : decode cX5_greatestAlike 12 = .ok (.getfield 21, 3) := by decide +kernel
theorem dX5_greatestAlike_15 : decode cX5_greatestAlike 15 = .ok (.invokestatic 66, 3) := by decide +kernel
theorem dX5_greatestAlike_18 : decode cX5_greatestAlike 18 = .ok (.iconst 0, 1) := by decide +kernel
theorem dX5_greatestAlike_19 : decode cX5_greatestAlike 19 = .ok (.istore 6, 2) := by decide +kernel
theorem dX5_greatestAlike_21 : decode cX5_greatestAlike 21 = .ok (.iload 6, 2) := by decide +kernel
theorem dX5_greatestAlike_23 : decode cX5_greatestAlike 23 = .ok (.aload_n 0, 1) := by decide +kernel
theorem dX5_greatestAlike_24 : decode cX5_greatestAlike 24 = .ok (.getfield 34, 3) := by decide +kernel
theorem dX5_greatestAlike_30 : decode cX5_greatestAlike 30 = .ok (.aload_n 1, 1) := by decide +kernel
theorem dX5_greatestAlike_31 : decode cX5_greatestAlike 31 = .ok (.aload_n 0, 1) := by decide +kernel
theorem dX5_greatestAlike_32 : decode cX5_greatestAlike 32 = .ok (.getfield 18, 3) := by decide +kernel
theorem dX5_greatestAlike_35 : decode cX5_greatestAlike 35 = .ok (.iload 6, 2) := by decide +kernel
theorem dX5_greatestAlike_37 : decode cX5_greatestAlike 37 = .ok (.invokestatic 49, 3) := by decide +kernel
theorem dX5_greatestAlike_40 : decode cX5_greatestAlike 40 = .ok (.iload 4, 2) := by decide +kernel
theorem dX5_greatestAlike_42 : decode cX5_greatestAlike 42 = .ok (.iand, 1) := by decide +kernel
theorem dX5_greatestAlike_43 : decode cX5_greatestAlike 43 = .ok (.iload_n 3, 1) := by decide +kernel
theorem dX5_greatestAlike_44 : decode cX5_greatestAlike 44 = .ok (.aload_n 1, 1) := by decide +kernel
theorem dX5_greatestAlike_45 : decode cX5_greatestAlike 45 = .ok (.getfield 42, 3) := by decide +kernel
theorem dX5_greatestAlike_48 : decode cX5_greatestAlike 48 = .ok (.invokestatic 59, 3) := by decide +kernel
theorem dX5_greatestAlike_51 : decode cX5_greatestAlike 51 = .ok (.istore 7, 2) := by decide +kernel
theorem dX5_greatestAlike_53 : decode cX5_greatestAlike 53 = .ok (.aload_n 0, 1) := by decide +kernel
theorem dX5_greatestAlike_54 : decode cX5_greatestAlike 54 = .ok (.getfield 21, 3) := by decide +kernel
theorem dX5_greatestAlike_57 : decode cX5_greatestAlike 57 = .ok (.iload 7, 2) := by decide +kernel
theorem dX5_greatestAlike_59 : decode cX5_greatestAlike 59 = .ok (.invokestatic 49, 3) := by decide +kernel
theorem dX5_greatestAlike_62 : decode cX5_greatestAlike 62 = .ok (.iconst 1, 1) := by decide +kernel
theorem dX5_greatestAlike_63 : decode cX5_greatestAlike 63 = .ok (.iadd, 1) := by decide +kernel
theorem dX5_greatestAlike_64 : decode cX5_greatestAlike 64 = .ok (.istore 8, 2) := by decide +kernel
theorem dX5_greatestAlike_66 : decode cX5_greatestAlike 66 = .ok (.aload_n 0, 1) := by decide +kernel
theorem dX5_greatestAlike_67 : decode cX5_greatestAlike 67 = .ok (.getfield 21, 3) := by decide +kernel
theorem dX5_greatestAlike_70 : decode cX5_greatestAlike 70 = .ok (.iload 7, 2) := by decide +kernel
theorem dX5_greatestAlike_72 : decode cX5_greatestAlike 72 = .ok (.iload 8, 2) := by decide +kernel
theorem dX5_greatestAlike_74 : decode cX5_greatestAlike 74 = .ok (.invokestatic 28, 3) := by decide +kernel
theorem dX5_greatestAlike_77 : decode cX5_greatestAlike 77 = .ok (.iload 5, 2) := by decide +kernel
theorem dX5_greatestAlike_79 : decode cX5_greatestAlike 79 = .ok (.iload 8, 2) := by decide +kernel
theorem dX5_greatestAlike_81 : decode cX5_greatestAlike 81 = .ok (.invokestatic 70, 3) := by decide +kernel
theorem dX5_greatestAlike_84 : decode cX5_greatestAlike 84 = .ok (.istore 5, 2) := by decide +kernel
theorem dX5_greatestAlike_86 : decode cX5_greatestAlike 86 = .ok (.iinc 6 1, 3) := by decide +kernel
theorem dX5_greatestAlike_89 : decode cX5_greatestAlike 89 = .ok (.goto (-68), 3) := by decide +kernel
theorem dX5_greatestAlike_27 : decode cX5_greatestAlike 27 = .ok (.if_icmp .ge 65, 3) := by decide +kernel
theorem dX5_greatestAlike_92 : decode cX5_greatestAlike 92 = .ok (.iload 5, 2) := by decide +kernel
theorem dX5_greatestAlike_94 : decode cX5_greatestAlike 94 = .ok (.ireturn, 1) := by decide +kernel
theorem lX5_greatestAlike_L21 (x : bo_X) (hx : bo_OK x cX5_greatestAlike RX5 9 3 70) (f1 : Nat) (f3 : Int32) (f4 : Int32) (hf1 : bo_isInn f1) : ∀ (n : Nat) (w5 : Int32) (w6 : Int32) (σ : bo_M), bo_D x 21 [(0, .ref (bo_a x 24)), (1, .ref (bo_a x f1)), (3, .int f3), (4, .int f4), (5, .int w5), (6, .int w6)] [] σ (mX5_greatestAlike_L21 f1 f3 f4 n w5 w6 σ) (fun a => bo_N x 92 [(5, .int a.1)] [] a.2) := by
  intro n
  induction n with
  | zero => intro w5 w6 σ; exact bo_none
  | succ n ih =>
    intro w5 w6 σ
    rw [mX5_greatestAlike_L21]
    refine bo_iload hx dX5_greatestAlike_21 5 rfl ?_
    refine bo_aload_n hx dX5_greatestAlike_23 rfl 0 rfl ?_
    refine gf_X5_34 hx dX5_greatestAlike_24 ?_
    refine bo_icmp_ge hx 92 dX5_greatestAlike_27 (by decide) ?_ ?_
    · refine bo_sub (L' := [(5, .int w5)]) [4] rfl ?_
      exact bo_arr (fun h => h)
    · refine bo_aload_n hx dX5_greatestAlike_30 rfl 1 rfl ?_
      refine bo_aload_n hx dX5_greatestAlike_31 rfl 0 rfl ?_
      refine gf_X5_18 hx dX5_greatestAlike_32 ?_
      refine bo_iload hx dX5_greatestAlike_35 5 rfl ?_
      refine bo_goR (z := false) hx (fun rr hh => bo_runS (As := [.ref (bo_a x 27), .int w6]) (S := [.ref (bo_a x f1)]) hx dX5_greatestAlike_37 lk_X5_49 ms_X8_at (kX8_at (bo_l x) (bo_g x) hx.inj σ 128 27 w6 bo_c_27 rr hh) ⟨by decide, by decide⟩ rfl rfl (Nat.le_of_ble_eq_true rfl)) (fun v3 hv3 => ?_)
      refine bo_iload hx dX5_greatestAlike_40 3 rfl ?_
      refine bo_iand hx dX5_greatestAlike_42 ?_
      refine bo_iload_n hx dX5_greatestAlike_43 rfl 2 rfl ?_
      refine bo_aload_n hx dX5_greatestAlike_44 rfl 1 rfl ?_
      refine gf_X5_42 hx hf1 dX5_greatestAlike_45 ?_
      refine bo_goR (z := false) hx (fun rr hh => bo_runS (As := [.ref (bo_a x f1), .int (v3 &&& f4), .int f3, .int (σ f1 9)]) (S := []) hx dX5_greatestAlike_48 lk_X5_59 ms_X5_heardBy (kX5_heardBy (bo_l x) (bo_g x) hx.inj σ f1 (v3 &&& f4) f3 (σ f1 9) hf1 rr hh) ⟨by decide, by decide⟩ rfl rfl (Nat.le_of_ble_eq_true rfl)) (fun v4 hv4 => ?_)
      refine bo_istore (L' := [(7, .int v4), (0, .ref (bo_a x 24)), (1, .ref (bo_a x f1)), (3, .int f3), (4, .int f4), (5, .int w5), (6, .int w6)]) hx dX5_greatestAlike_51 (by decide) rfl ?_
      refine bo_aload_n hx dX5_greatestAlike_53 rfl 1 rfl ?_
      refine gf_X5_21 hx dX5_greatestAlike_54 ?_
      refine bo_iload hx dX5_greatestAlike_57 0 rfl ?_
      refine bo_goR (z := false) hx (fun rr hh => bo_runS (As := [.ref (bo_a x 28), .int v4]) (S := []) hx dX5_greatestAlike_59 lk_X5_49 ms_X8_at (kX8_at (bo_l x) (bo_g x) hx.inj σ 17 28 v4 bo_c_28 rr hh) ⟨by decide, by decide⟩ rfl rfl (Nat.le_of_ble_eq_true rfl)) (fun v5 hv5 => ?_)
      refine bo_iconst (v := 1) hx dX5_greatestAlike_62 (by decide) ?_
      refine bo_iadd hx dX5_greatestAlike_63 ?_
      refine bo_istore (L' := [(8, .int (v5 + 1)), (7, .int v4), (0, .ref (bo_a x 24)), (1, .ref (bo_a x f1)), (3, .int f3), (4, .int f4), (5, .int w5), (6, .int w6)]) hx dX5_greatestAlike_64 (by decide) rfl ?_
      refine bo_aload_n hx dX5_greatestAlike_66 rfl 2 rfl ?_
      refine gf_X5_21 hx dX5_greatestAlike_67 ?_
      refine bo_iload hx dX5_greatestAlike_70 1 rfl ?_
      refine bo_iload hx dX5_greatestAlike_72 0 rfl ?_
      refine bo_goV hx (fun rr hh => bo_runS (As := [.ref (bo_a x 28), .int v4, .int (v5 + 1)]) (S := []) hx dX5_greatestAlike_74 lk_X5_28 ms_X8_put (kX8_put (bo_l x) (bo_g x) hx.inj σ 17 28 v4 (v5 + 1) bo_c_28 rr hh) ⟨by decide, by decide⟩ rfl rfl (Nat.le_of_ble_eq_true rfl)) (fun σ6 => ?_)
      refine bo_iload hx dX5_greatestAlike_77 6 rfl ?_
      refine bo_iload hx dX5_greatestAlike_79 0 rfl ?_
      refine bo_max hx dX5_greatestAlike_81 lk_X5_70 mm_max_1 mm_i mm_max_2 (by decide) (Nat.le_of_ble_eq_true rfl) ?_
      refine bo_istore (L' := [(5, .int (if w5 < (v5 + 1) then (v5 + 1) else w5)), (8, .int (v5 + 1)), (7, .int v4), (0, .ref (bo_a x 24)), (1, .ref (bo_a x f1)), (3, .int f3), (4, .int f4), (6, .int w6)]) hx dX5_greatestAlike_84 (by decide) rfl ?_
      refine bo_iinc (L' := [(6, .int (w6 + 1)), (5, .int (if w5 < (v5 + 1) then (v5 + 1) else w5)), (8, .int (v5 + 1)), (7, .int v4), (0, .ref (bo_a x 24)), (1, .ref (bo_a x f1)), (3, .int f3), (4, .int f4)]) (w := (w6 + 1)) hx dX5_greatestAlike_86 7 rfl rfl (by decide) rfl ?_
      refine bo_goto hx 21 dX5_greatestAlike_89 (by decide) ?_
      refine bo_sub (L' := [(0, .ref (bo_a x 24)), (1, .ref (bo_a x f1)), (3, .int f3), (4, .int f4), (5, .int (if w5 < (v5 + 1) then (v5 + 1) else w5)), (6, .int (w6 + 1))]) [4, 5, 6, 7, 1, 0] rfl ?_
      exact ih (if w5 < (v5 + 1) then (v5 + 1) else w5) (w6 + 1) σ6
theorem bX5_greatestAlike (x : bo_X) (hx : bo_OK x cX5_greatestAlike RX5 9 3 70) (σ : bo_M) (r1 : Nat) (r2 : Nat) (p3 : Int32) (hr1 : bo_isInn r1) (hr2 : bo_isEv r2) : bo_D x 0 [(0, .ref (bo_a x 24)), (1, .ref (bo_a x r1)), (2, .ref (bo_a x r2)), (3, .int p3)] [] σ (mX5_greatestAlike σ r1 r2 p3) (bo_Rw x cX5_greatestAlike false) := by
  unfold mX5_greatestAlike
  refine bo_aload_n hx dX5_greatestAlike_0 rfl 2 rfl ?_
  refine bo_aload_n hx dX5_greatestAlike_1 rfl 1 rfl ?_
  refine bo_iload_n hx dX5_greatestAlike_2 rfl 3 rfl ?_
  refine bo_goR (z := false) hx (fun rr hh => bo_runV (As := [.ref (bo_a x r1), .int p3]) (S := []) hx dX5_greatestAlike_3 lk_X5_53 mi_X2_due hr2.o rfl rfl (kX2_due (bo_l x) (bo_g x) hx.inj σ r2 r1 p3 hr2 hr1 rr hh) ⟨by decide, by decide⟩ rfl rfl (Nat.le_of_ble_eq_true rfl)) (fun v1 hv1 => ?_)
  refine bo_istore (L' := [(4, .int v1), (0, .ref (bo_a x 24)), (1, .ref (bo_a x r1)), (2, .ref (bo_a x r2)), (3, .int p3)]) hx dX5_greatestAlike_6 (by decide) rfl ?_
  refine bo_iconst (v := 0) hx dX5_greatestAlike_8 (by decide) ?_
  refine bo_istore (L' := [(5, .int 0), (4, .int v1), (0, .ref (bo_a x 24)), (1, .ref (bo_a x r1)), (2, .ref (bo_a x r2)), (3, .int p3)]) hx dX5_greatestAlike_9 (by decide) rfl ?_
  refine bo_aload_n hx dX5_greatestAlike_11 rfl 2 rfl ?_
  refine gf_X5_21 hx dX5_greatestAlike_12 ?_
  refine bo_goV hx (fun rr hh => bo_runS (As := [.ref (bo_a x 28)]) (S := []) hx dX5_greatestAlike_15 lk_X5_66 ms_X8_zero (kX8_zero (bo_l x) (bo_g x) hx.inj σ 17 28 bo_c_28 rr hh) ⟨by decide, by decide⟩ rfl rfl (Nat.le_of_ble_eq_true rfl)) (fun σ2 => ?_)
  refine bo_iconst (v := 0) hx dX5_greatestAlike_18 (by decide) ?_
  refine bo_istore (L' := [(6, .int 0), (5, .int 0), (4, .int v1), (0, .ref (bo_a x 24)), (1, .ref (bo_a x r1)), (2, .ref (bo_a x r2)), (3, .int p3)]) hx dX5_greatestAlike_19 (by decide) rfl ?_
  refine bo_sub (L' := [(0, .ref (bo_a x 24)), (1, .ref (bo_a x r1)), (3, .int p3), (4, .int v1), (5, .int 0), (6, .int 0)]) [3, 4, 6, 2, 1, 0] rfl ?_
  refine bo_seq 92 (fun a => [(5, .int a.1)]) (fun a => []) (fun a => a.2) (lX5_greatestAlike_L21 x hx r1 p3 v1 hr1 bo_fuel 0 0 σ2) (fun a7 => ?_)
  refine bo_iload hx dX5_greatestAlike_92 0 rfl ?_
  exact bo_retw dX5_greatestAlike_94 (fun h => by cases h)
theorem kX5_greatestAlike (l : Launch) (g : bo_G) (hi : bo_inj g) (σ : bo_M) (r1 : Nat) (r2 : Nat) (p3 : Int32) (hr1 : bo_isInn r1) (hr2 : bo_isEv r2) : bo_CW l g yX5_greatestAlike cX5_greatestAlike 9 (some .int) 3 70 [.ref (g.2.2 24), .ref (g.2.2 r1), .ref (g.2.2 r2), .int p3] σ false (mX5_greatestAlike σ r1 r2 p3) :=
  bo_metW rfl (Or.inl ⟨rfl, rfl⟩) (by decide) rfl hi (Nat.le_of_ble_eq_true rfl) (fun x e1 e2 hx => by subst e1; subst e2; exact bX5_greatestAlike x hx σ r1 r2 p3 hr1 hr2)
-- BellRope.listen
theorem dX10_listen_0 : decode cX10_listen 0 = .ok (.aload_n 0, 1) := by decide +kernel
theorem dX10_listen_1 : decode cX10_listen 1 = .ok (.getfield 71, 3) := by decide +kernel
theorem dX10_listen_4 : decode cX10_listen 4 = .ok (.getfield 242, 3) := by decide +kernel
theorem dX10_listen_13 : decode cX10_listen 13 = .ok (.aload_n 0, 1) := by decide +kernel
theorem dX10_listen_14 : decode cX10_listen 14 = .ok (.getfield 50, 3) := by decide +kernel
theorem dX10_listen_17 : decode cX10_listen 17 = .ok (.aload_n 0, 1) := by decide +kernel
theorem dX10_listen_18 : decode cX10_listen 18 = .ok (.getfield 71, 3) := by decide +kernel
theorem dX10_listen_21 : decode cX10_listen 21 = .ok (.aload_n 0, 1) := by decide +kernel
theorem dX10_listen_22 : decode cX10_listen 22 = .ok (.getfield 19, 3) := by decide +kernel
theorem dX10_listen_25 : decode cX10_listen 25 = .ok (.invokevirtual 292, 3) := by decide +kernel
theorem dX10_listen_28 : decode cX10_listen 28 = .ok (.aload_n 0, 1) := by decide +kernel
theorem dX10_listen_29 : decode cX10_listen 29 = .ok (.getfield 50, 3) := by decide +kernel
theorem dX10_listen_32 : decode cX10_listen 32 = .ok (.getfield 296, 3) := by decide +kernel
theorem dX10_listen_35 : decode cX10_listen 35 = .ok (.istore_n 1, 1) := by decide +kernel
theorem dX10_listen_36 : decode cX10_listen 36 = .ok (.iconst (-1), 1) := by decide +kernel
theorem dX10_listen_37 : decode cX10_listen 37 = .ok (.istore_n 2, 1) := by decide +kernel
theorem dX10_listen_38 : decode cX10_listen 38 = .ok (.iconst 0, 1) := by decide +kernel
theorem dX10_listen_39 : decode cX10_listen 39 = .ok (.istore_n 3, 1) := by decide +kernel
theorem dX10_listen_40 : decode cX10_listen 40 = .ok (.iload_n 3, 1) := by decide +kernel
theorem dX10_listen_41 : decode cX10_listen 41 = .ok (.bipush 96, 2) := by decide +kernel
theorem dX10_listen_46 : decode cX10_listen 46 = .ok (.aload_n 0, 1) := by decide +kernel
theorem dX10_listen_47 : decode cX10_listen 47 = .ok (.getfield 50, 3) := by decide +kernel
theorem dX10_listen_50 : decode cX10_listen 50 = .ok (.aload_n 0, 1) := by decide +kernel
theorem dX10_listen_51 : decode cX10_listen 51 = .ok (.getfield 71, 3) := by decide +kernel
theorem dX10_listen_54 : decode cX10_listen 54 = .ok (.aload_n 0, 1) := by decide +kernel
theorem dX10_listen_55 : decode cX10_listen 55 = .ok (.getfield 19, 3) := by decide +kernel
theorem dX10_listen_58 : decode cX10_listen 58 = .ok (.iload_n 3, 1) := by decide +kernel
theorem dX10_listen_59 : decode cX10_listen 59 = .ok (.invokevirtual 308, 3) := by decide +kernel
theorem dX10_listen_62 : decode cX10_listen 62 = .ok (.istore 4, 2) := by decide +kernel
theorem dX10_listen_64 : decode cX10_listen 64 = .ok (.iload 4, 2) := by decide +kernel
theorem dX10_listen_66 : decode cX10_listen 66 = .ok (.iload_n 1, 1) := by decide +kernel
theorem dX10_listen_70 : decode cX10_listen 70 = .ok (.iload 4, 2) := by decide +kernel
theorem dX10_listen_72 : decode cX10_listen 72 = .ok (.istore_n 1, 1) := by decide +kernel
theorem dX10_listen_73 : decode cX10_listen 73 = .ok (.iload_n 3, 1) := by decide +kernel
theorem dX10_listen_74 : decode cX10_listen 74 = .ok (.istore_n 2, 1) := by decide +kernel
theorem dX10_listen_67 : decode cX10_listen 67 = .ok (.if_icmp .ge 8, 3) := by decide +kernel
theorem dX10_listen_75 : decode cX10_listen 75 = .ok (.iinc 3 1, 3) := by decide +kernel
theorem dX10_listen_78 : decode cX10_listen 78 = .ok (.goto (-38), 3) := by decide +kernel
theorem dX10_listen_43 : decode cX10_listen 43 = .ok (.if_icmp .ge 38, 3) := by decide +kernel
theorem dX10_listen_81 : decode cX10_listen 81 = .ok (.iload_n 2, 1) := by decide +kernel
theorem dX10_listen_82 : decode cX10_listen 82 = .ok (.ireturn, 1) := by decide +kernel
theorem dX10_listen_10 : decode cX10_listen 10 = .ok (.ldc 208, 2) := by decide +kernel
theorem dX10_listen_12 : decode cX10_listen 12 = .ok (.ireturn, 1) := by decide +kernel
theorem dX10_listen_7 : decode cX10_listen 7 = .ok (.ifCond .ne 6, 3) := by decide +kernel
theorem lX10_listen_L40 (x : bo_X) (hx : bo_OK x cX10_listen RX10 5 5 119)  : ∀ (n : Nat) (w1 : Int32) (w2 : Int32) (w3 : Int32) (σ : bo_M), bo_D x 40 [(0, .ref (bo_a x 0)), (1, .int w1), (2, .int w2), (3, .int w3)] [] σ (mX10_listen_L40 n w1 w2 w3 σ) (fun a => bo_N x 81 [(2, .int a.1)] [] a.2) := by
  intro n
  induction n with
  | zero => intro w1 w2 w3 σ; exact bo_none
  | succ n ih =>
    intro w1 w2 w3 σ
    rw [mX10_listen_L40]
    refine bo_iload_n hx dX10_listen_40 rfl 3 rfl ?_
    refine bo_bipush (v := 96) hx dX10_listen_41 (by decide) ?_
    refine bo_icmp_ge hx 81 dX10_listen_43 (by decide) ?_ ?_
    · refine bo_sub (L' := [(2, .int w2)]) [2] rfl ?_
      exact bo_arr (fun h => h)
    · refine bo_aload_n hx dX10_listen_46 rfl 0 rfl ?_
      refine gf_X10_50 hx dX10_listen_47 ?_
      refine bo_aload_n hx dX10_listen_50 rfl 0 rfl ?_
      refine gf_X10_71 hx dX10_listen_51 ?_
      refine bo_aload_n hx dX10_listen_54 rfl 0 rfl ?_
      refine gf_X10_19 hx dX10_listen_55 ?_
      refine bo_iload_n hx dX10_listen_58 rfl 3 rfl ?_
      refine bo_goW (z := false) hx (fun rr hh => bo_runV (As := [.ref (bo_a x (bo_inn (σ 0 9))), .ref (bo_a x 50), .int w3]) (S := []) hx dX10_listen_59 lk_X10_308 mi_X5_greatestAlike bo_o_24 rfl rfl (kX5_greatestAlike (bo_l x) (bo_g x) hx.inj σ (bo_inn (σ 0 9)) 50 w3 (bo_inn_ok (σ 0 9)) bo_ev50 rr hh) ⟨by decide, by decide⟩ rfl rfl (Nat.le_of_ble_eq_true rfl)) (fun a2 ha2 => ?_)
      refine bo_istore (L' := [(4, .int a2.1), (0, .ref (bo_a x 0)), (1, .int w1), (2, .int w2), (3, .int w3)]) hx dX10_listen_62 (by decide) rfl ?_
      refine bo_iload hx dX10_listen_64 0 rfl ?_
      refine bo_iload_n hx dX10_listen_66 rfl 2 rfl ?_
      refine bo_seq 75 (fun a => [(0, .ref (bo_a x 0)), (1, .int a.1), (2, .int a.2), (3, .int w3)]) (fun a => []) (fun a => a2.2) ?_ (fun a3 => ?_)
      · refine bo_icmp_ge hx 75 dX10_listen_67 (by decide) ?_ ?_
        · refine bo_sub (L' := [(0, .ref (bo_a x 0)), (1, .int w1), (2, .int w2), (3, .int w3)]) [1, 2, 3, 4] rfl ?_
          exact bo_arr (fun h => h)
        · refine bo_iload hx dX10_listen_70 0 rfl ?_
          refine bo_istore_n (L' := [(1, .int a2.1), (4, .int a2.1), (0, .ref (bo_a x 0)), (2, .int w2), (3, .int w3)]) hx dX10_listen_72 rfl (by decide) rfl ?_
          refine bo_iload_n hx dX10_listen_73 rfl 4 rfl ?_
          refine bo_istore_n (L' := [(2, .int w3), (1, .int a2.1), (4, .int a2.1), (0, .ref (bo_a x 0)), (3, .int w3)]) hx dX10_listen_74 rfl (by decide) rfl ?_
          refine bo_sub (L' := [(0, .ref (bo_a x 0)), (1, .int a2.1), (2, .int w3), (3, .int w3)]) [3, 1, 0, 4] rfl ?_
          exact bo_arr (fun h => h)
      · refine bo_iinc (L' := [(3, .int (w3 + 1)), (0, .ref (bo_a x 0)), (1, .int a3.1), (2, .int a3.2)]) (w := (w3 + 1)) hx dX10_listen_75 3 rfl rfl (by decide) rfl ?_
        refine bo_goto hx 40 dX10_listen_78 (by decide) ?_
        refine bo_sub (L' := [(0, .ref (bo_a x 0)), (1, .int a3.1), (2, .int a3.2), (3, .int (w3 + 1))]) [1, 2, 3, 0] rfl ?_
        exact ih a3.1 a3.2 (w3 + 1) a2.2
theorem bX10_listen (x : bo_X) (hx : bo_OK x cX10_listen RX10 5 5 119) (σ : bo_M) : bo_D x 0 [(0, .ref (bo_a x 0))] [] σ (mX10_listen σ) (bo_Rw x cX10_listen false) := by
  unfold mX10_listen
  refine bo_aload_n hx dX10_listen_0 rfl 0 rfl ?_
  refine gf_X10_71 hx dX10_listen_1 ?_
  refine gf_X10_242 hx (bo_inn_ok (σ 0 9)) dX10_listen_4 ?_
  refine bo_if_ne hx 13 dX10_listen_7 (by decide) ?_ ?_
  · refine bo_aload_n hx dX10_listen_13 rfl 0 rfl ?_
    refine gf_X10_50 hx dX10_listen_14 ?_
    refine bo_aload_n hx dX10_listen_17 rfl 0 rfl ?_
    refine gf_X10_71 hx dX10_listen_18 ?_
    refine bo_aload_n hx dX10_listen_21 rfl 0 rfl ?_
    refine gf_X10_19 hx dX10_listen_22 ?_
    refine bo_goV hx (fun rr hh => bo_runV (As := [.ref (bo_a x (bo_inn (σ 0 9))), .ref (bo_a x 50)]) (S := []) hx dX10_listen_25 lk_X10_292 mi_X5_findSets bo_o_24 rfl rfl (kX5_findSets (bo_l x) (bo_g x) hx.inj σ (bo_inn (σ 0 9)) 50 (bo_inn_ok (σ 0 9)) bo_ev50 rr hh) ⟨by decide, by decide⟩ rfl rfl (Nat.le_of_ble_eq_true rfl)) (fun σ1 => ?_)
    refine bo_aload_n hx dX10_listen_28 rfl 0 rfl ?_
    refine gf_X10_50 hx dX10_listen_29 ?_
    refine gf_X10_296 hx dX10_listen_32 ?_
    refine bo_istore_n (L' := [(1, .int (σ1 24 5)), (0, .ref (bo_a x 0))]) hx dX10_listen_35 rfl (by decide) rfl ?_
    refine bo_iconst (v := (-1)) hx dX10_listen_36 (by decide) ?_
    refine bo_istore_n (L' := [(2, .int (-1)), (1, .int (σ1 24 5)), (0, .ref (bo_a x 0))]) hx dX10_listen_37 rfl (by decide) rfl ?_
    refine bo_iconst (v := 0) hx dX10_listen_38 (by decide) ?_
    refine bo_istore_n (L' := [(3, .int 0), (2, .int (-1)), (1, .int (σ1 24 5)), (0, .ref (bo_a x 0))]) hx dX10_listen_39 rfl (by decide) rfl ?_
    refine bo_sub (L' := [(0, .ref (bo_a x 0)), (1, .int (σ1 24 5)), (2, .int (-1)), (3, .int 0)]) [3, 2, 1, 0] rfl ?_
    refine bo_seq 81 (fun a => [(2, .int a.1)]) (fun a => []) (fun a => a.2) (lX10_listen_L40 x hx bo_fuel (σ1 24 5) (-1) 0 σ1) (fun a4 => ?_)
    refine bo_iload_n hx dX10_listen_81 rfl 0 rfl ?_
    exact bo_retw dX10_listen_82 (fun h => by cases h)
  · refine bo_ldc (v := (-1000000003)) hx dX10_listen_10 wc_X10_208 ?_
    exact bo_retw dX10_listen_12 (fun h => by cases h)
theorem kX10_listen (l : Launch) (g : bo_G) (hi : bo_inj g) (σ : bo_M) : bo_CW l g yX10_listen cX10_listen 5 (some .int) 5 119 [.ref (g.2.2 0)] σ false (mX10_listen σ) :=
  bo_metW rfl (Or.inl ⟨rfl, rfl⟩) (by decide) rfl hi (Nat.le_of_ble_eq_true rfl) (fun x e1 e2 hx => by subst e1; subst e2; exact bX10_listen x hx σ)
-- BellRope.muffled
theorem dX10_muffled_0 : decode cX10_muffled 0 = .ok (.aload_n 0, 1) := by decide +kernel
theorem dX10_muffled_1 : decode cX10_muffled 1 = .ok (.getfield 71, 3) := by decide +kernel
theorem dX10_muffled_4 : decode cX10_muffled 4 = .ok (.getfield 242, 3) := by decide +kernel
theorem dX10_muffled_13 : decode cX10_muffled 13 = .ok (.iconst 0, 1) := by decide +kernel
theorem dX10_muffled_14 : decode cX10_muffled 14 = .ok (.istore_n 1, 1) := by decide +kernel
theorem dX10_muffled_15 : decode cX10_muffled 15 = .ok (.iconst 0, 1) := by decide +kernel
theorem dX10_muffled_16 : decode cX10_muffled 16 = .ok (.istore_n 2, 1) := by decide +kernel
theorem dX10_muffled_17 : decode cX10_muffled 17 = .ok (.iload_n 2, 1) := by decide +kernel
theorem dX10_muffled_18 : decode cX10_muffled 18 = .ok (.bipush 9, 2) := by decide +kernel
theorem dX10_muffled_23 : decode cX10_muffled 23 = .ok (.aload_n 0, 1) := by decide +kernel
theorem dX10_muffled_24 : decode cX10_muffled 24 = .ok (.getfield 50, 3) := by decide +kernel
theorem dX10_muffled_27 : decode cX10_muffled 27 = .ok (.aload_n 0, 1) := by decide +kernel
theorem dX10_muffled_28 : decode cX10_muffled 28 = .ok (.getfield 71, 3) := by decide +kernel
theorem dX10_muffled_31 : decode cX10_muffled 31 = .ok (.aload_n 0, 1) := by decide +kernel
theorem dX10_muffled_32 : decode cX10_muffled 32 = .ok (.getfield 19, 3) := by decide +kernel
theorem dX10_muffled_35 : decode cX10_muffled 35 = .ok (.aload_n 0, 1) := by decide +kernel
theorem dX10_muffled_36 : decode cX10_muffled 36 = .ok (.getfield 19, 3) := by decide +kernel
theorem dX10_muffled_39 : decode cX10_muffled 39 = .ok (.getfield 123, 3) := by decide +kernel
theorem dX10_muffled_42 : decode cX10_muffled 42 = .ok (.iload_n 2, 1) := by decide +kernel
theorem dX10_muffled_43 : decode cX10_muffled 43 = .ok (.invokevirtual 312, 3) := by decide +kernel
theorem dX10_muffled_49 : decode cX10_muffled 49 = .ok (.iload_n 1, 1) := by decide +kernel
theorem dX10_muffled_50 : decode cX10_muffled 50 = .ok (.iconst 1, 1) := by decide +kernel
theorem dX10_muffled_51 : decode cX10_muffled 51 = .ok (.iload_n 2, 1) := by decide +kernel
theorem dX10_muffled_52 : decode cX10_muffled 52 = .ok (.ishl, 1) := by decide +kernel
theorem dX10_muffled_53 : decode cX10_muffled 53 = .ok (.ior, 1) := by decide +kernel
theorem dX10_muffled_54 : decode cX10_muffled 54 = .ok (.istore_n 1, 1) := by decide +kernel
theorem dX10_muffled_46 : decode cX10_muffled 46 = .ok (.ifCond .eq 9, 3) := by decide +kernel
theorem dX10_muffled_55 : decode cX10_muffled 55 = .ok (.iinc 2 1, 3) := by decide +kernel
theorem dX10_muffled_58 : decode cX10_muffled 58 = .ok (.goto (-41), 3) := by decide +kernel
theorem dX10_muffled_20 : decode cX10_muffled 20 = .ok (.if_icmp .gt 41, 3) := by decide +kernel
theorem dX10_muffled_61 : decode cX10_muffled 61 = .ok (.iload_n 1, 1) := by decide +kernel
theorem dX10_muffled_62 : decode cX10_muffled 62 = .ok (.ireturn, 1) := by decide +kernel
theorem dX10_muffled_10 : decode cX10_muffled 10 = .ok (.ldc 208, 2) := by decide +kernel
theorem dX10_muffled_12 : decode cX10_muffled 12 = .ok (.ireturn, 1) := by decide +kernel
theorem dX10_muffled_7 : decode cX10_muffled 7 = .ok (.ifCond .ne 6, 3) := by decide +kernel
theorem lX10_muffled_L17 (x : bo_X) (hx : bo_OK x cX10_muffled RX10 3 4 96) (σ : bo_M) : ∀ (n : Nat) (w1 : Int32) (w2 : Int32), bo_D x 17 [(0, .ref (bo_a x 0)), (1, .int w1), (2, .int w2)] [] σ (mX10_muffled_L17 σ n w1 w2) (fun a => bo_N x 61 [(1, .int a)] [] σ) := by
  intro n
  induction n with
  | zero => intro w1 w2; exact bo_none
  | succ n ih =>
    intro w1 w2
    rw [mX10_muffled_L17]
    refine bo_iload_n hx dX10_muffled_17 rfl 2 rfl ?_
    refine bo_bipush (v := 9) hx dX10_muffled_18 (by decide) ?_
    refine bo_icmp_gt hx 61 dX10_muffled_20 (by decide) ?_ ?_
    · refine bo_sub (L' := [(1, .int w1)]) [1] rfl ?_
      exact bo_arr (fun h => h)
    · refine bo_aload_n hx dX10_muffled_23 rfl 0 rfl ?_
      refine gf_X10_50 hx dX10_muffled_24 ?_
      refine bo_aload_n hx dX10_muffled_27 rfl 0 rfl ?_
      refine gf_X10_71 hx dX10_muffled_28 ?_
      refine bo_aload_n hx dX10_muffled_31 rfl 0 rfl ?_
      refine gf_X10_19 hx dX10_muffled_32 ?_
      refine bo_aload_n hx dX10_muffled_35 rfl 0 rfl ?_
      refine gf_X10_19 hx dX10_muffled_36 ?_
      refine gf_X10_123 hx bo_ev50 dX10_muffled_39 ?_
      refine bo_iload_n hx dX10_muffled_42 rfl 2 rfl ?_
      refine bo_goR (z := true) hx (fun rr hh => bo_runV (As := [.ref (bo_a x (bo_inn (σ 0 9))), .ref (bo_a x 50), .int (σ 50 5), .int w2]) (S := []) hx dX10_muffled_43 lk_X10_312 mi_X5_fits bo_o_24 rfl rfl (kX5_fits (bo_l x) (bo_g x) hx.inj σ (bo_inn (σ 0 9)) 50 (σ 50 5) w2 (bo_inn_ok (σ 0 9)) bo_ev50 rr hh) ⟨by decide, by decide⟩ rfl rfl (Nat.le_of_ble_eq_true rfl)) (fun v1 hv1 => ?_)
      refine bo_seq 55 (fun a => [(0, .ref (bo_a x 0)), (1, .int a), (2, .int w2)]) (fun a => []) (fun a => σ) ?_ (fun a2 => ?_)
      · refine bo_if_eq hx 55 dX10_muffled_46 (by decide) ?_ ?_
        · exact bo_arr (fun h => h)
        · refine bo_iload_n hx dX10_muffled_49 rfl 1 rfl ?_
          refine bo_iconst (v := 1) hx dX10_muffled_50 (by decide) ?_
          refine bo_iload_n hx dX10_muffled_51 rfl 2 rfl ?_
          refine bo_ishl hx dX10_muffled_52 ?_
          refine bo_ior hx dX10_muffled_53 ?_
          refine bo_istore_n (L' := [(1, .int (w1 ||| (1 <<< (w2 &&& 31)))), (0, .ref (bo_a x 0)), (2, .int w2)]) hx dX10_muffled_54 rfl (by decide) rfl ?_
          refine bo_sub (L' := [(0, .ref (bo_a x 0)), (1, .int (w1 ||| (1 <<< (w2 &&& 31)))), (2, .int w2)]) [1, 0, 2] rfl ?_
          exact bo_arr (fun h => h)
      · refine bo_iinc (L' := [(2, .int (w2 + 1)), (0, .ref (bo_a x 0)), (1, .int a2)]) (w := (w2 + 1)) hx dX10_muffled_55 2 rfl rfl (by decide) rfl ?_
        refine bo_goto hx 17 dX10_muffled_58 (by decide) ?_
        refine bo_sub (L' := [(0, .ref (bo_a x 0)), (1, .int a2), (2, .int (w2 + 1))]) [1, 2, 0] rfl ?_
        exact ih a2 (w2 + 1)
theorem bX10_muffled (x : bo_X) (hx : bo_OK x cX10_muffled RX10 3 4 96) (σ : bo_M) : bo_D x 0 [(0, .ref (bo_a x 0))] [] σ (mX10_muffled σ) (bo_Ri x cX10_muffled σ false) := by
  unfold mX10_muffled
  refine bo_aload_n hx dX10_muffled_0 rfl 0 rfl ?_
  refine gf_X10_71 hx dX10_muffled_1 ?_
  refine gf_X10_242 hx (bo_inn_ok (σ 0 9)) dX10_muffled_4 ?_
  refine bo_if_ne hx 13 dX10_muffled_7 (by decide) ?_ ?_
  · refine bo_iconst (v := 0) hx dX10_muffled_13 (by decide) ?_
    refine bo_istore_n (L' := [(1, .int 0), (0, .ref (bo_a x 0))]) hx dX10_muffled_14 rfl (by decide) rfl ?_
    refine bo_iconst (v := 0) hx dX10_muffled_15 (by decide) ?_
    refine bo_istore_n (L' := [(2, .int 0), (1, .int 0), (0, .ref (bo_a x 0))]) hx dX10_muffled_16 rfl (by decide) rfl ?_
    refine bo_sub (L' := [(0, .ref (bo_a x 0)), (1, .int 0), (2, .int 0)]) [2, 1, 0] rfl ?_
    refine bo_seq 61 (fun a => [(1, .int a)]) (fun a => []) (fun a => σ) (lX10_muffled_L17 x hx σ bo_fuel 0 0) (fun a3 => ?_)
    refine bo_iload_n hx dX10_muffled_61 rfl 0 rfl ?_
    exact bo_ret dX10_muffled_62 (fun h => by cases h)
  · refine bo_ldc (v := (-1000000003)) hx dX10_muffled_10 wc_X10_208 ?_
    exact bo_ret dX10_muffled_12 (fun h => by cases h)
theorem kX10_muffled (l : Launch) (g : bo_G) (hi : bo_inj g) (σ : bo_M) : bo_CR l g yX10_muffled cX10_muffled 3 (some .int) 4 96 [.ref (g.2.2 0)] σ false (mX10_muffled σ) :=
  bo_metR rfl (Or.inl ⟨rfl, rfl⟩) (by decide) rfl hi (Nat.le_of_ble_eq_true rfl) (fun x e1 e2 hx => by subst e1; subst e2; exact bX10_muffled x hx σ)
-- BellRope$Book.append
theorem dX0_append_0 : decode cX0_append 0 = .ok (.aload_n 0, 1) := by decide +kernel
theorem dX0_append_1 : decode cX0_append 1 = .ok (.getfield 18, 3) := by decide +kernel
theorem dX0_append_4 : decode cX0_append 4 = .ok (.bipush 15, 2) := by decide +kernel
theorem dX0_append_11 : decode cX0_append 11 = .ok (.aload_n 0, 1) := by decide +kernel
theorem dX0_append_12 : decode cX0_append 12 = .ok (.getfield 9, 3) := by decide +kernel
theorem dX0_append_15 : decode cX0_append 15 = .ok (.aload_n 0, 1) := by decide +kernel
theorem dX0_append_16 : decode cX0_append 16 = .ok (.getfield 18, 3) := by decide +kernel
theorem dX0_append_19 : decode cX0_append 19 = .ok (.iload_n 1, 1) := by decide +kernel
theorem dX0_append_20 : decode cX0_append 20 = .ok (.invokestatic 22, 3) := by decide +kernel
theorem dX0_append_23 : decode cX0_append 23 = .ok (.aload_n 0, 1) := by decide +kernel
theorem dX0_append_24 : decode cX0_append 24 = .ok (.getfield 15, 3) := by decide +kernel
theorem dX0_append_27 : decode cX0_append 27 = .ok (.aload_n 0, 1) := by decide +kernel
theorem dX0_append_28 : decode cX0_append 28 = .ok (.getfield 18, 3) := by decide +kernel
theorem dX0_append_31 : decode cX0_append 31 = .ok (.iload_n 2, 1) := by decide +kernel
theorem dX0_append_32 : decode cX0_append 32 = .ok (.invokestatic 22, 3) := by decide +kernel
theorem dX0_append_35 : decode cX0_append 35 = .ok (.aload_n 0, 1) := by decide +kernel
theorem dX0_append_36 : decode cX0_append 36 = .ok (.dup, 1) := by decide +kernel
theorem dX0_append_37 : decode cX0_append 37 = .ok (.getfield 18, 3) := by decide +kernel
theorem dX0_append_40 : decode cX0_append 40 = .ok (.iconst 1, 1) := by decide +kernel
theorem dX0_append_41 : decode cX0_append 41 = .ok (.iadd, 1) := by decide +kernel
theorem dX0_append_42 : decode cX0_append 42 = .ok (.putfield 18, 3) := by decide +kernel
theorem dX0_append_45 : decode cX0_append 45 = .ok (.iconst 1, 1) := by decide +kernel
theorem dX0_append_46 : decode cX0_append 46 = .ok (.ireturn, 1) := by decide +kernel
theorem dX0_append_9 : decode cX0_append 9 = .ok (.iconst 0, 1) := by decide +kernel
theorem dX0_append_10 : decode cX0_append 10 = .ok (.ireturn, 1) := by decide +kernel
theorem dX0_append_6 : decode cX0_append 6 = .ok (.if_icmp .lt 5, 3) := by decide +kernel
theorem bX0_append (x : bo_X) (hx : bo_OK x cX0_append RX0 3 1 22) (σ : bo_M) (p1 : Int32) (p2 : Int32) : bo_D x 0 [(0, .ref (bo_a x 29)), (1, .int p1), (2, .int p2)] [] σ (mX0_append σ p1 p2) (bo_Rw x cX0_append true) := by
  unfold mX0_append
  refine bo_aload_n hx dX0_append_0 rfl 0 rfl ?_
  refine gf_X0_18 hx dX0_append_1 ?_
  refine bo_bipush (v := 15) hx dX0_append_4 (by decide) ?_
  refine bo_icmp_lt hx 11 dX0_append_6 (by decide) ?_ ?_
  · refine bo_aload_n hx dX0_append_11 rfl 0 rfl ?_
    refine gf_X0_9 hx dX0_append_12 ?_
    refine bo_aload_n hx dX0_append_15 rfl 0 rfl ?_
    refine gf_X0_18 hx dX0_append_16 ?_
    refine bo_iload_n hx dX0_append_19 rfl 1 rfl ?_
    refine bo_goV hx (fun rr hh => bo_runS (As := [.ref (bo_a x 30), .int (σ 29 2), .int p1]) (S := []) hx dX0_append_20 lk_X0_22 ms_X8_put (kX8_put (bo_l x) (bo_g x) hx.inj σ 15 30 (σ 29 2) p1 bo_c_30 rr hh) ⟨by decide, by decide⟩ rfl rfl (Nat.le_of_ble_eq_true rfl)) (fun σ1 => ?_)
    refine bo_aload_n hx dX0_append_23 rfl 0 rfl ?_
    refine gf_X0_15 hx dX0_append_24 ?_
    refine bo_aload_n hx dX0_append_27 rfl 0 rfl ?_
    refine gf_X0_18 hx dX0_append_28 ?_
    refine bo_iload_n hx dX0_append_31 rfl 2 rfl ?_
    refine bo_goV hx (fun rr hh => bo_runS (As := [.ref (bo_a x 31), .int (σ1 29 2), .int p2]) (S := []) hx dX0_append_32 lk_X0_22 ms_X8_put (kX8_put (bo_l x) (bo_g x) hx.inj σ1 15 31 (σ1 29 2) p2 bo_c_31 rr hh) ⟨by decide, by decide⟩ rfl rfl (Nat.le_of_ble_eq_true rfl)) (fun σ2 => ?_)
    refine bo_aload_n hx dX0_append_35 rfl 0 rfl ?_
    refine bo_dup hx dX0_append_36 rfl ?_
    refine gf_X0_18 hx dX0_append_37 ?_
    refine bo_iconst (v := 1) hx dX0_append_40 (by decide) ?_
    refine bo_iadd hx dX0_append_41 ?_
    refine pf_X0_18 hx dX0_append_42 (fun σ3 => ?_)
    refine bo_iconst (v := 1) hx dX0_append_45 (by decide) ?_
    exact bo_retw dX0_append_46 (fun _ => bo_b_1)
  · refine bo_iconst (v := 0) hx dX0_append_9 (by decide) ?_
    exact bo_retw dX0_append_10 (fun _ => bo_b_0)
theorem kX0_append (l : Launch) (g : bo_G) (hi : bo_inj g) (σ : bo_M) (p1 : Int32) (p2 : Int32) : bo_CW l g yX0_append cX0_append 3 (some .boolean) 1 22 [.ref (g.2.2 29), .int p1, .int p2] σ true (mX0_append σ p1 p2) :=
  bo_metW rfl (Or.inr ⟨rfl, rfl⟩) (by decide) rfl hi (Nat.le_of_ble_eq_true rfl) (fun x e1 e2 hx => by subst e1; subst e2; exact bX0_append x hx σ p1 p2)
-- BellRope.write
theorem dX10_write_0 : decode cX10_write 0 = .ok (.aload_n 0, 1) := by decide +kernel
theorem dX10_write_1 : decode cX10_write 1 = .ok (.getfield 71, 3) := by decide +kernel
theorem dX10_write_4 : decode cX10_write 4 = .ok (.iload_n 1, 1) := by decide +kernel
theorem dX10_write_5 : decode cX10_write 5 = .ok (.invokevirtual 146, 3) := by decide +kernel
theorem dX10_write_14 : decode cX10_write 14 = .ok (.iload_n 2, 1) := by decide +kernel
theorem dX10_write_24 : decode cX10_write 24 = .ok (.ldc 78, 2) := by decide +kernel
theorem dX10_write_26 : decode cX10_write 26 = .ok (.ireturn, 1) := by decide +kernel
theorem dX10_write_18 : decode cX10_write 18 = .ok (.iload_n 2, 1) := by decide +kernel
theorem dX10_write_19 : decode cX10_write 19 = .ok (.bipush 20, 2) := by decide +kernel
theorem dX10_write_27 : decode cX10_write 27 = .ok (.aload_n 0, 1) := by decide +kernel
theorem dX10_write_28 : decode cX10_write 28 = .ok (.getfield 57, 3) := by decide +kernel
theorem dX10_write_31 : decode cX10_write 31 = .ok (.iload_n 1, 1) := by decide +kernel
theorem dX10_write_32 : decode cX10_write 32 = .ok (.iload_n 2, 1) := by decide +kernel
theorem dX10_write_33 : decode cX10_write 33 = .ok (.invokevirtual 316, 3) := by decide +kernel
theorem dX10_write_49 : decode cX10_write 49 = .ok (.ldc 87, 2) := by decide +kernel
theorem dX10_write_51 : decode cX10_write 51 = .ok (.ireturn, 1) := by decide +kernel
theorem dX10_write_39 : decode cX10_write 39 = .ok (.aload_n 0, 1) := by decide +kernel
theorem dX10_write_40 : decode cX10_write 40 = .ok (.getfield 57, 3) := by decide +kernel
theorem dX10_write_43 : decode cX10_write 43 = .ok (.getfield 101, 3) := by decide +kernel
theorem dX10_write_46 : decode cX10_write 46 = .ok (.goto 5, 3) := by decide +kernel
theorem dX10_write_36 : decode cX10_write 36 = .ok (.ifCond .eq 13, 3) := by decide +kernel
theorem dX10_write_21 : decode cX10_write 21 = .ok (.if_icmp .le 6, 3) := by decide +kernel
theorem dX10_write_15 : decode cX10_write 15 = .ok (.ifCond .lt 9, 3) := by decide +kernel
theorem dX10_write_11 : decode cX10_write 11 = .ok (.ldc 149, 2) := by decide +kernel
theorem dX10_write_13 : decode cX10_write 13 = .ok (.ireturn, 1) := by decide +kernel
theorem dX10_write_8 : decode cX10_write 8 = .ok (.ifCond .ne 6, 3) := by decide +kernel
theorem bX10_write (x : bo_X) (hx : bo_OK x cX10_write RX10 3 2 44) (σ : bo_M) (p1 : Int32) (p2 : Int32) : bo_D x 0 [(0, .ref (bo_a x 0)), (1, .int p1), (2, .int p2)] [] σ (mX10_write σ p1 p2) (bo_Rw x cX10_write false) := by
  unfold mX10_write
  refine bo_aload_n hx dX10_write_0 rfl 0 rfl ?_
  refine gf_X10_71 hx dX10_write_1 ?_
  refine bo_iload_n hx dX10_write_4 rfl 1 rfl ?_
  refine bo_goR (z := true) hx (fun rr hh => bo_runV (As := [.int p1]) (S := []) hx dX10_write_5 lk_X10_146 mi_X4_hasDrinker (bo_inn_ok (σ 0 9)).o rfl rfl (kX4_hasDrinker (bo_l x) (bo_g x) hx.inj σ (bo_inn (σ 0 9)) p1 (bo_inn_ok (σ 0 9)) rr hh) ⟨by decide, by decide⟩ rfl rfl (Nat.le_of_ble_eq_true rfl)) (fun v1 hv1 => ?_)
  refine bo_if_ne hx 14 dX10_write_8 (by decide) ?_ ?_
  · refine bo_iload_n hx dX10_write_14 rfl 2 rfl ?_
    refine bo_if_lt hx 24 dX10_write_15 (by decide) ?_ ?_
    · refine bo_ldc (v := (-1000000002)) hx dX10_write_24 wc_X10_78 ?_
      exact bo_retw dX10_write_26 (fun h => by cases h)
    · refine bo_iload_n hx dX10_write_18 rfl 2 rfl ?_
      refine bo_bipush (v := 20) hx dX10_write_19 (by decide) ?_
      refine bo_icmp_le hx 27 dX10_write_21 (by decide) ?_ ?_
      · refine bo_aload_n hx dX10_write_27 rfl 0 rfl ?_
        refine gf_X10_57 hx dX10_write_28 ?_
        refine bo_iload_n hx dX10_write_31 rfl 1 rfl ?_
        refine bo_iload_n hx dX10_write_32 rfl 2 rfl ?_
        refine bo_goW (z := true) hx (fun rr hh => bo_runV (As := [.int p1, .int p2]) (S := []) hx dX10_write_33 lk_X10_316 mi_X0_append bo_o_29 rfl rfl (kX0_append (bo_l x) (bo_g x) hx.inj σ p1 p2 rr hh) ⟨by decide, by decide⟩ rfl rfl (Nat.le_of_ble_eq_true rfl)) (fun a2 ha2 => ?_)
        refine bo_if_eq hx 49 dX10_write_36 (by decide) ?_ ?_
        · refine bo_ldc (v := (-1000000004)) hx dX10_write_49 wc_X10_87 ?_
          exact bo_retw dX10_write_51 (fun h => by cases h)
        · refine bo_aload_n hx dX10_write_39 rfl 0 rfl ?_
          refine gf_X10_57 hx dX10_write_40 ?_
          refine gf_X10_101 hx dX10_write_43 ?_
          refine bo_goto hx 51 dX10_write_46 (by decide) ?_
          exact bo_retw dX10_write_51 (fun h => by cases h)
      · refine bo_ldc (v := (-1000000002)) hx dX10_write_24 wc_X10_78 ?_
        exact bo_retw dX10_write_26 (fun h => by cases h)
  · refine bo_ldc (v := (-1000000001)) hx dX10_write_11 wc_X10_149 ?_
    exact bo_retw dX10_write_13 (fun h => by cases h)
theorem kX10_write (l : Launch) (g : bo_G) (hi : bo_inj g) (σ : bo_M) (p1 : Int32) (p2 : Int32) : bo_CW l g yX10_write cX10_write 3 (some .int) 2 44 [.ref (g.2.2 0), .int p1, .int p2] σ false (mX10_write σ p1 p2) :=
  bo_metW rfl (Or.inl ⟨rfl, rfl⟩) (by decide) rfl hi (Nat.le_of_ble_eq_true rfl) (fun x e1 e2 hx => by subst e1; subst e2; exact bX10_write x hx σ p1 p2)
-- BellRope.tear
theorem dX10_tear_0 : decode cX10_tear 0 = .ok (.aload_n 0, 1) := by decide +kernel
theorem dX10_tear_1 : decode cX10_tear 1 = .ok (.getfield 50, 3) := by decide +kernel
theorem dX10_tear_4 : decode cX10_tear 4 = .ok (.getfield 100, 3) := by decide +kernel
theorem dX10_tear_7 : decode cX10_tear 7 = .ok (.aload_n 0, 1) := by decide +kernel
theorem dX10_tear_8 : decode cX10_tear 8 = .ok (.getfield 57, 3) := by decide +kernel
theorem dX10_tear_11 : decode cX10_tear 11 = .ok (.getfield 101, 3) := by decide +kernel
theorem dX10_tear_14 : decode cX10_tear 14 = .ok (.iadd, 1) := by decide +kernel
theorem dX10_tear_15 : decode cX10_tear 15 = .ok (.istore_n 1, 1) := by decide +kernel
theorem dX10_tear_16 : decode cX10_tear 16 = .ok (.aload_n 0, 1) := by decide +kernel
theorem dX10_tear_17 : decode cX10_tear 17 = .ok (.getfield 50, 3) := by decide +kernel
theorem dX10_tear_20 : decode cX10_tear 20 = .ok (.iconst 0, 1) := by decide +kernel
theorem dX10_tear_21 : decode cX10_tear 21 = .ok (.putfield 100, 3) := by decide +kernel
theorem dX10_tear_24 : decode cX10_tear 24 = .ok (.aload_n 0, 1) := by decide +kernel
theorem dX10_tear_25 : decode cX10_tear 25 = .ok (.getfield 57, 3) := by decide +kernel
theorem dX10_tear_28 : decode cX10_tear 28 = .ok (.iconst 0, 1) := by decide +kernel
theorem dX10_tear_29 : decode cX10_tear 29 = .ok (.putfield 101, 3) := by decide +kernel
theorem dX10_tear_32 : decode cX10_tear 32 = .ok (.iload_n 1, 1) := by decide +kernel
theorem dX10_tear_33 : decode cX10_tear 33 = .ok (.ireturn, 1) := by decide +kernel
theorem bX10_tear (x : bo_X) (hx : bo_OK x cX10_tear RX10 2 0 0) (σ : bo_M) : bo_D x 0 [(0, .ref (bo_a x 0))] [] σ (mX10_tear σ) (bo_Rw x cX10_tear false) := by
  unfold mX10_tear
  refine bo_aload_n hx dX10_tear_0 rfl 0 rfl ?_
  refine gf_X10_50 hx dX10_tear_1 ?_
  refine gf_X10_100 hx dX10_tear_4 ?_
  refine bo_aload_n hx dX10_tear_7 rfl 0 rfl ?_
  refine gf_X10_57 hx dX10_tear_8 ?_
  refine gf_X10_101 hx dX10_tear_11 ?_
  refine bo_iadd hx dX10_tear_14 ?_
  refine bo_istore_n (L' := [(1, .int ((σ 24 4) + (σ 29 2))), (0, .ref (bo_a x 0))]) hx dX10_tear_15 rfl (by decide) rfl ?_
  refine bo_aload_n hx dX10_tear_16 rfl 1 rfl ?_
  refine gf_X10_50 hx dX10_tear_17 ?_
  refine bo_iconst (v := 0) hx dX10_tear_20 (by decide) ?_
  refine pf_X10_100 hx dX10_tear_21 (fun σ1 => ?_)
  refine bo_aload_n hx dX10_tear_24 rfl 1 rfl ?_
  refine gf_X10_57 hx dX10_tear_25 ?_
  refine bo_iconst (v := 0) hx dX10_tear_28 (by decide) ?_
  refine pf_X10_101 hx dX10_tear_29 (fun σ2 => ?_)
  refine bo_iload_n hx dX10_tear_32 rfl 0 rfl ?_
  exact bo_retw dX10_tear_33 (fun h => by cases h)
theorem kX10_tear (l : Launch) (g : bo_G) (hi : bo_inj g) (σ : bo_M) : bo_CW l g yX10_tear cX10_tear 2 (some .int) 0 0 [.ref (g.2.2 0)] σ false (mX10_tear σ) :=
  bo_metW rfl (Or.inl ⟨rfl, rfl⟩) (by decide) rfl hi (Nat.le_of_ble_eq_true rfl) (fun x e1 e2 hx => by subst e1; subst e2; exact bX10_tear x hx σ)
-- BellRope$Book.firstWrong
theorem dX0_firstWrong_0 : decode cX0_firstWrong 0 = .ok (.iconst 0, 1) := by decide +kernel
theorem dX0_firstWrong_1 : decode cX0_firstWrong 1 = .ok (.istore_n 2, 1) := by decide +kernel
theorem dX0_firstWrong_2 : decode cX0_firstWrong 2 = .ok (.iload_n 2, 1) := by decide +kernel
theorem dX0_firstWrong_3 : decode cX0_firstWrong 3 = .ok (.aload_n 0, 1) := by decide +kernel
theorem dX0_firstWrong_4 : decode cX0_firstWrong 4 = .ok (.getfield 18, 3) := by decide +kernel
theorem dX0_firstWrong_44 : decode cX0_firstWrong 44 = .ok (.iconst (-1), 1) := by decide +kernel
theorem dX0_firstWrong_45 : decode cX0_firstWrong 45 = .ok (.ireturn, 1) := by decide +kernel
theorem dX0_firstWrong_10 : decode cX0_firstWrong 10 = .ok (.aload_n 1, 1) := by decide +kernel
theorem dX0_firstWrong_11 : decode cX0_firstWrong 11 = .ok (.getfield 28, 3) := by decide +kernel
theorem dX0_firstWrong_14 : decode cX0_firstWrong 14 = .ok (.aload_n 0, 1) := by decide +kernel
theorem dX0_firstWrong_15 : decode cX0_firstWrong 15 = .ok (.getfield 9, 3) := by decide +kernel
theorem dX0_firstWrong_18 : decode cX0_firstWrong 18 = .ok (.iload_n 2, 1) := by decide +kernel
theorem dX0_firstWrong_19 : decode cX0_firstWrong 19 = .ok (.invokestatic 31, 3) := by decide +kernel
theorem dX0_firstWrong_22 : decode cX0_firstWrong 22 = .ok (.invokestatic 31, 3) := by decide +kernel
theorem dX0_firstWrong_25 : decode cX0_firstWrong 25 = .ok (.aload_n 0, 1) := by decide +kernel
theorem dX0_firstWrong_26 : decode cX0_firstWrong 26 = .ok (.getfield 15, 3) := by decide +kernel
theorem dX0_firstWrong_29 : decode cX0_firstWrong 29 = .ok (.iload_n 2, 1) := by decide +kernel
theorem dX0_firstWrong_30 : decode cX0_firstWrong 30 = .ok (.invokestatic 31, 3) := by decide +kernel
theorem dX0_firstWrong_38 : decode cX0_firstWrong 38 = .ok (.iinc 2 1, 3) := by decide +kernel
theorem dX0_firstWrong_41 : decode cX0_firstWrong 41 = .ok (.goto (-39), 3) := by decide +kernel
theorem dX0_firstWrong_36 : decode cX0_firstWrong 36 = .ok (.iload_n 2, 1) := by decide +kernel
theorem dX0_firstWrong_37 : decode cX0_firstWrong 37 = .ok (.ireturn, 1) := by decide +kernel
theorem dX0_firstWrong_33 : decode cX0_firstWrong 33 = .ok (.if_icmp .eq 5, 3) := by decide +kernel
theorem dX0_firstWrong_7 : decode cX0_firstWrong 7 = .ok (.if_icmp .ge 37, 3) := by decide +kernel
theorem lX0_firstWrong_L2 (x : bo_X) (hx : bo_OK x cX0_firstWrong RX0 3 1 21) (σ : bo_M) (f1 : Nat) (hf1 : bo_isEv f1) : ∀ (n : Nat) (w2 : Int32), bo_D x 2 [(0, .ref (bo_a x 29)), (1, .ref (bo_a x f1)), (2, .int w2)] [] σ (mX0_firstWrong_L2 σ f1 n w2) (bo_Ri x cX0_firstWrong σ false) := by
  intro n
  induction n with
  | zero => intro w2; exact bo_none
  | succ n ih =>
    intro w2
    rw [mX0_firstWrong_L2]
    refine bo_iload_n hx dX0_firstWrong_2 rfl 2 rfl ?_
    refine bo_aload_n hx dX0_firstWrong_3 rfl 0 rfl ?_
    refine gf_X0_18 hx dX0_firstWrong_4 ?_
    refine bo_icmp_ge hx 44 dX0_firstWrong_7 (by decide) ?_ ?_
    · refine bo_iconst (v := (-1)) hx dX0_firstWrong_44 (by decide) ?_
      exact bo_ret dX0_firstWrong_45 (fun h => by cases h)
    · refine bo_aload_n hx dX0_firstWrong_10 rfl 1 rfl ?_
      refine gf_X0_28 hx hf1 dX0_firstWrong_11 ?_
      refine bo_aload_n hx dX0_firstWrong_14 rfl 0 rfl ?_
      refine gf_X0_9 hx dX0_firstWrong_15 ?_
      refine bo_iload_n hx dX0_firstWrong_18 rfl 2 rfl ?_
      refine bo_goR (z := false) hx (fun rr hh => bo_runS (As := [.ref (bo_a x 30), .int w2]) (S := [.ref (bo_a x (f1 + 1))]) hx dX0_firstWrong_19 lk_X0_31 ms_X8_at (kX8_at (bo_l x) (bo_g x) hx.inj σ 15 30 w2 bo_c_30 rr hh) ⟨by decide, by decide⟩ rfl rfl (Nat.le_of_ble_eq_true rfl)) (fun v1 hv1 => ?_)
      refine bo_goR (z := false) hx (fun rr hh => bo_runS (As := [.ref (bo_a x (f1 + 1)), .int v1]) (S := []) hx dX0_firstWrong_22 lk_X0_31 ms_X8_at (kX8_at (bo_l x) (bo_g x) hx.inj σ 7 (f1 + 1) v1 hf1.a1 rr hh) ⟨by decide, by decide⟩ rfl rfl (Nat.le_of_ble_eq_true rfl)) (fun v2 hv2 => ?_)
      refine bo_aload_n hx dX0_firstWrong_25 rfl 0 rfl ?_
      refine gf_X0_15 hx dX0_firstWrong_26 ?_
      refine bo_iload_n hx dX0_firstWrong_29 rfl 2 rfl ?_
      refine bo_goR (z := false) hx (fun rr hh => bo_runS (As := [.ref (bo_a x 31), .int w2]) (S := [.int v2]) hx dX0_firstWrong_30 lk_X0_31 ms_X8_at (kX8_at (bo_l x) (bo_g x) hx.inj σ 15 31 w2 bo_c_31 rr hh) ⟨by decide, by decide⟩ rfl rfl (Nat.le_of_ble_eq_true rfl)) (fun v3 hv3 => ?_)
      refine bo_icmp_eq hx 38 dX0_firstWrong_33 (by decide) ?_ ?_
      · refine bo_iinc (L' := [(2, .int (w2 + 1)), (0, .ref (bo_a x 29)), (1, .ref (bo_a x f1))]) (w := (w2 + 1)) hx dX0_firstWrong_38 2 rfl rfl (by decide) rfl ?_
        refine bo_goto hx 2 dX0_firstWrong_41 (by decide) ?_
        refine bo_sub (L' := [(0, .ref (bo_a x 29)), (1, .ref (bo_a x f1)), (2, .int (w2 + 1))]) [1, 2, 0] rfl ?_
        exact ih (w2 + 1)
      · refine bo_iload_n hx dX0_firstWrong_36 rfl 2 rfl ?_
        exact bo_ret dX0_firstWrong_37 (fun h => by cases h)
theorem bX0_firstWrong (x : bo_X) (hx : bo_OK x cX0_firstWrong RX0 3 1 21) (σ : bo_M) (r1 : Nat) (hr1 : bo_isEv r1) : bo_D x 0 [(0, .ref (bo_a x 29)), (1, .ref (bo_a x r1))] [] σ (mX0_firstWrong σ r1) (bo_Ri x cX0_firstWrong σ false) := by
  unfold mX0_firstWrong
  refine bo_iconst (v := 0) hx dX0_firstWrong_0 (by decide) ?_
  refine bo_istore_n (L' := [(2, .int 0), (0, .ref (bo_a x 29)), (1, .ref (bo_a x r1))]) hx dX0_firstWrong_1 rfl (by decide) rfl ?_
  refine bo_sub (L' := [(0, .ref (bo_a x 29)), (1, .ref (bo_a x r1)), (2, .int 0)]) [1, 2, 0] rfl ?_
  exact lX0_firstWrong_L2 x hx σ r1 hr1 bo_fuel 0
theorem kX0_firstWrong (l : Launch) (g : bo_G) (hi : bo_inj g) (σ : bo_M) (r1 : Nat) (hr1 : bo_isEv r1) : bo_CR l g yX0_firstWrong cX0_firstWrong 3 (some .int) 1 21 [.ref (g.2.2 29), .ref (g.2.2 r1)] σ false (mX0_firstWrong σ r1) :=
  bo_metR rfl (Or.inl ⟨rfl, rfl⟩) (by decide) rfl hi (Nat.le_of_ble_eq_true rfl) (fun x e1 e2 hx => by subst e1; subst e2; exact bX0_firstWrong x hx σ r1 hr1)
-- BellRope.judge
theorem dX10_judge_0 : decode cX10_judge 0 = .ok (.aload_n 0, 1) := by decide +kernel
theorem dX10_judge_1 : decode cX10_judge 1 = .ok (.getfield 57, 3) := by decide +kernel
theorem dX10_judge_4 : decode cX10_judge 4 = .ok (.aload_n 0, 1) := by decide +kernel
theorem dX10_judge_5 : decode cX10_judge 5 = .ok (.getfield 19, 3) := by decide +kernel
theorem dX10_judge_8 : decode cX10_judge 8 = .ok (.invokevirtual 317, 3) := by decide +kernel
theorem dX10_judge_11 : decode cX10_judge 11 = .ok (.ireturn, 1) := by decide +kernel
theorem bX10_judge (x : bo_X) (hx : bo_OK x cX10_judge RX10 1 2 43) (σ : bo_M) : bo_D x 0 [(0, .ref (bo_a x 0))] [] σ (mX10_judge σ) (bo_Ri x cX10_judge σ false) := by
  unfold mX10_judge
  refine bo_aload_n hx dX10_judge_0 rfl 0 rfl ?_
  refine gf_X10_57 hx dX10_judge_1 ?_
  refine bo_aload_n hx dX10_judge_4 rfl 0 rfl ?_
  refine gf_X10_19 hx dX10_judge_5 ?_
  refine bo_goR (z := false) hx (fun rr hh => bo_runV (As := [.ref (bo_a x 50)]) (S := []) hx dX10_judge_8 lk_X10_317 mi_X0_firstWrong bo_o_29 rfl rfl (kX0_firstWrong (bo_l x) (bo_g x) hx.inj σ 50 bo_ev50 rr hh) ⟨by decide, by decide⟩ rfl rfl (Nat.le_of_ble_eq_true rfl)) (fun v1 hv1 => ?_)
  exact bo_ret dX10_judge_11 (fun h => by cases h)
theorem kX10_judge (l : Launch) (g : bo_G) (hi : bo_inj g) (σ : bo_M) : bo_CR l g yX10_judge cX10_judge 1 (some .int) 2 43 [.ref (g.2.2 0)] σ false (mX10_judge σ) :=
  bo_metR rfl (Or.inl ⟨rfl, rfl⟩) (by decide) rfl hi (Nat.le_of_ble_eq_true rfl) (fun x e1 e2 hx => by subst e1; subst e2; exact bX10_judge x hx σ)
-- BellRope.seed
theorem dX10_seed_0 : decode cX10_seed 0 = .ok (.iload_n 1, 1) := by decide +kernel
theorem dX10_seed_7 : decode cX10_seed 7 = .ok (.aload_n 0, 1) := by decide +kernel
theorem dX10_seed_8 : decode cX10_seed 8 = .ok (.getfield 321, 3) := by decide +kernel
theorem dX10_seed_11 : decode cX10_seed 11 = .ok (.istore_n 2, 1) := by decide +kernel
theorem dX10_seed_12 : decode cX10_seed 12 = .ok (.aload_n 0, 1) := by decide +kernel
theorem dX10_seed_13 : decode cX10_seed 13 = .ok (.iload_n 1, 1) := by decide +kernel
theorem dX10_seed_14 : decode cX10_seed 14 = .ok (.putfield 321, 3) := by decide +kernel
theorem dX10_seed_17 : decode cX10_seed 17 = .ok (.iload_n 2, 1) := by decide +kernel
theorem dX10_seed_18 : decode cX10_seed 18 = .ok (.ireturn, 1) := by decide +kernel
theorem dX10_seed_4 : decode cX10_seed 4 = .ok (.ldc 78, 2) := by decide +kernel
theorem dX10_seed_6 : decode cX10_seed 6 = .ok (.ireturn, 1) := by decide +kernel
theorem dX10_seed_1 : decode cX10_seed 1 = .ok (.ifCond .ge 6, 3) := by decide +kernel
theorem bX10_seed (x : bo_X) (hx : bo_OK x cX10_seed RX10 3 0 0) (σ : bo_M) (p1 : Int32) : bo_D x 0 [(0, .ref (bo_a x 0)), (1, .int p1)] [] σ (mX10_seed σ p1) (bo_Rw x cX10_seed false) := by
  unfold mX10_seed
  refine bo_iload_n hx dX10_seed_0 rfl 1 rfl ?_
  refine bo_if_ge hx 7 dX10_seed_1 (by decide) ?_ ?_
  · refine bo_aload_n hx dX10_seed_7 rfl 0 rfl ?_
    refine gf_X10_321 hx dX10_seed_8 ?_
    refine bo_istore_n (L' := [(2, .int (σ 0 11)), (0, .ref (bo_a x 0)), (1, .int p1)]) hx dX10_seed_11 rfl (by decide) rfl ?_
    refine bo_aload_n hx dX10_seed_12 rfl 1 rfl ?_
    refine bo_iload_n hx dX10_seed_13 rfl 2 rfl ?_
    refine pf_X10_321 hx dX10_seed_14 (fun σ1 => ?_)
    refine bo_iload_n hx dX10_seed_17 rfl 0 rfl ?_
    exact bo_retw dX10_seed_18 (fun h => by cases h)
  · refine bo_ldc (v := (-1000000002)) hx dX10_seed_4 wc_X10_78 ?_
    exact bo_retw dX10_seed_6 (fun h => by cases h)
theorem kX10_seed (l : Launch) (g : bo_G) (hi : bo_inj g) (σ : bo_M) (p1 : Int32) : bo_CW l g yX10_seed cX10_seed 3 (some .int) 0 0 [.ref (g.2.2 0), .int p1] σ false (mX10_seed σ p1) :=
  bo_metW rfl (Or.inl ⟨rfl, rfl⟩) (by decide) rfl hi (Nat.le_of_ble_eq_true rfl) (fun x e1 e2 hx => by subst e1; subst e2; exact bX10_seed x hx σ p1)
-- BellRope.imageOf
theorem dX10_imageOf_0 : decode cX10_imageOf 0 = .ok (.iload_n 1, 1) := by decide +kernel
theorem dX10_imageOf_9 : decode cX10_imageOf 9 = .ok (.iload_n 1, 1) := by decide +kernel
theorem dX10_imageOf_10 : decode cX10_imageOf 10 = .ok (.iconst 1, 1) := by decide +kernel
theorem dX10_imageOf_21 : decode cX10_imageOf 21 = .ok (.aconst_null, 1) := by decide +kernel
theorem dX10_imageOf_22 : decode cX10_imageOf 22 = .ok (.areturn, 1) := by decide +kernel
theorem dX10_imageOf_14 : decode cX10_imageOf 14 = .ok (.aload_n 0, 1) := by decide +kernel
theorem dX10_imageOf_15 : decode cX10_imageOf 15 = .ok (.getfield 37, 3) := by decide +kernel
theorem dX10_imageOf_18 : decode cX10_imageOf 18 = .ok (.goto 4, 3) := by decide +kernel
theorem dX10_imageOf_11 : decode cX10_imageOf 11 = .ok (.if_icmp .ne 10, 3) := by decide +kernel
theorem dX10_imageOf_4 : decode cX10_imageOf 4 = .ok (.aload_n 0, 1) := by decide +kernel
theorem dX10_imageOf_5 : decode cX10_imageOf 5 = .ok (.getfield 33, 3) := by decide +kernel
theorem dX10_imageOf_8 : decode cX10_imageOf 8 = .ok (.areturn, 1) := by decide +kernel
theorem dX10_imageOf_1 : decode cX10_imageOf 1 = .ok (.ifCond .ne 8, 3) := by decide +kernel
theorem bX10_imageOf (x : bo_X) (hx : bo_OK x cX10_imageOf RX10 2 0 0) (σ : bo_M) (p1 : Int32) : bo_D x 0 [(0, .ref (bo_a x 0)), (1, .int p1)] [] σ (mX10_imageOf σ p1) (bo_Rq x cX10_imageOf σ bo_im) := by
  unfold mX10_imageOf
  refine bo_iload_n hx dX10_imageOf_0 rfl 1 rfl ?_
  refine bo_if_ne hx 9 dX10_imageOf_1 (by decide) ?_ ?_
  · refine bo_iload_n hx dX10_imageOf_9 rfl 1 rfl ?_
    refine bo_iconst (v := 1) hx dX10_imageOf_10 (by decide) ?_
    refine bo_icmp_ne hx 21 dX10_imageOf_11 (by decide) ?_ ?_
    · refine bo_null hx dX10_imageOf_21 ?_
      exact bo_retq dX10_imageOf_22 rfl
    · refine bo_aload_n hx dX10_imageOf_14 rfl 0 rfl ?_
      refine gf_X10_37 hx dX10_imageOf_15 ?_
      refine bo_goto hx 22 dX10_imageOf_18 (by decide) ?_
      exact bo_retq dX10_imageOf_22 rfl
  · refine bo_aload_n hx dX10_imageOf_4 rfl 0 rfl ?_
    refine gf_X10_33 hx dX10_imageOf_5 ?_
    exact bo_retq dX10_imageOf_8 rfl
theorem kX10_imageOf (l : Launch) (g : bo_G) (hi : bo_inj g) (σ : bo_M) (p1 : Int32) : bo_CQ l g yX10_imageOf cX10_imageOf 2 (some (.object "BellRope$Image")) 0 0 [.ref (g.2.2 0), .int p1] σ bo_im (mX10_imageOf σ p1) :=
  bo_metQ rfl  (by decide) rfl hi (Nat.le_of_ble_eq_true rfl) (fun x e1 e2 hx => by subst e1; subst e2; exact bX10_imageOf x hx σ p1)
-- BellRope.keep
theorem dX10_keep_0 : decode cX10_keep 0 = .ok (.aload_n 0, 1) := by decide +kernel
theorem dX10_keep_1 : decode cX10_keep 1 = .ok (.iload_n 1, 1) := by decide +kernel
theorem dX10_keep_2 : decode cX10_keep 2 = .ok (.invokevirtual 324, 3) := by decide +kernel
theorem dX10_keep_5 : decode cX10_keep 5 = .ok (.astore_n 2, 1) := by decide +kernel
theorem dX10_keep_6 : decode cX10_keep 6 = .ok (.aload_n 2, 1) := by decide +kernel
theorem dX10_keep_7 : decode cX10_keep 7 = .ok (.ifnonnull 6, 3) := by decide +kernel
theorem dX10_keep_10 : decode cX10_keep 10 = .ok (.ldc 149, 2) := by decide +kernel
theorem dX10_keep_12 : decode cX10_keep 12 = .ok (.ireturn, 1) := by decide +kernel
theorem dX10_keep_13 : decode cX10_keep 13 = .ok (.aload_n 2, 1) := by decide +kernel
theorem dX10_keep_14 : decode cX10_keep 14 = .ok (.getfield 328, 3) := by decide +kernel
theorem dX10_keep_17 : decode cX10_keep 17 = .ok (.aload_n 0, 1) := by decide +kernel
theorem dX10_keep_18 : decode cX10_keep 18 = .ok (.getfield 19, 3) := by decide +kernel
theorem dX10_keep_21 : decode cX10_keep 21 = .ok (.invokevirtual 329, 3) := by decide +kernel
theorem dX10_keep_24 : decode cX10_keep 24 = .ok (.aload_n 2, 1) := by decide +kernel
theorem dX10_keep_25 : decode cX10_keep 25 = .ok (.aload_n 0, 1) := by decide +kernel
theorem dX10_keep_26 : decode cX10_keep 26 = .ok (.getfield 321, 3) := by decide +kernel
theorem dX10_keep_29 : decode cX10_keep 29 = .ok (.putfield 332, 3) := by decide +kernel
theorem dX10_keep_32 : decode cX10_keep 32 = .ok (.aload_n 2, 1) := by decide +kernel
theorem dX10_keep_33 : decode cX10_keep 33 = .ok (.iconst 1, 1) := by decide +kernel
theorem dX10_keep_34 : decode cX10_keep 34 = .ok (.putfield 96, 3) := by decide +kernel
theorem dX10_keep_37 : decode cX10_keep 37 = .ok (.aload_n 0, 1) := by decide +kernel
theorem dX10_keep_38 : decode cX10_keep 38 = .ok (.getfield 26, 3) := by decide +kernel
theorem dX10_keep_41 : decode cX10_keep 41 = .ok (.iconst 0, 1) := by decide +kernel
theorem dX10_keep_42 : decode cX10_keep 42 = .ok (.putfield 95, 3) := by decide +kernel
theorem dX10_keep_45 : decode cX10_keep 45 = .ok (.iconst 1, 1) := by decide +kernel
theorem dX10_keep_46 : decode cX10_keep 46 = .ok (.ireturn, 1) := by decide +kernel
theorem bX10_keep (x : bo_X) (hx : bo_OK x cX10_keep RX10 3 2 43) (σ : bo_M) (p1 : Int32) : bo_D x 0 [(0, .ref (bo_a x 0)), (1, .int p1)] [] σ (mX10_keep σ p1) (bo_Rw x cX10_keep false) := by
  unfold mX10_keep
  refine bo_aload_n hx dX10_keep_0 rfl 0 rfl ?_
  refine bo_iload_n hx dX10_keep_1 rfl 1 rfl ?_
  refine bo_goQ hx (fun rr hh => bo_runV (As := [.int p1]) (S := []) hx dX10_keep_2 lk_X10_324 mi_X10_imageOf bo_o_0 rfl rfl (kX10_imageOf (bo_l x) (bo_g x) hx.inj σ p1 rr hh) ⟨by decide, by decide⟩ rfl rfl (Nat.le_of_ble_eq_true rfl)) ?_ ?_
  · refine bo_astore_nN (L' := [(2, .null), (0, .ref (bo_a x 0)), (1, .int p1)]) hx dX10_keep_5 rfl (by decide) rfl ?_
    refine bo_aload_nN hx dX10_keep_6 rfl 0 rfl ?_
    refine bo_ifnonnullN hx dX10_keep_7 ?_
    refine bo_ldc (v := (-1000000001)) hx dX10_keep_10 wc_X10_149 ?_
    exact bo_retw dX10_keep_12 (fun h => by cases h)
  · intro c1
    refine bo_astore_n (L' := [(2, .ref (bo_a x (bo_im c1))), (0, .ref (bo_a x 0)), (1, .int p1)]) hx dX10_keep_5 rfl (by decide) rfl ?_
    refine bo_aload_n hx dX10_keep_6 rfl 0 rfl ?_
    refine bo_ifnonnull hx 13 dX10_keep_7 (by decide) ?_
    refine bo_aload_n hx dX10_keep_13 rfl 0 rfl ?_
    refine gf_X10_328 hx (bo_im_ok c1) dX10_keep_14 ?_
    refine bo_aload_n hx dX10_keep_17 rfl 1 rfl ?_
    refine gf_X10_19 hx dX10_keep_18 ?_
    refine bo_goV hx (fun rr hh => bo_runV (As := [.ref (bo_a x 50)]) (S := []) hx dX10_keep_21 lk_X10_329 mi_X2_become (bo_im_ok c1).ev.o rfl rfl (kX2_become (bo_l x) (bo_g x) hx.inj σ ((bo_im c1) + 1) 50 (bo_im_ok c1).ev bo_ev50 rr hh) ⟨by decide, by decide⟩ rfl rfl (Nat.le_of_ble_eq_true rfl)) (fun σ2 => ?_)
    refine bo_aload_n hx dX10_keep_24 rfl 0 rfl ?_
    refine bo_aload_n hx dX10_keep_25 rfl 1 rfl ?_
    refine gf_X10_321 hx dX10_keep_26 ?_
    refine pf_X10_332 hx (bo_im_ok c1) dX10_keep_29 (fun σ3 => ?_)
    refine bo_aload_n hx dX10_keep_32 rfl 0 rfl ?_
    refine bo_iconst (v := 1) hx dX10_keep_33 (by decide) ?_
    refine pf_X10_96 hx (bo_im_ok c1) bo_b_1 dX10_keep_34 (fun σ4 => ?_)
    refine bo_aload_n hx dX10_keep_37 rfl 1 rfl ?_
    refine gf_X10_26 hx dX10_keep_38 ?_
    refine bo_iconst (v := 0) hx dX10_keep_41 (by decide) ?_
    refine pf_X10_95 hx dX10_keep_42 (fun σ5 => ?_)
    refine bo_iconst (v := 1) hx dX10_keep_45 (by decide) ?_
    exact bo_retw dX10_keep_46 (fun h => by cases h)
theorem kX10_keep (l : Launch) (g : bo_G) (hi : bo_inj g) (σ : bo_M) (p1 : Int32) : bo_CW l g yX10_keep cX10_keep 3 (some .int) 2 43 [.ref (g.2.2 0), .int p1] σ false (mX10_keep σ p1) :=
  bo_metW rfl (Or.inl ⟨rfl, rfl⟩) (by decide) rfl hi (Nat.le_of_ble_eq_true rfl) (fun x e1 e2 hx => by subst e1; subst e2; exact bX10_keep x hx σ p1)
-- BellRope.goBack
theorem dX10_goBack_0 : decode cX10_goBack 0 = .ok (.aload_n 0, 1) := by decide +kernel
theorem dX10_goBack_1 : decode cX10_goBack 1 = .ok (.iload_n 1, 1) := by decide +kernel
theorem dX10_goBack_2 : decode cX10_goBack 2 = .ok (.invokevirtual 324, 3) := by decide +kernel
theorem dX10_goBack_5 : decode cX10_goBack 5 = .ok (.astore_n 2, 1) := by decide +kernel
theorem dX10_goBack_6 : decode cX10_goBack 6 = .ok (.aload_n 2, 1) := by decide +kernel
theorem dX10_goBack_7 : decode cX10_goBack 7 = .ok (.ifnonnull 6, 3) := by decide +kernel
theorem dX10_goBack_10 : decode cX10_goBack 10 = .ok (.ldc 149, 2) := by decide +kernel
theorem dX10_goBack_12 : decode cX10_goBack 12 = .ok (.ireturn, 1) := by decide +kernel
theorem dX10_goBack_13 : decode cX10_goBack 13 = .ok (.aload_n 2, 1) := by decide +kernel
theorem dX10_goBack_14 : decode cX10_goBack 14 = .ok (.getfield 96, 3) := by decide +kernel
theorem dX10_goBack_23 : decode cX10_goBack 23 = .ok (.aload_n 0, 1) := by decide +kernel
theorem dX10_goBack_24 : decode cX10_goBack 24 = .ok (.getfield 19, 3) := by decide +kernel
theorem dX10_goBack_27 : decode cX10_goBack 27 = .ok (.aload_n 2, 1) := by decide +kernel
theorem dX10_goBack_28 : decode cX10_goBack 28 = .ok (.getfield 328, 3) := by decide +kernel
theorem dX10_goBack_31 : decode cX10_goBack 31 = .ok (.invokevirtual 329, 3) := by decide +kernel
theorem dX10_goBack_34 : decode cX10_goBack 34 = .ok (.aload_n 0, 1) := by decide +kernel
theorem dX10_goBack_35 : decode cX10_goBack 35 = .ok (.aload_n 2, 1) := by decide +kernel
theorem dX10_goBack_36 : decode cX10_goBack 36 = .ok (.getfield 332, 3) := by decide +kernel
theorem dX10_goBack_39 : decode cX10_goBack 39 = .ok (.putfield 321, 3) := by decide +kernel
theorem dX10_goBack_42 : decode cX10_goBack 42 = .ok (.aload_n 0, 1) := by decide +kernel
theorem dX10_goBack_43 : decode cX10_goBack 43 = .ok (.getfield 26, 3) := by decide +kernel
theorem dX10_goBack_46 : decode cX10_goBack 46 = .ok (.iconst 0, 1) := by decide +kernel
theorem dX10_goBack_47 : decode cX10_goBack 47 = .ok (.putfield 95, 3) := by decide +kernel
theorem dX10_goBack_50 : decode cX10_goBack 50 = .ok (.iconst 1, 1) := by decide +kernel
theorem dX10_goBack_51 : decode cX10_goBack 51 = .ok (.ireturn, 1) := by decide +kernel
theorem dX10_goBack_20 : decode cX10_goBack 20 = .ok (.ldc 208, 2) := by decide +kernel
theorem dX10_goBack_22 : decode cX10_goBack 22 = .ok (.ireturn, 1) := by decide +kernel
theorem dX10_goBack_17 : decode cX10_goBack 17 = .ok (.ifCond .ne 6, 3) := by decide +kernel
theorem bX10_goBack (x : bo_X) (hx : bo_OK x cX10_goBack RX10 3 2 43) (σ : bo_M) (p1 : Int32) : bo_D x 0 [(0, .ref (bo_a x 0)), (1, .int p1)] [] σ (mX10_goBack σ p1) (bo_Rw x cX10_goBack false) := by
  unfold mX10_goBack
  refine bo_aload_n hx dX10_goBack_0 rfl 0 rfl ?_
  refine bo_iload_n hx dX10_goBack_1 rfl 1 rfl ?_
  refine bo_goQ hx (fun rr hh => bo_runV (As := [.int p1]) (S := []) hx dX10_goBack_2 lk_X10_324 mi_X10_imageOf bo_o_0 rfl rfl (kX10_imageOf (bo_l x) (bo_g x) hx.inj σ p1 rr hh) ⟨by decide, by decide⟩ rfl rfl (Nat.le_of_ble_eq_true rfl)) ?_ ?_
  · refine bo_astore_nN (L' := [(2, .null), (0, .ref (bo_a x 0)), (1, .int p1)]) hx dX10_goBack_5 rfl (by decide) rfl ?_
    refine bo_aload_nN hx dX10_goBack_6 rfl 0 rfl ?_
    refine bo_ifnonnullN hx dX10_goBack_7 ?_
    refine bo_ldc (v := (-1000000001)) hx dX10_goBack_10 wc_X10_149 ?_
    exact bo_retw dX10_goBack_12 (fun h => by cases h)
  · intro c1
    refine bo_astore_n (L' := [(2, .ref (bo_a x (bo_im c1))), (0, .ref (bo_a x 0)), (1, .int p1)]) hx dX10_goBack_5 rfl (by decide) rfl ?_
    refine bo_aload_n hx dX10_goBack_6 rfl 0 rfl ?_
    refine bo_ifnonnull hx 13 dX10_goBack_7 (by decide) ?_
    refine bo_aload_n hx dX10_goBack_13 rfl 0 rfl ?_
    refine gf_X10_96 hx (bo_im_ok c1) dX10_goBack_14 ?_
    refine bo_if_ne hx 23 dX10_goBack_17 (by decide) ?_ ?_
    · refine bo_aload_n hx dX10_goBack_23 rfl 1 rfl ?_
      refine gf_X10_19 hx dX10_goBack_24 ?_
      refine bo_aload_n hx dX10_goBack_27 rfl 0 rfl ?_
      refine gf_X10_328 hx (bo_im_ok c1) dX10_goBack_28 ?_
      refine bo_goV hx (fun rr hh => bo_runV (As := [.ref (bo_a x ((bo_im c1) + 1))]) (S := []) hx dX10_goBack_31 lk_X10_329 mi_X2_become bo_ev50.o rfl rfl (kX2_become (bo_l x) (bo_g x) hx.inj σ 50 ((bo_im c1) + 1) bo_ev50 (bo_im_ok c1).ev rr hh) ⟨by decide, by decide⟩ rfl rfl (Nat.le_of_ble_eq_true rfl)) (fun σ2 => ?_)
      refine bo_aload_n hx dX10_goBack_34 rfl 1 rfl ?_
      refine bo_aload_n hx dX10_goBack_35 rfl 0 rfl ?_
      refine gf_X10_332 hx (bo_im_ok c1) dX10_goBack_36 ?_
      refine pf_X10_321 hx dX10_goBack_39 (fun σ3 => ?_)
      refine bo_aload_n hx dX10_goBack_42 rfl 1 rfl ?_
      refine gf_X10_26 hx dX10_goBack_43 ?_
      refine bo_iconst (v := 0) hx dX10_goBack_46 (by decide) ?_
      refine pf_X10_95 hx dX10_goBack_47 (fun σ4 => ?_)
      refine bo_iconst (v := 1) hx dX10_goBack_50 (by decide) ?_
      exact bo_retw dX10_goBack_51 (fun h => by cases h)
    · refine bo_ldc (v := (-1000000003)) hx dX10_goBack_20 wc_X10_208 ?_
      exact bo_retw dX10_goBack_22 (fun h => by cases h)
theorem kX10_goBack (l : Launch) (g : bo_G) (hi : bo_inj g) (σ : bo_M) (p1 : Int32) : bo_CW l g yX10_goBack cX10_goBack 3 (some .int) 2 43 [.ref (g.2.2 0), .int p1] σ false (mX10_goBack σ p1) :=
  bo_metW rfl (Or.inl ⟨rfl, rfl⟩) (by decide) rfl hi (Nat.le_of_ble_eq_true rfl) (fun x e1 e2 hx => by subst e1; subst e2; exact bX10_goBack x hx σ p1)
-- BellRopeModel.in
theorem dX11_in_0 : decode cX11_in 0 = .ok (.lload_n 0, 1) := by decide +kernel
theorem dX11_in_1 : decode cX11_in 1 = .ok (.lload_n 2, 1) := by decide +kernel
theorem dX11_in_2 : decode cX11_in 2 = .ok (.lcmp, 1) := by decide +kernel
theorem dX11_in_17 : decode cX11_in 17 = .ok (.iconst 0, 1) := by decide +kernel
theorem dX11_in_18 : decode cX11_in 18 = .ok (.ireturn, 1) := by decide +kernel
theorem dX11_in_6 : decode cX11_in 6 = .ok (.lload_n 0, 1) := by decide +kernel
theorem dX11_in_7 : decode cX11_in 7 = .ok (.lload 4, 2) := by decide +kernel
theorem dX11_in_9 : decode cX11_in 9 = .ok (.lcmp, 1) := by decide +kernel
theorem dX11_in_13 : decode cX11_in 13 = .ok (.iconst 1, 1) := by decide +kernel
theorem dX11_in_14 : decode cX11_in 14 = .ok (.goto 4, 3) := by decide +kernel
theorem dX11_in_10 : decode cX11_in 10 = .ok (.ifCond .gt 7, 3) := by decide +kernel
theorem dX11_in_3 : decode cX11_in 3 = .ok (.ifCond .lt 14, 3) := by decide +kernel
theorem bX11_in (x : bo_X) (hx : bo_OK x cX11_in RX11 6 0 0) (σ : bo_M) (q0 : Int64) (q2 : Int64) (q4 : Int64) : bo_D x 0 [(0, .long q0), (2, .long q2), (4, .long q4)] [] σ (mX11_in σ q0 q2 q4) (bo_Ri x cX11_in σ true) := by
  unfold mX11_in
  refine bo_lload_n hx dX11_in_0 rfl 0 rfl ?_
  refine bo_lload_n hx dX11_in_1 rfl 1 rfl ?_
  refine bo_lcmp hx dX11_in_2 ?_
  refine bo_if_lt hx 17 dX11_in_3 (by decide) ?_ ?_
  · refine bo_iconst (v := 0) hx dX11_in_17 (by decide) ?_
    exact bo_ret dX11_in_18 (fun _ => bo_b_0)
  · refine bo_lload_n hx dX11_in_6 rfl 0 rfl ?_
    refine bo_lload hx dX11_in_7 2 rfl ?_
    refine bo_lcmp hx dX11_in_9 ?_
    refine bo_if_gt hx 17 dX11_in_10 (by decide) ?_ ?_
    · refine bo_iconst (v := 0) hx dX11_in_17 (by decide) ?_
      exact bo_ret dX11_in_18 (fun _ => bo_b_0)
    · refine bo_iconst (v := 1) hx dX11_in_13 (by decide) ?_
      refine bo_goto hx 18 dX11_in_14 (by decide) ?_
      exact bo_ret dX11_in_18 (fun _ => bo_b_1)
theorem kX11_in (l : Launch) (g : bo_G) (hi : bo_inj g) (σ : bo_M) (q0 : Int64) (q2 : Int64) (q4 : Int64) : bo_CR l g yX11_in cX11_in 6 (some .boolean) 0 0 [.long q0, .long q2, .long q4] σ true (mX11_in σ q0 q2 q4) :=
  bo_metR rfl (Or.inr ⟨rfl, rfl⟩) (by decide) rfl hi (Nat.le_of_ble_eq_true rfl) (fun x e1 e2 hx => by subst e1; subst e2; exact bX11_in x hx σ q0 q2 q4)
-- BellRopeModel.has
theorem dX11_has_0 : decode cX11_has 0 = .ok (.iload_n 0, 1) := by decide +kernel
theorem dX11_has_1 : decode cX11_has 1 = .ok (.iload_n 1, 1) := by decide +kernel
theorem dX11_has_2 : decode cX11_has 2 = .ok (.ishr, 1) := by decide +kernel
theorem dX11_has_3 : decode cX11_has 3 = .ok (.iconst 1, 1) := by decide +kernel
theorem dX11_has_4 : decode cX11_has 4 = .ok (.iand, 1) := by decide +kernel
theorem dX11_has_5 : decode cX11_has 5 = .ok (.iconst 1, 1) := by decide +kernel
theorem dX11_has_13 : decode cX11_has 13 = .ok (.iconst 0, 1) := by decide +kernel
theorem dX11_has_14 : decode cX11_has 14 = .ok (.ireturn, 1) := by decide +kernel
theorem dX11_has_9 : decode cX11_has 9 = .ok (.iconst 1, 1) := by decide +kernel
theorem dX11_has_10 : decode cX11_has 10 = .ok (.goto 4, 3) := by decide +kernel
theorem dX11_has_6 : decode cX11_has 6 = .ok (.if_icmp .ne 7, 3) := by decide +kernel
theorem bX11_has (x : bo_X) (hx : bo_OK x cX11_has RX11 2 0 0) (σ : bo_M) (p0 : Int32) (p1 : Int32) : bo_D x 0 [(0, .int p0), (1, .int p1)] [] σ (mX11_has σ p0 p1) (bo_Ri x cX11_has σ true) := by
  unfold mX11_has
  refine bo_iload_n hx dX11_has_0 rfl 0 rfl ?_
  refine bo_iload_n hx dX11_has_1 rfl 1 rfl ?_
  refine bo_ishr hx dX11_has_2 ?_
  refine bo_iconst (v := 1) hx dX11_has_3 (by decide) ?_
  refine bo_iand hx dX11_has_4 ?_
  refine bo_iconst (v := 1) hx dX11_has_5 (by decide) ?_
  refine bo_icmp_ne hx 13 dX11_has_6 (by decide) ?_ ?_
  · refine bo_iconst (v := 0) hx dX11_has_13 (by decide) ?_
    exact bo_ret dX11_has_14 (fun _ => bo_b_0)
  · refine bo_iconst (v := 1) hx dX11_has_9 (by decide) ?_
    refine bo_goto hx 14 dX11_has_10 (by decide) ?_
    exact bo_ret dX11_has_14 (fun _ => bo_b_1)
theorem kX11_has (l : Launch) (g : bo_G) (hi : bo_inj g) (σ : bo_M) (p0 : Int32) (p1 : Int32) : bo_CR l g yX11_has cX11_has 2 (some .boolean) 0 0 [.int p0, .int p1] σ true (mX11_has σ p0 p1) :=
  bo_metR rfl (Or.inr ⟨rfl, rfl⟩) (by decide) rfl hi (Nat.le_of_ble_eq_true rfl) (fun x e1 e2 hx => by subst e1; subst e2; exact bX11_has x hx σ p0 p1)
-- BellRopeModel.bits
theorem dX11_bits_0 : decode cX11_bits 0 = .ok (.iconst 0, 1) := by decide +kernel
theorem dX11_bits_1 : decode cX11_bits 1 = .ok (.istore_n 1, 1) := by decide +kernel
theorem dX11_bits_2 : decode cX11_bits 2 = .ok (.iconst 0, 1) := by decide +kernel
theorem dX11_bits_3 : decode cX11_bits 3 = .ok (.istore_n 2, 1) := by decide +kernel
theorem dX11_bits_4 : decode cX11_bits 4 = .ok (.iload_n 2, 1) := by decide +kernel
theorem dX11_bits_5 : decode cX11_bits 5 = .ok (.bipush 7, 2) := by decide +kernel
theorem dX11_bits_10 : decode cX11_bits 10 = .ok (.iload_n 1, 1) := by decide +kernel
theorem dX11_bits_11 : decode cX11_bits 11 = .ok (.iload_n 0, 1) := by decide +kernel
theorem dX11_bits_12 : decode cX11_bits 12 = .ok (.iload_n 2, 1) := by decide +kernel
theorem dX11_bits_13 : decode cX11_bits 13 = .ok (.ishr, 1) := by decide +kernel
theorem dX11_bits_14 : decode cX11_bits 14 = .ok (.iconst 1, 1) := by decide +kernel
theorem dX11_bits_15 : decode cX11_bits 15 = .ok (.iand, 1) := by decide +kernel
theorem dX11_bits_16 : decode cX11_bits 16 = .ok (.iadd, 1) := by decide +kernel
theorem dX11_bits_17 : decode cX11_bits 17 = .ok (.istore_n 1, 1) := by decide +kernel
theorem dX11_bits_18 : decode cX11_bits 18 = .ok (.iinc 2 1, 3) := by decide +kernel
theorem dX11_bits_21 : decode cX11_bits 21 = .ok (.goto (-17), 3) := by decide +kernel
theorem dX11_bits_7 : decode cX11_bits 7 = .ok (.if_icmp .ge 17, 3) := by decide +kernel
theorem dX11_bits_24 : decode cX11_bits 24 = .ok (.iload_n 1, 1) := by decide +kernel
theorem dX11_bits_25 : decode cX11_bits 25 = .ok (.ireturn, 1) := by decide +kernel
theorem lX11_bits_L4 (x : bo_X) (hx : bo_OK x cX11_bits RX11 3 0 0) (σ : bo_M) (f0 : Int32) : ∀ (n : Nat) (w1 : Int32) (w2 : Int32), bo_D x 4 [(0, .int f0), (1, .int w1), (2, .int w2)] [] σ (mX11_bits_L4 σ f0 n w1 w2) (fun a => bo_N x 24 [(1, .int a)] [] σ) := by
  intro n
  induction n with
  | zero => intro w1 w2; exact bo_none
  | succ n ih =>
    intro w1 w2
    rw [mX11_bits_L4]
    refine bo_iload_n hx dX11_bits_4 rfl 2 rfl ?_
    refine bo_bipush (v := 7) hx dX11_bits_5 (by decide) ?_
    refine bo_icmp_ge hx 24 dX11_bits_7 (by decide) ?_ ?_
    · refine bo_sub (L' := [(1, .int w1)]) [1] rfl ?_
      exact bo_arr (fun h => h)
    · refine bo_iload_n hx dX11_bits_10 rfl 1 rfl ?_
      refine bo_iload_n hx dX11_bits_11 rfl 0 rfl ?_
      refine bo_iload_n hx dX11_bits_12 rfl 2 rfl ?_
      refine bo_ishr hx dX11_bits_13 ?_
      refine bo_iconst (v := 1) hx dX11_bits_14 (by decide) ?_
      refine bo_iand hx dX11_bits_15 ?_
      refine bo_iadd hx dX11_bits_16 ?_
      refine bo_istore_n (L' := [(1, .int (w1 + ((f0 >>> (w2 &&& 31)) &&& 1))), (0, .int f0), (2, .int w2)]) hx dX11_bits_17 rfl (by decide) rfl ?_
      refine bo_iinc (L' := [(2, .int (w2 + 1)), (1, .int (w1 + ((f0 >>> (w2 &&& 31)) &&& 1))), (0, .int f0)]) (w := (w2 + 1)) hx dX11_bits_18 2 rfl rfl (by decide) rfl ?_
      refine bo_goto hx 4 dX11_bits_21 (by decide) ?_
      refine bo_sub (L' := [(0, .int f0), (1, .int (w1 + ((f0 >>> (w2 &&& 31)) &&& 1))), (2, .int (w2 + 1))]) [2, 1, 0] rfl ?_
      exact ih (w1 + ((f0 >>> (w2 &&& 31)) &&& 1)) (w2 + 1)
theorem bX11_bits (x : bo_X) (hx : bo_OK x cX11_bits RX11 3 0 0) (σ : bo_M) (p0 : Int32) : bo_D x 0 [(0, .int p0)] [] σ (mX11_bits σ p0) (bo_Ri x cX11_bits σ false) := by
  unfold mX11_bits
  refine bo_iconst (v := 0) hx dX11_bits_0 (by decide) ?_
  refine bo_istore_n (L' := [(1, .int 0), (0, .int p0)]) hx dX11_bits_1 rfl (by decide) rfl ?_
  refine bo_iconst (v := 0) hx dX11_bits_2 (by decide) ?_
  refine bo_istore_n (L' := [(2, .int 0), (1, .int 0), (0, .int p0)]) hx dX11_bits_3 rfl (by decide) rfl ?_
  refine bo_sub (L' := [(0, .int p0), (1, .int 0), (2, .int 0)]) [2, 1, 0] rfl ?_
  refine bo_seq 24 (fun a => [(1, .int a)]) (fun a => []) (fun a => σ) (lX11_bits_L4 x hx σ p0 bo_fuel 0 0) (fun a1 => ?_)
  refine bo_iload_n hx dX11_bits_24 rfl 0 rfl ?_
  exact bo_ret dX11_bits_25 (fun h => by cases h)
theorem kX11_bits (l : Launch) (g : bo_G) (hi : bo_inj g) (σ : bo_M) (p0 : Int32) : bo_CR l g yX11_bits cX11_bits 3 (some .int) 0 0 [.int p0] σ false (mX11_bits σ p0) :=
  bo_metR rfl (Or.inl ⟨rfl, rfl⟩) (by decide) rfl hi (Nat.le_of_ble_eq_true rfl) (fun x e1 e2 hx => by subst e1; subst e2; exact bX11_bits x hx σ p0)
-- BellRopeModel.isDrinker
theorem dX11_isDrinker_0 : decode cX11_isDrinker 0 = .ok (.iload_n 1, 1) := by decide +kernel
theorem dX11_isDrinker_1 : decode cX11_isDrinker 1 = .ok (.i2l, 1) := by decide +kernel
theorem dX11_isDrinker_2 : decode cX11_isDrinker 2 = .ok (.lconst 0, 1) := by decide +kernel
theorem dX11_isDrinker_3 : decode cX11_isDrinker 3 = .ok (.aload_n 0, 1) := by decide +kernel
theorem dX11_isDrinker_4 : decode cX11_isDrinker 4 = .ok (.getfield 115, 3) := by decide +kernel
theorem dX11_isDrinker_7 : decode cX11_isDrinker 7 = .ok (.iconst 1, 1) := by decide +kernel
theorem dX11_isDrinker_8 : decode cX11_isDrinker 8 = .ok (.isub, 1) := by decide +kernel
theorem dX11_isDrinker_9 : decode cX11_isDrinker 9 = .ok (.i2l, 1) := by decide +kernel
theorem dX11_isDrinker_10 : decode cX11_isDrinker 10 = .ok (.invokestatic 118, 3) := by decide +kernel
theorem dX11_isDrinker_13 : decode cX11_isDrinker 13 = .ok (.ireturn, 1) := by decide +kernel
theorem bX11_isDrinker (x : bo_X) (hx : bo_OK x cX11_isDrinker RX11 2 1 25) (σ : bo_M) (p1 : Int32) : bo_D x 0 [(0, .ref (bo_a x 135)), (1, .int p1)] [] σ (mX11_isDrinker σ p1) (bo_Ri x cX11_isDrinker σ true) := by
  unfold mX11_isDrinker
  refine bo_iload_n hx dX11_isDrinker_0 rfl 1 rfl ?_
  refine bo_i2l hx dX11_isDrinker_1 ?_
  refine bo_lconst (v := 0) hx dX11_isDrinker_2 (by decide) ?_
  refine bo_aload_n hx dX11_isDrinker_3 rfl 0 rfl ?_
  refine gf_X11_115 hx dX11_isDrinker_4 ?_
  refine bo_iconst (v := 1) hx dX11_isDrinker_7 (by decide) ?_
  refine bo_isub hx dX11_isDrinker_8 ?_
  refine bo_i2l hx dX11_isDrinker_9 ?_
  refine bo_goR (z := true) hx (fun rr hh => bo_runS (As := [.long (Int32.toInt64 p1), .long 0, .long (Int32.toInt64 ((σ 135 4) - 1))]) (S := []) hx dX11_isDrinker_10 lk_X11_118 ms_X11_in (kX11_in (bo_l x) (bo_g x) hx.inj σ (Int32.toInt64 p1) 0 (Int32.toInt64 ((σ 135 4) - 1)) rr hh) ⟨by decide, by decide⟩ rfl rfl (Nat.le_of_ble_eq_true rfl)) (fun v1 hv1 => ?_)
  exact bo_ret dX11_isDrinker_13 (fun _ => (hv1 rfl))
theorem kX11_isDrinker (l : Launch) (g : bo_G) (hi : bo_inj g) (σ : bo_M) (p1 : Int32) : bo_CR l g yX11_isDrinker cX11_isDrinker 2 (some .boolean) 1 25 [.ref (g.2.2 135), .int p1] σ true (mX11_isDrinker σ p1) :=
  bo_metR rfl (Or.inr ⟨rfl, rfl⟩) (by decide) rfl hi (Nat.le_of_ble_eq_true rfl) (fun x e1 e2 hx => by subst e1; subst e2; exact bX11_isDrinker x hx σ p1)
-- BellRopeModel.isGoer
theorem dX11_isGoer_0 : decode cX11_isGoer 0 = .ok (.iload_n 1, 1) := by decide +kernel
theorem dX11_isGoer_1 : decode cX11_isGoer 1 = .ok (.i2l, 1) := by decide +kernel
theorem dX11_isGoer_2 : decode cX11_isGoer 2 = .ok (.lconst 0, 1) := by decide +kernel
theorem dX11_isGoer_3 : decode cX11_isGoer 3 = .ok (.aload_n 0, 1) := by decide +kernel
theorem dX11_isGoer_4 : decode cX11_isGoer 4 = .ok (.getfield 122, 3) := by decide +kernel
theorem dX11_isGoer_7 : decode cX11_isGoer 7 = .ok (.iconst 1, 1) := by decide +kernel
theorem dX11_isGoer_8 : decode cX11_isGoer 8 = .ok (.isub, 1) := by decide +kernel
theorem dX11_isGoer_9 : decode cX11_isGoer 9 = .ok (.i2l, 1) := by decide +kernel
theorem dX11_isGoer_10 : decode cX11_isGoer 10 = .ok (.invokestatic 118, 3) := by decide +kernel
theorem dX11_isGoer_13 : decode cX11_isGoer 13 = .ok (.ireturn, 1) := by decide +kernel
theorem bX11_isGoer (x : bo_X) (hx : bo_OK x cX11_isGoer RX11 2 1 25) (σ : bo_M) (p1 : Int32) : bo_D x 0 [(0, .ref (bo_a x 135)), (1, .int p1)] [] σ (mX11_isGoer σ p1) (bo_Ri x cX11_isGoer σ true) := by
  unfold mX11_isGoer
  refine bo_iload_n hx dX11_isGoer_0 rfl 1 rfl ?_
  refine bo_i2l hx dX11_isGoer_1 ?_
  refine bo_lconst (v := 0) hx dX11_isGoer_2 (by decide) ?_
  refine bo_aload_n hx dX11_isGoer_3 rfl 0 rfl ?_
  refine gf_X11_122 hx dX11_isGoer_4 ?_
  refine bo_iconst (v := 1) hx dX11_isGoer_7 (by decide) ?_
  refine bo_isub hx dX11_isGoer_8 ?_
  refine bo_i2l hx dX11_isGoer_9 ?_
  refine bo_goR (z := true) hx (fun rr hh => bo_runS (As := [.long (Int32.toInt64 p1), .long 0, .long (Int32.toInt64 ((σ 135 11) - 1))]) (S := []) hx dX11_isGoer_10 lk_X11_118 ms_X11_in (kX11_in (bo_l x) (bo_g x) hx.inj σ (Int32.toInt64 p1) 0 (Int32.toInt64 ((σ 135 11) - 1)) rr hh) ⟨by decide, by decide⟩ rfl rfl (Nat.le_of_ble_eq_true rfl)) (fun v1 hv1 => ?_)
  exact bo_ret dX11_isGoer_13 (fun _ => (hv1 rfl))
theorem kX11_isGoer (l : Launch) (g : bo_G) (hi : bo_inj g) (σ : bo_M) (p1 : Int32) : bo_CR l g yX11_isGoer cX11_isGoer 2 (some .boolean) 1 25 [.ref (g.2.2 135), .int p1] σ true (mX11_isGoer σ p1) :=
  bo_metR rfl (Or.inr ⟨rfl, rfl⟩) (by decide) rfl hi (Nat.le_of_ble_eq_true rfl) (fun x e1 e2 hx => by subst e1; subst e2; exact bX11_isGoer x hx σ p1)
-- BellRopeModel.feed
theorem dX11_feed_0 : decode cX11_feed 0 = .ok (.iload_n 1, 1) := by decide +kernel
theorem dX11_feed_1 : decode cX11_feed 1 = .ok (.i2l, 1) := by decide +kernel
theorem dX11_feed_2 : decode cX11_feed 2 = .ok (.lconst 0, 1) := by decide +kernel
theorem dX11_feed_3 : decode cX11_feed 3 = .ok (.ldc2_w 125, 3) := by decide +kernel
theorem dX11_feed_6 : decode cX11_feed 6 = .ok (.invokestatic 118, 3) := by decide +kernel
theorem dX11_feed_15 : decode cX11_feed 15 = .ok (.aload_n 0, 1) := by decide +kernel
theorem dX11_feed_16 : decode cX11_feed 16 = .ok (.getfield 128, 3) := by decide +kernel
theorem dX11_feed_19 : decode cX11_feed 19 = .ok (.sipush 240, 3) := by decide +kernel
theorem dX11_feed_28 : decode cX11_feed 28 = .ok (.aload_n 0, 1) := by decide +kernel
theorem dX11_feed_29 : decode cX11_feed 29 = .ok (.getfield 37, 3) := by decide +kernel
theorem dX11_feed_32 : decode cX11_feed 32 = .ok (.aload_n 0, 1) := by decide +kernel
theorem dX11_feed_33 : decode cX11_feed 33 = .ok (.getfield 128, 3) := by decide +kernel
theorem dX11_feed_36 : decode cX11_feed 36 = .ok (.iload_n 1, 1) := by decide +kernel
theorem dX11_feed_37 : decode cX11_feed 37 = .ok (.iastore, 1) := by decide +kernel
theorem dX11_feed_38 : decode cX11_feed 38 = .ok (.aload_n 0, 1) := by decide +kernel
theorem dX11_feed_39 : decode cX11_feed 39 = .ok (.dup, 1) := by decide +kernel
theorem dX11_feed_40 : decode cX11_feed 40 = .ok (.getfield 128, 3) := by decide +kernel
theorem dX11_feed_43 : decode cX11_feed 43 = .ok (.iconst 1, 1) := by decide +kernel
theorem dX11_feed_44 : decode cX11_feed 44 = .ok (.iadd, 1) := by decide +kernel
theorem dX11_feed_45 : decode cX11_feed 45 = .ok (.putfield 128, 3) := by decide +kernel
theorem dX11_feed_48 : decode cX11_feed 48 = .ok (.aload_n 0, 1) := by decide +kernel
theorem dX11_feed_49 : decode cX11_feed 49 = .ok (.getfield 128, 3) := by decide +kernel
theorem dX11_feed_52 : decode cX11_feed 52 = .ok (.ireturn, 1) := by decide +kernel
theorem dX11_feed_25 : decode cX11_feed 25 = .ok (.ldc 131, 2) := by decide +kernel
theorem dX11_feed_27 : decode cX11_feed 27 = .ok (.ireturn, 1) := by decide +kernel
theorem dX11_feed_22 : decode cX11_feed 22 = .ok (.if_icmp .ne 6, 3) := by decide +kernel
theorem dX11_feed_12 : decode cX11_feed 12 = .ok (.ldc 127, 2) := by decide +kernel
theorem dX11_feed_14 : decode cX11_feed 14 = .ok (.ireturn, 1) := by decide +kernel
theorem dX11_feed_9 : decode cX11_feed 9 = .ok (.ifCond .ne 6, 3) := by decide +kernel
theorem bX11_feed (x : bo_X) (hx : bo_OK x cX11_feed RX11 2 1 25) (σ : bo_M) (p1 : Int32) : bo_D x 0 [(0, .ref (bo_a x 135)), (1, .int p1)] [] σ (mX11_feed σ p1) (bo_Rw x cX11_feed false) := by
  unfold mX11_feed
  refine bo_iload_n hx dX11_feed_0 rfl 1 rfl ?_
  refine bo_i2l hx dX11_feed_1 ?_
  refine bo_lconst (v := 0) hx dX11_feed_2 (by decide) ?_
  refine bo_ldc2 (v := 255) hx dX11_feed_3 wl_X11_125 ?_
  refine bo_goR (z := true) hx (fun rr hh => bo_runS (As := [.long (Int32.toInt64 p1), .long 0, .long 255]) (S := []) hx dX11_feed_6 lk_X11_118 ms_X11_in (kX11_in (bo_l x) (bo_g x) hx.inj σ (Int32.toInt64 p1) 0 255 rr hh) ⟨by decide, by decide⟩ rfl rfl (Nat.le_of_ble_eq_true rfl)) (fun v1 hv1 => ?_)
  refine bo_if_ne hx 15 dX11_feed_9 (by decide) ?_ ?_
  · refine bo_aload_n hx dX11_feed_15 rfl 0 rfl ?_
    refine gf_X11_128 hx dX11_feed_16 ?_
    refine bo_sipush (v := 240) hx dX11_feed_19 (by decide) ?_
    refine bo_icmp_ne hx 28 dX11_feed_22 (by decide) ?_ ?_
    · refine bo_aload_n hx dX11_feed_28 rfl 0 rfl ?_
      refine gf_X11_37 hx dX11_feed_29 ?_
      refine bo_aload_n hx dX11_feed_32 rfl 0 rfl ?_
      refine gf_X11_128 hx dX11_feed_33 ?_
      refine bo_iload_n hx dX11_feed_36 rfl 1 rfl ?_
      refine bo_iast hx bo_c_145 dX11_feed_37 (fun σ2 => ?_)
      refine bo_aload_n hx dX11_feed_38 rfl 0 rfl ?_
      refine bo_dup hx dX11_feed_39 rfl ?_
      refine gf_X11_128 hx dX11_feed_40 ?_
      refine bo_iconst (v := 1) hx dX11_feed_43 (by decide) ?_
      refine bo_iadd hx dX11_feed_44 ?_
      refine pf_X11_128 hx dX11_feed_45 (fun σ3 => ?_)
      refine bo_aload_n hx dX11_feed_48 rfl 0 rfl ?_
      refine gf_X11_128 hx dX11_feed_49 ?_
      exact bo_retw dX11_feed_52 (fun h => by cases h)
    · refine bo_ldc (v := (-1000000004)) hx dX11_feed_25 wc_X11_131 ?_
      exact bo_retw dX11_feed_27 (fun h => by cases h)
  · refine bo_ldc (v := (-1000000002)) hx dX11_feed_12 wc_X11_127 ?_
    exact bo_retw dX11_feed_14 (fun h => by cases h)
theorem kX11_feed (l : Launch) (g : bo_G) (hi : bo_inj g) (σ : bo_M) (p1 : Int32) : bo_CW l g yX11_feed cX11_feed 2 (some .int) 1 25 [.ref (g.2.2 135), .int p1] σ false (mX11_feed σ p1) :=
  bo_metW rfl (Or.inl ⟨rfl, rfl⟩) (by decide) rfl hi (Nat.le_of_ble_eq_true rfl) (fun x e1 e2 hx => by subst e1; subst e2; exact bX11_feed x hx σ p1)
