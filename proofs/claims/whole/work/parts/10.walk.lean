-- BellRope$Rows.put
theorem dX8_put_0 : decode cX8_put 0 = .ok (.aload_n 0, 1) := by decide +kernel
theorem dX8_put_1 : decode cX8_put 1 = .ok (.ifnull 17, 3) := by decide +kernel
theorem dX8_put_4 : decode cX8_put 4 = .ok (.iload_n 1, 1) := by decide +kernel
theorem dX8_put_18 : decode cX8_put 18 = .ok (.return_, 1) := by decide +kernel
theorem dX8_put_8 : decode cX8_put 8 = .ok (.iload_n 1, 1) := by decide +kernel
theorem dX8_put_9 : decode cX8_put 9 = .ok (.aload_n 0, 1) := by decide +kernel
theorem dX8_put_10 : decode cX8_put 10 = .ok (.arraylength, 1) := by decide +kernel
theorem dX8_put_14 : decode cX8_put 14 = .ok (.aload_n 0, 1) := by decide +kernel
theorem dX8_put_15 : decode cX8_put 15 = .ok (.iload_n 1, 1) := by decide +kernel
theorem dX8_put_16 : decode cX8_put 16 = .ok (.iload_n 2, 1) := by decide +kernel
theorem dX8_put_17 : decode cX8_put 17 = .ok (.iastore, 1) := by decide +kernel
theorem dX8_put_11 : decode cX8_put 11 = .ok (.if_icmp .ge 7, 3) := by decide +kernel
theorem dX8_put_5 : decode cX8_put 5 = .ok (.ifCond .lt 13, 3) := by decide +kernel
theorem bX8_put (x : bo_X) (hx : bo_OK x cX8_put RX8 3 0 0) (σ : bo_M) (n0 r0 : Nat) (p1 : Int32) (p2 : Int32) (hr0 : bo_isA r0 n0) : bo_D x 0 [(0, .ref (bo_a x r0)), (1, .int p1), (2, .int p2)] [] σ (mX8_put σ n0 r0 p1 p2) (bo_Rv x cX8_put) := by
  unfold mX8_put
  refine bo_aload_n hx dX8_put_0 rfl 0 rfl ?_
  refine bo_ifnull hx dX8_put_1 ?_
  refine bo_iload_n hx dX8_put_4 rfl 1 rfl ?_
  refine bo_if_lt hx 18 dX8_put_5 (by decide) ?_ ?_
  · exact bo_retv dX8_put_18
  · refine bo_iload_n hx dX8_put_8 rfl 1 rfl ?_
    refine bo_aload_n hx dX8_put_9 rfl 0 rfl ?_
    refine bo_alen (v := (Int32.ofNat n0)) hx hr0 rfl dX8_put_10 ?_
    refine bo_icmp_ge hx 18 dX8_put_11 (by decide) ?_ ?_
    · exact bo_retv dX8_put_18
    · refine bo_aload_n hx dX8_put_14 rfl 0 rfl ?_
      refine bo_iload_n hx dX8_put_15 rfl 1 rfl ?_
      refine bo_iload_n hx dX8_put_16 rfl 2 rfl ?_
      refine bo_iast hx hr0 dX8_put_17 (fun σ1 => ?_)
      exact bo_retv dX8_put_18
theorem kX8_put (l : Launch) (g : bo_G) (hi : bo_inj g) (σ : bo_M) (n0 r0 : Nat) (p1 : Int32) (p2 : Int32) (hr0 : bo_isA r0 n0) : bo_CV l g yX8_put cX8_put 3 none 0 0 [.ref (g.2.2 r0), .int p1, .int p2] σ (mX8_put σ n0 r0 p1 p2) :=
  bo_metV rfl  (by decide) rfl hi (Nat.le_of_ble_eq_true rfl) (fun x e1 e2 hx => by subst e1; subst e2; exact bX8_put x hx σ n0 r0 p1 p2 hr0)
-- BellRope$Reader.append
theorem dX7_append_0 : decode cX7_append 0 = .ok (.aload_n 0, 1) := by decide +kernel
theorem dX7_append_1 : decode cX7_append 1 = .ok (.getfield 19, 3) := by decide +kernel
theorem dX7_append_4 : decode cX7_append 4 = .ok (.sipush 240, 3) := by decide +kernel
theorem dX7_append_12 : decode cX7_append 12 = .ok (.aload_n 0, 1) := by decide +kernel
theorem dX7_append_13 : decode cX7_append 13 = .ok (.getfield 9, 3) := by decide +kernel
theorem dX7_append_16 : decode cX7_append 16 = .ok (.aload_n 0, 1) := by decide +kernel
theorem dX7_append_17 : decode cX7_append 17 = .ok (.getfield 19, 3) := by decide +kernel
theorem dX7_append_20 : decode cX7_append 20 = .ok (.iload_n 1, 1) := by decide +kernel
theorem dX7_append_21 : decode cX7_append 21 = .ok (.invokestatic 22, 3) := by decide +kernel
theorem dX7_append_24 : decode cX7_append 24 = .ok (.aload_n 0, 1) := by decide +kernel
theorem dX7_append_25 : decode cX7_append 25 = .ok (.dup, 1) := by decide +kernel
theorem dX7_append_26 : decode cX7_append 26 = .ok (.getfield 19, 3) := by decide +kernel
theorem dX7_append_29 : decode cX7_append 29 = .ok (.iconst 1, 1) := by decide +kernel
theorem dX7_append_30 : decode cX7_append 30 = .ok (.iadd, 1) := by decide +kernel
theorem dX7_append_31 : decode cX7_append 31 = .ok (.putfield 19, 3) := by decide +kernel
theorem dX7_append_34 : decode cX7_append 34 = .ok (.iconst 1, 1) := by decide +kernel
theorem dX7_append_35 : decode cX7_append 35 = .ok (.ireturn, 1) := by decide +kernel
theorem dX7_append_10 : decode cX7_append 10 = .ok (.iconst 0, 1) := by decide +kernel
theorem dX7_append_11 : decode cX7_append 11 = .ok (.ireturn, 1) := by decide +kernel
theorem dX7_append_7 : decode cX7_append 7 = .ok (.if_icmp .lt 5, 3) := by decide +kernel
theorem bX7_append (x : bo_X) (hx : bo_OK x cX7_append RX7 2 1 22) (σ : bo_M) (p1 : Int32) : bo_D x 0 [(0, .ref (bo_a x 1)), (1, .int p1)] [] σ (mX7_append σ p1) (bo_Rw x cX7_append true) := by
  unfold mX7_append
  refine bo_aload_n hx dX7_append_0 rfl 0 rfl ?_
  refine gf_X7_19 hx dX7_append_1 ?_
  refine bo_sipush (v := 240) hx dX7_append_4 (by decide) ?_
  refine bo_icmp_lt hx 12 dX7_append_7 (by decide) ?_ ?_
  · refine bo_aload_n hx dX7_append_12 rfl 0 rfl ?_
    refine gf_X7_9 hx dX7_append_13 ?_
    refine bo_aload_n hx dX7_append_16 rfl 0 rfl ?_
    refine gf_X7_19 hx dX7_append_17 ?_
    refine bo_iload_n hx dX7_append_20 rfl 1 rfl ?_
    refine bo_goV hx (fun rr hh => bo_runS (As := [.ref (bo_a x 2), .int (σ 1 4), .int p1]) (S := []) hx dX7_append_21 lk_X7_22 ms_X8_put (kX8_put (bo_l x) (bo_g x) hx.inj σ 240 2 (σ 1 4) p1 bo_c_2 rr hh) ⟨by decide, by decide⟩ rfl rfl (Nat.le_of_ble_eq_true rfl)) (fun σ1 => ?_)
    refine bo_aload_n hx dX7_append_24 rfl 0 rfl ?_
    refine bo_dup hx dX7_append_25 rfl ?_
    refine gf_X7_19 hx dX7_append_26 ?_
    refine bo_iconst (v := 1) hx dX7_append_29 (by decide) ?_
    refine bo_iadd hx dX7_append_30 ?_
    refine pf_X7_19 hx dX7_append_31 (fun σ2 => ?_)
    refine bo_iconst (v := 1) hx dX7_append_34 (by decide) ?_
    exact bo_retw dX7_append_35 (fun _ => bo_b_1)
  · refine bo_iconst (v := 0) hx dX7_append_10 (by decide) ?_
    exact bo_retw dX7_append_11 (fun _ => bo_b_0)
theorem kX7_append (l : Launch) (g : bo_G) (hi : bo_inj g) (σ : bo_M) (p1 : Int32) : bo_CW l g yX7_append cX7_append 2 (some .boolean) 1 22 [.ref (g.2.2 1), .int p1] σ true (mX7_append σ p1) :=
  bo_metW rfl (Or.inr ⟨rfl, rfl⟩) (by decide) rfl hi (Nat.le_of_ble_eq_true rfl) (fun x e1 e2 hx => by subst e1; subst e2; exact bX7_append x hx σ p1)
-- BellRope.feed
theorem dX10_feed_0 : decode cX10_feed 0 = .ok (.iload_n 1, 1) := by decide +kernel
theorem dX10_feed_11 : decode cX10_feed 11 = .ok (.ldc 78, 2) := by decide +kernel
theorem dX10_feed_13 : decode cX10_feed 13 = .ok (.ireturn, 1) := by decide +kernel
theorem dX10_feed_4 : decode cX10_feed 4 = .ok (.iload_n 1, 1) := by decide +kernel
theorem dX10_feed_5 : decode cX10_feed 5 = .ok (.sipush 255, 3) := by decide +kernel
theorem dX10_feed_14 : decode cX10_feed 14 = .ok (.aload_n 0, 1) := by decide +kernel
theorem dX10_feed_15 : decode cX10_feed 15 = .ok (.getfield 10, 3) := by decide +kernel
theorem dX10_feed_18 : decode cX10_feed 18 = .ok (.iload_n 1, 1) := by decide +kernel
theorem dX10_feed_19 : decode cX10_feed 19 = .ok (.invokevirtual 79, 3) := by decide +kernel
theorem dX10_feed_35 : decode cX10_feed 35 = .ok (.ldc 87, 2) := by decide +kernel
theorem dX10_feed_37 : decode cX10_feed 37 = .ok (.ireturn, 1) := by decide +kernel
theorem dX10_feed_25 : decode cX10_feed 25 = .ok (.aload_n 0, 1) := by decide +kernel
theorem dX10_feed_26 : decode cX10_feed 26 = .ok (.getfield 10, 3) := by decide +kernel
theorem dX10_feed_29 : decode cX10_feed 29 = .ok (.getfield 83, 3) := by decide +kernel
theorem dX10_feed_32 : decode cX10_feed 32 = .ok (.goto 5, 3) := by decide +kernel
theorem dX10_feed_22 : decode cX10_feed 22 = .ok (.ifCond .eq 13, 3) := by decide +kernel
theorem dX10_feed_8 : decode cX10_feed 8 = .ok (.if_icmp .le 6, 3) := by decide +kernel
theorem dX10_feed_1 : decode cX10_feed 1 = .ok (.ifCond .lt 10, 3) := by decide +kernel
theorem bX10_feed (x : bo_X) (hx : bo_OK x cX10_feed RX10 2 2 43) (σ : bo_M) (p1 : Int32) : bo_D x 0 [(0, .ref (bo_a x 0)), (1, .int p1)] [] σ (mX10_feed σ p1) (bo_Rw x cX10_feed false) := by
  unfold mX10_feed
  refine bo_iload_n hx dX10_feed_0 rfl 1 rfl ?_
  refine bo_if_lt hx 11 dX10_feed_1 (by decide) ?_ ?_
  · refine bo_ldc (v := (-1000000002)) hx dX10_feed_11 wc_X10_78 ?_
    exact bo_retw dX10_feed_13 (fun h => by cases h)
  · refine bo_iload_n hx dX10_feed_4 rfl 1 rfl ?_
    refine bo_sipush (v := 255) hx dX10_feed_5 (by decide) ?_
    refine bo_icmp_le hx 14 dX10_feed_8 (by decide) ?_ ?_
    · refine bo_aload_n hx dX10_feed_14 rfl 0 rfl ?_
      refine gf_X10_10 hx dX10_feed_15 ?_
      refine bo_iload_n hx dX10_feed_18 rfl 1 rfl ?_
      refine bo_goW (z := true) hx (fun rr hh => bo_runV (As := [.int p1]) (S := []) hx dX10_feed_19 lk_X10_79 mi_X7_append bo_o_1 rfl rfl (kX7_append (bo_l x) (bo_g x) hx.inj σ p1 rr hh) ⟨by decide, by decide⟩ rfl rfl (Nat.le_of_ble_eq_true rfl)) (fun a1 ha1 => ?_)
      refine bo_if_eq hx 35 dX10_feed_22 (by decide) ?_ ?_
      · refine bo_ldc (v := (-1000000004)) hx dX10_feed_35 wc_X10_87 ?_
        exact bo_retw dX10_feed_37 (fun h => by cases h)
      · refine bo_aload_n hx dX10_feed_25 rfl 0 rfl ?_
        refine gf_X10_10 hx dX10_feed_26 ?_
        refine gf_X10_83 hx dX10_feed_29 ?_
        refine bo_goto hx 37 dX10_feed_32 (by decide) ?_
        exact bo_retw dX10_feed_37 (fun h => by cases h)
    · refine bo_ldc (v := (-1000000002)) hx dX10_feed_11 wc_X10_78 ?_
      exact bo_retw dX10_feed_13 (fun h => by cases h)
theorem kX10_feed (l : Launch) (g : bo_G) (hi : bo_inj g) (σ : bo_M) (p1 : Int32) : bo_CW l g yX10_feed cX10_feed 2 (some .int) 2 43 [.ref (g.2.2 0), .int p1] σ false (mX10_feed σ p1) :=
  bo_metW rfl (Or.inl ⟨rfl, rfl⟩) (by decide) rfl hi (Nat.le_of_ble_eq_true rfl) (fun x e1 e2 hx => by subst e1; subst e2; exact bX10_feed x hx σ p1)
-- BellRope$Rows.zero
theorem dX8_zero_0 : decode cX8_zero 0 = .ok (.aload_n 0, 1) := by decide +kernel
theorem dX8_zero_1 : decode cX8_zero 1 = .ok (.ifnonnull 4, 3) := by decide +kernel
theorem dX8_zero_5 : decode cX8_zero 5 = .ok (.iconst 0, 1) := by decide +kernel
theorem dX8_zero_6 : decode cX8_zero 6 = .ok (.istore_n 1, 1) := by decide +kernel
theorem dX8_zero_7 : decode cX8_zero 7 = .ok (.iload_n 1, 1) := by decide +kernel
theorem dX8_zero_8 : decode cX8_zero 8 = .ok (.aload_n 0, 1) := by decide +kernel
theorem dX8_zero_9 : decode cX8_zero 9 = .ok (.arraylength, 1) := by decide +kernel
theorem dX8_zero_13 : decode cX8_zero 13 = .ok (.aload_n 0, 1) := by decide +kernel
theorem dX8_zero_14 : decode cX8_zero 14 = .ok (.iload_n 1, 1) := by decide +kernel
theorem dX8_zero_15 : decode cX8_zero 15 = .ok (.iconst 0, 1) := by decide +kernel
theorem dX8_zero_16 : decode cX8_zero 16 = .ok (.iastore, 1) := by decide +kernel
theorem dX8_zero_17 : decode cX8_zero 17 = .ok (.iinc 1 1, 3) := by decide +kernel
theorem dX8_zero_20 : decode cX8_zero 20 = .ok (.goto (-13), 3) := by decide +kernel
theorem dX8_zero_10 : decode cX8_zero 10 = .ok (.if_icmp .ge 13, 3) := by decide +kernel
theorem dX8_zero_23 : decode cX8_zero 23 = .ok (.return_, 1) := by decide +kernel
theorem lX8_zero_L7 (x : bo_X) (hx : bo_OK x cX8_zero RX8 2 0 0) (n0 : Nat) (f0 : Nat) (hf0 : bo_isA f0 n0) : ∀ (n : Nat) (w1 : Int32) (σ : bo_M), bo_D x 7 [(0, .ref (bo_a x f0)), (1, .int w1)] [] σ (mX8_zero_L7 n0 f0 n w1 σ) (fun a => bo_N x 23 [] [] a) := by
  intro n
  induction n with
  | zero => intro w1 σ; exact bo_none
  | succ n ih =>
    intro w1 σ
    rw [mX8_zero_L7]
    refine bo_iload_n hx dX8_zero_7 rfl 1 rfl ?_
    refine bo_aload_n hx dX8_zero_8 rfl 0 rfl ?_
    refine bo_alen (v := (Int32.ofNat n0)) hx hf0 rfl dX8_zero_9 ?_
    refine bo_icmp_ge hx 23 dX8_zero_10 (by decide) ?_ ?_
    · refine bo_sub (L' := []) [] rfl ?_
      exact bo_arr (fun h => h)
    · refine bo_aload_n hx dX8_zero_13 rfl 0 rfl ?_
      refine bo_iload_n hx dX8_zero_14 rfl 1 rfl ?_
      refine bo_iconst (v := 0) hx dX8_zero_15 (by decide) ?_
      refine bo_iast hx hf0 dX8_zero_16 (fun σ1 => ?_)
      refine bo_iinc (L' := [(1, .int (w1 + 1)), (0, .ref (bo_a x f0))]) (w := (w1 + 1)) hx dX8_zero_17 1 rfl rfl (by decide) rfl ?_
      refine bo_goto hx 7 dX8_zero_20 (by decide) ?_
      refine bo_sub (L' := [(0, .ref (bo_a x f0)), (1, .int (w1 + 1))]) [1, 0] rfl ?_
      exact ih (w1 + 1) σ1
theorem bX8_zero (x : bo_X) (hx : bo_OK x cX8_zero RX8 2 0 0) (σ : bo_M) (n0 r0 : Nat) (hr0 : bo_isA r0 n0) : bo_D x 0 [(0, .ref (bo_a x r0))] [] σ (mX8_zero σ n0 r0) (bo_Rv x cX8_zero) := by
  unfold mX8_zero
  refine bo_aload_n hx dX8_zero_0 rfl 0 rfl ?_
  refine bo_ifnonnull hx 5 dX8_zero_1 (by decide) ?_
  refine bo_iconst (v := 0) hx dX8_zero_5 (by decide) ?_
  refine bo_istore_n (L' := [(1, .int 0), (0, .ref (bo_a x r0))]) hx dX8_zero_6 rfl (by decide) rfl ?_
  refine bo_sub (L' := [(0, .ref (bo_a x r0)), (1, .int 0)]) [1, 0] rfl ?_
  refine bo_seq 23 (fun a => []) (fun a => []) (fun a => a) (lX8_zero_L7 x hx n0 r0 hr0 bo_fuel 0 σ) (fun a2 => ?_)
  exact bo_retv dX8_zero_23
theorem kX8_zero (l : Launch) (g : bo_G) (hi : bo_inj g) (σ : bo_M) (n0 r0 : Nat) (hr0 : bo_isA r0 n0) : bo_CV l g yX8_zero cX8_zero 2 none 0 0 [.ref (g.2.2 r0)] σ (mX8_zero σ n0 r0) :=
  bo_metV rfl  (by decide) rfl hi (Nat.le_of_ble_eq_true rfl) (fun x e1 e2 hx => by subst e1; subst e2; exact bX8_zero x hx σ n0 r0 hr0)
-- BellRope$Inn.empty
theorem dX4_empty_0 : decode cX4_empty 0 = .ok (.aload_n 0, 1) := by decide +kernel
theorem dX4_empty_1 : decode cX4_empty 1 = .ok (.iconst 0, 1) := by decide +kernel
theorem dX4_empty_2 : decode cX4_empty 2 = .ok (.putfield 33, 3) := by decide +kernel
theorem dX4_empty_5 : decode cX4_empty 5 = .ok (.aload_n 0, 1) := by decide +kernel
theorem dX4_empty_6 : decode cX4_empty 6 = .ok (.iconst 0, 1) := by decide +kernel
theorem dX4_empty_7 : decode cX4_empty 7 = .ok (.putfield 37, 3) := by decide +kernel
theorem dX4_empty_10 : decode cX4_empty 10 = .ok (.aload_n 0, 1) := by decide +kernel
theorem dX4_empty_11 : decode cX4_empty 11 = .ok (.iconst 0, 1) := by decide +kernel
theorem dX4_empty_12 : decode cX4_empty 12 = .ok (.putfield 41, 3) := by decide +kernel
theorem dX4_empty_15 : decode cX4_empty 15 = .ok (.aload_n 0, 1) := by decide +kernel
theorem dX4_empty_16 : decode cX4_empty 16 = .ok (.iconst 0, 1) := by decide +kernel
theorem dX4_empty_17 : decode cX4_empty 17 = .ok (.putfield 44, 3) := by decide +kernel
theorem dX4_empty_20 : decode cX4_empty 20 = .ok (.aload_n 0, 1) := by decide +kernel
theorem dX4_empty_21 : decode cX4_empty 21 = .ok (.iconst 0, 1) := by decide +kernel
theorem dX4_empty_22 : decode cX4_empty 22 = .ok (.putfield 47, 3) := by decide +kernel
theorem dX4_empty_25 : decode cX4_empty 25 = .ok (.aload_n 0, 1) := by decide +kernel
theorem dX4_empty_26 : decode cX4_empty 26 = .ok (.iconst 0, 1) := by decide +kernel
theorem dX4_empty_27 : decode cX4_empty 27 = .ok (.putfield 50, 3) := by decide +kernel
theorem dX4_empty_30 : decode cX4_empty 30 = .ok (.aload_n 0, 1) := by decide +kernel
theorem dX4_empty_31 : decode cX4_empty 31 = .ok (.iconst 0, 1) := by decide +kernel
theorem dX4_empty_32 : decode cX4_empty 32 = .ok (.putfield 53, 3) := by decide +kernel
theorem dX4_empty_35 : decode cX4_empty 35 = .ok (.aload_n 0, 1) := by decide +kernel
theorem dX4_empty_36 : decode cX4_empty 36 = .ok (.iconst 0, 1) := by decide +kernel
theorem dX4_empty_37 : decode cX4_empty 37 = .ok (.putfield 56, 3) := by decide +kernel
theorem dX4_empty_40 : decode cX4_empty 40 = .ok (.aload_n 0, 1) := by decide +kernel
theorem dX4_empty_41 : decode cX4_empty 41 = .ok (.getfield 30, 3) := by decide +kernel
theorem dX4_empty_44 : decode cX4_empty 44 = .ok (.invokestatic 59, 3) := by decide +kernel
theorem dX4_empty_47 : decode cX4_empty 47 = .ok (.return_, 1) := by decide +kernel
theorem bX4_empty (x : bo_X) (hx : bo_OK x cX4_empty RX4 1 1 21) (σ : bo_M) (o : Nat) (ho : bo_isInn o) : bo_D x 0 [(0, .ref (bo_a x o))] [] σ (mX4_empty σ o) (bo_Rv x cX4_empty) := by
  unfold mX4_empty
  refine bo_aload_n hx dX4_empty_0 rfl 0 rfl ?_
  refine bo_iconst (v := 0) hx dX4_empty_1 (by decide) ?_
  refine pf_X4_33 hx ho bo_b_0 dX4_empty_2 (fun σ1 => ?_)
  refine bo_aload_n hx dX4_empty_5 rfl 0 rfl ?_
  refine bo_iconst (v := 0) hx dX4_empty_6 (by decide) ?_
  refine pf_X4_37 hx ho dX4_empty_7 (fun σ2 => ?_)
  refine bo_aload_n hx dX4_empty_10 rfl 0 rfl ?_
  refine bo_iconst (v := 0) hx dX4_empty_11 (by decide) ?_
  refine pf_X4_41 hx ho dX4_empty_12 (fun σ3 => ?_)
  refine bo_aload_n hx dX4_empty_15 rfl 0 rfl ?_
  refine bo_iconst (v := 0) hx dX4_empty_16 (by decide) ?_
  refine pf_X4_44 hx ho dX4_empty_17 (fun σ4 => ?_)
  refine bo_aload_n hx dX4_empty_20 rfl 0 rfl ?_
  refine bo_iconst (v := 0) hx dX4_empty_21 (by decide) ?_
  refine pf_X4_47 hx ho dX4_empty_22 (fun σ5 => ?_)
  refine bo_aload_n hx dX4_empty_25 rfl 0 rfl ?_
  refine bo_iconst (v := 0) hx dX4_empty_26 (by decide) ?_
  refine pf_X4_50 hx ho dX4_empty_27 (fun σ6 => ?_)
  refine bo_aload_n hx dX4_empty_30 rfl 0 rfl ?_
  refine bo_iconst (v := 0) hx dX4_empty_31 (by decide) ?_
  refine pf_X4_53 hx ho dX4_empty_32 (fun σ7 => ?_)
  refine bo_aload_n hx dX4_empty_35 rfl 0 rfl ?_
  refine bo_iconst (v := 0) hx dX4_empty_36 (by decide) ?_
  refine pf_X4_56 hx ho dX4_empty_37 (fun σ8 => ?_)
  refine bo_aload_n hx dX4_empty_40 rfl 0 rfl ?_
  refine gf_X4_30 hx ho dX4_empty_41 ?_
  refine bo_goV hx (fun rr hh => bo_runS (As := [.ref (bo_a x (o + 7))]) (S := []) hx dX4_empty_44 lk_X4_59 ms_X8_zero (kX8_zero (bo_l x) (bo_g x) hx.inj σ8 96 (o + 7) ho.a7 rr hh) ⟨by decide, by decide⟩ rfl rfl (Nat.le_of_ble_eq_true rfl)) (fun σ9 => ?_)
  exact bo_retv dX4_empty_47
theorem kX4_empty (l : Launch) (g : bo_G) (hi : bo_inj g) (σ : bo_M) (o : Nat) (ho : bo_isInn o) : bo_CV l g yX4_empty cX4_empty 1 none 1 21 [.ref (g.2.2 o)] σ (mX4_empty σ o) :=
  bo_metV rfl  (by decide) rfl hi (Nat.le_of_ble_eq_true rfl) (fun x e1 e2 hx => by subst e1; subst e2; exact bX4_empty x hx σ o ho)
-- BellRope$Rows.at
theorem dX8_at_0 : decode cX8_at 0 = .ok (.aload_n 0, 1) := by decide +kernel
theorem dX8_at_1 : decode cX8_at 1 = .ok (.ifnull 19, 3) := by decide +kernel
theorem dX8_at_4 : decode cX8_at 4 = .ok (.iload_n 1, 1) := by decide +kernel
theorem dX8_at_20 : decode cX8_at 20 = .ok (.iconst 0, 1) := by decide +kernel
theorem dX8_at_21 : decode cX8_at 21 = .ok (.ireturn, 1) := by decide +kernel
theorem dX8_at_8 : decode cX8_at 8 = .ok (.iload_n 1, 1) := by decide +kernel
theorem dX8_at_9 : decode cX8_at 9 = .ok (.aload_n 0, 1) := by decide +kernel
theorem dX8_at_10 : decode cX8_at 10 = .ok (.arraylength, 1) := by decide +kernel
theorem dX8_at_14 : decode cX8_at 14 = .ok (.aload_n 0, 1) := by decide +kernel
theorem dX8_at_15 : decode cX8_at 15 = .ok (.iload_n 1, 1) := by decide +kernel
theorem dX8_at_16 : decode cX8_at 16 = .ok (.iaload, 1) := by decide +kernel
theorem dX8_at_17 : decode cX8_at 17 = .ok (.goto 4, 3) := by decide +kernel
theorem dX8_at_11 : decode cX8_at 11 = .ok (.if_icmp .ge 9, 3) := by decide +kernel
theorem dX8_at_5 : decode cX8_at 5 = .ok (.ifCond .lt 15, 3) := by decide +kernel
theorem bX8_at (x : bo_X) (hx : bo_OK x cX8_at RX8 2 0 0) (σ : bo_M) (n0 r0 : Nat) (p1 : Int32) (hr0 : bo_isA r0 n0) : bo_D x 0 [(0, .ref (bo_a x r0)), (1, .int p1)] [] σ (mX8_at σ n0 r0 p1) (bo_Ri x cX8_at σ false) := by
  unfold mX8_at
  refine bo_aload_n hx dX8_at_0 rfl 0 rfl ?_
  refine bo_ifnull hx dX8_at_1 ?_
  refine bo_iload_n hx dX8_at_4 rfl 1 rfl ?_
  refine bo_if_lt hx 20 dX8_at_5 (by decide) ?_ ?_
  · refine bo_iconst (v := 0) hx dX8_at_20 (by decide) ?_
    exact bo_ret dX8_at_21 (fun h => by cases h)
  · refine bo_iload_n hx dX8_at_8 rfl 1 rfl ?_
    refine bo_aload_n hx dX8_at_9 rfl 0 rfl ?_
    refine bo_alen (v := (Int32.ofNat n0)) hx hr0 rfl dX8_at_10 ?_
    refine bo_icmp_ge hx 20 dX8_at_11 (by decide) ?_ ?_
    · refine bo_iconst (v := 0) hx dX8_at_20 (by decide) ?_
      exact bo_ret dX8_at_21 (fun h => by cases h)
    · refine bo_aload_n hx dX8_at_14 rfl 0 rfl ?_
      refine bo_iload_n hx dX8_at_15 rfl 1 rfl ?_
      refine bo_iald hx hr0 dX8_at_16 (fun v1 => ?_)
      refine bo_goto hx 21 dX8_at_17 (by decide) ?_
      exact bo_ret dX8_at_21 (fun h => by cases h)
theorem kX8_at (l : Launch) (g : bo_G) (hi : bo_inj g) (σ : bo_M) (n0 r0 : Nat) (p1 : Int32) (hr0 : bo_isA r0 n0) : bo_CR l g yX8_at cX8_at 2 (some .int) 0 0 [.ref (g.2.2 r0), .int p1] σ false (mX8_at σ n0 r0 p1) :=
  bo_metR rfl (Or.inl ⟨rfl, rfl⟩) (by decide) rfl hi (Nat.le_of_ble_eq_true rfl) (fun x e1 e2 hx => by subst e1; subst e2; exact bX8_at x hx σ n0 r0 p1 hr0)
-- BellRope$Reader.skipBlanks
theorem dX7_skipBlanks_0 : decode cX7_skipBlanks 0 = .ok (.aload_n 0, 1) := by decide +kernel
theorem dX7_skipBlanks_1 : decode cX7_skipBlanks 1 = .ok (.getfield 28, 3) := by decide +kernel
theorem dX7_skipBlanks_4 : decode cX7_skipBlanks 4 = .ok (.aload_n 0, 1) := by decide +kernel
theorem dX7_skipBlanks_5 : decode cX7_skipBlanks 5 = .ok (.getfield 19, 3) := by decide +kernel
theorem dX7_skipBlanks_11 : decode cX7_skipBlanks 11 = .ok (.aload_n 0, 1) := by decide +kernel
theorem dX7_skipBlanks_12 : decode cX7_skipBlanks 12 = .ok (.getfield 9, 3) := by decide +kernel
theorem dX7_skipBlanks_15 : decode cX7_skipBlanks 15 = .ok (.aload_n 0, 1) := by decide +kernel
theorem dX7_skipBlanks_16 : decode cX7_skipBlanks 16 = .ok (.getfield 28, 3) := by decide +kernel
theorem dX7_skipBlanks_19 : decode cX7_skipBlanks 19 = .ok (.invokestatic 46, 3) := by decide +kernel
theorem dX7_skipBlanks_22 : decode cX7_skipBlanks 22 = .ok (.bipush 32, 2) := by decide +kernel
theorem dX7_skipBlanks_27 : decode cX7_skipBlanks 27 = .ok (.aload_n 0, 1) := by decide +kernel
theorem dX7_skipBlanks_28 : decode cX7_skipBlanks 28 = .ok (.dup, 1) := by decide +kernel
theorem dX7_skipBlanks_29 : decode cX7_skipBlanks 29 = .ok (.getfield 28, 3) := by decide +kernel
theorem dX7_skipBlanks_32 : decode cX7_skipBlanks 32 = .ok (.iconst 1, 1) := by decide +kernel
theorem dX7_skipBlanks_33 : decode cX7_skipBlanks 33 = .ok (.iadd, 1) := by decide +kernel
theorem dX7_skipBlanks_34 : decode cX7_skipBlanks 34 = .ok (.putfield 28, 3) := by decide +kernel
theorem dX7_skipBlanks_37 : decode cX7_skipBlanks 37 = .ok (.goto (-37), 3) := by decide +kernel
theorem dX7_skipBlanks_24 : decode cX7_skipBlanks 24 = .ok (.if_icmp .ne 16, 3) := by decide +kernel
theorem dX7_skipBlanks_8 : decode cX7_skipBlanks 8 = .ok (.if_icmp .ge 32, 3) := by decide +kernel
theorem dX7_skipBlanks_40 : decode cX7_skipBlanks 40 = .ok (.return_, 1) := by decide +kernel
theorem lX7_skipBlanks_L0 (x : bo_X) (hx : bo_OK x cX7_skipBlanks RX7 1 1 21)  : ∀ (n : Nat) (σ : bo_M), bo_D x 0 [(0, .ref (bo_a x 1))] [] σ (mX7_skipBlanks_L0 n σ) (fun a => bo_N x 40 [] [] a) := by
  intro n
  induction n with
  | zero => intro σ; exact bo_none
  | succ n ih =>
    intro σ
    rw [mX7_skipBlanks_L0]
    refine bo_aload_n hx dX7_skipBlanks_0 rfl 0 rfl ?_
    refine gf_X7_28 hx dX7_skipBlanks_1 ?_
    refine bo_aload_n hx dX7_skipBlanks_4 rfl 0 rfl ?_
    refine gf_X7_19 hx dX7_skipBlanks_5 ?_
    refine bo_icmp_ge hx 40 dX7_skipBlanks_8 (by decide) ?_ ?_
    · refine bo_sub (L' := []) [] rfl ?_
      exact bo_arr (fun h => h)
    · refine bo_aload_n hx dX7_skipBlanks_11 rfl 0 rfl ?_
      refine gf_X7_9 hx dX7_skipBlanks_12 ?_
      refine bo_aload_n hx dX7_skipBlanks_15 rfl 0 rfl ?_
      refine gf_X7_28 hx dX7_skipBlanks_16 ?_
      refine bo_goR (z := false) hx (fun rr hh => bo_runS (As := [.ref (bo_a x 2), .int (σ 1 1)]) (S := []) hx dX7_skipBlanks_19 lk_X7_46 ms_X8_at (kX8_at (bo_l x) (bo_g x) hx.inj σ 240 2 (σ 1 1) bo_c_2 rr hh) ⟨by decide, by decide⟩ rfl rfl (Nat.le_of_ble_eq_true rfl)) (fun v1 hv1 => ?_)
      refine bo_bipush (v := 32) hx dX7_skipBlanks_22 (by decide) ?_
      refine bo_icmp_ne hx 40 dX7_skipBlanks_24 (by decide) ?_ ?_
      · refine bo_sub (L' := []) [] rfl ?_
        exact bo_arr (fun h => h)
      · refine bo_aload_n hx dX7_skipBlanks_27 rfl 0 rfl ?_
        refine bo_dup hx dX7_skipBlanks_28 rfl ?_
        refine gf_X7_28 hx dX7_skipBlanks_29 ?_
        refine bo_iconst (v := 1) hx dX7_skipBlanks_32 (by decide) ?_
        refine bo_iadd hx dX7_skipBlanks_33 ?_
        refine pf_X7_28 hx dX7_skipBlanks_34 (fun σ2 => ?_)
        refine bo_goto hx 0 dX7_skipBlanks_37 (by decide) ?_
        exact ih σ2
theorem bX7_skipBlanks (x : bo_X) (hx : bo_OK x cX7_skipBlanks RX7 1 1 21) (σ : bo_M) : bo_D x 0 [(0, .ref (bo_a x 1))] [] σ (mX7_skipBlanks σ) (bo_Rv x cX7_skipBlanks) := by
  unfold mX7_skipBlanks
  refine bo_seq 40 (fun a => []) (fun a => []) (fun a => a) (lX7_skipBlanks_L0 x hx bo_fuel σ) (fun a3 => ?_)
  exact bo_retv dX7_skipBlanks_40
theorem kX7_skipBlanks (l : Launch) (g : bo_G) (hi : bo_inj g) (σ : bo_M) : bo_CV l g yX7_skipBlanks cX7_skipBlanks 1 none 1 21 [.ref (g.2.2 1)] σ (mX7_skipBlanks σ) :=
  bo_metV rfl  (by decide) rfl hi (Nat.le_of_ble_eq_true rfl) (fun x e1 e2 hx => by subst e1; subst e2; exact bX7_skipBlanks x hx σ)
-- BellRope$Reader.wrong
theorem dX7_wrong_0 : decode cX7_wrong 0 = .ok (.aload_n 0, 1) := by decide +kernel
theorem dX7_wrong_1 : decode cX7_wrong 1 = .ok (.getfield 31, 3) := by decide +kernel
theorem dX7_wrong_17 : decode cX7_wrong 17 = .ok (.return_, 1) := by decide +kernel
theorem dX7_wrong_7 : decode cX7_wrong 7 = .ok (.aload_n 0, 1) := by decide +kernel
theorem dX7_wrong_8 : decode cX7_wrong 8 = .ok (.iload_n 1, 1) := by decide +kernel
theorem dX7_wrong_9 : decode cX7_wrong 9 = .ok (.putfield 31, 3) := by decide +kernel
theorem dX7_wrong_12 : decode cX7_wrong 12 = .ok (.aload_n 0, 1) := by decide +kernel
theorem dX7_wrong_13 : decode cX7_wrong 13 = .ok (.iload_n 2, 1) := by decide +kernel
theorem dX7_wrong_14 : decode cX7_wrong 14 = .ok (.putfield 15, 3) := by decide +kernel
theorem dX7_wrong_4 : decode cX7_wrong 4 = .ok (.ifCond .ne 13, 3) := by decide +kernel
theorem bX7_wrong (x : bo_X) (hx : bo_OK x cX7_wrong RX7 3 0 0) (σ : bo_M) (p1 : Int32) (p2 : Int32) : bo_D x 0 [(0, .ref (bo_a x 1)), (1, .int p1), (2, .int p2)] [] σ (mX7_wrong σ p1 p2) (bo_Rv x cX7_wrong) := by
  unfold mX7_wrong
  refine bo_aload_n hx dX7_wrong_0 rfl 0 rfl ?_
  refine gf_X7_31 hx dX7_wrong_1 ?_
  refine bo_if_ne hx 17 dX7_wrong_4 (by decide) ?_ ?_
  · exact bo_retv dX7_wrong_17
  · refine bo_aload_n hx dX7_wrong_7 rfl 0 rfl ?_
    refine bo_iload_n hx dX7_wrong_8 rfl 1 rfl ?_
    refine pf_X7_31 hx dX7_wrong_9 (fun σ1 => ?_)
    refine bo_aload_n hx dX7_wrong_12 rfl 0 rfl ?_
    refine bo_iload_n hx dX7_wrong_13 rfl 2 rfl ?_
    refine pf_X7_15 hx dX7_wrong_14 (fun σ2 => ?_)
    exact bo_retv dX7_wrong_17
theorem kX7_wrong (l : Launch) (g : bo_G) (hi : bo_inj g) (σ : bo_M) (p1 : Int32) (p2 : Int32) : bo_CV l g yX7_wrong cX7_wrong 3 none 0 0 [.ref (g.2.2 1), .int p1, .int p2] σ (mX7_wrong σ p1 p2) :=
  bo_metV rfl  (by decide) rfl hi (Nat.le_of_ble_eq_true rfl) (fun x e1 e2 hx => by subst e1; subst e2; exact bX7_wrong x hx σ p1 p2)
-- BellRope$Reader.startClause
theorem dX7_startClause_0 : decode cX7_startClause 0 = .ok (.iload_n 1, 1) := by decide +kernel
theorem dX7_startClause_4 : decode cX7_startClause 4 = .ok (.aload_n 0, 1) := by decide +kernel
theorem dX7_startClause_5 : decode cX7_startClause 5 = .ok (.iconst 3, 1) := by decide +kernel
theorem dX7_startClause_6 : decode cX7_startClause 6 = .ok (.aload_n 0, 1) := by decide +kernel
theorem dX7_startClause_7 : decode cX7_startClause 7 = .ok (.getfield 28, 3) := by decide +kernel
theorem dX7_startClause_10 : decode cX7_startClause 10 = .ok (.invokevirtual 53, 3) := by decide +kernel
theorem dX7_startClause_1 : decode cX7_startClause 1 = .ok (.ifCond .eq 12, 3) := by decide +kernel
theorem dX7_startClause_13 : decode cX7_startClause 13 = .ok (.aload_n 0, 1) := by decide +kernel
theorem dX7_startClause_14 : decode cX7_startClause 14 = .ok (.dup, 1) := by decide +kernel
theorem dX7_startClause_15 : decode cX7_startClause 15 = .ok (.getfield 28, 3) := by decide +kernel
theorem dX7_startClause_18 : decode cX7_startClause 18 = .ok (.iconst 1, 1) := by decide +kernel
theorem dX7_startClause_19 : decode cX7_startClause 19 = .ok (.iadd, 1) := by decide +kernel
theorem dX7_startClause_20 : decode cX7_startClause 20 = .ok (.putfield 28, 3) := by decide +kernel
theorem dX7_startClause_23 : decode cX7_startClause 23 = .ok (.return_, 1) := by decide +kernel
theorem bX7_startClause (x : bo_X) (hx : bo_OK x cX7_startClause RX7 2 1 22) (σ : bo_M) (p1 : Int32) : bo_D x 0 [(0, .ref (bo_a x 1)), (1, .int p1)] [] σ (mX7_startClause σ p1) (bo_Rv x cX7_startClause) := by
  unfold mX7_startClause
  refine bo_iload_n hx dX7_startClause_0 rfl 1 rfl ?_
  refine bo_seq 13 (fun a => [(0, .ref (bo_a x 1))]) (fun a => []) (fun a => a) ?_ (fun a1 => ?_)
  · refine bo_if_eq hx 13 dX7_startClause_1 (by decide) ?_ ?_
    · refine bo_sub (L' := [(0, .ref (bo_a x 1))]) [0] rfl ?_
      exact bo_arr (fun h => h)
    · refine bo_aload_n hx dX7_startClause_4 rfl 0 rfl ?_
      refine bo_iconst (v := 3) hx dX7_startClause_5 (by decide) ?_
      refine bo_aload_n hx dX7_startClause_6 rfl 0 rfl ?_
      refine gf_X7_28 hx dX7_startClause_7 ?_
      refine bo_goV hx (fun rr hh => bo_runV (As := [.int 3, .int (σ 1 1)]) (S := []) hx dX7_startClause_10 lk_X7_53 mi_X7_wrong bo_o_1 rfl rfl (kX7_wrong (bo_l x) (bo_g x) hx.inj σ 3 (σ 1 1) rr hh) ⟨by decide, by decide⟩ rfl rfl (Nat.le_of_ble_eq_true rfl)) (fun σ2 => ?_)
      refine bo_sub (L' := [(0, .ref (bo_a x 1))]) [0] rfl ?_
      exact bo_arr (fun h => h)
  · refine bo_aload_n hx dX7_startClause_13 rfl 0 rfl ?_
    refine bo_dup hx dX7_startClause_14 rfl ?_
    refine gf_X7_28 hx dX7_startClause_15 ?_
    refine bo_iconst (v := 1) hx dX7_startClause_18 (by decide) ?_
    refine bo_iadd hx dX7_startClause_19 ?_
    refine pf_X7_28 hx dX7_startClause_20 (fun σ3 => ?_)
    exact bo_retv dX7_startClause_23
theorem kX7_startClause (l : Launch) (g : bo_G) (hi : bo_inj g) (σ : bo_M) (p1 : Int32) : bo_CV l g yX7_startClause cX7_startClause 2 none 1 22 [.ref (g.2.2 1), .int p1] σ (mX7_startClause σ p1) :=
  bo_metV rfl  (by decide) rfl hi (Nat.le_of_ble_eq_true rfl) (fun x e1 e2 hx => by subst e1; subst e2; exact bX7_startClause x hx σ p1)
-- BellRope$Reader.isFigure
theorem dX7_isFigure_0 : decode cX7_isFigure 0 = .ok (.iload_n 0, 1) := by decide +kernel
theorem dX7_isFigure_1 : decode cX7_isFigure 1 = .ok (.bipush 48, 2) := by decide +kernel
theorem dX7_isFigure_16 : decode cX7_isFigure 16 = .ok (.iconst 0, 1) := by decide +kernel
theorem dX7_isFigure_17 : decode cX7_isFigure 17 = .ok (.ireturn, 1) := by decide +kernel
theorem dX7_isFigure_6 : decode cX7_isFigure 6 = .ok (.iload_n 0, 1) := by decide +kernel
theorem dX7_isFigure_7 : decode cX7_isFigure 7 = .ok (.bipush 57, 2) := by decide +kernel
theorem dX7_isFigure_12 : decode cX7_isFigure 12 = .ok (.iconst 1, 1) := by decide +kernel
theorem dX7_isFigure_13 : decode cX7_isFigure 13 = .ok (.goto 4, 3) := by decide +kernel
theorem dX7_isFigure_9 : decode cX7_isFigure 9 = .ok (.if_icmp .gt 7, 3) := by decide +kernel
theorem dX7_isFigure_3 : decode cX7_isFigure 3 = .ok (.if_icmp .lt 13, 3) := by decide +kernel
theorem bX7_isFigure (x : bo_X) (hx : bo_OK x cX7_isFigure RX7 1 0 0) (σ : bo_M) (p0 : Int32) : bo_D x 0 [(0, .int p0)] [] σ (mX7_isFigure σ p0) (bo_Ri x cX7_isFigure σ true) := by
  unfold mX7_isFigure
  refine bo_iload_n hx dX7_isFigure_0 rfl 0 rfl ?_
  refine bo_bipush (v := 48) hx dX7_isFigure_1 (by decide) ?_
  refine bo_icmp_lt hx 16 dX7_isFigure_3 (by decide) ?_ ?_
  · refine bo_iconst (v := 0) hx dX7_isFigure_16 (by decide) ?_
    exact bo_ret dX7_isFigure_17 (fun _ => bo_b_0)
  · refine bo_iload_n hx dX7_isFigure_6 rfl 0 rfl ?_
    refine bo_bipush (v := 57) hx dX7_isFigure_7 (by decide) ?_
    refine bo_icmp_gt hx 16 dX7_isFigure_9 (by decide) ?_ ?_
    · refine bo_iconst (v := 0) hx dX7_isFigure_16 (by decide) ?_
      exact bo_ret dX7_isFigure_17 (fun _ => bo_b_0)
    · refine bo_iconst (v := 1) hx dX7_isFigure_12 (by decide) ?_
      refine bo_goto hx 17 dX7_isFigure_13 (by decide) ?_
      exact bo_ret dX7_isFigure_17 (fun _ => bo_b_1)
theorem kX7_isFigure (l : Launch) (g : bo_G) (hi : bo_inj g) (σ : bo_M) (p0 : Int32) : bo_CR l g yX7_isFigure cX7_isFigure 1 (some .boolean) 0 0 [.int p0] σ true (mX7_isFigure σ p0) :=
  bo_metR rfl (Or.inr ⟨rfl, rfl⟩) (by decide) rfl hi (Nat.le_of_ble_eq_true rfl) (fun x e1 e2 hx => by subst e1; subst e2; exact bX7_isFigure x hx σ p0)
-- BellRope$Reader.readNumber
theorem dX7_readNumber_0 : decode cX7_readNumber 0 = .ok (.aload_n 0, 1) := by decide +kernel
theorem dX7_readNumber_1 : decode cX7_readNumber 1 = .ok (.invokevirtual 39, 3) := by decide +kernel
theorem dX7_readNumber_4 : decode cX7_readNumber 4 = .ok (.aload_n 0, 1) := by decide +kernel
theorem dX7_readNumber_5 : decode cX7_readNumber 5 = .ok (.aload_n 0, 1) := by decide +kernel
theorem dX7_readNumber_6 : decode cX7_readNumber 6 = .ok (.getfield 28, 3) := by decide +kernel
theorem dX7_readNumber_9 : decode cX7_readNumber 9 = .ok (.putfield 131, 3) := by decide +kernel
theorem dX7_readNumber_12 : decode cX7_readNumber 12 = .ok (.iconst 0, 1) := by decide +kernel
theorem dX7_readNumber_13 : decode cX7_readNumber 13 = .ok (.istore_n 3, 1) := by decide +kernel
theorem dX7_readNumber_14 : decode cX7_readNumber 14 = .ok (.iconst 0, 1) := by decide +kernel
theorem dX7_readNumber_15 : decode cX7_readNumber 15 = .ok (.istore 4, 2) := by decide +kernel
theorem dX7_readNumber_17 : decode cX7_readNumber 17 = .ok (.aload_n 0, 1) := by decide +kernel
theorem dX7_readNumber_18 : decode cX7_readNumber 18 = .ok (.getfield 28, 3) := by decide +kernel
theorem dX7_readNumber_21 : decode cX7_readNumber 21 = .ok (.aload_n 0, 1) := by decide +kernel
theorem dX7_readNumber_22 : decode cX7_readNumber 22 = .ok (.getfield 19, 3) := by decide +kernel
theorem dX7_readNumber_28 : decode cX7_readNumber 28 = .ok (.aload_n 0, 1) := by decide +kernel
theorem dX7_readNumber_29 : decode cX7_readNumber 29 = .ok (.getfield 9, 3) := by decide +kernel
theorem dX7_readNumber_32 : decode cX7_readNumber 32 = .ok (.aload_n 0, 1) := by decide +kernel
theorem dX7_readNumber_33 : decode cX7_readNumber 33 = .ok (.getfield 28, 3) := by decide +kernel
theorem dX7_readNumber_36 : decode cX7_readNumber 36 = .ok (.invokestatic 46, 3) := by decide +kernel
theorem dX7_readNumber_39 : decode cX7_readNumber 39 = .ok (.invokestatic 137, 3) := by decide +kernel
theorem dX7_readNumber_45 : decode cX7_readNumber 45 = .ok (.iinc 3 1, 3) := by decide +kernel
theorem dX7_readNumber_48 : decode cX7_readNumber 48 = .ok (.iload_n 3, 1) := by decide +kernel
theorem dX7_readNumber_49 : decode cX7_readNumber 49 = .ok (.iconst 3, 1) := by decide +kernel
theorem dX7_readNumber_53 : decode cX7_readNumber 53 = .ok (.iload 4, 2) := by decide +kernel
theorem dX7_readNumber_55 : decode cX7_readNumber 55 = .ok (.bipush 10, 2) := by decide +kernel
theorem dX7_readNumber_57 : decode cX7_readNumber 57 = .ok (.imul, 1) := by decide +kernel
theorem dX7_readNumber_58 : decode cX7_readNumber 58 = .ok (.aload_n 0, 1) := by decide +kernel
theorem dX7_readNumber_59 : decode cX7_readNumber 59 = .ok (.getfield 9, 3) := by decide +kernel
theorem dX7_readNumber_62 : decode cX7_readNumber 62 = .ok (.aload_n 0, 1) := by decide +kernel
theorem dX7_readNumber_63 : decode cX7_readNumber 63 = .ok (.getfield 28, 3) := by decide +kernel
theorem dX7_readNumber_66 : decode cX7_readNumber 66 = .ok (.invokestatic 46, 3) := by decide +kernel
theorem dX7_readNumber_69 : decode cX7_readNumber 69 = .ok (.iadd, 1) := by decide +kernel
theorem dX7_readNumber_70 : decode cX7_readNumber 70 = .ok (.bipush 48, 2) := by decide +kernel
theorem dX7_readNumber_72 : decode cX7_readNumber 72 = .ok (.isub, 1) := by decide +kernel
theorem dX7_readNumber_73 : decode cX7_readNumber 73 = .ok (.istore 4, 2) := by decide +kernel
theorem dX7_readNumber_50 : decode cX7_readNumber 50 = .ok (.if_icmp .gt 25, 3) := by decide +kernel
theorem dX7_readNumber_75 : decode cX7_readNumber 75 = .ok (.aload_n 0, 1) := by decide +kernel
theorem dX7_readNumber_76 : decode cX7_readNumber 76 = .ok (.dup, 1) := by decide +kernel
theorem dX7_readNumber_77 : decode cX7_readNumber 77 = .ok (.getfield 28, 3) := by decide +kernel
theorem dX7_readNumber_80 : decode cX7_readNumber 80 = .ok (.iconst 1, 1) := by decide +kernel
theorem dX7_readNumber_81 : decode cX7_readNumber 81 = .ok (.iadd, 1) := by decide +kernel
theorem dX7_readNumber_82 : decode cX7_readNumber 82 = .ok (.putfield 28, 3) := by decide +kernel
theorem dX7_readNumber_85 : decode cX7_readNumber 85 = .ok (.goto (-68), 3) := by decide +kernel
theorem dX7_readNumber_42 : decode cX7_readNumber 42 = .ok (.ifCond .eq 46, 3) := by decide +kernel
theorem dX7_readNumber_25 : decode cX7_readNumber 25 = .ok (.if_icmp .ge 63, 3) := by decide +kernel
theorem dX7_readNumber_88 : decode cX7_readNumber 88 = .ok (.iload_n 3, 1) := by decide +kernel
theorem dX7_readNumber_104 : decode cX7_readNumber 104 = .ok (.iload_n 3, 1) := by decide +kernel
theorem dX7_readNumber_105 : decode cX7_readNumber 105 = .ok (.iconst 3, 1) := by decide +kernel
theorem dX7_readNumber_121 : decode cX7_readNumber 121 = .ok (.aload_n 0, 1) := by decide +kernel
theorem dX7_readNumber_122 : decode cX7_readNumber 122 = .ok (.iconst 2, 1) := by decide +kernel
theorem dX7_readNumber_123 : decode cX7_readNumber 123 = .ok (.aload_n 0, 1) := by decide +kernel
theorem dX7_readNumber_124 : decode cX7_readNumber 124 = .ok (.getfield 131, 3) := by decide +kernel
theorem dX7_readNumber_127 : decode cX7_readNumber 127 = .ok (.invokevirtual 53, 3) := by decide +kernel
theorem dX7_readNumber_109 : decode cX7_readNumber 109 = .ok (.iload 4, 2) := by decide +kernel
theorem dX7_readNumber_111 : decode cX7_readNumber 111 = .ok (.iload_n 1, 1) := by decide +kernel
theorem dX7_readNumber_115 : decode cX7_readNumber 115 = .ok (.iload 4, 2) := by decide +kernel
theorem dX7_readNumber_117 : decode cX7_readNumber 117 = .ok (.iload_n 2, 1) := by decide +kernel
theorem dX7_readNumber_118 : decode cX7_readNumber 118 = .ok (.if_icmp .le 12, 3) := by decide +kernel
theorem dX7_readNumber_112 : decode cX7_readNumber 112 = .ok (.if_icmp .lt 9, 3) := by decide +kernel
theorem dX7_readNumber_106 : decode cX7_readNumber 106 = .ok (.if_icmp .gt 15, 3) := by decide +kernel
theorem dX7_readNumber_92 : decode cX7_readNumber 92 = .ok (.aload_n 0, 1) := by decide +kernel
theorem dX7_readNumber_93 : decode cX7_readNumber 93 = .ok (.iconst 1, 1) := by decide +kernel
theorem dX7_readNumber_94 : decode cX7_readNumber 94 = .ok (.aload_n 0, 1) := by decide +kernel
theorem dX7_readNumber_95 : decode cX7_readNumber 95 = .ok (.getfield 131, 3) := by decide +kernel
theorem dX7_readNumber_98 : decode cX7_readNumber 98 = .ok (.invokevirtual 53, 3) := by decide +kernel
theorem dX7_readNumber_101 : decode cX7_readNumber 101 = .ok (.goto 29, 3) := by decide +kernel
theorem dX7_readNumber_89 : decode cX7_readNumber 89 = .ok (.ifCond .ne 15, 3) := by decide +kernel
theorem dX7_readNumber_130 : decode cX7_readNumber 130 = .ok (.iload 4, 2) := by decide +kernel
theorem dX7_readNumber_132 : decode cX7_readNumber 132 = .ok (.ireturn, 1) := by decide +kernel
theorem lX7_readNumber_L17 (x : bo_X) (hx : bo_OK x cX7_readNumber RX7 5 2 41) (f1 : Int32) (f2 : Int32) : ∀ (n : Nat) (w3 : Int32) (w4 : Int32) (σ : bo_M), bo_D x 17 [(0, .ref (bo_a x 1)), (1, .int f1), (2, .int f2), (3, .int w3), (4, .int w4)] [] σ (mX7_readNumber_L17 f1 f2 n w3 w4 σ) (fun a => bo_N x 88 [(0, .ref (bo_a x 1)), (1, .int f1), (2, .int f2), (3, .int a.1), (4, .int a.2.1)] [] a.2.2) := by
  intro n
  induction n with
  | zero => intro w3 w4 σ; exact bo_none
  | succ n ih =>
    intro w3 w4 σ
    rw [mX7_readNumber_L17]
    refine bo_aload_n hx dX7_readNumber_17 rfl 0 rfl ?_
    refine gf_X7_28 hx dX7_readNumber_18 ?_
    refine bo_aload_n hx dX7_readNumber_21 rfl 0 rfl ?_
    refine gf_X7_19 hx dX7_readNumber_22 ?_
    refine bo_icmp_ge hx 88 dX7_readNumber_25 (by decide) ?_ ?_
    · exact bo_arr (fun h => h)
    · refine bo_aload_n hx dX7_readNumber_28 rfl 0 rfl ?_
      refine gf_X7_9 hx dX7_readNumber_29 ?_
      refine bo_aload_n hx dX7_readNumber_32 rfl 0 rfl ?_
      refine gf_X7_28 hx dX7_readNumber_33 ?_
      refine bo_goR (z := false) hx (fun rr hh => bo_runS (As := [.ref (bo_a x 2), .int (σ 1 1)]) (S := []) hx dX7_readNumber_36 lk_X7_46 ms_X8_at (kX8_at (bo_l x) (bo_g x) hx.inj σ 240 2 (σ 1 1) bo_c_2 rr hh) ⟨by decide, by decide⟩ rfl rfl (Nat.le_of_ble_eq_true rfl)) (fun v3 hv3 => ?_)
      refine bo_goR (z := true) hx (fun rr hh => bo_runS (As := [.int v3]) (S := []) hx dX7_readNumber_39 lk_X7_137 ms_X7_isFigure (kX7_isFigure (bo_l x) (bo_g x) hx.inj σ v3 rr hh) ⟨by decide, by decide⟩ rfl rfl (Nat.le_of_ble_eq_true rfl)) (fun v4 hv4 => ?_)
      refine bo_if_eq hx 88 dX7_readNumber_42 (by decide) ?_ ?_
      · exact bo_arr (fun h => h)
      · refine bo_iinc (L' := [(3, .int (w3 + 1)), (0, .ref (bo_a x 1)), (1, .int f1), (2, .int f2), (4, .int w4)]) (w := (w3 + 1)) hx dX7_readNumber_45 3 rfl rfl (by decide) rfl ?_
        refine bo_iload_n hx dX7_readNumber_48 rfl 0 rfl ?_
        refine bo_iconst (v := 3) hx dX7_readNumber_49 (by decide) ?_
        refine bo_seq 75 (fun a => [(0, .ref (bo_a x 1)), (1, .int f1), (2, .int f2), (3, .int (w3 + 1)), (4, .int a)]) (fun a => []) (fun a => σ) ?_ (fun a5 => ?_)
        · refine bo_icmp_gt hx 75 dX7_readNumber_50 (by decide) ?_ ?_
          · refine bo_sub (L' := [(0, .ref (bo_a x 1)), (1, .int f1), (2, .int f2), (3, .int (w3 + 1)), (4, .int w4)]) [1, 2, 3, 0, 4] rfl ?_
            exact bo_arr (fun h => h)
          · refine bo_iload hx dX7_readNumber_53 4 rfl ?_
            refine bo_bipush (v := 10) hx dX7_readNumber_55 (by decide) ?_
            refine bo_imul hx dX7_readNumber_57 ?_
            refine bo_aload_n hx dX7_readNumber_58 rfl 1 rfl ?_
            refine gf_X7_9 hx dX7_readNumber_59 ?_
            refine bo_aload_n hx dX7_readNumber_62 rfl 1 rfl ?_
            refine gf_X7_28 hx dX7_readNumber_63 ?_
            refine bo_goR (z := false) hx (fun rr hh => bo_runS (As := [.ref (bo_a x 2), .int (σ 1 1)]) (S := [.int (w4 * 10)]) hx dX7_readNumber_66 lk_X7_46 ms_X8_at (kX8_at (bo_l x) (bo_g x) hx.inj σ 240 2 (σ 1 1) bo_c_2 rr hh) ⟨by decide, by decide⟩ rfl rfl (Nat.le_of_ble_eq_true rfl)) (fun v6 hv6 => ?_)
            refine bo_iadd hx dX7_readNumber_69 ?_
            refine bo_bipush (v := 48) hx dX7_readNumber_70 (by decide) ?_
            refine bo_isub hx dX7_readNumber_72 ?_
            refine bo_istore (L' := [(4, .int (((w4 * 10) + v6) - 48)), (3, .int (w3 + 1)), (0, .ref (bo_a x 1)), (1, .int f1), (2, .int f2)]) hx dX7_readNumber_73 (by decide) rfl ?_
            refine bo_sub (L' := [(0, .ref (bo_a x 1)), (1, .int f1), (2, .int f2), (3, .int (w3 + 1)), (4, .int (((w4 * 10) + v6) - 48))]) [2, 3, 4, 1, 0] rfl ?_
            exact bo_arr (fun h => h)
        · refine bo_aload_n hx dX7_readNumber_75 rfl 0 rfl ?_
          refine bo_dup hx dX7_readNumber_76 rfl ?_
          refine gf_X7_28 hx dX7_readNumber_77 ?_
          refine bo_iconst (v := 1) hx dX7_readNumber_80 (by decide) ?_
          refine bo_iadd hx dX7_readNumber_81 ?_
          refine pf_X7_28 hx dX7_readNumber_82 (fun σ7 => ?_)
          refine bo_goto hx 17 dX7_readNumber_85 (by decide) ?_
          exact ih (w3 + 1) a5 σ7
theorem bX7_readNumber (x : bo_X) (hx : bo_OK x cX7_readNumber RX7 5 2 41) (σ : bo_M) (p1 : Int32) (p2 : Int32) : bo_D x 0 [(0, .ref (bo_a x 1)), (1, .int p1), (2, .int p2)] [] σ (mX7_readNumber σ p1 p2) (bo_Rw x cX7_readNumber false) := by
  unfold mX7_readNumber
  refine bo_aload_n hx dX7_readNumber_0 rfl 0 rfl ?_
  refine bo_goV hx (fun rr hh => bo_runV (As := []) (S := []) hx dX7_readNumber_1 lk_X7_39 mi_X7_skipBlanks bo_o_1 rfl rfl (kX7_skipBlanks (bo_l x) (bo_g x) hx.inj σ rr hh) ⟨by decide, by decide⟩ rfl rfl (Nat.le_of_ble_eq_true rfl)) (fun σ1 => ?_)
  refine bo_aload_n hx dX7_readNumber_4 rfl 0 rfl ?_
  refine bo_aload_n hx dX7_readNumber_5 rfl 0 rfl ?_
  refine gf_X7_28 hx dX7_readNumber_6 ?_
  refine pf_X7_131 hx dX7_readNumber_9 (fun σ2 => ?_)
  refine bo_iconst (v := 0) hx dX7_readNumber_12 (by decide) ?_
  refine bo_istore_n (L' := [(3, .int 0), (0, .ref (bo_a x 1)), (1, .int p1), (2, .int p2)]) hx dX7_readNumber_13 rfl (by decide) rfl ?_
  refine bo_iconst (v := 0) hx dX7_readNumber_14 (by decide) ?_
  refine bo_istore (L' := [(4, .int 0), (3, .int 0), (0, .ref (bo_a x 1)), (1, .int p1), (2, .int p2)]) hx dX7_readNumber_15 (by decide) rfl ?_
  refine bo_sub (L' := [(0, .ref (bo_a x 1)), (1, .int p1), (2, .int p2), (3, .int 0), (4, .int 0)]) [2, 3, 4, 1, 0] rfl ?_
  refine bo_seq 88 (fun a => [(0, .ref (bo_a x 1)), (1, .int p1), (2, .int p2), (3, .int a.1), (4, .int a.2.1)]) (fun a => []) (fun a => a.2.2) (lX7_readNumber_L17 x hx p1 p2 bo_fuel 0 0 σ2) (fun a8 => ?_)
  refine bo_iload_n hx dX7_readNumber_88 rfl 3 rfl ?_
  refine bo_seq 130 (fun a => [(4, .int a8.2.1)]) (fun a => []) (fun a => a) ?_ (fun a9 => ?_)
  · refine bo_if_ne hx 104 dX7_readNumber_89 (by decide) ?_ ?_
    · refine bo_iload_n hx dX7_readNumber_104 rfl 3 rfl ?_
      refine bo_iconst (v := 3) hx dX7_readNumber_105 (by decide) ?_
      refine bo_icmp_gt hx 121 dX7_readNumber_106 (by decide) ?_ ?_
      · refine bo_aload_n hx dX7_readNumber_121 rfl 0 rfl ?_
        refine bo_iconst (v := 2) hx dX7_readNumber_122 (by decide) ?_
        refine bo_aload_n hx dX7_readNumber_123 rfl 0 rfl ?_
        refine gf_X7_131 hx dX7_readNumber_124 ?_
        refine bo_goV hx (fun rr hh => bo_runV (As := [.int 2, .int (a8.2.2 1 2)]) (S := []) hx dX7_readNumber_127 lk_X7_53 mi_X7_wrong bo_o_1 rfl rfl (kX7_wrong (bo_l x) (bo_g x) hx.inj a8.2.2 2 (a8.2.2 1 2) rr hh) ⟨by decide, by decide⟩ rfl rfl (Nat.le_of_ble_eq_true rfl)) (fun σ10 => ?_)
        refine bo_sub (L' := [(4, .int a8.2.1)]) [4] rfl ?_
        exact bo_arr (fun h => h)
      · refine bo_iload hx dX7_readNumber_109 4 rfl ?_
        refine bo_iload_n hx dX7_readNumber_111 rfl 1 rfl ?_
        refine bo_icmp_lt hx 121 dX7_readNumber_112 (by decide) ?_ ?_
        · refine bo_aload_n hx dX7_readNumber_121 rfl 0 rfl ?_
          refine bo_iconst (v := 2) hx dX7_readNumber_122 (by decide) ?_
          refine bo_aload_n hx dX7_readNumber_123 rfl 0 rfl ?_
          refine gf_X7_131 hx dX7_readNumber_124 ?_
          refine bo_goV hx (fun rr hh => bo_runV (As := [.int 2, .int (a8.2.2 1 2)]) (S := []) hx dX7_readNumber_127 lk_X7_53 mi_X7_wrong bo_o_1 rfl rfl (kX7_wrong (bo_l x) (bo_g x) hx.inj a8.2.2 2 (a8.2.2 1 2) rr hh) ⟨by decide, by decide⟩ rfl rfl (Nat.le_of_ble_eq_true rfl)) (fun σ11 => ?_)
          refine bo_sub (L' := [(4, .int a8.2.1)]) [4] rfl ?_
          exact bo_arr (fun h => h)
        · refine bo_iload hx dX7_readNumber_115 4 rfl ?_
          refine bo_iload_n hx dX7_readNumber_117 rfl 2 rfl ?_
          refine bo_icmp_le hx 130 dX7_readNumber_118 (by decide) ?_ ?_
          · refine bo_sub (L' := [(4, .int a8.2.1)]) [4] rfl ?_
            exact bo_arr (fun h => h)
          · refine bo_aload_n hx dX7_readNumber_121 rfl 0 rfl ?_
            refine bo_iconst (v := 2) hx dX7_readNumber_122 (by decide) ?_
            refine bo_aload_n hx dX7_readNumber_123 rfl 0 rfl ?_
            refine gf_X7_131 hx dX7_readNumber_124 ?_
            refine bo_goV hx (fun rr hh => bo_runV (As := [.int 2, .int (a8.2.2 1 2)]) (S := []) hx dX7_readNumber_127 lk_X7_53 mi_X7_wrong bo_o_1 rfl rfl (kX7_wrong (bo_l x) (bo_g x) hx.inj a8.2.2 2 (a8.2.2 1 2) rr hh) ⟨by decide, by decide⟩ rfl rfl (Nat.le_of_ble_eq_true rfl)) (fun σ12 => ?_)
            refine bo_sub (L' := [(4, .int a8.2.1)]) [4] rfl ?_
            exact bo_arr (fun h => h)
    · refine bo_aload_n hx dX7_readNumber_92 rfl 0 rfl ?_
      refine bo_iconst (v := 1) hx dX7_readNumber_93 (by decide) ?_
      refine bo_aload_n hx dX7_readNumber_94 rfl 0 rfl ?_
      refine gf_X7_131 hx dX7_readNumber_95 ?_
      refine bo_goV hx (fun rr hh => bo_runV (As := [.int 1, .int (a8.2.2 1 2)]) (S := []) hx dX7_readNumber_98 lk_X7_53 mi_X7_wrong bo_o_1 rfl rfl (kX7_wrong (bo_l x) (bo_g x) hx.inj a8.2.2 1 (a8.2.2 1 2) rr hh) ⟨by decide, by decide⟩ rfl rfl (Nat.le_of_ble_eq_true rfl)) (fun σ13 => ?_)
      refine bo_goto hx 130 dX7_readNumber_101 (by decide) ?_
      refine bo_sub (L' := [(4, .int a8.2.1)]) [4] rfl ?_
      exact bo_arr (fun h => h)
  · refine bo_iload hx dX7_readNumber_130 0 rfl ?_
    exact bo_retw dX7_readNumber_132 (fun h => by cases h)
theorem kX7_readNumber (l : Launch) (g : bo_G) (hi : bo_inj g) (σ : bo_M) (p1 : Int32) (p2 : Int32) : bo_CW l g yX7_readNumber cX7_readNumber 5 (some .int) 2 41 [.ref (g.2.2 1), .int p1, .int p2] σ false (mX7_readNumber σ p1 p2) :=
  bo_metW rfl (Or.inl ⟨rfl, rfl⟩) (by decide) rfl hi (Nat.le_of_ble_eq_true rfl) (fun x e1 e2 hx => by subst e1; subst e2; exact bX7_readNumber x hx σ p1 p2)
-- BellRope$Reader.endClause
theorem dX7_endClause_0 : decode cX7_endClause 0 = .ok (.aload_n 0, 1) := by decide +kernel
theorem dX7_endClause_1 : decode cX7_endClause 1 = .ok (.invokevirtual 39, 3) := by decide +kernel
theorem dX7_endClause_4 : decode cX7_endClause 4 = .ok (.aload_n 0, 1) := by decide +kernel
theorem dX7_endClause_5 : decode cX7_endClause 5 = .ok (.getfield 28, 3) := by decide +kernel
theorem dX7_endClause_8 : decode cX7_endClause 8 = .ok (.aload_n 0, 1) := by decide +kernel
theorem dX7_endClause_9 : decode cX7_endClause 9 = .ok (.getfield 19, 3) := by decide +kernel
theorem dX7_endClause_31 : decode cX7_endClause 31 = .ok (.aload_n 0, 1) := by decide +kernel
theorem dX7_endClause_32 : decode cX7_endClause 32 = .ok (.iconst 1, 1) := by decide +kernel
theorem dX7_endClause_33 : decode cX7_endClause 33 = .ok (.aload_n 0, 1) := by decide +kernel
theorem dX7_endClause_34 : decode cX7_endClause 34 = .ok (.getfield 28, 3) := by decide +kernel
theorem dX7_endClause_37 : decode cX7_endClause 37 = .ok (.invokevirtual 53, 3) := by decide +kernel
theorem dX7_endClause_15 : decode cX7_endClause 15 = .ok (.aload_n 0, 1) := by decide +kernel
theorem dX7_endClause_16 : decode cX7_endClause 16 = .ok (.getfield 9, 3) := by decide +kernel
theorem dX7_endClause_19 : decode cX7_endClause 19 = .ok (.aload_n 0, 1) := by decide +kernel
theorem dX7_endClause_20 : decode cX7_endClause 20 = .ok (.getfield 28, 3) := by decide +kernel
theorem dX7_endClause_23 : decode cX7_endClause 23 = .ok (.invokestatic 46, 3) := by decide +kernel
theorem dX7_endClause_26 : decode cX7_endClause 26 = .ok (.bipush 59, 2) := by decide +kernel
theorem dX7_endClause_28 : decode cX7_endClause 28 = .ok (.if_icmp .eq 12, 3) := by decide +kernel
theorem dX7_endClause_12 : decode cX7_endClause 12 = .ok (.if_icmp .ge 19, 3) := by decide +kernel
theorem dX7_endClause_40 : decode cX7_endClause 40 = .ok (.aload_n 0, 1) := by decide +kernel
theorem dX7_endClause_41 : decode cX7_endClause 41 = .ok (.dup, 1) := by decide +kernel
theorem dX7_endClause_42 : decode cX7_endClause 42 = .ok (.getfield 28, 3) := by decide +kernel
theorem dX7_endClause_45 : decode cX7_endClause 45 = .ok (.iconst 1, 1) := by decide +kernel
theorem dX7_endClause_46 : decode cX7_endClause 46 = .ok (.iadd, 1) := by decide +kernel
theorem dX7_endClause_47 : decode cX7_endClause 47 = .ok (.putfield 28, 3) := by decide +kernel
theorem dX7_endClause_50 : decode cX7_endClause 50 = .ok (.return_, 1) := by decide +kernel
theorem bX7_endClause (x : bo_X) (hx : bo_OK x cX7_endClause RX7 1 2 41) (σ : bo_M) : bo_D x 0 [(0, .ref (bo_a x 1))] [] σ (mX7_endClause σ) (bo_Rv x cX7_endClause) := by
  unfold mX7_endClause
  refine bo_aload_n hx dX7_endClause_0 rfl 0 rfl ?_
  refine bo_goV hx (fun rr hh => bo_runV (As := []) (S := []) hx dX7_endClause_1 lk_X7_39 mi_X7_skipBlanks bo_o_1 rfl rfl (kX7_skipBlanks (bo_l x) (bo_g x) hx.inj σ rr hh) ⟨by decide, by decide⟩ rfl rfl (Nat.le_of_ble_eq_true rfl)) (fun σ1 => ?_)
  refine bo_aload_n hx dX7_endClause_4 rfl 0 rfl ?_
  refine gf_X7_28 hx dX7_endClause_5 ?_
  refine bo_aload_n hx dX7_endClause_8 rfl 0 rfl ?_
  refine gf_X7_19 hx dX7_endClause_9 ?_
  refine bo_seq 40 (fun a => [(0, .ref (bo_a x 1))]) (fun a => []) (fun a => a) ?_ (fun a2 => ?_)
  · refine bo_icmp_ge hx 31 dX7_endClause_12 (by decide) ?_ ?_
    · refine bo_aload_n hx dX7_endClause_31 rfl 0 rfl ?_
      refine bo_iconst (v := 1) hx dX7_endClause_32 (by decide) ?_
      refine bo_aload_n hx dX7_endClause_33 rfl 0 rfl ?_
      refine gf_X7_28 hx dX7_endClause_34 ?_
      refine bo_goV hx (fun rr hh => bo_runV (As := [.int 1, .int (σ1 1 1)]) (S := []) hx dX7_endClause_37 lk_X7_53 mi_X7_wrong bo_o_1 rfl rfl (kX7_wrong (bo_l x) (bo_g x) hx.inj σ1 1 (σ1 1 1) rr hh) ⟨by decide, by decide⟩ rfl rfl (Nat.le_of_ble_eq_true rfl)) (fun σ3 => ?_)
      exact bo_arr (fun h => h)
    · refine bo_aload_n hx dX7_endClause_15 rfl 0 rfl ?_
      refine gf_X7_9 hx dX7_endClause_16 ?_
      refine bo_aload_n hx dX7_endClause_19 rfl 0 rfl ?_
      refine gf_X7_28 hx dX7_endClause_20 ?_
      refine bo_goR (z := false) hx (fun rr hh => bo_runS (As := [.ref (bo_a x 2), .int (σ1 1 1)]) (S := []) hx dX7_endClause_23 lk_X7_46 ms_X8_at (kX8_at (bo_l x) (bo_g x) hx.inj σ1 240 2 (σ1 1 1) bo_c_2 rr hh) ⟨by decide, by decide⟩ rfl rfl (Nat.le_of_ble_eq_true rfl)) (fun v4 hv4 => ?_)
      refine bo_bipush (v := 59) hx dX7_endClause_26 (by decide) ?_
      refine bo_icmp_eq hx 40 dX7_endClause_28 (by decide) ?_ ?_
      · exact bo_arr (fun h => h)
      · refine bo_aload_n hx dX7_endClause_31 rfl 0 rfl ?_
        refine bo_iconst (v := 1) hx dX7_endClause_32 (by decide) ?_
        refine bo_aload_n hx dX7_endClause_33 rfl 0 rfl ?_
        refine gf_X7_28 hx dX7_endClause_34 ?_
        refine bo_goV hx (fun rr hh => bo_runV (As := [.int 1, .int (σ1 1 1)]) (S := []) hx dX7_endClause_37 lk_X7_53 mi_X7_wrong bo_o_1 rfl rfl (kX7_wrong (bo_l x) (bo_g x) hx.inj σ1 1 (σ1 1 1) rr hh) ⟨by decide, by decide⟩ rfl rfl (Nat.le_of_ble_eq_true rfl)) (fun σ5 => ?_)
        exact bo_arr (fun h => h)
  · refine bo_aload_n hx dX7_endClause_40 rfl 0 rfl ?_
    refine bo_dup hx dX7_endClause_41 rfl ?_
    refine gf_X7_28 hx dX7_endClause_42 ?_
    refine bo_iconst (v := 1) hx dX7_endClause_45 (by decide) ?_
    refine bo_iadd hx dX7_endClause_46 ?_
    refine pf_X7_28 hx dX7_endClause_47 (fun σ6 => ?_)
    exact bo_retv dX7_endClause_50
theorem kX7_endClause (l : Launch) (g : bo_G) (hi : bo_inj g) (σ : bo_M) : bo_CV l g yX7_endClause cX7_endClause 1 none 2 41 [.ref (g.2.2 1)] σ (mX7_endClause σ) :=
  bo_metV rfl  (by decide) rfl hi (Nat.le_of_ble_eq_true rfl) (fun x e1 e2 hx => by subst e1; subst e2; exact bX7_endClause x hx σ)
-- BellRope$Reader.readBell
theorem dX7_readBell_0 : decode cX7_readBell 0 = .ok (.aload_n 0, 1) := by decide +kernel
theorem dX7_readBell_1 : decode cX7_readBell 1 = .ok (.aload_n 1, 1) := by decide +kernel
theorem dX7_readBell_2 : decode cX7_readBell 2 = .ok (.getfield 49, 3) := by decide +kernel
theorem dX7_readBell_5 : decode cX7_readBell 5 = .ok (.invokevirtual 72, 3) := by decide +kernel
theorem dX7_readBell_8 : decode cX7_readBell 8 = .ok (.aload_n 1, 1) := by decide +kernel
theorem dX7_readBell_9 : decode cX7_readBell 9 = .ok (.iconst 1, 1) := by decide +kernel
theorem dX7_readBell_10 : decode cX7_readBell 10 = .ok (.putfield 49, 3) := by decide +kernel
theorem dX7_readBell_13 : decode cX7_readBell 13 = .ok (.aload_n 1, 1) := by decide +kernel
theorem dX7_readBell_14 : decode cX7_readBell 14 = .ok (.aload_n 0, 1) := by decide +kernel
theorem dX7_readBell_15 : decode cX7_readBell 15 = .ok (.iconst 0, 1) := by decide +kernel
theorem dX7_readBell_16 : decode cX7_readBell 16 = .ok (.iconst 1, 1) := by decide +kernel
theorem dX7_readBell_17 : decode cX7_readBell 17 = .ok (.invokevirtual 76, 3) := by decide +kernel
theorem dX7_readBell_20 : decode cX7_readBell 20 = .ok (.putfield 80, 3) := by decide +kernel
theorem dX7_readBell_23 : decode cX7_readBell 23 = .ok (.aload_n 1, 1) := by decide +kernel
theorem dX7_readBell_24 : decode cX7_readBell 24 = .ok (.aload_n 0, 1) := by decide +kernel
theorem dX7_readBell_25 : decode cX7_readBell 25 = .ok (.iconst 0, 1) := by decide +kernel
theorem dX7_readBell_26 : decode cX7_readBell 26 = .ok (.bipush 9, 2) := by decide +kernel
theorem dX7_readBell_28 : decode cX7_readBell 28 = .ok (.invokevirtual 76, 3) := by decide +kernel
theorem dX7_readBell_31 : decode cX7_readBell 31 = .ok (.putfield 83, 3) := by decide +kernel
theorem dX7_readBell_34 : decode cX7_readBell 34 = .ok (.aload_n 1, 1) := by decide +kernel
theorem dX7_readBell_35 : decode cX7_readBell 35 = .ok (.aload_n 0, 1) := by decide +kernel
theorem dX7_readBell_36 : decode cX7_readBell 36 = .ok (.iconst 0, 1) := by decide +kernel
theorem dX7_readBell_37 : decode cX7_readBell 37 = .ok (.bipush 127, 2) := by decide +kernel
theorem dX7_readBell_39 : decode cX7_readBell 39 = .ok (.invokevirtual 76, 3) := by decide +kernel
theorem dX7_readBell_42 : decode cX7_readBell 42 = .ok (.putfield 86, 3) := by decide +kernel
theorem dX7_readBell_45 : decode cX7_readBell 45 = .ok (.aload_n 0, 1) := by decide +kernel
theorem dX7_readBell_46 : decode cX7_readBell 46 = .ok (.invokevirtual 89, 3) := by decide +kernel
theorem dX7_readBell_49 : decode cX7_readBell 49 = .ok (.return_, 1) := by decide +kernel
theorem bX7_readBell (x : bo_X) (hx : bo_OK x cX7_readBell RX7 2 3 65) (σ : bo_M) (r1 : Nat) (hr1 : bo_isInn r1) : bo_D x 0 [(0, .ref (bo_a x 1)), (1, .ref (bo_a x r1))] [] σ (mX7_readBell σ r1) (bo_Rv x cX7_readBell) := by
  unfold mX7_readBell
  refine bo_aload_n hx dX7_readBell_0 rfl 0 rfl ?_
  refine bo_aload_n hx dX7_readBell_1 rfl 1 rfl ?_
  refine gf_X7_49 hx hr1 dX7_readBell_2 ?_
  refine bo_goV hx (fun rr hh => bo_runV (As := [.int (σ r1 7 &&& 1)]) (S := []) hx dX7_readBell_5 lk_X7_72 mi_X7_startClause bo_o_1 rfl rfl (kX7_startClause (bo_l x) (bo_g x) hx.inj σ (σ r1 7 &&& 1) rr hh) ⟨by decide, by decide⟩ rfl rfl (Nat.le_of_ble_eq_true rfl)) (fun σ1 => ?_)
  refine bo_aload_n hx dX7_readBell_8 rfl 1 rfl ?_
  refine bo_iconst (v := 1) hx dX7_readBell_9 (by decide) ?_
  refine pf_X7_49 hx hr1 bo_b_1 dX7_readBell_10 (fun σ2 => ?_)
  refine bo_aload_n hx dX7_readBell_13 rfl 1 rfl ?_
  refine bo_aload_n hx dX7_readBell_14 rfl 0 rfl ?_
  refine bo_iconst (v := 0) hx dX7_readBell_15 (by decide) ?_
  refine bo_iconst (v := 1) hx dX7_readBell_16 (by decide) ?_
  refine bo_goW (z := false) hx (fun rr hh => bo_runV (As := [.int 0, .int 1]) (S := [.ref (bo_a x r1)]) hx dX7_readBell_17 lk_X7_76 mi_X7_readNumber bo_o_1 rfl rfl (kX7_readNumber (bo_l x) (bo_g x) hx.inj σ2 0 1 rr hh) ⟨by decide, by decide⟩ rfl rfl (Nat.le_of_ble_eq_true rfl)) (fun a3 ha3 => ?_)
  refine pf_X7_80 hx hr1 dX7_readBell_20 (fun σ4 => ?_)
  refine bo_aload_n hx dX7_readBell_23 rfl 1 rfl ?_
  refine bo_aload_n hx dX7_readBell_24 rfl 0 rfl ?_
  refine bo_iconst (v := 0) hx dX7_readBell_25 (by decide) ?_
  refine bo_bipush (v := 9) hx dX7_readBell_26 (by decide) ?_
  refine bo_goW (z := false) hx (fun rr hh => bo_runV (As := [.int 0, .int 9]) (S := [.ref (bo_a x r1)]) hx dX7_readBell_28 lk_X7_76 mi_X7_readNumber bo_o_1 rfl rfl (kX7_readNumber (bo_l x) (bo_g x) hx.inj σ4 0 9 rr hh) ⟨by decide, by decide⟩ rfl rfl (Nat.le_of_ble_eq_true rfl)) (fun a5 ha5 => ?_)
  refine pf_X7_83 hx hr1 dX7_readBell_31 (fun σ6 => ?_)
  refine bo_aload_n hx dX7_readBell_34 rfl 1 rfl ?_
  refine bo_aload_n hx dX7_readBell_35 rfl 0 rfl ?_
  refine bo_iconst (v := 0) hx dX7_readBell_36 (by decide) ?_
  refine bo_bipush (v := 127) hx dX7_readBell_37 (by decide) ?_
  refine bo_goW (z := false) hx (fun rr hh => bo_runV (As := [.int 0, .int 127]) (S := [.ref (bo_a x r1)]) hx dX7_readBell_39 lk_X7_76 mi_X7_readNumber bo_o_1 rfl rfl (kX7_readNumber (bo_l x) (bo_g x) hx.inj σ6 0 127 rr hh) ⟨by decide, by decide⟩ rfl rfl (Nat.le_of_ble_eq_true rfl)) (fun a7 ha7 => ?_)
  refine pf_X7_86 hx hr1 dX7_readBell_42 (fun σ8 => ?_)
  refine bo_aload_n hx dX7_readBell_45 rfl 0 rfl ?_
  refine bo_goV hx (fun rr hh => bo_runV (As := []) (S := []) hx dX7_readBell_46 lk_X7_89 mi_X7_endClause bo_o_1 rfl rfl (kX7_endClause (bo_l x) (bo_g x) hx.inj σ8 rr hh) ⟨by decide, by decide⟩ rfl rfl (Nat.le_of_ble_eq_true rfl)) (fun σ9 => ?_)
  exact bo_retv dX7_readBell_49
theorem kX7_readBell (l : Launch) (g : bo_G) (hi : bo_inj g) (σ : bo_M) (r1 : Nat) (hr1 : bo_isInn r1) : bo_CV l g yX7_readBell cX7_readBell 2 none 3 65 [.ref (g.2.2 1), .ref (g.2.2 r1)] σ (mX7_readBell σ r1) :=
  bo_metV rfl  (by decide) rfl hi (Nat.le_of_ble_eq_true rfl) (fun x e1 e2 hx => by subst e1; subst e2; exact bX7_readBell x hx σ r1 hr1)
-- BellRope$Reader.readDrinker
theorem dX7_readDrinker_0 : decode cX7_readDrinker 0 = .ok (.aload_n 0, 1) := by decide +kernel
theorem dX7_readDrinker_1 : decode cX7_readDrinker 1 = .ok (.aload_n 1, 1) := by decide +kernel
theorem dX7_readDrinker_2 : decode cX7_readDrinker 2 = .ok (.getfield 92, 3) := by decide +kernel
theorem dX7_readDrinker_5 : decode cX7_readDrinker 5 = .ok (.bipush 7, 2) := by decide +kernel
theorem dX7_readDrinker_14 : decode cX7_readDrinker 14 = .ok (.iconst 0, 1) := by decide +kernel
theorem dX7_readDrinker_10 : decode cX7_readDrinker 10 = .ok (.iconst 1, 1) := by decide +kernel
theorem dX7_readDrinker_11 : decode cX7_readDrinker 11 = .ok (.goto 4, 3) := by decide +kernel
theorem dX7_readDrinker_7 : decode cX7_readDrinker 7 = .ok (.if_icmp .lt 7, 3) := by decide +kernel
theorem dX7_readDrinker_15 : decode cX7_readDrinker 15 = .ok (.invokevirtual 72, 3) := by decide +kernel
theorem dX7_readDrinker_18 : decode cX7_readDrinker 18 = .ok (.aload_n 1, 1) := by decide +kernel
theorem dX7_readDrinker_19 : decode cX7_readDrinker 19 = .ok (.getfield 95, 3) := by decide +kernel
theorem dX7_readDrinker_22 : decode cX7_readDrinker 22 = .ok (.aload_n 1, 1) := by decide +kernel
theorem dX7_readDrinker_23 : decode cX7_readDrinker 23 = .ok (.getfield 92, 3) := by decide +kernel
theorem dX7_readDrinker_26 : decode cX7_readDrinker 26 = .ok (.aload_n 0, 1) := by decide +kernel
theorem dX7_readDrinker_27 : decode cX7_readDrinker 27 = .ok (.iconst 1, 1) := by decide +kernel
theorem dX7_readDrinker_28 : decode cX7_readDrinker 28 = .ok (.bipush 40, 2) := by decide +kernel
theorem dX7_readDrinker_30 : decode cX7_readDrinker 30 = .ok (.invokevirtual 76, 3) := by decide +kernel
theorem dX7_readDrinker_33 : decode cX7_readDrinker 33 = .ok (.invokestatic 22, 3) := by decide +kernel
theorem dX7_readDrinker_36 : decode cX7_readDrinker 36 = .ok (.aload_n 1, 1) := by decide +kernel
theorem dX7_readDrinker_37 : decode cX7_readDrinker 37 = .ok (.getfield 98, 3) := by decide +kernel
theorem dX7_readDrinker_40 : decode cX7_readDrinker 40 = .ok (.aload_n 1, 1) := by decide +kernel
theorem dX7_readDrinker_41 : decode cX7_readDrinker 41 = .ok (.getfield 92, 3) := by decide +kernel
theorem dX7_readDrinker_44 : decode cX7_readDrinker 44 = .ok (.aload_n 0, 1) := by decide +kernel
theorem dX7_readDrinker_45 : decode cX7_readDrinker 45 = .ok (.iconst 1, 1) := by decide +kernel
theorem dX7_readDrinker_46 : decode cX7_readDrinker 46 = .ok (.bipush 20, 2) := by decide +kernel
theorem dX7_readDrinker_48 : decode cX7_readDrinker 48 = .ok (.invokevirtual 76, 3) := by decide +kernel
theorem dX7_readDrinker_51 : decode cX7_readDrinker 51 = .ok (.invokestatic 22, 3) := by decide +kernel
theorem dX7_readDrinker_54 : decode cX7_readDrinker 54 = .ok (.aload_n 1, 1) := by decide +kernel
theorem dX7_readDrinker_55 : decode cX7_readDrinker 55 = .ok (.getfield 101, 3) := by decide +kernel
theorem dX7_readDrinker_58 : decode cX7_readDrinker 58 = .ok (.aload_n 1, 1) := by decide +kernel
theorem dX7_readDrinker_59 : decode cX7_readDrinker 59 = .ok (.getfield 92, 3) := by decide +kernel
theorem dX7_readDrinker_62 : decode cX7_readDrinker 62 = .ok (.aload_n 0, 1) := by decide +kernel
theorem dX7_readDrinker_63 : decode cX7_readDrinker 63 = .ok (.iconst 0, 1) := by decide +kernel
theorem dX7_readDrinker_64 : decode cX7_readDrinker 64 = .ok (.bipush 100, 2) := by decide +kernel
theorem dX7_readDrinker_66 : decode cX7_readDrinker 66 = .ok (.invokevirtual 76, 3) := by decide +kernel
theorem dX7_readDrinker_69 : decode cX7_readDrinker 69 = .ok (.invokestatic 22, 3) := by decide +kernel
theorem dX7_readDrinker_72 : decode cX7_readDrinker 72 = .ok (.aload_n 0, 1) := by decide +kernel
theorem dX7_readDrinker_73 : decode cX7_readDrinker 73 = .ok (.invokevirtual 89, 3) := by decide +kernel
theorem dX7_readDrinker_76 : decode cX7_readDrinker 76 = .ok (.aload_n 1, 1) := by decide +kernel
theorem dX7_readDrinker_77 : decode cX7_readDrinker 77 = .ok (.dup, 1) := by decide +kernel
theorem dX7_readDrinker_78 : decode cX7_readDrinker 78 = .ok (.getfield 92, 3) := by decide +kernel
theorem dX7_readDrinker_81 : decode cX7_readDrinker 81 = .ok (.iconst 1, 1) := by decide +kernel
theorem dX7_readDrinker_82 : decode cX7_readDrinker 82 = .ok (.iadd, 1) := by decide +kernel
theorem dX7_readDrinker_83 : decode cX7_readDrinker 83 = .ok (.putfield 92, 3) := by decide +kernel
theorem dX7_readDrinker_86 : decode cX7_readDrinker 86 = .ok (.return_, 1) := by decide +kernel
theorem bX7_readDrinker (x : bo_X) (hx : bo_OK x cX7_readDrinker RX7 2 3 65) (σ : bo_M) (r1 : Nat) (hr1 : bo_isInn r1) : bo_D x 0 [(0, .ref (bo_a x 1)), (1, .ref (bo_a x r1))] [] σ (mX7_readDrinker σ r1) (bo_Rv x cX7_readDrinker) := by
  unfold mX7_readDrinker
  refine bo_aload_n hx dX7_readDrinker_0 rfl 0 rfl ?_
  refine bo_aload_n hx dX7_readDrinker_1 rfl 1 rfl ?_
  refine gf_X7_92 hx hr1 dX7_readDrinker_2 ?_
  refine bo_bipush (v := 7) hx dX7_readDrinker_5 (by decide) ?_
  refine bo_seq 15 (fun a => [(0, .ref (bo_a x 1)), (1, .ref (bo_a x r1))]) (fun a => [.int a, .ref (bo_a x 1)]) (fun a => σ) ?_ (fun a1 => ?_)
  · refine bo_icmp_lt hx 14 dX7_readDrinker_7 (by decide) ?_ ?_
    · refine bo_iconst (v := 0) hx dX7_readDrinker_14 (by decide) ?_
      exact bo_arr (fun h => h)
    · refine bo_iconst (v := 1) hx dX7_readDrinker_10 (by decide) ?_
      refine bo_goto hx 15 dX7_readDrinker_11 (by decide) ?_
      exact bo_arr (fun h => h)
  · refine bo_goV hx (fun rr hh => bo_runV (As := [.int a1]) (S := []) hx dX7_readDrinker_15 lk_X7_72 mi_X7_startClause bo_o_1 rfl rfl (kX7_startClause (bo_l x) (bo_g x) hx.inj σ a1 rr hh) ⟨by decide, by decide⟩ rfl rfl (Nat.le_of_ble_eq_true rfl)) (fun σ2 => ?_)
    refine bo_aload_n hx dX7_readDrinker_18 rfl 1 rfl ?_
    refine gf_X7_95 hx hr1 dX7_readDrinker_19 ?_
    refine bo_aload_n hx dX7_readDrinker_22 rfl 1 rfl ?_
    refine gf_X7_92 hx hr1 dX7_readDrinker_23 ?_
    refine bo_aload_n hx dX7_readDrinker_26 rfl 0 rfl ?_
    refine bo_iconst (v := 1) hx dX7_readDrinker_27 (by decide) ?_
    refine bo_bipush (v := 40) hx dX7_readDrinker_28 (by decide) ?_
    refine bo_goW (z := false) hx (fun rr hh => bo_runV (As := [.int 1, .int 40]) (S := [.int (σ2 r1 11), .ref (bo_a x (r1 + 1))]) hx dX7_readDrinker_30 lk_X7_76 mi_X7_readNumber bo_o_1 rfl rfl (kX7_readNumber (bo_l x) (bo_g x) hx.inj σ2 1 40 rr hh) ⟨by decide, by decide⟩ rfl rfl (Nat.le_of_ble_eq_true rfl)) (fun a3 ha3 => ?_)
    refine bo_goV hx (fun rr hh => bo_runS (As := [.ref (bo_a x (r1 + 1)), .int (σ2 r1 11), .int a3.1]) (S := []) hx dX7_readDrinker_33 lk_X7_22 ms_X8_put (kX8_put (bo_l x) (bo_g x) hx.inj a3.2 7 (r1 + 1) (σ2 r1 11) a3.1 hr1.a1 rr hh) ⟨by decide, by decide⟩ rfl rfl (Nat.le_of_ble_eq_true rfl)) (fun σ4 => ?_)
    refine bo_aload_n hx dX7_readDrinker_36 rfl 1 rfl ?_
    refine gf_X7_98 hx hr1 dX7_readDrinker_37 ?_
    refine bo_aload_n hx dX7_readDrinker_40 rfl 1 rfl ?_
    refine gf_X7_92 hx hr1 dX7_readDrinker_41 ?_
    refine bo_aload_n hx dX7_readDrinker_44 rfl 0 rfl ?_
    refine bo_iconst (v := 1) hx dX7_readDrinker_45 (by decide) ?_
    refine bo_bipush (v := 20) hx dX7_readDrinker_46 (by decide) ?_
    refine bo_goW (z := false) hx (fun rr hh => bo_runV (As := [.int 1, .int 20]) (S := [.int (σ4 r1 11), .ref (bo_a x (r1 + 2))]) hx dX7_readDrinker_48 lk_X7_76 mi_X7_readNumber bo_o_1 rfl rfl (kX7_readNumber (bo_l x) (bo_g x) hx.inj σ4 1 20 rr hh) ⟨by decide, by decide⟩ rfl rfl (Nat.le_of_ble_eq_true rfl)) (fun a5 ha5 => ?_)
    refine bo_goV hx (fun rr hh => bo_runS (As := [.ref (bo_a x (r1 + 2)), .int (σ4 r1 11), .int a5.1]) (S := []) hx dX7_readDrinker_51 lk_X7_22 ms_X8_put (kX8_put (bo_l x) (bo_g x) hx.inj a5.2 7 (r1 + 2) (σ4 r1 11) a5.1 hr1.a2 rr hh) ⟨by decide, by decide⟩ rfl rfl (Nat.le_of_ble_eq_true rfl)) (fun σ6 => ?_)
    refine bo_aload_n hx dX7_readDrinker_54 rfl 1 rfl ?_
    refine gf_X7_101 hx hr1 dX7_readDrinker_55 ?_
    refine bo_aload_n hx dX7_readDrinker_58 rfl 1 rfl ?_
    refine gf_X7_92 hx hr1 dX7_readDrinker_59 ?_
    refine bo_aload_n hx dX7_readDrinker_62 rfl 0 rfl ?_
    refine bo_iconst (v := 0) hx dX7_readDrinker_63 (by decide) ?_
    refine bo_bipush (v := 100) hx dX7_readDrinker_64 (by decide) ?_
    refine bo_goW (z := false) hx (fun rr hh => bo_runV (As := [.int 0, .int 100]) (S := [.int (σ6 r1 11), .ref (bo_a x (r1 + 3))]) hx dX7_readDrinker_66 lk_X7_76 mi_X7_readNumber bo_o_1 rfl rfl (kX7_readNumber (bo_l x) (bo_g x) hx.inj σ6 0 100 rr hh) ⟨by decide, by decide⟩ rfl rfl (Nat.le_of_ble_eq_true rfl)) (fun a7 ha7 => ?_)
    refine bo_goV hx (fun rr hh => bo_runS (As := [.ref (bo_a x (r1 + 3)), .int (σ6 r1 11), .int a7.1]) (S := []) hx dX7_readDrinker_69 lk_X7_22 ms_X8_put (kX8_put (bo_l x) (bo_g x) hx.inj a7.2 7 (r1 + 3) (σ6 r1 11) a7.1 hr1.a3 rr hh) ⟨by decide, by decide⟩ rfl rfl (Nat.le_of_ble_eq_true rfl)) (fun σ8 => ?_)
    refine bo_aload_n hx dX7_readDrinker_72 rfl 0 rfl ?_
    refine bo_goV hx (fun rr hh => bo_runV (As := []) (S := []) hx dX7_readDrinker_73 lk_X7_89 mi_X7_endClause bo_o_1 rfl rfl (kX7_endClause (bo_l x) (bo_g x) hx.inj σ8 rr hh) ⟨by decide, by decide⟩ rfl rfl (Nat.le_of_ble_eq_true rfl)) (fun σ9 => ?_)
    refine bo_aload_n hx dX7_readDrinker_76 rfl 1 rfl ?_
    refine bo_dup hx dX7_readDrinker_77 rfl ?_
    refine gf_X7_92 hx hr1 dX7_readDrinker_78 ?_
    refine bo_iconst (v := 1) hx dX7_readDrinker_81 (by decide) ?_
    refine bo_iadd hx dX7_readDrinker_82 ?_
    refine pf_X7_92 hx hr1 dX7_readDrinker_83 (fun σ10 => ?_)
    exact bo_retv dX7_readDrinker_86
theorem kX7_readDrinker (l : Launch) (g : bo_G) (hi : bo_inj g) (σ : bo_M) (r1 : Nat) (hr1 : bo_isInn r1) : bo_CV l g yX7_readDrinker cX7_readDrinker 2 none 3 65 [.ref (g.2.2 1), .ref (g.2.2 r1)] σ (mX7_readDrinker σ r1) :=
  bo_metV rfl  (by decide) rfl hi (Nat.le_of_ble_eq_true rfl) (fun x e1 e2 hx => by subst e1; subst e2; exact bX7_readDrinker x hx σ r1 hr1)
-- BellRope$Reader.readSexton
theorem dX7_readSexton_0 : decode cX7_readSexton 0 = .ok (.aload_n 0, 1) := by decide +kernel
theorem dX7_readSexton_1 : decode cX7_readSexton 1 = .ok (.aload_n 1, 1) := by decide +kernel
theorem dX7_readSexton_2 : decode cX7_readSexton 2 = .ok (.getfield 104, 3) := by decide +kernel
theorem dX7_readSexton_5 : decode cX7_readSexton 5 = .ok (.iconst 4, 1) := by decide +kernel
theorem dX7_readSexton_13 : decode cX7_readSexton 13 = .ok (.iconst 0, 1) := by decide +kernel
theorem dX7_readSexton_9 : decode cX7_readSexton 9 = .ok (.iconst 1, 1) := by decide +kernel
theorem dX7_readSexton_10 : decode cX7_readSexton 10 = .ok (.goto 4, 3) := by decide +kernel
theorem dX7_readSexton_6 : decode cX7_readSexton 6 = .ok (.if_icmp .lt 7, 3) := by decide +kernel
theorem dX7_readSexton_14 : decode cX7_readSexton 14 = .ok (.invokevirtual 72, 3) := by decide +kernel
theorem dX7_readSexton_17 : decode cX7_readSexton 17 = .ok (.aload_n 0, 1) := by decide +kernel
theorem dX7_readSexton_18 : decode cX7_readSexton 18 = .ok (.iconst 0, 1) := by decide +kernel
theorem dX7_readSexton_19 : decode cX7_readSexton 19 = .ok (.bipush 95, 2) := by decide +kernel
theorem dX7_readSexton_21 : decode cX7_readSexton 21 = .ok (.invokevirtual 76, 3) := by decide +kernel
theorem dX7_readSexton_24 : decode cX7_readSexton 24 = .ok (.istore_n 2, 1) := by decide +kernel
theorem dX7_readSexton_25 : decode cX7_readSexton 25 = .ok (.aload_n 0, 1) := by decide +kernel
theorem dX7_readSexton_26 : decode cX7_readSexton 26 = .ok (.iconst 1, 1) := by decide +kernel
theorem dX7_readSexton_27 : decode cX7_readSexton 27 = .ok (.bipush 24, 2) := by decide +kernel
theorem dX7_readSexton_29 : decode cX7_readSexton 29 = .ok (.bipush 96, 2) := by decide +kernel
theorem dX7_readSexton_31 : decode cX7_readSexton 31 = .ok (.iload_n 2, 1) := by decide +kernel
theorem dX7_readSexton_32 : decode cX7_readSexton 32 = .ok (.isub, 1) := by decide +kernel
theorem dX7_readSexton_33 : decode cX7_readSexton 33 = .ok (.invokestatic 107, 3) := by decide +kernel
theorem dX7_readSexton_36 : decode cX7_readSexton 36 = .ok (.invokevirtual 76, 3) := by decide +kernel
theorem dX7_readSexton_39 : decode cX7_readSexton 39 = .ok (.istore_n 3, 1) := by decide +kernel
theorem dX7_readSexton_40 : decode cX7_readSexton 40 = .ok (.aload_n 0, 1) := by decide +kernel
theorem dX7_readSexton_41 : decode cX7_readSexton 41 = .ok (.invokevirtual 89, 3) := by decide +kernel
theorem dX7_readSexton_44 : decode cX7_readSexton 44 = .ok (.aload_n 1, 1) := by decide +kernel
theorem dX7_readSexton_45 : decode cX7_readSexton 45 = .ok (.dup, 1) := by decide +kernel
theorem dX7_readSexton_46 : decode cX7_readSexton 46 = .ok (.getfield 104, 3) := by decide +kernel
theorem dX7_readSexton_49 : decode cX7_readSexton 49 = .ok (.iconst 1, 1) := by decide +kernel
theorem dX7_readSexton_50 : decode cX7_readSexton 50 = .ok (.iadd, 1) := by decide +kernel
theorem dX7_readSexton_51 : decode cX7_readSexton 51 = .ok (.putfield 104, 3) := by decide +kernel
theorem dX7_readSexton_54 : decode cX7_readSexton 54 = .ok (.iconst 0, 1) := by decide +kernel
theorem dX7_readSexton_55 : decode cX7_readSexton 55 = .ok (.istore 4, 2) := by decide +kernel
theorem dX7_readSexton_57 : decode cX7_readSexton 57 = .ok (.iload 4, 2) := by decide +kernel
theorem dX7_readSexton_59 : decode cX7_readSexton 59 = .ok (.iload_n 3, 1) := by decide +kernel
theorem dX7_readSexton_63 : decode cX7_readSexton 63 = .ok (.iload 4, 2) := by decide +kernel
theorem dX7_readSexton_65 : decode cX7_readSexton 65 = .ok (.bipush 96, 2) := by decide +kernel
theorem dX7_readSexton_70 : decode cX7_readSexton 70 = .ok (.aload_n 1, 1) := by decide +kernel
theorem dX7_readSexton_71 : decode cX7_readSexton 71 = .ok (.getfield 112, 3) := by decide +kernel
theorem dX7_readSexton_74 : decode cX7_readSexton 74 = .ok (.iload_n 2, 1) := by decide +kernel
theorem dX7_readSexton_75 : decode cX7_readSexton 75 = .ok (.iload 4, 2) := by decide +kernel
theorem dX7_readSexton_77 : decode cX7_readSexton 77 = .ok (.iadd, 1) := by decide +kernel
theorem dX7_readSexton_78 : decode cX7_readSexton 78 = .ok (.iconst 1, 1) := by decide +kernel
theorem dX7_readSexton_79 : decode cX7_readSexton 79 = .ok (.invokestatic 22, 3) := by decide +kernel
theorem dX7_readSexton_82 : decode cX7_readSexton 82 = .ok (.iinc 4 1, 3) := by decide +kernel
theorem dX7_readSexton_85 : decode cX7_readSexton 85 = .ok (.goto (-28), 3) := by decide +kernel
theorem dX7_readSexton_67 : decode cX7_readSexton 67 = .ok (.if_icmp .ge 21, 3) := by decide +kernel
theorem dX7_readSexton_60 : decode cX7_readSexton 60 = .ok (.if_icmp .ge 28, 3) := by decide +kernel
theorem dX7_readSexton_88 : decode cX7_readSexton 88 = .ok (.return_, 1) := by decide +kernel
theorem lX7_readSexton_L57 (x : bo_X) (hx : bo_OK x cX7_readSexton RX7 5 3 65) (f1 : Nat) (f2 : Int32) (f3 : Int32) (hf1 : bo_isInn f1) : ∀ (n : Nat) (w4 : Int32) (σ : bo_M), bo_D x 57 [(1, .ref (bo_a x f1)), (2, .int f2), (3, .int f3), (4, .int w4)] [] σ (mX7_readSexton_L57 f1 f2 f3 n w4 σ) (fun a => bo_N x 88 [] [] a) := by
  intro n
  induction n with
  | zero => intro w4 σ; exact bo_none
  | succ n ih =>
    intro w4 σ
    rw [mX7_readSexton_L57]
    refine bo_iload hx dX7_readSexton_57 3 rfl ?_
    refine bo_iload_n hx dX7_readSexton_59 rfl 2 rfl ?_
    refine bo_icmp_ge hx 88 dX7_readSexton_60 (by decide) ?_ ?_
    · refine bo_sub (L' := []) [] rfl ?_
      exact bo_arr (fun h => h)
    · refine bo_iload hx dX7_readSexton_63 3 rfl ?_
      refine bo_bipush (v := 96) hx dX7_readSexton_65 (by decide) ?_
      refine bo_icmp_ge hx 88 dX7_readSexton_67 (by decide) ?_ ?_
      · refine bo_sub (L' := []) [] rfl ?_
        exact bo_arr (fun h => h)
      · refine bo_aload_n hx dX7_readSexton_70 rfl 0 rfl ?_
        refine gf_X7_112 hx hf1 dX7_readSexton_71 ?_
        refine bo_iload_n hx dX7_readSexton_74 rfl 1 rfl ?_
        refine bo_iload hx dX7_readSexton_75 3 rfl ?_
        refine bo_iadd hx dX7_readSexton_77 ?_
        refine bo_iconst (v := 1) hx dX7_readSexton_78 (by decide) ?_
        refine bo_goV hx (fun rr hh => bo_runS (As := [.ref (bo_a x (f1 + 7)), .int (f2 + w4), .int 1]) (S := []) hx dX7_readSexton_79 lk_X7_22 ms_X8_put (kX8_put (bo_l x) (bo_g x) hx.inj σ 96 (f1 + 7) (f2 + w4) 1 hf1.a7 rr hh) ⟨by decide, by decide⟩ rfl rfl (Nat.le_of_ble_eq_true rfl)) (fun σ7 => ?_)
        refine bo_iinc (L' := [(4, .int (w4 + 1)), (1, .ref (bo_a x f1)), (2, .int f2), (3, .int f3)]) (w := (w4 + 1)) hx dX7_readSexton_82 3 rfl rfl (by decide) rfl ?_
        refine bo_goto hx 57 dX7_readSexton_85 (by decide) ?_
        refine bo_sub (L' := [(1, .ref (bo_a x f1)), (2, .int f2), (3, .int f3), (4, .int (w4 + 1))]) [1, 2, 3, 0] rfl ?_
        exact ih (w4 + 1) σ7
theorem bX7_readSexton (x : bo_X) (hx : bo_OK x cX7_readSexton RX7 5 3 65) (σ : bo_M) (r1 : Nat) (hr1 : bo_isInn r1) : bo_D x 0 [(0, .ref (bo_a x 1)), (1, .ref (bo_a x r1))] [] σ (mX7_readSexton σ r1) (bo_Rv x cX7_readSexton) := by
  unfold mX7_readSexton
  refine bo_aload_n hx dX7_readSexton_0 rfl 0 rfl ?_
  refine bo_aload_n hx dX7_readSexton_1 rfl 1 rfl ?_
  refine gf_X7_104 hx hr1 dX7_readSexton_2 ?_
  refine bo_iconst (v := 4) hx dX7_readSexton_5 (by decide) ?_
  refine bo_seq 14 (fun a => [(0, .ref (bo_a x 1)), (1, .ref (bo_a x r1))]) (fun a => [.int a, .ref (bo_a x 1)]) (fun a => σ) ?_ (fun a1 => ?_)
  · refine bo_icmp_lt hx 13 dX7_readSexton_6 (by decide) ?_ ?_
    · refine bo_iconst (v := 0) hx dX7_readSexton_13 (by decide) ?_
      exact bo_arr (fun h => h)
    · refine bo_iconst (v := 1) hx dX7_readSexton_9 (by decide) ?_
      refine bo_goto hx 14 dX7_readSexton_10 (by decide) ?_
      exact bo_arr (fun h => h)
  · refine bo_goV hx (fun rr hh => bo_runV (As := [.int a1]) (S := []) hx dX7_readSexton_14 lk_X7_72 mi_X7_startClause bo_o_1 rfl rfl (kX7_startClause (bo_l x) (bo_g x) hx.inj σ a1 rr hh) ⟨by decide, by decide⟩ rfl rfl (Nat.le_of_ble_eq_true rfl)) (fun σ2 => ?_)
    refine bo_aload_n hx dX7_readSexton_17 rfl 0 rfl ?_
    refine bo_iconst (v := 0) hx dX7_readSexton_18 (by decide) ?_
    refine bo_bipush (v := 95) hx dX7_readSexton_19 (by decide) ?_
    refine bo_goW (z := false) hx (fun rr hh => bo_runV (As := [.int 0, .int 95]) (S := []) hx dX7_readSexton_21 lk_X7_76 mi_X7_readNumber bo_o_1 rfl rfl (kX7_readNumber (bo_l x) (bo_g x) hx.inj σ2 0 95 rr hh) ⟨by decide, by decide⟩ rfl rfl (Nat.le_of_ble_eq_true rfl)) (fun a3 ha3 => ?_)
    refine bo_istore_n (L' := [(2, .int a3.1), (0, .ref (bo_a x 1)), (1, .ref (bo_a x r1))]) hx dX7_readSexton_24 rfl (by decide) rfl ?_
    refine bo_aload_n hx dX7_readSexton_25 rfl 1 rfl ?_
    refine bo_iconst (v := 1) hx dX7_readSexton_26 (by decide) ?_
    refine bo_bipush (v := 24) hx dX7_readSexton_27 (by decide) ?_
    refine bo_bipush (v := 96) hx dX7_readSexton_29 (by decide) ?_
    refine bo_iload_n hx dX7_readSexton_31 rfl 0 rfl ?_
    refine bo_isub hx dX7_readSexton_32 ?_
    refine bo_min hx dX7_readSexton_33 lk_X7_107 mm_min_1 mm_i mm_min_2 (by decide) (Nat.le_of_ble_eq_true rfl) ?_
    refine bo_goW (z := false) hx (fun rr hh => bo_runV (As := [.int 1, .int (if (96 - a3.1) < 24 then (96 - a3.1) else 24)]) (S := []) hx dX7_readSexton_36 lk_X7_76 mi_X7_readNumber bo_o_1 rfl rfl (kX7_readNumber (bo_l x) (bo_g x) hx.inj a3.2 1 (if (96 - a3.1) < 24 then (96 - a3.1) else 24) rr hh) ⟨by decide, by decide⟩ rfl rfl (Nat.le_of_ble_eq_true rfl)) (fun a4 ha4 => ?_)
    refine bo_istore_n (L' := [(3, .int a4.1), (2, .int a3.1), (0, .ref (bo_a x 1)), (1, .ref (bo_a x r1))]) hx dX7_readSexton_39 rfl (by decide) rfl ?_
    refine bo_aload_n hx dX7_readSexton_40 rfl 2 rfl ?_
    refine bo_goV hx (fun rr hh => bo_runV (As := []) (S := []) hx dX7_readSexton_41 lk_X7_89 mi_X7_endClause bo_o_1 rfl rfl (kX7_endClause (bo_l x) (bo_g x) hx.inj a4.2 rr hh) ⟨by decide, by decide⟩ rfl rfl (Nat.le_of_ble_eq_true rfl)) (fun σ5 => ?_)
    refine bo_aload_n hx dX7_readSexton_44 rfl 3 rfl ?_
    refine bo_dup hx dX7_readSexton_45 rfl ?_
    refine gf_X7_104 hx hr1 dX7_readSexton_46 ?_
    refine bo_iconst (v := 1) hx dX7_readSexton_49 (by decide) ?_
    refine bo_iadd hx dX7_readSexton_50 ?_
    refine pf_X7_104 hx hr1 dX7_readSexton_51 (fun σ6 => ?_)
    refine bo_iconst (v := 0) hx dX7_readSexton_54 (by decide) ?_
    refine bo_istore (L' := [(4, .int 0), (3, .int a4.1), (2, .int a3.1), (0, .ref (bo_a x 1)), (1, .ref (bo_a x r1))]) hx dX7_readSexton_55 (by decide) rfl ?_
    refine bo_sub (L' := [(1, .ref (bo_a x r1)), (2, .int a3.1), (3, .int a4.1), (4, .int 0)]) [4, 2, 1, 0] rfl ?_
    refine bo_seq 88 (fun a => []) (fun a => []) (fun a => a) (lX7_readSexton_L57 x hx r1 a3.1 a4.1 hr1 bo_fuel 0 σ6) (fun a8 => ?_)
    exact bo_retv dX7_readSexton_88
theorem kX7_readSexton (l : Launch) (g : bo_G) (hi : bo_inj g) (σ : bo_M) (r1 : Nat) (hr1 : bo_isInn r1) : bo_CV l g yX7_readSexton cX7_readSexton 5 none 3 65 [.ref (g.2.2 1), .ref (g.2.2 r1)] σ (mX7_readSexton σ r1) :=
  bo_metV rfl  (by decide) rfl hi (Nat.le_of_ble_eq_true rfl) (fun x e1 e2 hx => by subst e1; subst e2; exact bX7_readSexton x hx σ r1 hr1)
-- BellRope$Reader.readGoer
theorem dX7_readGoer_0 : decode cX7_readGoer 0 = .ok (.aload_n 0, 1) := by decide +kernel
theorem dX7_readGoer_1 : decode cX7_readGoer 1 = .ok (.aload_n 1, 1) := by decide +kernel
theorem dX7_readGoer_2 : decode cX7_readGoer 2 = .ok (.getfield 115, 3) := by decide +kernel
theorem dX7_readGoer_5 : decode cX7_readGoer 5 = .ok (.bipush 6, 2) := by decide +kernel
theorem dX7_readGoer_14 : decode cX7_readGoer 14 = .ok (.iconst 0, 1) := by decide +kernel
theorem dX7_readGoer_10 : decode cX7_readGoer 10 = .ok (.iconst 1, 1) := by decide +kernel
theorem dX7_readGoer_11 : decode cX7_readGoer 11 = .ok (.goto 4, 3) := by decide +kernel
theorem dX7_readGoer_7 : decode cX7_readGoer 7 = .ok (.if_icmp .lt 7, 3) := by decide +kernel
theorem dX7_readGoer_15 : decode cX7_readGoer 15 = .ok (.invokevirtual 72, 3) := by decide +kernel
theorem dX7_readGoer_18 : decode cX7_readGoer 18 = .ok (.aload_n 1, 1) := by decide +kernel
theorem dX7_readGoer_19 : decode cX7_readGoer 19 = .ok (.getfield 118, 3) := by decide +kernel
theorem dX7_readGoer_22 : decode cX7_readGoer 22 = .ok (.aload_n 1, 1) := by decide +kernel
theorem dX7_readGoer_23 : decode cX7_readGoer 23 = .ok (.getfield 115, 3) := by decide +kernel
theorem dX7_readGoer_26 : decode cX7_readGoer 26 = .ok (.aload_n 0, 1) := by decide +kernel
theorem dX7_readGoer_27 : decode cX7_readGoer 27 = .ok (.iconst 0, 1) := by decide +kernel
theorem dX7_readGoer_28 : decode cX7_readGoer 28 = .ok (.bipush 95, 2) := by decide +kernel
theorem dX7_readGoer_30 : decode cX7_readGoer 30 = .ok (.invokevirtual 76, 3) := by decide +kernel
theorem dX7_readGoer_33 : decode cX7_readGoer 33 = .ok (.invokestatic 22, 3) := by decide +kernel
theorem dX7_readGoer_36 : decode cX7_readGoer 36 = .ok (.aload_n 1, 1) := by decide +kernel
theorem dX7_readGoer_37 : decode cX7_readGoer 37 = .ok (.getfield 121, 3) := by decide +kernel
theorem dX7_readGoer_40 : decode cX7_readGoer 40 = .ok (.aload_n 1, 1) := by decide +kernel
theorem dX7_readGoer_41 : decode cX7_readGoer 41 = .ok (.getfield 115, 3) := by decide +kernel
theorem dX7_readGoer_44 : decode cX7_readGoer 44 = .ok (.aload_n 0, 1) := by decide +kernel
theorem dX7_readGoer_45 : decode cX7_readGoer 45 = .ok (.iconst 0, 1) := by decide +kernel
theorem dX7_readGoer_46 : decode cX7_readGoer 46 = .ok (.bipush 40, 2) := by decide +kernel
theorem dX7_readGoer_48 : decode cX7_readGoer 48 = .ok (.invokevirtual 76, 3) := by decide +kernel
theorem dX7_readGoer_51 : decode cX7_readGoer 51 = .ok (.invokestatic 22, 3) := by decide +kernel
theorem dX7_readGoer_54 : decode cX7_readGoer 54 = .ok (.aload_n 0, 1) := by decide +kernel
theorem dX7_readGoer_55 : decode cX7_readGoer 55 = .ok (.invokevirtual 89, 3) := by decide +kernel
theorem dX7_readGoer_58 : decode cX7_readGoer 58 = .ok (.aload_n 1, 1) := by decide +kernel
theorem dX7_readGoer_59 : decode cX7_readGoer 59 = .ok (.dup, 1) := by decide +kernel
theorem dX7_readGoer_60 : decode cX7_readGoer 60 = .ok (.getfield 115, 3) := by decide +kernel
theorem dX7_readGoer_63 : decode cX7_readGoer 63 = .ok (.iconst 1, 1) := by decide +kernel
theorem dX7_readGoer_64 : decode cX7_readGoer 64 = .ok (.iadd, 1) := by decide +kernel
theorem dX7_readGoer_65 : decode cX7_readGoer 65 = .ok (.putfield 115, 3) := by decide +kernel
theorem dX7_readGoer_68 : decode cX7_readGoer 68 = .ok (.return_, 1) := by decide +kernel
theorem bX7_readGoer (x : bo_X) (hx : bo_OK x cX7_readGoer RX7 2 3 65) (σ : bo_M) (r1 : Nat) (hr1 : bo_isInn r1) : bo_D x 0 [(0, .ref (bo_a x 1)), (1, .ref (bo_a x r1))] [] σ (mX7_readGoer σ r1) (bo_Rv x cX7_readGoer) := by
  unfold mX7_readGoer
  refine bo_aload_n hx dX7_readGoer_0 rfl 0 rfl ?_
  refine bo_aload_n hx dX7_readGoer_1 rfl 1 rfl ?_
  refine gf_X7_115 hx hr1 dX7_readGoer_2 ?_
  refine bo_bipush (v := 6) hx dX7_readGoer_5 (by decide) ?_
  refine bo_seq 15 (fun a => [(0, .ref (bo_a x 1)), (1, .ref (bo_a x r1))]) (fun a => [.int a, .ref (bo_a x 1)]) (fun a => σ) ?_ (fun a1 => ?_)
  · refine bo_icmp_lt hx 14 dX7_readGoer_7 (by decide) ?_ ?_
    · refine bo_iconst (v := 0) hx dX7_readGoer_14 (by decide) ?_
      exact bo_arr (fun h => h)
    · refine bo_iconst (v := 1) hx dX7_readGoer_10 (by decide) ?_
      refine bo_goto hx 15 dX7_readGoer_11 (by decide) ?_
      exact bo_arr (fun h => h)
  · refine bo_goV hx (fun rr hh => bo_runV (As := [.int a1]) (S := []) hx dX7_readGoer_15 lk_X7_72 mi_X7_startClause bo_o_1 rfl rfl (kX7_startClause (bo_l x) (bo_g x) hx.inj σ a1 rr hh) ⟨by decide, by decide⟩ rfl rfl (Nat.le_of_ble_eq_true rfl)) (fun σ2 => ?_)
    refine bo_aload_n hx dX7_readGoer_18 rfl 1 rfl ?_
    refine gf_X7_118 hx hr1 dX7_readGoer_19 ?_
    refine bo_aload_n hx dX7_readGoer_22 rfl 1 rfl ?_
    refine gf_X7_115 hx hr1 dX7_readGoer_23 ?_
    refine bo_aload_n hx dX7_readGoer_26 rfl 0 rfl ?_
    refine bo_iconst (v := 0) hx dX7_readGoer_27 (by decide) ?_
    refine bo_bipush (v := 95) hx dX7_readGoer_28 (by decide) ?_
    refine bo_goW (z := false) hx (fun rr hh => bo_runV (As := [.int 0, .int 95]) (S := [.int (σ2 r1 13), .ref (bo_a x (r1 + 4))]) hx dX7_readGoer_30 lk_X7_76 mi_X7_readNumber bo_o_1 rfl rfl (kX7_readNumber (bo_l x) (bo_g x) hx.inj σ2 0 95 rr hh) ⟨by decide, by decide⟩ rfl rfl (Nat.le_of_ble_eq_true rfl)) (fun a3 ha3 => ?_)
    refine bo_goV hx (fun rr hh => bo_runS (As := [.ref (bo_a x (r1 + 4)), .int (σ2 r1 13), .int a3.1]) (S := []) hx dX7_readGoer_33 lk_X7_22 ms_X8_put (kX8_put (bo_l x) (bo_g x) hx.inj a3.2 6 (r1 + 4) (σ2 r1 13) a3.1 hr1.a4 rr hh) ⟨by decide, by decide⟩ rfl rfl (Nat.le_of_ble_eq_true rfl)) (fun σ4 => ?_)
    refine bo_aload_n hx dX7_readGoer_36 rfl 1 rfl ?_
    refine gf_X7_121 hx hr1 dX7_readGoer_37 ?_
    refine bo_aload_n hx dX7_readGoer_40 rfl 1 rfl ?_
    refine gf_X7_115 hx hr1 dX7_readGoer_41 ?_
    refine bo_aload_n hx dX7_readGoer_44 rfl 0 rfl ?_
    refine bo_iconst (v := 0) hx dX7_readGoer_45 (by decide) ?_
    refine bo_bipush (v := 40) hx dX7_readGoer_46 (by decide) ?_
    refine bo_goW (z := false) hx (fun rr hh => bo_runV (As := [.int 0, .int 40]) (S := [.int (σ4 r1 13), .ref (bo_a x (r1 + 5))]) hx dX7_readGoer_48 lk_X7_76 mi_X7_readNumber bo_o_1 rfl rfl (kX7_readNumber (bo_l x) (bo_g x) hx.inj σ4 0 40 rr hh) ⟨by decide, by decide⟩ rfl rfl (Nat.le_of_ble_eq_true rfl)) (fun a5 ha5 => ?_)
    refine bo_goV hx (fun rr hh => bo_runS (As := [.ref (bo_a x (r1 + 5)), .int (σ4 r1 13), .int a5.1]) (S := []) hx dX7_readGoer_51 lk_X7_22 ms_X8_put (kX8_put (bo_l x) (bo_g x) hx.inj a5.2 6 (r1 + 5) (σ4 r1 13) a5.1 hr1.a5 rr hh) ⟨by decide, by decide⟩ rfl rfl (Nat.le_of_ble_eq_true rfl)) (fun σ6 => ?_)
    refine bo_aload_n hx dX7_readGoer_54 rfl 0 rfl ?_
    refine bo_goV hx (fun rr hh => bo_runV (As := []) (S := []) hx dX7_readGoer_55 lk_X7_89 mi_X7_endClause bo_o_1 rfl rfl (kX7_endClause (bo_l x) (bo_g x) hx.inj σ6 rr hh) ⟨by decide, by decide⟩ rfl rfl (Nat.le_of_ble_eq_true rfl)) (fun σ7 => ?_)
    refine bo_aload_n hx dX7_readGoer_58 rfl 1 rfl ?_
    refine bo_dup hx dX7_readGoer_59 rfl ?_
    refine gf_X7_115 hx hr1 dX7_readGoer_60 ?_
    refine bo_iconst (v := 1) hx dX7_readGoer_63 (by decide) ?_
    refine bo_iadd hx dX7_readGoer_64 ?_
    refine pf_X7_115 hx hr1 dX7_readGoer_65 (fun σ8 => ?_)
    exact bo_retv dX7_readGoer_68
theorem kX7_readGoer (l : Launch) (g : bo_G) (hi : bo_inj g) (σ : bo_M) (r1 : Nat) (hr1 : bo_isInn r1) : bo_CV l g yX7_readGoer cX7_readGoer 2 none 3 65 [.ref (g.2.2 1), .ref (g.2.2 r1)] σ (mX7_readGoer σ r1) :=
  bo_metV rfl  (by decide) rfl hi (Nat.le_of_ble_eq_true rfl) (fun x e1 e2 hx => by subst e1; subst e2; exact bX7_readGoer x hx σ r1 hr1)
-- BellRope$Inn.signalsOf
theorem dX4_signalsOf_0 : decode cX4_signalsOf 0 = .ok (.iconst 0, 1) := by decide +kernel
theorem dX4_signalsOf_1 : decode cX4_signalsOf 1 = .ok (.istore_n 2, 1) := by decide +kernel
theorem dX4_signalsOf_2 : decode cX4_signalsOf 2 = .ok (.iconst 0, 1) := by decide +kernel
theorem dX4_signalsOf_3 : decode cX4_signalsOf 3 = .ok (.istore_n 3, 1) := by decide +kernel
theorem dX4_signalsOf_4 : decode cX4_signalsOf 4 = .ok (.iload_n 3, 1) := by decide +kernel
theorem dX4_signalsOf_5 : decode cX4_signalsOf 5 = .ok (.aload_n 0, 1) := by decide +kernel
theorem dX4_signalsOf_6 : decode cX4_signalsOf 6 = .ok (.getfield 56, 3) := by decide +kernel
theorem dX4_signalsOf_12 : decode cX4_signalsOf 12 = .ok (.aload_n 0, 1) := by decide +kernel
theorem dX4_signalsOf_13 : decode cX4_signalsOf 13 = .ok (.getfield 27, 3) := by decide +kernel
theorem dX4_signalsOf_16 : decode cX4_signalsOf 16 = .ok (.iload_n 3, 1) := by decide +kernel
theorem dX4_signalsOf_17 : decode cX4_signalsOf 17 = .ok (.invokestatic 65, 3) := by decide +kernel
theorem dX4_signalsOf_20 : decode cX4_signalsOf 20 = .ok (.iload_n 1, 1) := by decide +kernel
theorem dX4_signalsOf_24 : decode cX4_signalsOf 24 = .ok (.iload_n 2, 1) := by decide +kernel
theorem dX4_signalsOf_25 : decode cX4_signalsOf 25 = .ok (.iconst 1, 1) := by decide +kernel
theorem dX4_signalsOf_26 : decode cX4_signalsOf 26 = .ok (.iload_n 3, 1) := by decide +kernel
theorem dX4_signalsOf_27 : decode cX4_signalsOf 27 = .ok (.ishl, 1) := by decide +kernel
theorem dX4_signalsOf_28 : decode cX4_signalsOf 28 = .ok (.ior, 1) := by decide +kernel
theorem dX4_signalsOf_29 : decode cX4_signalsOf 29 = .ok (.istore_n 2, 1) := by decide +kernel
theorem dX4_signalsOf_21 : decode cX4_signalsOf 21 = .ok (.if_icmp .ne 9, 3) := by decide +kernel
theorem dX4_signalsOf_30 : decode cX4_signalsOf 30 = .ok (.iinc 3 1, 3) := by decide +kernel
theorem dX4_signalsOf_33 : decode cX4_signalsOf 33 = .ok (.goto (-29), 3) := by decide +kernel
theorem dX4_signalsOf_9 : decode cX4_signalsOf 9 = .ok (.if_icmp .ge 27, 3) := by decide +kernel
theorem dX4_signalsOf_36 : decode cX4_signalsOf 36 = .ok (.iload_n 2, 1) := by decide +kernel
theorem dX4_signalsOf_37 : decode cX4_signalsOf 37 = .ok (.ireturn, 1) := by decide +kernel
theorem lX4_signalsOf_L4 (x : bo_X) (hx : bo_OK x cX4_signalsOf RX4 4 1 21) (σ : bo_M) (f0 : Nat) (f1 : Int32) (hf0 : bo_isInn f0) : ∀ (n : Nat) (w2 : Int32) (w3 : Int32), bo_D x 4 [(0, .ref (bo_a x f0)), (1, .int f1), (2, .int w2), (3, .int w3)] [] σ (mX4_signalsOf_L4 σ f0 f1 n w2 w3) (fun a => bo_N x 36 [(2, .int a)] [] σ) := by
  intro n
  induction n with
  | zero => intro w2 w3; exact bo_none
  | succ n ih =>
    intro w2 w3
    rw [mX4_signalsOf_L4]
    refine bo_iload_n hx dX4_signalsOf_4 rfl 3 rfl ?_
    refine bo_aload_n hx dX4_signalsOf_5 rfl 0 rfl ?_
    refine gf_X4_56 hx hf0 dX4_signalsOf_6 ?_
    refine bo_icmp_ge hx 36 dX4_signalsOf_9 (by decide) ?_ ?_
    · refine bo_sub (L' := [(2, .int w2)]) [2] rfl ?_
      exact bo_arr (fun h => h)
    · refine bo_aload_n hx dX4_signalsOf_12 rfl 0 rfl ?_
      refine gf_X4_27 hx hf0 dX4_signalsOf_13 ?_
      refine bo_iload_n hx dX4_signalsOf_16 rfl 3 rfl ?_
      refine bo_goR (z := false) hx (fun rr hh => bo_runS (As := [.ref (bo_a x (f0 + 6)), .int w3]) (S := []) hx dX4_signalsOf_17 lk_X4_65 ms_X8_at (kX8_at (bo_l x) (bo_g x) hx.inj σ 5 (f0 + 6) w3 hf0.a6 rr hh) ⟨by decide, by decide⟩ rfl rfl (Nat.le_of_ble_eq_true rfl)) (fun v1 hv1 => ?_)
      refine bo_iload_n hx dX4_signalsOf_20 rfl 1 rfl ?_
      refine bo_seq 30 (fun a => [(0, .ref (bo_a x f0)), (1, .int f1), (2, .int a), (3, .int w3)]) (fun a => []) (fun a => σ) ?_ (fun a2 => ?_)
      · refine bo_icmp_ne hx 30 dX4_signalsOf_21 (by decide) ?_ ?_
        · exact bo_arr (fun h => h)
        · refine bo_iload_n hx dX4_signalsOf_24 rfl 2 rfl ?_
          refine bo_iconst (v := 1) hx dX4_signalsOf_25 (by decide) ?_
          refine bo_iload_n hx dX4_signalsOf_26 rfl 3 rfl ?_
          refine bo_ishl hx dX4_signalsOf_27 ?_
          refine bo_ior hx dX4_signalsOf_28 ?_
          refine bo_istore_n (L' := [(2, .int (w2 ||| (1 <<< (w3 &&& 31)))), (0, .ref (bo_a x f0)), (1, .int f1), (3, .int w3)]) hx dX4_signalsOf_29 rfl (by decide) rfl ?_
          refine bo_sub (L' := [(0, .ref (bo_a x f0)), (1, .int f1), (2, .int (w2 ||| (1 <<< (w3 &&& 31)))), (3, .int w3)]) [1, 2, 0, 3] rfl ?_
          exact bo_arr (fun h => h)
      · refine bo_iinc (L' := [(3, .int (w3 + 1)), (0, .ref (bo_a x f0)), (1, .int f1), (2, .int a2)]) (w := (w3 + 1)) hx dX4_signalsOf_30 3 rfl rfl (by decide) rfl ?_
        refine bo_goto hx 4 dX4_signalsOf_33 (by decide) ?_
        refine bo_sub (L' := [(0, .ref (bo_a x f0)), (1, .int f1), (2, .int a2), (3, .int (w3 + 1))]) [1, 2, 3, 0] rfl ?_
        exact ih a2 (w3 + 1)
theorem bX4_signalsOf (x : bo_X) (hx : bo_OK x cX4_signalsOf RX4 4 1 21) (σ : bo_M) (o : Nat) (p1 : Int32) (ho : bo_isInn o) : bo_D x 0 [(0, .ref (bo_a x o)), (1, .int p1)] [] σ (mX4_signalsOf σ o p1) (bo_Ri x cX4_signalsOf σ false) := by
  unfold mX4_signalsOf
  refine bo_iconst (v := 0) hx dX4_signalsOf_0 (by decide) ?_
  refine bo_istore_n (L' := [(2, .int 0), (0, .ref (bo_a x o)), (1, .int p1)]) hx dX4_signalsOf_1 rfl (by decide) rfl ?_
  refine bo_iconst (v := 0) hx dX4_signalsOf_2 (by decide) ?_
  refine bo_istore_n (L' := [(3, .int 0), (2, .int 0), (0, .ref (bo_a x o)), (1, .int p1)]) hx dX4_signalsOf_3 rfl (by decide) rfl ?_
  refine bo_sub (L' := [(0, .ref (bo_a x o)), (1, .int p1), (2, .int 0), (3, .int 0)]) [2, 3, 1, 0] rfl ?_
  refine bo_seq 36 (fun a => [(2, .int a)]) (fun a => []) (fun a => σ) (lX4_signalsOf_L4 x hx σ o p1 ho bo_fuel 0 0) (fun a3 => ?_)
  refine bo_iload_n hx dX4_signalsOf_36 rfl 0 rfl ?_
  exact bo_ret dX4_signalsOf_37 (fun h => by cases h)
theorem kX4_signalsOf (l : Launch) (g : bo_G) (hi : bo_inj g) (σ : bo_M) (o : Nat) (p1 : Int32) (ho : bo_isInn o) : bo_CR l g yX4_signalsOf cX4_signalsOf 4 (some .int) 1 21 [.ref (g.2.2 o), .int p1] σ false (mX4_signalsOf σ o p1) :=
  bo_metR rfl (Or.inl ⟨rfl, rfl⟩) (by decide) rfl hi (Nat.le_of_ble_eq_true rfl) (fun x e1 e2 hx => by subst e1; subst e2; exact bX4_signalsOf x hx σ o p1 ho)
-- BellRope$Reader.readSignal
theorem dX7_readSignal_0 : decode cX7_readSignal 0 = .ok (.aload_n 0, 1) := by decide +kernel
theorem dX7_readSignal_1 : decode cX7_readSignal 1 = .ok (.aload_n 1, 1) := by decide +kernel
theorem dX7_readSignal_2 : decode cX7_readSignal 2 = .ok (.getfield 124, 3) := by decide +kernel
theorem dX7_readSignal_5 : decode cX7_readSignal 5 = .ok (.iconst 5, 1) := by decide +kernel
theorem dX7_readSignal_13 : decode cX7_readSignal 13 = .ok (.iconst 0, 1) := by decide +kernel
theorem dX7_readSignal_9 : decode cX7_readSignal 9 = .ok (.iconst 1, 1) := by decide +kernel
theorem dX7_readSignal_10 : decode cX7_readSignal 10 = .ok (.goto 4, 3) := by decide +kernel
theorem dX7_readSignal_6 : decode cX7_readSignal 6 = .ok (.if_icmp .lt 7, 3) := by decide +kernel
theorem dX7_readSignal_14 : decode cX7_readSignal 14 = .ok (.invokevirtual 72, 3) := by decide +kernel
theorem dX7_readSignal_17 : decode cX7_readSignal 17 = .ok (.aload_n 0, 1) := by decide +kernel
theorem dX7_readSignal_18 : decode cX7_readSignal 18 = .ok (.iconst 1, 1) := by decide +kernel
theorem dX7_readSignal_19 : decode cX7_readSignal 19 = .ok (.bipush 16, 2) := by decide +kernel
theorem dX7_readSignal_21 : decode cX7_readSignal 21 = .ok (.invokevirtual 76, 3) := by decide +kernel
theorem dX7_readSignal_24 : decode cX7_readSignal 24 = .ok (.istore_n 2, 1) := by decide +kernel
theorem dX7_readSignal_25 : decode cX7_readSignal 25 = .ok (.aload_n 1, 1) := by decide +kernel
theorem dX7_readSignal_26 : decode cX7_readSignal 26 = .ok (.iload_n 2, 1) := by decide +kernel
theorem dX7_readSignal_27 : decode cX7_readSignal 27 = .ok (.invokevirtual 127, 3) := by decide +kernel
theorem dX7_readSignal_33 : decode cX7_readSignal 33 = .ok (.aload_n 0, 1) := by decide +kernel
theorem dX7_readSignal_34 : decode cX7_readSignal 34 = .ok (.iconst 4, 1) := by decide +kernel
theorem dX7_readSignal_35 : decode cX7_readSignal 35 = .ok (.aload_n 0, 1) := by decide +kernel
theorem dX7_readSignal_36 : decode cX7_readSignal 36 = .ok (.getfield 131, 3) := by decide +kernel
theorem dX7_readSignal_39 : decode cX7_readSignal 39 = .ok (.invokevirtual 53, 3) := by decide +kernel
theorem dX7_readSignal_30 : decode cX7_readSignal 30 = .ok (.ifCond .eq 12, 3) := by decide +kernel
theorem dX7_readSignal_42 : decode cX7_readSignal 42 = .ok (.aload_n 0, 1) := by decide +kernel
theorem dX7_readSignal_43 : decode cX7_readSignal 43 = .ok (.invokevirtual 89, 3) := by decide +kernel
theorem dX7_readSignal_46 : decode cX7_readSignal 46 = .ok (.aload_n 1, 1) := by decide +kernel
theorem dX7_readSignal_47 : decode cX7_readSignal 47 = .ok (.getfield 134, 3) := by decide +kernel
theorem dX7_readSignal_50 : decode cX7_readSignal 50 = .ok (.aload_n 1, 1) := by decide +kernel
theorem dX7_readSignal_51 : decode cX7_readSignal 51 = .ok (.getfield 124, 3) := by decide +kernel
theorem dX7_readSignal_54 : decode cX7_readSignal 54 = .ok (.iload_n 2, 1) := by decide +kernel
theorem dX7_readSignal_55 : decode cX7_readSignal 55 = .ok (.invokestatic 22, 3) := by decide +kernel
theorem dX7_readSignal_58 : decode cX7_readSignal 58 = .ok (.aload_n 1, 1) := by decide +kernel
theorem dX7_readSignal_59 : decode cX7_readSignal 59 = .ok (.dup, 1) := by decide +kernel
theorem dX7_readSignal_60 : decode cX7_readSignal 60 = .ok (.getfield 124, 3) := by decide +kernel
theorem dX7_readSignal_63 : decode cX7_readSignal 63 = .ok (.iconst 1, 1) := by decide +kernel
theorem dX7_readSignal_64 : decode cX7_readSignal 64 = .ok (.iadd, 1) := by decide +kernel
theorem dX7_readSignal_65 : decode cX7_readSignal 65 = .ok (.putfield 124, 3) := by decide +kernel
theorem dX7_readSignal_68 : decode cX7_readSignal 68 = .ok (.return_, 1) := by decide +kernel
theorem bX7_readSignal (x : bo_X) (hx : bo_OK x cX7_readSignal RX7 3 3 65) (σ : bo_M) (r1 : Nat) (hr1 : bo_isInn r1) : bo_D x 0 [(0, .ref (bo_a x 1)), (1, .ref (bo_a x r1))] [] σ (mX7_readSignal σ r1) (bo_Rv x cX7_readSignal) := by
  unfold mX7_readSignal
  refine bo_aload_n hx dX7_readSignal_0 rfl 0 rfl ?_
  refine bo_aload_n hx dX7_readSignal_1 rfl 1 rfl ?_
  refine gf_X7_124 hx hr1 dX7_readSignal_2 ?_
  refine bo_iconst (v := 5) hx dX7_readSignal_5 (by decide) ?_
  refine bo_seq 14 (fun a => [(0, .ref (bo_a x 1)), (1, .ref (bo_a x r1))]) (fun a => [.int a, .ref (bo_a x 1)]) (fun a => σ) ?_ (fun a1 => ?_)
  · refine bo_icmp_lt hx 13 dX7_readSignal_6 (by decide) ?_ ?_
    · refine bo_iconst (v := 0) hx dX7_readSignal_13 (by decide) ?_
      exact bo_arr (fun h => h)
    · refine bo_iconst (v := 1) hx dX7_readSignal_9 (by decide) ?_
      refine bo_goto hx 14 dX7_readSignal_10 (by decide) ?_
      exact bo_arr (fun h => h)
  · refine bo_goV hx (fun rr hh => bo_runV (As := [.int a1]) (S := []) hx dX7_readSignal_14 lk_X7_72 mi_X7_startClause bo_o_1 rfl rfl (kX7_startClause (bo_l x) (bo_g x) hx.inj σ a1 rr hh) ⟨by decide, by decide⟩ rfl rfl (Nat.le_of_ble_eq_true rfl)) (fun σ2 => ?_)
    refine bo_aload_n hx dX7_readSignal_17 rfl 0 rfl ?_
    refine bo_iconst (v := 1) hx dX7_readSignal_18 (by decide) ?_
    refine bo_bipush (v := 16) hx dX7_readSignal_19 (by decide) ?_
    refine bo_goW (z := false) hx (fun rr hh => bo_runV (As := [.int 1, .int 16]) (S := []) hx dX7_readSignal_21 lk_X7_76 mi_X7_readNumber bo_o_1 rfl rfl (kX7_readNumber (bo_l x) (bo_g x) hx.inj σ2 1 16 rr hh) ⟨by decide, by decide⟩ rfl rfl (Nat.le_of_ble_eq_true rfl)) (fun a3 ha3 => ?_)
    refine bo_istore_n (L' := [(2, .int a3.1), (0, .ref (bo_a x 1)), (1, .ref (bo_a x r1))]) hx dX7_readSignal_24 rfl (by decide) rfl ?_
    refine bo_aload_n hx dX7_readSignal_25 rfl 2 rfl ?_
    refine bo_iload_n hx dX7_readSignal_26 rfl 0 rfl ?_
    refine bo_goR (z := false) hx (fun rr hh => bo_runV (As := [.int a3.1]) (S := []) hx dX7_readSignal_27 lk_X7_127 mi_X4_signalsOf hr1.o rfl rfl (kX4_signalsOf (bo_l x) (bo_g x) hx.inj a3.2 r1 a3.1 hr1 rr hh) ⟨by decide, by decide⟩ rfl rfl (Nat.le_of_ble_eq_true rfl)) (fun v4 hv4 => ?_)
    refine bo_seq 42 (fun a => [(0, .ref (bo_a x 1)), (1, .ref (bo_a x r1)), (2, .int a3.1)]) (fun a => []) (fun a => a) ?_ (fun a5 => ?_)
    · refine bo_if_eq hx 42 dX7_readSignal_30 (by decide) ?_ ?_
      · refine bo_sub (L' := [(0, .ref (bo_a x 1)), (1, .ref (bo_a x r1)), (2, .int a3.1)]) [1, 2, 0] rfl ?_
        exact bo_arr (fun h => h)
      · refine bo_aload_n hx dX7_readSignal_33 rfl 1 rfl ?_
        refine bo_iconst (v := 4) hx dX7_readSignal_34 (by decide) ?_
        refine bo_aload_n hx dX7_readSignal_35 rfl 1 rfl ?_
        refine gf_X7_131 hx dX7_readSignal_36 ?_
        refine bo_goV hx (fun rr hh => bo_runV (As := [.int 4, .int (a3.2 1 2)]) (S := []) hx dX7_readSignal_39 lk_X7_53 mi_X7_wrong bo_o_1 rfl rfl (kX7_wrong (bo_l x) (bo_g x) hx.inj a3.2 4 (a3.2 1 2) rr hh) ⟨by decide, by decide⟩ rfl rfl (Nat.le_of_ble_eq_true rfl)) (fun σ6 => ?_)
        refine bo_sub (L' := [(0, .ref (bo_a x 1)), (1, .ref (bo_a x r1)), (2, .int a3.1)]) [1, 2, 0] rfl ?_
        exact bo_arr (fun h => h)
    · refine bo_aload_n hx dX7_readSignal_42 rfl 0 rfl ?_
      refine bo_goV hx (fun rr hh => bo_runV (As := []) (S := []) hx dX7_readSignal_43 lk_X7_89 mi_X7_endClause bo_o_1 rfl rfl (kX7_endClause (bo_l x) (bo_g x) hx.inj a5 rr hh) ⟨by decide, by decide⟩ rfl rfl (Nat.le_of_ble_eq_true rfl)) (fun σ7 => ?_)
      refine bo_aload_n hx dX7_readSignal_46 rfl 1 rfl ?_
      refine gf_X7_134 hx hr1 dX7_readSignal_47 ?_
      refine bo_aload_n hx dX7_readSignal_50 rfl 1 rfl ?_
      refine gf_X7_124 hx hr1 dX7_readSignal_51 ?_
      refine bo_iload_n hx dX7_readSignal_54 rfl 2 rfl ?_
      refine bo_goV hx (fun rr hh => bo_runS (As := [.ref (bo_a x (r1 + 6)), .int (σ7 r1 14), .int a3.1]) (S := []) hx dX7_readSignal_55 lk_X7_22 ms_X8_put (kX8_put (bo_l x) (bo_g x) hx.inj σ7 5 (r1 + 6) (σ7 r1 14) a3.1 hr1.a6 rr hh) ⟨by decide, by decide⟩ rfl rfl (Nat.le_of_ble_eq_true rfl)) (fun σ8 => ?_)
      refine bo_aload_n hx dX7_readSignal_58 rfl 1 rfl ?_
      refine bo_dup hx dX7_readSignal_59 rfl ?_
      refine gf_X7_124 hx hr1 dX7_readSignal_60 ?_
      refine bo_iconst (v := 1) hx dX7_readSignal_63 (by decide) ?_
      refine bo_iadd hx dX7_readSignal_64 ?_
      refine pf_X7_124 hx hr1 dX7_readSignal_65 (fun σ9 => ?_)
      exact bo_retv dX7_readSignal_68
theorem kX7_readSignal (l : Launch) (g : bo_G) (hi : bo_inj g) (σ : bo_M) (r1 : Nat) (hr1 : bo_isInn r1) : bo_CV l g yX7_readSignal cX7_readSignal 3 none 3 65 [.ref (g.2.2 1), .ref (g.2.2 r1)] σ (mX7_readSignal σ r1) :=
  bo_metV rfl  (by decide) rfl hi (Nat.le_of_ble_eq_true rfl) (fun x e1 e2 hx => by subst e1; subst e2; exact bX7_readSignal x hx σ r1 hr1)
-- BellRope$Reader.readClause
theorem dX7_readClause_0 : decode cX7_readClause 0 = .ok (.aload_n 0, 1) := by decide +kernel
theorem dX7_readClause_1 : decode cX7_readClause 1 = .ok (.getfield 9, 3) := by decide +kernel
theorem dX7_readClause_4 : decode cX7_readClause 4 = .ok (.aload_n 0, 1) := by decide +kernel
theorem dX7_readClause_5 : decode cX7_readClause 5 = .ok (.getfield 28, 3) := by decide +kernel
theorem dX7_readClause_8 : decode cX7_readClause 8 = .ok (.invokestatic 46, 3) := by decide +kernel
theorem dX7_readClause_11 : decode cX7_readClause 11 = .ok (.istore_n 2, 1) := by decide +kernel
theorem dX7_readClause_12 : decode cX7_readClause 12 = .ok (.aload_n 1, 1) := by decide +kernel
theorem dX7_readClause_13 : decode cX7_readClause 13 = .ok (.getfield 49, 3) := by decide +kernel
theorem dX7_readClause_35 : decode cX7_readClause 35 = .ok (.iload_n 2, 1) := by decide +kernel
theorem dX7_readClause_88 : decode cX7_readClause 88 = .ok (.aload_n 0, 1) := by decide +kernel
theorem dX7_readClause_89 : decode cX7_readClause 89 = .ok (.aload_n 1, 1) := by decide +kernel
theorem dX7_readClause_90 : decode cX7_readClause 90 = .ok (.invokevirtual 57, 3) := by decide +kernel
theorem dX7_readClause_93 : decode cX7_readClause 93 = .ok (.goto 44, 3) := by decide +kernel
theorem dX7_readClause_137 : decode cX7_readClause 137 = .ok (.return_, 1) := by decide +kernel
theorem dX7_readClause_96 : decode cX7_readClause 96 = .ok (.aload_n 0, 1) := by decide +kernel
theorem dX7_readClause_97 : decode cX7_readClause 97 = .ok (.aload_n 1, 1) := by decide +kernel
theorem dX7_readClause_98 : decode cX7_readClause 98 = .ok (.invokevirtual 60, 3) := by decide +kernel
theorem dX7_readClause_101 : decode cX7_readClause 101 = .ok (.goto 36, 3) := by decide +kernel
theorem dX7_readClause_112 : decode cX7_readClause 112 = .ok (.aload_n 0, 1) := by decide +kernel
theorem dX7_readClause_113 : decode cX7_readClause 113 = .ok (.aload_n 1, 1) := by decide +kernel
theorem dX7_readClause_114 : decode cX7_readClause 114 = .ok (.invokevirtual 66, 3) := by decide +kernel
theorem dX7_readClause_117 : decode cX7_readClause 117 = .ok (.goto 20, 3) := by decide +kernel
theorem dX7_readClause_120 : decode cX7_readClause 120 = .ok (.aload_n 0, 1) := by decide +kernel
theorem dX7_readClause_121 : decode cX7_readClause 121 = .ok (.aload_n 1, 1) := by decide +kernel
theorem dX7_readClause_122 : decode cX7_readClause 122 = .ok (.invokevirtual 69, 3) := by decide +kernel
theorem dX7_readClause_125 : decode cX7_readClause 125 = .ok (.goto 12, 3) := by decide +kernel
theorem dX7_readClause_104 : decode cX7_readClause 104 = .ok (.aload_n 0, 1) := by decide +kernel
theorem dX7_readClause_105 : decode cX7_readClause 105 = .ok (.aload_n 1, 1) := by decide +kernel
theorem dX7_readClause_106 : decode cX7_readClause 106 = .ok (.invokevirtual 63, 3) := by decide +kernel
theorem dX7_readClause_109 : decode cX7_readClause 109 = .ok (.goto 28, 3) := by decide +kernel
theorem dX7_readClause_128 : decode cX7_readClause 128 = .ok (.aload_n 0, 1) := by decide +kernel
theorem dX7_readClause_129 : decode cX7_readClause 129 = .ok (.iconst 1, 1) := by decide +kernel
theorem dX7_readClause_130 : decode cX7_readClause 130 = .ok (.aload_n 0, 1) := by decide +kernel
theorem dX7_readClause_131 : decode cX7_readClause 131 = .ok (.getfield 28, 3) := by decide +kernel
theorem dX7_readClause_134 : decode cX7_readClause 134 = .ok (.invokevirtual 53, 3) := by decide +kernel
theorem dX7_readClause_36 : decode cX7_readClause 36 = .ok (.lookupswitch 92 #[(98, 52), (100, 60), (103, 76), (110, 84), (115, 68)], 52) := by decide +kernel
theorem dX7_readClause_19 : decode cX7_readClause 19 = .ok (.iload_n 2, 1) := by decide +kernel
theorem dX7_readClause_20 : decode cX7_readClause 20 = .ok (.bipush 98, 2) := by decide +kernel
theorem dX7_readClause_25 : decode cX7_readClause 25 = .ok (.aload_n 0, 1) := by decide +kernel
theorem dX7_readClause_26 : decode cX7_readClause 26 = .ok (.iconst 1, 1) := by decide +kernel
theorem dX7_readClause_27 : decode cX7_readClause 27 = .ok (.aload_n 0, 1) := by decide +kernel
theorem dX7_readClause_28 : decode cX7_readClause 28 = .ok (.getfield 28, 3) := by decide +kernel
theorem dX7_readClause_31 : decode cX7_readClause 31 = .ok (.invokevirtual 53, 3) := by decide +kernel
theorem dX7_readClause_34 : decode cX7_readClause 34 = .ok (.return_, 1) := by decide +kernel
theorem dX7_readClause_22 : decode cX7_readClause 22 = .ok (.if_icmp .eq 13, 3) := by decide +kernel
theorem dX7_readClause_16 : decode cX7_readClause 16 = .ok (.ifCond .ne 19, 3) := by decide +kernel
theorem bX7_readClause (x : bo_X) (hx : bo_OK x cX7_readClause RX7 3 4 89) (σ : bo_M) (r1 : Nat) (hr1 : bo_isInn r1) : bo_D x 0 [(0, .ref (bo_a x 1)), (1, .ref (bo_a x r1))] [] σ (mX7_readClause σ r1) (bo_Rv x cX7_readClause) := by
  unfold mX7_readClause
  refine bo_aload_n hx dX7_readClause_0 rfl 0 rfl ?_
  refine gf_X7_9 hx dX7_readClause_1 ?_
  refine bo_aload_n hx dX7_readClause_4 rfl 0 rfl ?_
  refine gf_X7_28 hx dX7_readClause_5 ?_
  refine bo_goR (z := false) hx (fun rr hh => bo_runS (As := [.ref (bo_a x 2), .int (σ 1 1)]) (S := []) hx dX7_readClause_8 lk_X7_46 ms_X8_at (kX8_at (bo_l x) (bo_g x) hx.inj σ 240 2 (σ 1 1) bo_c_2 rr hh) ⟨by decide, by decide⟩ rfl rfl (Nat.le_of_ble_eq_true rfl)) (fun v1 hv1 => ?_)
  refine bo_istore_n (L' := [(2, .int v1), (0, .ref (bo_a x 1)), (1, .ref (bo_a x r1))]) hx dX7_readClause_11 rfl (by decide) rfl ?_
  refine bo_aload_n hx dX7_readClause_12 rfl 2 rfl ?_
  refine gf_X7_49 hx hr1 dX7_readClause_13 ?_
  refine bo_if_ne hx 35 dX7_readClause_16 (by decide) ?_ ?_
  · refine bo_iload_n hx dX7_readClause_35 rfl 0 rfl ?_
    refine bo_by (fun c2 => ?_) (fun c2 => ?_)
    · refine bo_look (off := 52) hx 88 dX7_readClause_36 (by decide) (by rw [c2]; decide) (by decide) ?_
      refine bo_aload_n hx dX7_readClause_88 rfl 1 rfl ?_
      refine bo_aload_n hx dX7_readClause_89 rfl 2 rfl ?_
      refine bo_goV hx (fun rr hh => bo_runV (As := [.ref (bo_a x r1)]) (S := []) hx dX7_readClause_90 lk_X7_57 mi_X7_readBell bo_o_1 rfl rfl (kX7_readBell (bo_l x) (bo_g x) hx.inj σ r1 hr1 rr hh) ⟨by decide, by decide⟩ rfl rfl (Nat.le_of_ble_eq_true rfl)) (fun σ3 => ?_)
      refine bo_goto hx 137 dX7_readClause_93 (by decide) ?_
      exact bo_retv dX7_readClause_137
    · refine bo_by (fun c4 => ?_) (fun c4 => ?_)
      · refine bo_look (off := 60) hx 96 dX7_readClause_36 (by decide) (by rw [c4]; decide) (by decide) ?_
        refine bo_aload_n hx dX7_readClause_96 rfl 1 rfl ?_
        refine bo_aload_n hx dX7_readClause_97 rfl 2 rfl ?_
        refine bo_goV hx (fun rr hh => bo_runV (As := [.ref (bo_a x r1)]) (S := []) hx dX7_readClause_98 lk_X7_60 mi_X7_readDrinker bo_o_1 rfl rfl (kX7_readDrinker (bo_l x) (bo_g x) hx.inj σ r1 hr1 rr hh) ⟨by decide, by decide⟩ rfl rfl (Nat.le_of_ble_eq_true rfl)) (fun σ5 => ?_)
        refine bo_goto hx 137 dX7_readClause_101 (by decide) ?_
        exact bo_retv dX7_readClause_137
      · refine bo_by (fun c6 => ?_) (fun c6 => ?_)
        · refine bo_look (off := 76) hx 112 dX7_readClause_36 (by decide) (by rw [c6]; decide) (by decide) ?_
          refine bo_aload_n hx dX7_readClause_112 rfl 1 rfl ?_
          refine bo_aload_n hx dX7_readClause_113 rfl 2 rfl ?_
          refine bo_goV hx (fun rr hh => bo_runV (As := [.ref (bo_a x r1)]) (S := []) hx dX7_readClause_114 lk_X7_66 mi_X7_readGoer bo_o_1 rfl rfl (kX7_readGoer (bo_l x) (bo_g x) hx.inj σ r1 hr1 rr hh) ⟨by decide, by decide⟩ rfl rfl (Nat.le_of_ble_eq_true rfl)) (fun σ7 => ?_)
          refine bo_goto hx 137 dX7_readClause_117 (by decide) ?_
          exact bo_retv dX7_readClause_137
        · refine bo_by (fun c8 => ?_) (fun c8 => ?_)
          · refine bo_look (off := 84) hx 120 dX7_readClause_36 (by decide) (by rw [c8]; decide) (by decide) ?_
            refine bo_aload_n hx dX7_readClause_120 rfl 1 rfl ?_
            refine bo_aload_n hx dX7_readClause_121 rfl 2 rfl ?_
            refine bo_goV hx (fun rr hh => bo_runV (As := [.ref (bo_a x r1)]) (S := []) hx dX7_readClause_122 lk_X7_69 mi_X7_readSignal bo_o_1 rfl rfl (kX7_readSignal (bo_l x) (bo_g x) hx.inj σ r1 hr1 rr hh) ⟨by decide, by decide⟩ rfl rfl (Nat.le_of_ble_eq_true rfl)) (fun σ9 => ?_)
            refine bo_goto hx 137 dX7_readClause_125 (by decide) ?_
            exact bo_retv dX7_readClause_137
          · refine bo_by (fun c10 => ?_) (fun c10 => ?_)
            · refine bo_look (off := 68) hx 104 dX7_readClause_36 (by decide) (by rw [c10]; decide) (by decide) ?_
              refine bo_aload_n hx dX7_readClause_104 rfl 1 rfl ?_
              refine bo_aload_n hx dX7_readClause_105 rfl 2 rfl ?_
              refine bo_goV hx (fun rr hh => bo_runV (As := [.ref (bo_a x r1)]) (S := []) hx dX7_readClause_106 lk_X7_63 mi_X7_readSexton bo_o_1 rfl rfl (kX7_readSexton (bo_l x) (bo_g x) hx.inj σ r1 hr1 rr hh) ⟨by decide, by decide⟩ rfl rfl (Nat.le_of_ble_eq_true rfl)) (fun σ11 => ?_)
              refine bo_goto hx 137 dX7_readClause_109 (by decide) ?_
              exact bo_retv dX7_readClause_137
            · refine bo_look (off := 92) hx 128 dX7_readClause_36 (by decide) (by have e2 : (v1).toInt ≠ 98 := bo_ne_n c2 (by decide); have e4 : (v1).toInt ≠ 100 := bo_ne_n c4 (by decide); have e6 : (v1).toInt ≠ 103 := bo_ne_n c6 (by decide); have e8 : (v1).toInt ≠ 110 := bo_ne_n c8 (by decide); have e10 : (v1).toInt ≠ 115 := bo_ne_n c10 (by decide); simp [Op.lookupswitch.offset, List.find?, Ne.symm e2, Ne.symm e4, Ne.symm e6, Ne.symm e8, Ne.symm e10]) (by decide) ?_
              refine bo_aload_n hx dX7_readClause_128 rfl 1 rfl ?_
              refine bo_iconst (v := 1) hx dX7_readClause_129 (by decide) ?_
              refine bo_aload_n hx dX7_readClause_130 rfl 1 rfl ?_
              refine gf_X7_28 hx dX7_readClause_131 ?_
              refine bo_goV hx (fun rr hh => bo_runV (As := [.int 1, .int (σ 1 1)]) (S := []) hx dX7_readClause_134 lk_X7_53 mi_X7_wrong bo_o_1 rfl rfl (kX7_wrong (bo_l x) (bo_g x) hx.inj σ 1 (σ 1 1) rr hh) ⟨by decide, by decide⟩ rfl rfl (Nat.le_of_ble_eq_true rfl)) (fun σ12 => ?_)
              exact bo_retv dX7_readClause_137
  · refine bo_iload_n hx dX7_readClause_19 rfl 0 rfl ?_
    refine bo_bipush (v := 98) hx dX7_readClause_20 (by decide) ?_
    refine bo_icmp_eq hx 35 dX7_readClause_22 (by decide) ?_ ?_
    · refine bo_iload_n hx dX7_readClause_35 rfl 0 rfl ?_
      refine bo_by (fun c13 => ?_) (fun c13 => ?_)
      · refine bo_look (off := 52) hx 88 dX7_readClause_36 (by decide) (by rw [c13]; decide) (by decide) ?_
        refine bo_aload_n hx dX7_readClause_88 rfl 1 rfl ?_
        refine bo_aload_n hx dX7_readClause_89 rfl 2 rfl ?_
        refine bo_goV hx (fun rr hh => bo_runV (As := [.ref (bo_a x r1)]) (S := []) hx dX7_readClause_90 lk_X7_57 mi_X7_readBell bo_o_1 rfl rfl (kX7_readBell (bo_l x) (bo_g x) hx.inj σ r1 hr1 rr hh) ⟨by decide, by decide⟩ rfl rfl (Nat.le_of_ble_eq_true rfl)) (fun σ14 => ?_)
        refine bo_goto hx 137 dX7_readClause_93 (by decide) ?_
        exact bo_retv dX7_readClause_137
      · refine bo_by (fun c15 => ?_) (fun c15 => ?_)
        · refine bo_look (off := 60) hx 96 dX7_readClause_36 (by decide) (by rw [c15]; decide) (by decide) ?_
          refine bo_aload_n hx dX7_readClause_96 rfl 1 rfl ?_
          refine bo_aload_n hx dX7_readClause_97 rfl 2 rfl ?_
          refine bo_goV hx (fun rr hh => bo_runV (As := [.ref (bo_a x r1)]) (S := []) hx dX7_readClause_98 lk_X7_60 mi_X7_readDrinker bo_o_1 rfl rfl (kX7_readDrinker (bo_l x) (bo_g x) hx.inj σ r1 hr1 rr hh) ⟨by decide, by decide⟩ rfl rfl (Nat.le_of_ble_eq_true rfl)) (fun σ16 => ?_)
          refine bo_goto hx 137 dX7_readClause_101 (by decide) ?_
          exact bo_retv dX7_readClause_137
        · refine bo_by (fun c17 => ?_) (fun c17 => ?_)
          · refine bo_look (off := 76) hx 112 dX7_readClause_36 (by decide) (by rw [c17]; decide) (by decide) ?_
            refine bo_aload_n hx dX7_readClause_112 rfl 1 rfl ?_
            refine bo_aload_n hx dX7_readClause_113 rfl 2 rfl ?_
            refine bo_goV hx (fun rr hh => bo_runV (As := [.ref (bo_a x r1)]) (S := []) hx dX7_readClause_114 lk_X7_66 mi_X7_readGoer bo_o_1 rfl rfl (kX7_readGoer (bo_l x) (bo_g x) hx.inj σ r1 hr1 rr hh) ⟨by decide, by decide⟩ rfl rfl (Nat.le_of_ble_eq_true rfl)) (fun σ18 => ?_)
            refine bo_goto hx 137 dX7_readClause_117 (by decide) ?_
            exact bo_retv dX7_readClause_137
          · refine bo_by (fun c19 => ?_) (fun c19 => ?_)
            · refine bo_look (off := 84) hx 120 dX7_readClause_36 (by decide) (by rw [c19]; decide) (by decide) ?_
              refine bo_aload_n hx dX7_readClause_120 rfl 1 rfl ?_
              refine bo_aload_n hx dX7_readClause_121 rfl 2 rfl ?_
              refine bo_goV hx (fun rr hh => bo_runV (As := [.ref (bo_a x r1)]) (S := []) hx dX7_readClause_122 lk_X7_69 mi_X7_readSignal bo_o_1 rfl rfl (kX7_readSignal (bo_l x) (bo_g x) hx.inj σ r1 hr1 rr hh) ⟨by decide, by decide⟩ rfl rfl (Nat.le_of_ble_eq_true rfl)) (fun σ20 => ?_)
              refine bo_goto hx 137 dX7_readClause_125 (by decide) ?_
              exact bo_retv dX7_readClause_137
            · refine bo_by (fun c21 => ?_) (fun c21 => ?_)
              · refine bo_look (off := 68) hx 104 dX7_readClause_36 (by decide) (by rw [c21]; decide) (by decide) ?_
                refine bo_aload_n hx dX7_readClause_104 rfl 1 rfl ?_
                refine bo_aload_n hx dX7_readClause_105 rfl 2 rfl ?_
                refine bo_goV hx (fun rr hh => bo_runV (As := [.ref (bo_a x r1)]) (S := []) hx dX7_readClause_106 lk_X7_63 mi_X7_readSexton bo_o_1 rfl rfl (kX7_readSexton (bo_l x) (bo_g x) hx.inj σ r1 hr1 rr hh) ⟨by decide, by decide⟩ rfl rfl (Nat.le_of_ble_eq_true rfl)) (fun σ22 => ?_)
                refine bo_goto hx 137 dX7_readClause_109 (by decide) ?_
                exact bo_retv dX7_readClause_137
              · refine bo_look (off := 92) hx 128 dX7_readClause_36 (by decide) (by have e13 : (v1).toInt ≠ 98 := bo_ne_n c13 (by decide); have e15 : (v1).toInt ≠ 100 := bo_ne_n c15 (by decide); have e17 : (v1).toInt ≠ 103 := bo_ne_n c17 (by decide); have e19 : (v1).toInt ≠ 110 := bo_ne_n c19 (by decide); have e21 : (v1).toInt ≠ 115 := bo_ne_n c21 (by decide); simp [Op.lookupswitch.offset, List.find?, Ne.symm e13, Ne.symm e15, Ne.symm e17, Ne.symm e19, Ne.symm e21]) (by decide) ?_
                refine bo_aload_n hx dX7_readClause_128 rfl 1 rfl ?_
                refine bo_iconst (v := 1) hx dX7_readClause_129 (by decide) ?_
                refine bo_aload_n hx dX7_readClause_130 rfl 1 rfl ?_
                refine gf_X7_28 hx dX7_readClause_131 ?_
                refine bo_goV hx (fun rr hh => bo_runV (As := [.int 1, .int (σ 1 1)]) (S := []) hx dX7_readClause_134 lk_X7_53 mi_X7_wrong bo_o_1 rfl rfl (kX7_wrong (bo_l x) (bo_g x) hx.inj σ 1 (σ 1 1) rr hh) ⟨by decide, by decide⟩ rfl rfl (Nat.le_of_ble_eq_true rfl)) (fun σ23 => ?_)
                exact bo_retv dX7_readClause_137
    · refine bo_aload_n hx dX7_readClause_25 rfl 1 rfl ?_
      refine bo_iconst (v := 1) hx dX7_readClause_26 (by decide) ?_
      refine bo_aload_n hx dX7_readClause_27 rfl 1 rfl ?_
      refine gf_X7_28 hx dX7_readClause_28 ?_
      refine bo_goV hx (fun rr hh => bo_runV (As := [.int 1, .int (σ 1 1)]) (S := []) hx dX7_readClause_31 lk_X7_53 mi_X7_wrong bo_o_1 rfl rfl (kX7_wrong (bo_l x) (bo_g x) hx.inj σ 1 (σ 1 1) rr hh) ⟨by decide, by decide⟩ rfl rfl (Nat.le_of_ble_eq_true rfl)) (fun σ24 => ?_)
      exact bo_retv dX7_readClause_34
theorem kX7_readClause (l : Launch) (g : bo_G) (hi : bo_inj g) (σ : bo_M) (r1 : Nat) (hr1 : bo_isInn r1) : bo_CV l g yX7_readClause cX7_readClause 3 none 4 89 [.ref (g.2.2 1), .ref (g.2.2 r1)] σ (mX7_readClause σ r1) :=
  bo_metV rfl  (by decide) rfl hi (Nat.le_of_ble_eq_true rfl) (fun x e1 e2 hx => by subst e1; subst e2; exact bX7_readClause x hx σ r1 hr1)
-- BellRope$Reader.read
theorem dX7_read_0 : decode cX7_read 0 = .ok (.aload_n 0, 1) := by decide +kernel
theorem dX7_read_1 : decode cX7_read 1 = .ok (.iconst 0, 1) := by decide +kernel
theorem dX7_read_2 : decode cX7_read 2 = .ok (.putfield 28, 3) := by decide +kernel
theorem dX7_read_5 : decode cX7_read 5 = .ok (.aload_n 0, 1) := by decide +kernel
theorem dX7_read_6 : decode cX7_read 6 = .ok (.iconst 0, 1) := by decide +kernel
theorem dX7_read_7 : decode cX7_read 7 = .ok (.putfield 31, 3) := by decide +kernel
theorem dX7_read_10 : decode cX7_read 10 = .ok (.aload_n 0, 1) := by decide +kernel
theorem dX7_read_11 : decode cX7_read 11 = .ok (.iconst (-1), 1) := by decide +kernel
theorem dX7_read_12 : decode cX7_read 12 = .ok (.putfield 15, 3) := by decide +kernel
theorem dX7_read_15 : decode cX7_read 15 = .ok (.aload_n 1, 1) := by decide +kernel
theorem dX7_read_16 : decode cX7_read 16 = .ok (.invokevirtual 34, 3) := by decide +kernel
theorem dX7_read_19 : decode cX7_read 19 = .ok (.aload_n 0, 1) := by decide +kernel
theorem dX7_read_20 : decode cX7_read 20 = .ok (.invokevirtual 39, 3) := by decide +kernel
theorem dX7_read_23 : decode cX7_read 23 = .ok (.iconst 0, 1) := by decide +kernel
theorem dX7_read_24 : decode cX7_read 24 = .ok (.istore_n 2, 1) := by decide +kernel
theorem dX7_read_25 : decode cX7_read 25 = .ok (.iload_n 2, 1) := by decide +kernel
theorem dX7_read_26 : decode cX7_read 26 = .ok (.sipush 240, 3) := by decide +kernel
theorem dX7_read_32 : decode cX7_read 32 = .ok (.aload_n 0, 1) := by decide +kernel
theorem dX7_read_33 : decode cX7_read 33 = .ok (.getfield 28, 3) := by decide +kernel
theorem dX7_read_36 : decode cX7_read 36 = .ok (.aload_n 0, 1) := by decide +kernel
theorem dX7_read_37 : decode cX7_read 37 = .ok (.getfield 19, 3) := by decide +kernel
theorem dX7_read_43 : decode cX7_read 43 = .ok (.aload_n 0, 1) := by decide +kernel
theorem dX7_read_44 : decode cX7_read 44 = .ok (.getfield 31, 3) := by decide +kernel
theorem dX7_read_50 : decode cX7_read 50 = .ok (.aload_n 0, 1) := by decide +kernel
theorem dX7_read_51 : decode cX7_read 51 = .ok (.aload_n 1, 1) := by decide +kernel
theorem dX7_read_52 : decode cX7_read 52 = .ok (.invokevirtual 42, 3) := by decide +kernel
theorem dX7_read_55 : decode cX7_read 55 = .ok (.aload_n 0, 1) := by decide +kernel
theorem dX7_read_56 : decode cX7_read 56 = .ok (.invokevirtual 39, 3) := by decide +kernel
theorem dX7_read_59 : decode cX7_read 59 = .ok (.iinc 2 1, 3) := by decide +kernel
theorem dX7_read_62 : decode cX7_read 62 = .ok (.goto (-37), 3) := by decide +kernel
theorem dX7_read_47 : decode cX7_read 47 = .ok (.ifCond .ne 18, 3) := by decide +kernel
theorem dX7_read_40 : decode cX7_read 40 = .ok (.if_icmp .ge 25, 3) := by decide +kernel
theorem dX7_read_29 : decode cX7_read 29 = .ok (.if_icmp .ge 36, 3) := by decide +kernel
theorem dX7_read_65 : decode cX7_read 65 = .ok (.aload_n 0, 1) := by decide +kernel
theorem dX7_read_66 : decode cX7_read 66 = .ok (.getfield 31, 3) := by decide +kernel
theorem dX7_read_69 : decode cX7_read 69 = .ok (.ireturn, 1) := by decide +kernel
theorem lX7_read_L25 (x : bo_X) (hx : bo_OK x cX7_read RX7 3 5 111) (f1 : Nat) (hf1 : bo_isInn f1) : ∀ (n : Nat) (w2 : Int32) (σ : bo_M), bo_D x 25 [(0, .ref (bo_a x 1)), (1, .ref (bo_a x f1)), (2, .int w2)] [] σ (mX7_read_L25 f1 n w2 σ) (fun a => bo_N x 65 [(0, .ref (bo_a x 1))] [] a) := by
  intro n
  induction n with
  | zero => intro w2 σ; exact bo_none
  | succ n ih =>
    intro w2 σ
    rw [mX7_read_L25]
    refine bo_iload_n hx dX7_read_25 rfl 2 rfl ?_
    refine bo_sipush (v := 240) hx dX7_read_26 (by decide) ?_
    refine bo_icmp_ge hx 65 dX7_read_29 (by decide) ?_ ?_
    · refine bo_sub (L' := [(0, .ref (bo_a x 1))]) [0] rfl ?_
      exact bo_arr (fun h => h)
    · refine bo_aload_n hx dX7_read_32 rfl 0 rfl ?_
      refine gf_X7_28 hx dX7_read_33 ?_
      refine bo_aload_n hx dX7_read_36 rfl 0 rfl ?_
      refine gf_X7_19 hx dX7_read_37 ?_
      refine bo_icmp_ge hx 65 dX7_read_40 (by decide) ?_ ?_
      · refine bo_sub (L' := [(0, .ref (bo_a x 1))]) [0] rfl ?_
        exact bo_arr (fun h => h)
      · refine bo_aload_n hx dX7_read_43 rfl 0 rfl ?_
        refine gf_X7_31 hx dX7_read_44 ?_
        refine bo_if_ne hx 65 dX7_read_47 (by decide) ?_ ?_
        · refine bo_sub (L' := [(0, .ref (bo_a x 1))]) [0] rfl ?_
          exact bo_arr (fun h => h)
        · refine bo_aload_n hx dX7_read_50 rfl 0 rfl ?_
          refine bo_aload_n hx dX7_read_51 rfl 1 rfl ?_
          refine bo_goV hx (fun rr hh => bo_runV (As := [.ref (bo_a x f1)]) (S := []) hx dX7_read_52 lk_X7_42 mi_X7_readClause bo_o_1 rfl rfl (kX7_readClause (bo_l x) (bo_g x) hx.inj σ f1 hf1 rr hh) ⟨by decide, by decide⟩ rfl rfl (Nat.le_of_ble_eq_true rfl)) (fun σ6 => ?_)
          refine bo_aload_n hx dX7_read_55 rfl 0 rfl ?_
          refine bo_goV hx (fun rr hh => bo_runV (As := []) (S := []) hx dX7_read_56 lk_X7_39 mi_X7_skipBlanks bo_o_1 rfl rfl (kX7_skipBlanks (bo_l x) (bo_g x) hx.inj σ6 rr hh) ⟨by decide, by decide⟩ rfl rfl (Nat.le_of_ble_eq_true rfl)) (fun σ7 => ?_)
          refine bo_iinc (L' := [(2, .int (w2 + 1)), (0, .ref (bo_a x 1)), (1, .ref (bo_a x f1))]) (w := (w2 + 1)) hx dX7_read_59 2 rfl rfl (by decide) rfl ?_
          refine bo_goto hx 25 dX7_read_62 (by decide) ?_
          refine bo_sub (L' := [(0, .ref (bo_a x 1)), (1, .ref (bo_a x f1)), (2, .int (w2 + 1))]) [1, 2, 0] rfl ?_
          exact ih (w2 + 1) σ7
theorem bX7_read (x : bo_X) (hx : bo_OK x cX7_read RX7 3 5 111) (σ : bo_M) (r1 : Nat) (hr1 : bo_isInn r1) : bo_D x 0 [(0, .ref (bo_a x 1)), (1, .ref (bo_a x r1))] [] σ (mX7_read σ r1) (bo_Rw x cX7_read false) := by
  unfold mX7_read
  refine bo_aload_n hx dX7_read_0 rfl 0 rfl ?_
  refine bo_iconst (v := 0) hx dX7_read_1 (by decide) ?_
  refine pf_X7_28 hx dX7_read_2 (fun σ1 => ?_)
  refine bo_aload_n hx dX7_read_5 rfl 0 rfl ?_
  refine bo_iconst (v := 0) hx dX7_read_6 (by decide) ?_
  refine pf_X7_31 hx dX7_read_7 (fun σ2 => ?_)
  refine bo_aload_n hx dX7_read_10 rfl 0 rfl ?_
  refine bo_iconst (v := (-1)) hx dX7_read_11 (by decide) ?_
  refine pf_X7_15 hx dX7_read_12 (fun σ3 => ?_)
  refine bo_aload_n hx dX7_read_15 rfl 1 rfl ?_
  refine bo_goV hx (fun rr hh => bo_runV (As := []) (S := []) hx dX7_read_16 lk_X7_34 mi_X4_empty hr1.o rfl rfl (kX4_empty (bo_l x) (bo_g x) hx.inj σ3 r1 hr1 rr hh) ⟨by decide, by decide⟩ rfl rfl (Nat.le_of_ble_eq_true rfl)) (fun σ4 => ?_)
  refine bo_aload_n hx dX7_read_19 rfl 0 rfl ?_
  refine bo_goV hx (fun rr hh => bo_runV (As := []) (S := []) hx dX7_read_20 lk_X7_39 mi_X7_skipBlanks bo_o_1 rfl rfl (kX7_skipBlanks (bo_l x) (bo_g x) hx.inj σ4 rr hh) ⟨by decide, by decide⟩ rfl rfl (Nat.le_of_ble_eq_true rfl)) (fun σ5 => ?_)
  refine bo_iconst (v := 0) hx dX7_read_23 (by decide) ?_
  refine bo_istore_n (L' := [(2, .int 0), (0, .ref (bo_a x 1)), (1, .ref (bo_a x r1))]) hx dX7_read_24 rfl (by decide) rfl ?_
  refine bo_sub (L' := [(0, .ref (bo_a x 1)), (1, .ref (bo_a x r1)), (2, .int 0)]) [1, 2, 0] rfl ?_
  refine bo_seq 65 (fun a => [(0, .ref (bo_a x 1))]) (fun a => []) (fun a => a) (lX7_read_L25 x hx r1 hr1 bo_fuel 0 σ5) (fun a8 => ?_)
  refine bo_aload_n hx dX7_read_65 rfl 0 rfl ?_
  refine gf_X7_31 hx dX7_read_66 ?_
  exact bo_retw dX7_read_69 (fun h => by cases h)
theorem kX7_read (l : Launch) (g : bo_G) (hi : bo_inj g) (σ : bo_M) (r1 : Nat) (hr1 : bo_isInn r1) : bo_CW l g yX7_read cX7_read 3 (some .int) 5 111 [.ref (g.2.2 1), .ref (g.2.2 r1)] σ false (mX7_read σ r1) :=
  bo_metW rfl (Or.inl ⟨rfl, rfl⟩) (by decide) rfl hi (Nat.le_of_ble_eq_true rfl) (fun x e1 e2 hx => by subst e1; subst e2; exact bX7_read x hx σ r1 hr1)
-- BellRope$Evening.empty
theorem dX2_empty_0 : decode cX2_empty 0 = .ok (.aload_n 0, 1) := by decide +kernel
theorem dX2_empty_1 : decode cX2_empty 1 = .ok (.iconst 0, 1) := by decide +kernel
theorem dX2_empty_2 : decode cX2_empty 2 = .ok (.putfield 24, 3) := by decide +kernel
theorem dX2_empty_5 : decode cX2_empty 5 = .ok (.aload_n 0, 1) := by decide +kernel
theorem dX2_empty_6 : decode cX2_empty 6 = .ok (.iconst 0, 1) := by decide +kernel
theorem dX2_empty_7 : decode cX2_empty 7 = .ok (.putfield 28, 3) := by decide +kernel
theorem dX2_empty_10 : decode cX2_empty 10 = .ok (.aload_n 0, 1) := by decide +kernel
theorem dX2_empty_11 : decode cX2_empty 11 = .ok (.iconst 0, 1) := by decide +kernel
theorem dX2_empty_12 : decode cX2_empty 12 = .ok (.putfield 31, 3) := by decide +kernel
theorem dX2_empty_15 : decode cX2_empty 15 = .ok (.aload_n 0, 1) := by decide +kernel
theorem dX2_empty_16 : decode cX2_empty 16 = .ok (.iconst 0, 1) := by decide +kernel
theorem dX2_empty_17 : decode cX2_empty 17 = .ok (.putfield 34, 3) := by decide +kernel
theorem dX2_empty_20 : decode cX2_empty 20 = .ok (.aload_n 0, 1) := by decide +kernel
theorem dX2_empty_21 : decode cX2_empty 21 = .ok (.iconst 0, 1) := by decide +kernel
theorem dX2_empty_22 : decode cX2_empty 22 = .ok (.putfield 37, 3) := by decide +kernel
theorem dX2_empty_25 : decode cX2_empty 25 = .ok (.aload_n 0, 1) := by decide +kernel
theorem dX2_empty_26 : decode cX2_empty 26 = .ok (.iconst 0, 1) := by decide +kernel
theorem dX2_empty_27 : decode cX2_empty 27 = .ok (.putfield 40, 3) := by decide +kernel
theorem dX2_empty_30 : decode cX2_empty 30 = .ok (.aload_n 0, 1) := by decide +kernel
theorem dX2_empty_31 : decode cX2_empty 31 = .ok (.getfield 9, 3) := by decide +kernel
theorem dX2_empty_34 : decode cX2_empty 34 = .ok (.invokestatic 43, 3) := by decide +kernel
theorem dX2_empty_37 : decode cX2_empty 37 = .ok (.aload_n 0, 1) := by decide +kernel
theorem dX2_empty_38 : decode cX2_empty 38 = .ok (.getfield 15, 3) := by decide +kernel
theorem dX2_empty_41 : decode cX2_empty 41 = .ok (.invokestatic 43, 3) := by decide +kernel
theorem dX2_empty_44 : decode cX2_empty 44 = .ok (.return_, 1) := by decide +kernel
theorem bX2_empty (x : bo_X) (hx : bo_OK x cX2_empty RX2 1 1 21) (σ : bo_M) (o : Nat) (ho : bo_isEv o) : bo_D x 0 [(0, .ref (bo_a x o))] [] σ (mX2_empty σ o) (bo_Rv x cX2_empty) := by
  unfold mX2_empty
  refine bo_aload_n hx dX2_empty_0 rfl 0 rfl ?_
  refine bo_iconst (v := 0) hx dX2_empty_1 (by decide) ?_
  refine pf_X2_24 hx ho dX2_empty_2 (fun σ1 => ?_)
  refine bo_aload_n hx dX2_empty_5 rfl 0 rfl ?_
  refine bo_iconst (v := 0) hx dX2_empty_6 (by decide) ?_
  refine pf_X2_28 hx ho dX2_empty_7 (fun σ2 => ?_)
  refine bo_aload_n hx dX2_empty_10 rfl 0 rfl ?_
  refine bo_iconst (v := 0) hx dX2_empty_11 (by decide) ?_
  refine pf_X2_31 hx ho dX2_empty_12 (fun σ3 => ?_)
  refine bo_aload_n hx dX2_empty_15 rfl 0 rfl ?_
  refine bo_iconst (v := 0) hx dX2_empty_16 (by decide) ?_
  refine pf_X2_34 hx ho dX2_empty_17 (fun σ4 => ?_)
  refine bo_aload_n hx dX2_empty_20 rfl 0 rfl ?_
  refine bo_iconst (v := 0) hx dX2_empty_21 (by decide) ?_
  refine pf_X2_37 hx ho dX2_empty_22 (fun σ5 => ?_)
  refine bo_aload_n hx dX2_empty_25 rfl 0 rfl ?_
  refine bo_iconst (v := 0) hx dX2_empty_26 (by decide) ?_
  refine pf_X2_40 hx ho dX2_empty_27 (fun σ6 => ?_)
  refine bo_aload_n hx dX2_empty_30 rfl 0 rfl ?_
  refine gf_X2_9 hx ho dX2_empty_31 ?_
  refine bo_goV hx (fun rr hh => bo_runS (As := [.ref (bo_a x (o + 1))]) (S := []) hx dX2_empty_34 lk_X2_43 ms_X8_zero (kX8_zero (bo_l x) (bo_g x) hx.inj σ6 7 (o + 1) ho.a1 rr hh) ⟨by decide, by decide⟩ rfl rfl (Nat.le_of_ble_eq_true rfl)) (fun σ7 => ?_)
  refine bo_aload_n hx dX2_empty_37 rfl 0 rfl ?_
  refine gf_X2_15 hx ho dX2_empty_38 ?_
  refine bo_goV hx (fun rr hh => bo_runS (As := [.ref (bo_a x (o + 2))]) (S := []) hx dX2_empty_41 lk_X2_43 ms_X8_zero (kX8_zero (bo_l x) (bo_g x) hx.inj σ7 7 (o + 2) ho.a2 rr hh) ⟨by decide, by decide⟩ rfl rfl (Nat.le_of_ble_eq_true rfl)) (fun σ8 => ?_)
  exact bo_retv dX2_empty_44
theorem kX2_empty (l : Launch) (g : bo_G) (hi : bo_inj g) (σ : bo_M) (o : Nat) (ho : bo_isEv o) : bo_CV l g yX2_empty cX2_empty 1 none 1 21 [.ref (g.2.2 o)] σ (mX2_empty σ o) :=
  bo_metV rfl  (by decide) rfl hi (Nat.le_of_ble_eq_true rfl) (fun x e1 e2 hx => by subst e1; subst e2; exact bX2_empty x hx σ o ho)
-- BellRope.inn
theorem dX10_inn_0 : decode cX10_inn 0 = .ok (.aload_n 0, 1) := by decide +kernel
theorem dX10_inn_1 : decode cX10_inn 1 = .ok (.getfield 10, 3) := by decide +kernel
theorem dX10_inn_4 : decode cX10_inn 4 = .ok (.aload_n 0, 1) := by decide +kernel
theorem dX10_inn_5 : decode cX10_inn 5 = .ok (.getfield 75, 3) := by decide +kernel
theorem dX10_inn_8 : decode cX10_inn 8 = .ok (.invokevirtual 88, 3) := by decide +kernel
theorem dX10_inn_11 : decode cX10_inn 11 = .ok (.istore_n 1, 1) := by decide +kernel
theorem dX10_inn_12 : decode cX10_inn 12 = .ok (.aload_n 0, 1) := by decide +kernel
theorem dX10_inn_13 : decode cX10_inn 13 = .ok (.getfield 10, 3) := by decide +kernel
theorem dX10_inn_16 : decode cX10_inn 16 = .ok (.iconst 0, 1) := by decide +kernel
theorem dX10_inn_17 : decode cX10_inn 17 = .ok (.putfield 83, 3) := by decide +kernel
theorem dX10_inn_20 : decode cX10_inn 20 = .ok (.iload_n 1, 1) := by decide +kernel
theorem dX10_inn_29 : decode cX10_inn 29 = .ok (.aload_n 0, 1) := by decide +kernel
theorem dX10_inn_30 : decode cX10_inn 30 = .ok (.getfield 71, 3) := by decide +kernel
theorem dX10_inn_33 : decode cX10_inn 33 = .ok (.astore_n 2, 1) := by decide +kernel
theorem dX10_inn_34 : decode cX10_inn 34 = .ok (.aload_n 0, 1) := by decide +kernel
theorem dX10_inn_35 : decode cX10_inn 35 = .ok (.aload_n 0, 1) := by decide +kernel
theorem dX10_inn_36 : decode cX10_inn 36 = .ok (.getfield 75, 3) := by decide +kernel
theorem dX10_inn_39 : decode cX10_inn 39 = .ok (.putfield 71, 3) := by decide +kernel
theorem dX10_inn_42 : decode cX10_inn 42 = .ok (.aload_n 0, 1) := by decide +kernel
theorem dX10_inn_43 : decode cX10_inn 43 = .ok (.aload_n 2, 1) := by decide +kernel
theorem dX10_inn_44 : decode cX10_inn 44 = .ok (.putfield 75, 3) := by decide +kernel
theorem dX10_inn_47 : decode cX10_inn 47 = .ok (.aload_n 0, 1) := by decide +kernel
theorem dX10_inn_48 : decode cX10_inn 48 = .ok (.getfield 19, 3) := by decide +kernel
theorem dX10_inn_51 : decode cX10_inn 51 = .ok (.invokevirtual 92, 3) := by decide +kernel
theorem dX10_inn_54 : decode cX10_inn 54 = .ok (.aload_n 0, 1) := by decide +kernel
theorem dX10_inn_55 : decode cX10_inn 55 = .ok (.getfield 26, 3) := by decide +kernel
theorem dX10_inn_58 : decode cX10_inn 58 = .ok (.iconst 0, 1) := by decide +kernel
theorem dX10_inn_59 : decode cX10_inn 59 = .ok (.putfield 95, 3) := by decide +kernel
theorem dX10_inn_62 : decode cX10_inn 62 = .ok (.aload_n 0, 1) := by decide +kernel
theorem dX10_inn_63 : decode cX10_inn 63 = .ok (.getfield 33, 3) := by decide +kernel
theorem dX10_inn_66 : decode cX10_inn 66 = .ok (.iconst 0, 1) := by decide +kernel
theorem dX10_inn_67 : decode cX10_inn 67 = .ok (.putfield 96, 3) := by decide +kernel
theorem dX10_inn_70 : decode cX10_inn 70 = .ok (.aload_n 0, 1) := by decide +kernel
theorem dX10_inn_71 : decode cX10_inn 71 = .ok (.getfield 37, 3) := by decide +kernel
theorem dX10_inn_74 : decode cX10_inn 74 = .ok (.iconst 0, 1) := by decide +kernel
theorem dX10_inn_75 : decode cX10_inn 75 = .ok (.putfield 96, 3) := by decide +kernel
theorem dX10_inn_78 : decode cX10_inn 78 = .ok (.aload_n 0, 1) := by decide +kernel
theorem dX10_inn_79 : decode cX10_inn 79 = .ok (.getfield 50, 3) := by decide +kernel
theorem dX10_inn_82 : decode cX10_inn 82 = .ok (.iconst 0, 1) := by decide +kernel
theorem dX10_inn_83 : decode cX10_inn 83 = .ok (.putfield 100, 3) := by decide +kernel
theorem dX10_inn_86 : decode cX10_inn 86 = .ok (.aload_n 0, 1) := by decide +kernel
theorem dX10_inn_87 : decode cX10_inn 87 = .ok (.getfield 57, 3) := by decide +kernel
theorem dX10_inn_90 : decode cX10_inn 90 = .ok (.iconst 0, 1) := by decide +kernel
theorem dX10_inn_91 : decode cX10_inn 91 = .ok (.putfield 101, 3) := by decide +kernel
theorem dX10_inn_94 : decode cX10_inn 94 = .ok (.aload_n 0, 1) := by decide +kernel
theorem dX10_inn_95 : decode cX10_inn 95 = .ok (.getfield 71, 3) := by decide +kernel
theorem dX10_inn_98 : decode cX10_inn 98 = .ok (.getfield 102, 3) := by decide +kernel
theorem dX10_inn_101 : decode cX10_inn 101 = .ok (.ireturn, 1) := by decide +kernel
theorem dX10_inn_24 : decode cX10_inn 24 = .ok (.bipush (-10), 2) := by decide +kernel
theorem dX10_inn_26 : decode cX10_inn 26 = .ok (.iload_n 1, 1) := by decide +kernel
theorem dX10_inn_27 : decode cX10_inn 27 = .ok (.isub, 1) := by decide +kernel
theorem dX10_inn_28 : decode cX10_inn 28 = .ok (.ireturn, 1) := by decide +kernel
theorem dX10_inn_21 : decode cX10_inn 21 = .ok (.ifCond .eq 8, 3) := by decide +kernel
theorem bX10_inn (x : bo_X) (hx : bo_OK x cX10_inn RX10 3 6 133) (σ : bo_M) : bo_D x 0 [(0, .ref (bo_a x 0))] [] σ (mX10_inn σ) (bo_Rw x cX10_inn false) := by
  unfold mX10_inn
  refine bo_aload_n hx dX10_inn_0 rfl 0 rfl ?_
  refine gf_X10_10 hx dX10_inn_1 ?_
  refine bo_aload_n hx dX10_inn_4 rfl 0 rfl ?_
  refine gf_X10_75 hx dX10_inn_5 ?_
  refine bo_goW (z := false) hx (fun rr hh => bo_runV (As := [.ref (bo_a x (bo_inn (σ 0 10)))]) (S := []) hx dX10_inn_8 lk_X10_88 mi_X7_read bo_o_1 rfl rfl (kX7_read (bo_l x) (bo_g x) hx.inj σ (bo_inn (σ 0 10)) (bo_inn_ok (σ 0 10)) rr hh) ⟨by decide, by decide⟩ rfl rfl (Nat.le_of_ble_eq_true rfl)) (fun a1 ha1 => ?_)
  refine bo_istore_n (L' := [(1, .int a1.1), (0, .ref (bo_a x 0))]) hx dX10_inn_11 rfl (by decide) rfl ?_
  refine bo_aload_n hx dX10_inn_12 rfl 1 rfl ?_
  refine gf_X10_10 hx dX10_inn_13 ?_
  refine bo_iconst (v := 0) hx dX10_inn_16 (by decide) ?_
  refine pf_X10_83 hx dX10_inn_17 (fun σ2 => ?_)
  refine bo_iload_n hx dX10_inn_20 rfl 0 rfl ?_
  refine bo_if_eq hx 29 dX10_inn_21 (by decide) ?_ ?_
  · refine bo_aload_n hx dX10_inn_29 rfl 1 rfl ?_
    refine gf_X10_71 hx dX10_inn_30 ?_
    refine bo_astore_n (L' := [(2, .ref (bo_a x (bo_inn (σ2 0 9)))), (1, .int a1.1), (0, .ref (bo_a x 0))]) hx dX10_inn_33 rfl (by decide) rfl ?_
    refine bo_aload_n hx dX10_inn_34 rfl 2 rfl ?_
    refine bo_aload_n hx dX10_inn_35 rfl 2 rfl ?_
    refine gf_X10_75 hx dX10_inn_36 ?_
    refine pf_X10_71 hx dX10_inn_39 (fun σ3 => ?_)
    refine bo_aload_n hx dX10_inn_42 rfl 2 rfl ?_
    refine bo_aload_n hx dX10_inn_43 rfl 0 rfl ?_
    refine pf_X10_75 hx dX10_inn_44 (fun σ4 => ?_)
    refine bo_aload_n hx dX10_inn_47 rfl 2 rfl ?_
    refine gf_X10_19 hx dX10_inn_48 ?_
    refine bo_goV hx (fun rr hh => bo_runV (As := []) (S := []) hx dX10_inn_51 lk_X10_92 mi_X2_empty bo_ev50.o rfl rfl (kX2_empty (bo_l x) (bo_g x) hx.inj σ4 50 bo_ev50 rr hh) ⟨by decide, by decide⟩ rfl rfl (Nat.le_of_ble_eq_true rfl)) (fun σ5 => ?_)
    refine bo_aload_n hx dX10_inn_54 rfl 2 rfl ?_
    refine gf_X10_26 hx dX10_inn_55 ?_
    refine bo_iconst (v := 0) hx dX10_inn_58 (by decide) ?_
    refine pf_X10_95 hx dX10_inn_59 (fun σ6 => ?_)
    refine bo_aload_n hx dX10_inn_62 rfl 2 rfl ?_
    refine gf_X10_33 hx dX10_inn_63 ?_
    refine bo_iconst (v := 0) hx dX10_inn_66 (by decide) ?_
    refine pf_X10_96 hx bo_im5 bo_b_0 dX10_inn_67 (fun σ7 => ?_)
    refine bo_aload_n hx dX10_inn_70 rfl 2 rfl ?_
    refine gf_X10_37 hx dX10_inn_71 ?_
    refine bo_iconst (v := 0) hx dX10_inn_74 (by decide) ?_
    refine pf_X10_96 hx bo_im11 bo_b_0 dX10_inn_75 (fun σ8 => ?_)
    refine bo_aload_n hx dX10_inn_78 rfl 2 rfl ?_
    refine gf_X10_50 hx dX10_inn_79 ?_
    refine bo_iconst (v := 0) hx dX10_inn_82 (by decide) ?_
    refine pf_X10_100 hx dX10_inn_83 (fun σ9 => ?_)
    refine bo_aload_n hx dX10_inn_86 rfl 2 rfl ?_
    refine gf_X10_57 hx dX10_inn_87 ?_
    refine bo_iconst (v := 0) hx dX10_inn_90 (by decide) ?_
    refine pf_X10_101 hx dX10_inn_91 (fun σ10 => ?_)
    refine bo_aload_n hx dX10_inn_94 rfl 2 rfl ?_
    refine gf_X10_71 hx dX10_inn_95 ?_
    refine gf_X10_102 hx (bo_inn_ok (σ10 0 9)) dX10_inn_98 ?_
    exact bo_retw dX10_inn_101 (fun h => by cases h)
  · refine bo_bipush (v := (-10)) hx dX10_inn_24 (by decide) ?_
    refine bo_iload_n hx dX10_inn_26 rfl 0 rfl ?_
    refine bo_isub hx dX10_inn_27 ?_
    exact bo_retw dX10_inn_28 (fun h => by cases h)
theorem kX10_inn (l : Launch) (g : bo_G) (hi : bo_inj g) (σ : bo_M) : bo_CW l g yX10_inn cX10_inn 3 (some .int) 6 133 [.ref (g.2.2 0)] σ false (mX10_inn σ) :=
  bo_metW rfl (Or.inl ⟨rfl, rfl⟩) (by decide) rfl hi (Nat.le_of_ble_eq_true rfl) (fun x e1 e2 hx => by subst e1; subst e2; exact bX10_inn x hx σ)
-- BellRope.fault
theorem dX10_fault_0 : decode cX10_fault 0 = .ok (.aload_n 0, 1) := by decide +kernel
theorem dX10_fault_1 : decode cX10_fault 1 = .ok (.getfield 10, 3) := by decide +kernel
theorem dX10_fault_4 : decode cX10_fault 4 = .ok (.getfield 105, 3) := by decide +kernel
theorem dX10_fault_7 : decode cX10_fault 7 = .ok (.ireturn, 1) := by decide +kernel
theorem bX10_fault (x : bo_X) (hx : bo_OK x cX10_fault RX10 1 0 0) (σ : bo_M) : bo_D x 0 [(0, .ref (bo_a x 0))] [] σ (mX10_fault σ) (bo_Ri x cX10_fault σ false) := by
  unfold mX10_fault
  refine bo_aload_n hx dX10_fault_0 rfl 0 rfl ?_
  refine gf_X10_10 hx dX10_fault_1 ?_
  refine gf_X10_105 hx dX10_fault_4 ?_
  exact bo_ret dX10_fault_7 (fun h => by cases h)
theorem kX10_fault (l : Launch) (g : bo_G) (hi : bo_inj g) (σ : bo_M) : bo_CR l g yX10_fault cX10_fault 1 (some .int) 0 0 [.ref (g.2.2 0)] σ false (mX10_fault σ) :=
  bo_metR rfl (Or.inl ⟨rfl, rfl⟩) (by decide) rfl hi (Nat.le_of_ble_eq_true rfl) (fun x e1 e2 hx => by subst e1; subst e2; exact bX10_fault x hx σ)
-- BellRope.bit
theorem dX10_bit_0 : decode cX10_bit 0 = .ok (.iload_n 0, 1) := by decide +kernel
theorem dX10_bit_1 : decode cX10_bit 1 = .ok (.iload_n 1, 1) := by decide +kernel
theorem dX10_bit_2 : decode cX10_bit 2 = .ok (.ishr, 1) := by decide +kernel
theorem dX10_bit_3 : decode cX10_bit 3 = .ok (.iconst 1, 1) := by decide +kernel
theorem dX10_bit_4 : decode cX10_bit 4 = .ok (.iand, 1) := by decide +kernel
theorem dX10_bit_5 : decode cX10_bit 5 = .ok (.ireturn, 1) := by decide +kernel
theorem bX10_bit (x : bo_X) (hx : bo_OK x cX10_bit RX10 2 0 0) (σ : bo_M) (p0 : Int32) (p1 : Int32) : bo_D x 0 [(0, .int p0), (1, .int p1)] [] σ (mX10_bit σ p0 p1) (bo_Ri x cX10_bit σ false) := by
  unfold mX10_bit
  refine bo_iload_n hx dX10_bit_0 rfl 0 rfl ?_
  refine bo_iload_n hx dX10_bit_1 rfl 1 rfl ?_
  refine bo_ishr hx dX10_bit_2 ?_
  refine bo_iconst (v := 1) hx dX10_bit_3 (by decide) ?_
  refine bo_iand hx dX10_bit_4 ?_
  exact bo_ret dX10_bit_5 (fun h => by cases h)
theorem kX10_bit (l : Launch) (g : bo_G) (hi : bo_inj g) (σ : bo_M) (p0 : Int32) (p1 : Int32) : bo_CR l g yX10_bit cX10_bit 2 (some .int) 0 0 [.int p0, .int p1] σ false (mX10_bit σ p0 p1) :=
  bo_metR rfl (Or.inl ⟨rfl, rfl⟩) (by decide) rfl hi (Nat.le_of_ble_eq_true rfl) (fun x e1 e2 hx => by subst e1; subst e2; exact bX10_bit x hx σ p0 p1)
-- BellRope$Evening.isWet
theorem dX2_isWet_0 : decode cX2_isWet 0 = .ok (.aload_n 0, 1) := by decide +kernel
theorem dX2_isWet_1 : decode cX2_isWet 1 = .ok (.getfield 40, 3) := by decide +kernel
theorem dX2_isWet_21 : decode cX2_isWet 21 = .ok (.aload_n 1, 1) := by decide +kernel
theorem dX2_isWet_22 : decode cX2_isWet 22 = .ok (.getfield 63, 3) := by decide +kernel
theorem dX2_isWet_25 : decode cX2_isWet 25 = .ok (.aload_n 0, 1) := by decide +kernel
theorem dX2_isWet_26 : decode cX2_isWet 26 = .ok (.getfield 24, 3) := by decide +kernel
theorem dX2_isWet_29 : decode cX2_isWet 29 = .ok (.bipush 96, 2) := by decide +kernel
theorem dX2_isWet_31 : decode cX2_isWet 31 = .ok (.idiv, 1) := by decide +kernel
theorem dX2_isWet_32 : decode cX2_isWet 32 = .ok (.bipush 7, 2) := by decide +kernel
theorem dX2_isWet_34 : decode cX2_isWet 34 = .ok (.irem, 1) := by decide +kernel
theorem dX2_isWet_35 : decode cX2_isWet 35 = .ok (.invokestatic 68, 3) := by decide +kernel
theorem dX2_isWet_38 : decode cX2_isWet 38 = .ok (.iconst 1, 1) := by decide +kernel
theorem dX2_isWet_46 : decode cX2_isWet 46 = .ok (.iconst 0, 1) := by decide +kernel
theorem dX2_isWet_47 : decode cX2_isWet 47 = .ok (.ireturn, 1) := by decide +kernel
theorem dX2_isWet_42 : decode cX2_isWet 42 = .ok (.iconst 1, 1) := by decide +kernel
theorem dX2_isWet_43 : decode cX2_isWet 43 = .ok (.goto 4, 3) := by decide +kernel
theorem dX2_isWet_39 : decode cX2_isWet 39 = .ok (.if_icmp .ne 7, 3) := by decide +kernel
theorem dX2_isWet_7 : decode cX2_isWet 7 = .ok (.aload_n 0, 1) := by decide +kernel
theorem dX2_isWet_8 : decode cX2_isWet 8 = .ok (.getfield 40, 3) := by decide +kernel
theorem dX2_isWet_11 : decode cX2_isWet 11 = .ok (.iconst 1, 1) := by decide +kernel
theorem dX2_isWet_19 : decode cX2_isWet 19 = .ok (.iconst 0, 1) := by decide +kernel
theorem dX2_isWet_20 : decode cX2_isWet 20 = .ok (.ireturn, 1) := by decide +kernel
theorem dX2_isWet_15 : decode cX2_isWet 15 = .ok (.iconst 1, 1) := by decide +kernel
theorem dX2_isWet_16 : decode cX2_isWet 16 = .ok (.goto 4, 3) := by decide +kernel
theorem dX2_isWet_12 : decode cX2_isWet 12 = .ok (.if_icmp .ne 7, 3) := by decide +kernel
theorem dX2_isWet_4 : decode cX2_isWet 4 = .ok (.ifCond .eq 17, 3) := by decide +kernel
theorem bX2_isWet (x : bo_X) (hx : bo_OK x cX2_isWet RX2 2 1 21) (σ : bo_M) (o : Nat) (r1 : Nat) (ho : bo_isEv o) (hr1 : bo_isInn r1) : bo_D x 0 [(0, .ref (bo_a x o)), (1, .ref (bo_a x r1))] [] σ (mX2_isWet σ o r1) (bo_Ri x cX2_isWet σ true) := by
  unfold mX2_isWet
  refine bo_aload_n hx dX2_isWet_0 rfl 0 rfl ?_
  refine gf_X2_40 hx ho dX2_isWet_1 ?_
  refine bo_if_eq hx 21 dX2_isWet_4 (by decide) ?_ ?_
  · refine bo_aload_n hx dX2_isWet_21 rfl 1 rfl ?_
    refine gf_X2_63 hx hr1 dX2_isWet_22 ?_
    refine bo_aload_n hx dX2_isWet_25 rfl 0 rfl ?_
    refine gf_X2_24 hx ho dX2_isWet_26 ?_
    refine bo_bipush (v := 96) hx dX2_isWet_29 (by decide) ?_
    refine bo_idivc hx dX2_isWet_31 (by decide) ?_
    refine bo_bipush (v := 7) hx dX2_isWet_32 (by decide) ?_
    refine bo_iremc hx dX2_isWet_34 (by decide) ?_
    refine bo_goR (z := false) hx (fun rr hh => bo_runN (As := [.int (σ r1 10), .int (bo_irm ((σ o 4) / 96) 7)]) (S := []) hx dX2_isWet_35 ne_X2_68 ms_X10_bit (kX10_bit (bo_l x) (bo_g x) hx.inj σ (σ r1 10) (bo_irm ((σ o 4) / 96) 7) rr hh) ⟨by decide, by decide⟩ rfl rfl (Nat.le_of_ble_eq_true rfl)) (fun v1 hv1 => ?_)
    refine bo_iconst (v := 1) hx dX2_isWet_38 (by decide) ?_
    refine bo_icmp_ne hx 46 dX2_isWet_39 (by decide) ?_ ?_
    · refine bo_iconst (v := 0) hx dX2_isWet_46 (by decide) ?_
      exact bo_ret dX2_isWet_47 (fun _ => bo_b_0)
    · refine bo_iconst (v := 1) hx dX2_isWet_42 (by decide) ?_
      refine bo_goto hx 47 dX2_isWet_43 (by decide) ?_
      exact bo_ret dX2_isWet_47 (fun _ => bo_b_1)
  · refine bo_aload_n hx dX2_isWet_7 rfl 0 rfl ?_
    refine gf_X2_40 hx ho dX2_isWet_8 ?_
    refine bo_iconst (v := 1) hx dX2_isWet_11 (by decide) ?_
    refine bo_icmp_ne hx 19 dX2_isWet_12 (by decide) ?_ ?_
    · refine bo_iconst (v := 0) hx dX2_isWet_19 (by decide) ?_
      exact bo_ret dX2_isWet_20 (fun _ => bo_b_0)
    · refine bo_iconst (v := 1) hx dX2_isWet_15 (by decide) ?_
      refine bo_goto hx 20 dX2_isWet_16 (by decide) ?_
      exact bo_ret dX2_isWet_20 (fun _ => bo_b_1)
theorem kX2_isWet (l : Launch) (g : bo_G) (hi : bo_inj g) (σ : bo_M) (o : Nat) (r1 : Nat) (ho : bo_isEv o) (hr1 : bo_isInn r1) : bo_CR l g yX2_isWet cX2_isWet 2 (some .boolean) 1 21 [.ref (g.2.2 o), .ref (g.2.2 r1)] σ true (mX2_isWet σ o r1) :=
  bo_metR rfl (Or.inr ⟨rfl, rfl⟩) (by decide) rfl hi (Nat.le_of_ble_eq_true rfl) (fun x e1 e2 hx => by subst e1; subst e2; exact bX2_isWet x hx σ o r1 ho hr1)
-- BellRope$Evening.logs
theorem dX2_logs_0 : decode cX2_logs 0 = .ok (.aload_n 0, 1) := by decide +kernel
theorem dX2_logs_1 : decode cX2_logs 1 = .ok (.getfield 24, 3) := by decide +kernel
theorem dX2_logs_4 : decode cX2_logs 4 = .ok (.bipush 40, 2) := by decide +kernel
theorem dX2_logs_6 : decode cX2_logs 6 = .ok (.invokestatic 53, 3) := by decide +kernel
theorem dX2_logs_9 : decode cX2_logs 9 = .ok (.ireturn, 1) := by decide +kernel
theorem bX2_logs (x : bo_X) (hx : bo_OK x cX2_logs RX2 1 1 24) (σ : bo_M) (o : Nat) (ho : bo_isEv o) : bo_D x 0 [(0, .ref (bo_a x o))] [] σ (mX2_logs σ o) (bo_Ri x cX2_logs σ false) := by
  unfold mX2_logs
  refine bo_aload_n hx dX2_logs_0 rfl 0 rfl ?_
  refine gf_X2_24 hx ho dX2_logs_1 ?_
  refine bo_bipush (v := 40) hx dX2_logs_4 (by decide) ?_
  refine bo_min hx dX2_logs_6 lk_X2_53 mm_min_1 mm_i mm_min_2 (by decide) (Nat.le_of_ble_eq_true rfl) ?_
  exact bo_ret dX2_logs_9 (fun h => by cases h)
theorem kX2_logs (l : Launch) (g : bo_G) (hi : bo_inj g) (σ : bo_M) (o : Nat) (ho : bo_isEv o) : bo_CR l g yX2_logs cX2_logs 1 (some .int) 1 24 [.ref (g.2.2 o)] σ false (mX2_logs σ o) :=
  bo_metR rfl (Or.inl ⟨rfl, rfl⟩) (by decide) rfl hi (Nat.le_of_ble_eq_true rfl) (fun x e1 e2 hx => by subst e1; subst e2; exact bX2_logs x hx σ o ho)
