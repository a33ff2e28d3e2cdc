-- BellRopeModel.isWet
theorem dX11_isWet_0 : decode cX11_isWet 0 = .ok (.aload_n 0, 1) := by decide +kernel
theorem dX11_isWet_1 : decode cX11_isWet 1 = .ok (.getfield 34, 3) := by decide +kernel
theorem dX11_isWet_4 : decode cX11_isWet 4 = .ok (.bipush 25, 2) := by decide +kernel
theorem dX11_isWet_6 : decode cX11_isWet 6 = .ok (.iaload, 1) := by decide +kernel
theorem dX11_isWet_27 : decode cX11_isWet 27 = .ok (.aload_n 0, 1) := by decide +kernel
theorem dX11_isWet_28 : decode cX11_isWet 28 = .ok (.getfield 207, 3) := by decide +kernel
theorem dX11_isWet_31 : decode cX11_isWet 31 = .ok (.aload_n 0, 1) := by decide +kernel
theorem dX11_isWet_32 : decode cX11_isWet 32 = .ok (.getfield 34, 3) := by decide +kernel
theorem dX11_isWet_35 : decode cX11_isWet 35 = .ok (.bipush 21, 2) := by decide +kernel
theorem dX11_isWet_37 : decode cX11_isWet 37 = .ok (.iaload, 1) := by decide +kernel
theorem dX11_isWet_38 : decode cX11_isWet 38 = .ok (.bipush 96, 2) := by decide +kernel
theorem dX11_isWet_40 : decode cX11_isWet 40 = .ok (.idiv, 1) := by decide +kernel
theorem dX11_isWet_41 : decode cX11_isWet 41 = .ok (.bipush 7, 2) := by decide +kernel
theorem dX11_isWet_43 : decode cX11_isWet 43 = .ok (.irem, 1) := by decide +kernel
theorem dX11_isWet_44 : decode cX11_isWet 44 = .ok (.invokestatic 235, 3) := by decide +kernel
theorem dX11_isWet_47 : decode cX11_isWet 47 = .ok (.ireturn, 1) := by decide +kernel
theorem dX11_isWet_10 : decode cX11_isWet 10 = .ok (.aload_n 0, 1) := by decide +kernel
theorem dX11_isWet_11 : decode cX11_isWet 11 = .ok (.getfield 34, 3) := by decide +kernel
theorem dX11_isWet_14 : decode cX11_isWet 14 = .ok (.bipush 25, 2) := by decide +kernel
theorem dX11_isWet_16 : decode cX11_isWet 16 = .ok (.iaload, 1) := by decide +kernel
theorem dX11_isWet_17 : decode cX11_isWet 17 = .ok (.iconst 1, 1) := by decide +kernel
theorem dX11_isWet_25 : decode cX11_isWet 25 = .ok (.iconst 0, 1) := by decide +kernel
theorem dX11_isWet_26 : decode cX11_isWet 26 = .ok (.ireturn, 1) := by decide +kernel
theorem dX11_isWet_21 : decode cX11_isWet 21 = .ok (.iconst 1, 1) := by decide +kernel
theorem dX11_isWet_22 : decode cX11_isWet 22 = .ok (.goto 4, 3) := by decide +kernel
theorem dX11_isWet_18 : decode cX11_isWet 18 = .ok (.if_icmp .ne 7, 3) := by decide +kernel
theorem dX11_isWet_7 : decode cX11_isWet 7 = .ok (.ifCond .le 20, 3) := by decide +kernel
theorem bX11_isWet (x : bo_X) (hx : bo_OK x cX11_isWet RX11 1 1 21) (σ : bo_M) : bo_D x 0 [(0, .ref (bo_a x 135))] [] σ (mX11_isWet σ) (bo_Ri x cX11_isWet σ true) := by
  unfold mX11_isWet
  refine bo_aload_n hx dX11_isWet_0 rfl 0 rfl ?_
  refine gf_X11_34 hx dX11_isWet_1 ?_
  refine bo_bipush (v := 25) hx dX11_isWet_4 (by decide) ?_
  refine bo_iald hx bo_c_144 dX11_isWet_6 (fun v1 => ?_)
  refine bo_if_le hx 27 dX11_isWet_7 (by decide) ?_ ?_
  · refine bo_aload_n hx dX11_isWet_27 rfl 0 rfl ?_
    refine gf_X11_207 hx dX11_isWet_28 ?_
    refine bo_aload_n hx dX11_isWet_31 rfl 0 rfl ?_
    refine gf_X11_34 hx dX11_isWet_32 ?_
    refine bo_bipush (v := 21) hx dX11_isWet_35 (by decide) ?_
    refine bo_iald hx bo_c_144 dX11_isWet_37 (fun v2 => ?_)
    refine bo_bipush (v := 96) hx dX11_isWet_38 (by decide) ?_
    refine bo_idivc hx dX11_isWet_40 (by decide) ?_
    refine bo_bipush (v := 7) hx dX11_isWet_41 (by decide) ?_
    refine bo_iremc hx dX11_isWet_43 (by decide) ?_
    refine bo_goR (z := true) hx (fun rr hh => bo_runS (As := [.int (σ 135 3), .int (bo_irm (v2 / 96) 7)]) (S := []) hx dX11_isWet_44 lk_X11_235 ms_X11_has (kX11_has (bo_l x) (bo_g x) hx.inj σ (σ 135 3) (bo_irm (v2 / 96) 7) rr hh) ⟨by decide, by decide⟩ rfl rfl (Nat.le_of_ble_eq_true rfl)) (fun v3 hv3 => ?_)
    exact bo_ret dX11_isWet_47 (fun _ => (hv3 rfl))
  · refine bo_aload_n hx dX11_isWet_10 rfl 0 rfl ?_
    refine gf_X11_34 hx dX11_isWet_11 ?_
    refine bo_bipush (v := 25) hx dX11_isWet_14 (by decide) ?_
    refine bo_iald hx bo_c_144 dX11_isWet_16 (fun v4 => ?_)
    refine bo_iconst (v := 1) hx dX11_isWet_17 (by decide) ?_
    refine bo_icmp_ne hx 25 dX11_isWet_18 (by decide) ?_ ?_
    · refine bo_iconst (v := 0) hx dX11_isWet_25 (by decide) ?_
      exact bo_ret dX11_isWet_26 (fun _ => bo_b_0)
    · refine bo_iconst (v := 1) hx dX11_isWet_21 (by decide) ?_
      refine bo_goto hx 26 dX11_isWet_22 (by decide) ?_
      exact bo_ret dX11_isWet_26 (fun _ => bo_b_1)
theorem kX11_isWet (l : Launch) (g : bo_G) (hi : bo_inj g) (σ : bo_M) : bo_CR l g yX11_isWet cX11_isWet 1 (some .boolean) 1 21 [.ref (g.2.2 135)] σ true (mX11_isWet σ) :=
  bo_metR rfl (Or.inr ⟨rfl, rfl⟩) (by decide) rfl hi (Nat.le_of_ble_eq_true rfl) (fun x e1 e2 hx => by subst e1; subst e2; exact bX11_isWet x hx σ)
-- BellRopeModel.isFirstOfDay
theorem dX11_isFirstOfDay_0 : decode cX11_isFirstOfDay 0 = .ok (.aload_n 0, 1) := by decide +kernel
theorem dX11_isFirstOfDay_1 : decode cX11_isFirstOfDay 1 = .ok (.getfield 34, 3) := by decide +kernel
theorem dX11_isFirstOfDay_4 : decode cX11_isFirstOfDay 4 = .ok (.bipush 21, 2) := by decide +kernel
theorem dX11_isFirstOfDay_6 : decode cX11_isFirstOfDay 6 = .ok (.iaload, 1) := by decide +kernel
theorem dX11_isFirstOfDay_7 : decode cX11_isFirstOfDay 7 = .ok (.bipush 96, 2) := by decide +kernel
theorem dX11_isFirstOfDay_9 : decode cX11_isFirstOfDay 9 = .ok (.irem, 1) := by decide +kernel
theorem dX11_isFirstOfDay_17 : decode cX11_isFirstOfDay 17 = .ok (.iconst 0, 1) := by decide +kernel
theorem dX11_isFirstOfDay_18 : decode cX11_isFirstOfDay 18 = .ok (.ireturn, 1) := by decide +kernel
theorem dX11_isFirstOfDay_13 : decode cX11_isFirstOfDay 13 = .ok (.iconst 1, 1) := by decide +kernel
theorem dX11_isFirstOfDay_14 : decode cX11_isFirstOfDay 14 = .ok (.goto 4, 3) := by decide +kernel
theorem dX11_isFirstOfDay_10 : decode cX11_isFirstOfDay 10 = .ok (.ifCond .ne 7, 3) := by decide +kernel
theorem bX11_isFirstOfDay (x : bo_X) (hx : bo_OK x cX11_isFirstOfDay RX11 1 0 0) (σ : bo_M) : bo_D x 0 [(0, .ref (bo_a x 135))] [] σ (mX11_isFirstOfDay σ) (bo_Ri x cX11_isFirstOfDay σ true) := by
  unfold mX11_isFirstOfDay
  refine bo_aload_n hx dX11_isFirstOfDay_0 rfl 0 rfl ?_
  refine gf_X11_34 hx dX11_isFirstOfDay_1 ?_
  refine bo_bipush (v := 21) hx dX11_isFirstOfDay_4 (by decide) ?_
  refine bo_iald hx bo_c_144 dX11_isFirstOfDay_6 (fun v1 => ?_)
  refine bo_bipush (v := 96) hx dX11_isFirstOfDay_7 (by decide) ?_
  refine bo_iremc hx dX11_isFirstOfDay_9 (by decide) ?_
  refine bo_if_ne hx 17 dX11_isFirstOfDay_10 (by decide) ?_ ?_
  · refine bo_iconst (v := 0) hx dX11_isFirstOfDay_17 (by decide) ?_
    exact bo_ret dX11_isFirstOfDay_18 (fun _ => bo_b_0)
  · refine bo_iconst (v := 1) hx dX11_isFirstOfDay_13 (by decide) ?_
    refine bo_goto hx 18 dX11_isFirstOfDay_14 (by decide) ?_
    exact bo_ret dX11_isFirstOfDay_18 (fun _ => bo_b_1)
theorem kX11_isFirstOfDay (l : Launch) (g : bo_G) (hi : bo_inj g) (σ : bo_M) : bo_CR l g yX11_isFirstOfDay cX11_isFirstOfDay 1 (some .boolean) 0 0 [.ref (g.2.2 135)] σ true (mX11_isFirstOfDay σ) :=
  bo_metR rfl (Or.inr ⟨rfl, rfl⟩) (by decide) rfl hi (Nat.le_of_ble_eq_true rfl) (fun x e1 e2 hx => by subst e1; subst e2; exact bX11_isFirstOfDay x hx σ)
-- BellRopeModel.isBlanketed
theorem dX11_isBlanketed_0 : decode cX11_isBlanketed 0 = .ok (.iconst 0, 1) := by decide +kernel
theorem dX11_isBlanketed_1 : decode cX11_isBlanketed 1 = .ok (.istore_n 2, 1) := by decide +kernel
theorem dX11_isBlanketed_2 : decode cX11_isBlanketed 2 = .ok (.iconst 0, 1) := by decide +kernel
theorem dX11_isBlanketed_3 : decode cX11_isBlanketed 3 = .ok (.istore_n 3, 1) := by decide +kernel
theorem dX11_isBlanketed_4 : decode cX11_isBlanketed 4 = .ok (.iload_n 3, 1) := by decide +kernel
theorem dX11_isBlanketed_5 : decode cX11_isBlanketed 5 = .ok (.aload_n 0, 1) := by decide +kernel
theorem dX11_isBlanketed_6 : decode cX11_isBlanketed 6 = .ok (.getfield 210, 3) := by decide +kernel
theorem dX11_isBlanketed_12 : decode cX11_isBlanketed 12 = .ok (.iload_n 2, 1) := by decide +kernel
theorem dX11_isBlanketed_47 : decode cX11_isBlanketed 47 = .ok (.iconst 1, 1) := by decide +kernel
theorem dX11_isBlanketed_48 : decode cX11_isBlanketed 48 = .ok (.goto 4, 3) := by decide +kernel
theorem dX11_isBlanketed_16 : decode cX11_isBlanketed 16 = .ok (.iload_n 1, 1) := by decide +kernel
theorem dX11_isBlanketed_17 : decode cX11_isBlanketed 17 = .ok (.i2l, 1) := by decide +kernel
theorem dX11_isBlanketed_18 : decode cX11_isBlanketed 18 = .ok (.aload_n 0, 1) := by decide +kernel
theorem dX11_isBlanketed_19 : decode cX11_isBlanketed 19 = .ok (.getfield 19, 3) := by decide +kernel
theorem dX11_isBlanketed_22 : decode cX11_isBlanketed 22 = .ok (.iload_n 3, 1) := by decide +kernel
theorem dX11_isBlanketed_23 : decode cX11_isBlanketed 23 = .ok (.iaload, 1) := by decide +kernel
theorem dX11_isBlanketed_24 : decode cX11_isBlanketed 24 = .ok (.i2l, 1) := by decide +kernel
theorem dX11_isBlanketed_25 : decode cX11_isBlanketed 25 = .ok (.aload_n 0, 1) := by decide +kernel
theorem dX11_isBlanketed_26 : decode cX11_isBlanketed 26 = .ok (.getfield 19, 3) := by decide +kernel
theorem dX11_isBlanketed_29 : decode cX11_isBlanketed 29 = .ok (.iload_n 3, 1) := by decide +kernel
theorem dX11_isBlanketed_30 : decode cX11_isBlanketed 30 = .ok (.iaload, 1) := by decide +kernel
theorem dX11_isBlanketed_31 : decode cX11_isBlanketed 31 = .ok (.aload_n 0, 1) := by decide +kernel
theorem dX11_isBlanketed_32 : decode cX11_isBlanketed 32 = .ok (.getfield 22, 3) := by decide +kernel
theorem dX11_isBlanketed_35 : decode cX11_isBlanketed 35 = .ok (.iload_n 3, 1) := by decide +kernel
theorem dX11_isBlanketed_36 : decode cX11_isBlanketed 36 = .ok (.iaload, 1) := by decide +kernel
theorem dX11_isBlanketed_37 : decode cX11_isBlanketed 37 = .ok (.iadd, 1) := by decide +kernel
theorem dX11_isBlanketed_38 : decode cX11_isBlanketed 38 = .ok (.iconst 1, 1) := by decide +kernel
theorem dX11_isBlanketed_39 : decode cX11_isBlanketed 39 = .ok (.isub, 1) := by decide +kernel
theorem dX11_isBlanketed_40 : decode cX11_isBlanketed 40 = .ok (.i2l, 1) := by decide +kernel
theorem dX11_isBlanketed_41 : decode cX11_isBlanketed 41 = .ok (.invokestatic 118, 3) := by decide +kernel
theorem dX11_isBlanketed_51 : decode cX11_isBlanketed 51 = .ok (.iconst 0, 1) := by decide +kernel
theorem dX11_isBlanketed_44 : decode cX11_isBlanketed 44 = .ok (.ifCond .eq 7, 3) := by decide +kernel
theorem dX11_isBlanketed_13 : decode cX11_isBlanketed 13 = .ok (.ifCond .ne 34, 3) := by decide +kernel
theorem dX11_isBlanketed_52 : decode cX11_isBlanketed 52 = .ok (.istore_n 2, 1) := by decide +kernel
theorem dX11_isBlanketed_53 : decode cX11_isBlanketed 53 = .ok (.iinc 3 1, 3) := by decide +kernel
theorem dX11_isBlanketed_56 : decode cX11_isBlanketed 56 = .ok (.goto (-52), 3) := by decide +kernel
theorem dX11_isBlanketed_9 : decode cX11_isBlanketed 9 = .ok (.if_icmp .ge 50, 3) := by decide +kernel
theorem dX11_isBlanketed_59 : decode cX11_isBlanketed 59 = .ok (.iload_n 2, 1) := by decide +kernel
theorem dX11_isBlanketed_60 : decode cX11_isBlanketed 60 = .ok (.ireturn, 1) := by decide +kernel
theorem lX11_isBlanketed_L4 (x : bo_X) (hx : bo_OK x cX11_isBlanketed RX11 4 1 25) (σ : bo_M) (f1 : Int32) : ∀ (n : Nat) (w2 : Int32) (w3 : Int32), bo_D x 4 [(0, .ref (bo_a x 135)), (1, .int f1), (2, .int w2), (3, .int w3)] [] σ (mX11_isBlanketed_L4 σ f1 n w2 w3) (fun a => bo_N x 59 [(2, .int a)] [] σ) := by
  intro n
  induction n with
  | zero => intro w2 w3; exact bo_none
  | succ n ih =>
    intro w2 w3
    rw [mX11_isBlanketed_L4]
    refine bo_iload_n hx dX11_isBlanketed_4 rfl 3 rfl ?_
    refine bo_aload_n hx dX11_isBlanketed_5 rfl 0 rfl ?_
    refine gf_X11_210 hx dX11_isBlanketed_6 ?_
    refine bo_icmp_ge hx 59 dX11_isBlanketed_9 (by decide) ?_ ?_
    · refine bo_sub (L' := [(2, .int w2)]) [2] rfl ?_
      exact bo_arr (fun h => h)
    · refine bo_iload_n hx dX11_isBlanketed_12 rfl 2 rfl ?_
      refine bo_seq 52 (fun a => [(0, .ref (bo_a x 135)), (1, .int f1), (3, .int w3)]) (fun a => [.int a]) (fun a => σ) ?_ (fun a1 => ?_)
      · refine bo_if_ne hx 47 dX11_isBlanketed_13 (by decide) ?_ ?_
        · refine bo_iconst (v := 1) hx dX11_isBlanketed_47 (by decide) ?_
          refine bo_goto hx 52 dX11_isBlanketed_48 (by decide) ?_
          refine bo_sub (L' := [(0, .ref (bo_a x 135)), (1, .int f1), (3, .int w3)]) [0, 1, 3] rfl ?_
          exact bo_arr (fun h => h)
        · refine bo_iload_n hx dX11_isBlanketed_16 rfl 1 rfl ?_
          refine bo_i2l hx dX11_isBlanketed_17 ?_
          refine bo_aload_n hx dX11_isBlanketed_18 rfl 0 rfl ?_
          refine gf_X11_19 hx dX11_isBlanketed_19 ?_
          refine bo_iload_n hx dX11_isBlanketed_22 rfl 3 rfl ?_
          refine bo_iald hx bo_c_139 dX11_isBlanketed_23 (fun v2 => ?_)
          refine bo_i2l hx dX11_isBlanketed_24 ?_
          refine bo_aload_n hx dX11_isBlanketed_25 rfl 0 rfl ?_
          refine gf_X11_19 hx dX11_isBlanketed_26 ?_
          refine bo_iload_n hx dX11_isBlanketed_29 rfl 3 rfl ?_
          refine bo_iald hx bo_c_139 dX11_isBlanketed_30 (fun v3 => ?_)
          refine bo_aload_n hx dX11_isBlanketed_31 rfl 0 rfl ?_
          refine gf_X11_22 hx dX11_isBlanketed_32 ?_
          refine bo_iload_n hx dX11_isBlanketed_35 rfl 3 rfl ?_
          refine bo_iald hx bo_c_140 dX11_isBlanketed_36 (fun v4 => ?_)
          refine bo_iadd hx dX11_isBlanketed_37 ?_
          refine bo_iconst (v := 1) hx dX11_isBlanketed_38 (by decide) ?_
          refine bo_isub hx dX11_isBlanketed_39 ?_
          refine bo_i2l hx dX11_isBlanketed_40 ?_
          refine bo_goR (z := true) hx (fun rr hh => bo_runS (As := [.long (Int32.toInt64 f1), .long (Int32.toInt64 v2), .long (Int32.toInt64 ((v3 + v4) - 1))]) (S := []) hx dX11_isBlanketed_41 lk_X11_118 ms_X11_in (kX11_in (bo_l x) (bo_g x) hx.inj σ (Int32.toInt64 f1) (Int32.toInt64 v2) (Int32.toInt64 ((v3 + v4) - 1)) rr hh) ⟨by decide, by decide⟩ rfl rfl (Nat.le_of_ble_eq_true rfl)) (fun v5 hv5 => ?_)
          refine bo_if_eq hx 51 dX11_isBlanketed_44 (by decide) ?_ ?_
          · refine bo_iconst (v := 0) hx dX11_isBlanketed_51 (by decide) ?_
            refine bo_sub (L' := [(0, .ref (bo_a x 135)), (1, .int f1), (3, .int w3)]) [0, 1, 3] rfl ?_
            exact bo_arr (fun h => h)
          · refine bo_iconst (v := 1) hx dX11_isBlanketed_47 (by decide) ?_
            refine bo_goto hx 52 dX11_isBlanketed_48 (by decide) ?_
            refine bo_sub (L' := [(0, .ref (bo_a x 135)), (1, .int f1), (3, .int w3)]) [0, 1, 3] rfl ?_
            exact bo_arr (fun h => h)
      · refine bo_istore_n (L' := [(2, .int a1), (0, .ref (bo_a x 135)), (1, .int f1), (3, .int w3)]) hx dX11_isBlanketed_52 rfl (by decide) rfl ?_
        refine bo_iinc (L' := [(3, .int (w3 + 1)), (2, .int a1), (0, .ref (bo_a x 135)), (1, .int f1)]) (w := (w3 + 1)) hx dX11_isBlanketed_53 3 rfl rfl (by decide) rfl ?_
        refine bo_goto hx 4 dX11_isBlanketed_56 (by decide) ?_
        refine bo_sub (L' := [(0, .ref (bo_a x 135)), (1, .int f1), (2, .int a1), (3, .int (w3 + 1))]) [2, 3, 1, 0] rfl ?_
        exact ih a1 (w3 + 1)
theorem bX11_isBlanketed (x : bo_X) (hx : bo_OK x cX11_isBlanketed RX11 4 1 25) (σ : bo_M) (p1 : Int32) : bo_D x 0 [(0, .ref (bo_a x 135)), (1, .int p1)] [] σ (mX11_isBlanketed σ p1) (bo_Ri x cX11_isBlanketed σ true) := by
  unfold mX11_isBlanketed
  refine bo_iconst (v := 0) hx dX11_isBlanketed_0 (by decide) ?_
  refine bo_istore_n (L' := [(2, .int 0), (0, .ref (bo_a x 135)), (1, .int p1)]) hx dX11_isBlanketed_1 rfl (by decide) rfl ?_
  refine bo_iconst (v := 0) hx dX11_isBlanketed_2 (by decide) ?_
  refine bo_istore_n (L' := [(3, .int 0), (2, .int 0), (0, .ref (bo_a x 135)), (1, .int p1)]) hx dX11_isBlanketed_3 rfl (by decide) rfl ?_
  refine bo_sub (L' := [(0, .ref (bo_a x 135)), (1, .int p1), (2, .int 0), (3, .int 0)]) [2, 3, 1, 0] rfl ?_
  refine bo_seq 59 (fun a => [(2, .int a)]) (fun a => []) (fun a => σ) (lX11_isBlanketed_L4 x hx σ p1 bo_fuel 0 0) (fun a6 => ?_)
  refine bo_iload_n hx dX11_isBlanketed_59 rfl 0 rfl ?_
  exact bo_retz dX11_isBlanketed_60
theorem kX11_isBlanketed (l : Launch) (g : bo_G) (hi : bo_inj g) (σ : bo_M) (p1 : Int32) : bo_CR l g yX11_isBlanketed cX11_isBlanketed 4 (some .boolean) 1 25 [.ref (g.2.2 135), .int p1] σ true (mX11_isBlanketed σ p1) :=
  bo_metR rfl (Or.inr ⟨rfl, rfl⟩) (by decide) rfl hi (Nat.le_of_ble_eq_true rfl) (fun x e1 e2 hx => by subst e1; subst e2; exact bX11_isBlanketed x hx σ p1)
-- BellRopeModel.isTurn
theorem dX11_isTurn_0 : decode cX11_isTurn 0 = .ok (.iload_n 2, 1) := by decide +kernel
theorem dX11_isTurn_1 : decode cX11_isTurn 1 = .ok (.aload_n 0, 1) := by decide +kernel
theorem dX11_isTurn_2 : decode cX11_isTurn 2 = .ok (.getfield 34, 3) := by decide +kernel
theorem dX11_isTurn_5 : decode cX11_isTurn 5 = .ok (.bipush 14, 2) := by decide +kernel
theorem dX11_isTurn_7 : decode cX11_isTurn 7 = .ok (.iload_n 1, 1) := by decide +kernel
theorem dX11_isTurn_8 : decode cX11_isTurn 8 = .ok (.iadd, 1) := by decide +kernel
theorem dX11_isTurn_9 : decode cX11_isTurn 9 = .ok (.iaload, 1) := by decide +kernel
theorem dX11_isTurn_10 : decode cX11_isTurn 10 = .ok (.iadd, 1) := by decide +kernel
theorem dX11_isTurn_11 : decode cX11_isTurn 11 = .ok (.aload_n 0, 1) := by decide +kernel
theorem dX11_isTurn_12 : decode cX11_isTurn 12 = .ok (.getfield 7, 3) := by decide +kernel
theorem dX11_isTurn_15 : decode cX11_isTurn 15 = .ok (.iload_n 1, 1) := by decide +kernel
theorem dX11_isTurn_16 : decode cX11_isTurn 16 = .ok (.iaload, 1) := by decide +kernel
theorem dX11_isTurn_17 : decode cX11_isTurn 17 = .ok (.irem, 1) := by decide +kernel
theorem dX11_isTurn_25 : decode cX11_isTurn 25 = .ok (.iconst 0, 1) := by decide +kernel
theorem dX11_isTurn_26 : decode cX11_isTurn 26 = .ok (.ireturn, 1) := by decide +kernel
theorem dX11_isTurn_21 : decode cX11_isTurn 21 = .ok (.iconst 1, 1) := by decide +kernel
theorem dX11_isTurn_22 : decode cX11_isTurn 22 = .ok (.goto 4, 3) := by decide +kernel
theorem dX11_isTurn_18 : decode cX11_isTurn 18 = .ok (.ifCond .ne 7, 3) := by decide +kernel
theorem bX11_isTurn (x : bo_X) (hx : bo_OK x cX11_isTurn RX11 3 0 0) (σ : bo_M) (p1 : Int32) (p2 : Int32) : bo_D x 0 [(0, .ref (bo_a x 135)), (1, .int p1), (2, .int p2)] [] σ (mX11_isTurn σ p1 p2) (bo_Ri x cX11_isTurn σ true) := by
  unfold mX11_isTurn
  refine bo_iload_n hx dX11_isTurn_0 rfl 2 rfl ?_
  refine bo_aload_n hx dX11_isTurn_1 rfl 0 rfl ?_
  refine gf_X11_34 hx dX11_isTurn_2 ?_
  refine bo_bipush (v := 14) hx dX11_isTurn_5 (by decide) ?_
  refine bo_iload_n hx dX11_isTurn_7 rfl 1 rfl ?_
  refine bo_iadd hx dX11_isTurn_8 ?_
  refine bo_iald hx bo_c_144 dX11_isTurn_9 (fun v1 => ?_)
  refine bo_iadd hx dX11_isTurn_10 ?_
  refine bo_aload_n hx dX11_isTurn_11 rfl 0 rfl ?_
  refine gf_X11_7 hx dX11_isTurn_12 ?_
  refine bo_iload_n hx dX11_isTurn_15 rfl 1 rfl ?_
  refine bo_iald hx bo_c_136 dX11_isTurn_16 (fun v2 => ?_)
  refine bo_irem hx dX11_isTurn_17 (fun v3 => ?_)
  refine bo_if_ne hx 25 dX11_isTurn_18 (by decide) ?_ ?_
  · refine bo_iconst (v := 0) hx dX11_isTurn_25 (by decide) ?_
    exact bo_ret dX11_isTurn_26 (fun _ => bo_b_0)
  · refine bo_iconst (v := 1) hx dX11_isTurn_21 (by decide) ?_
    refine bo_goto hx 26 dX11_isTurn_22 (by decide) ?_
    exact bo_ret dX11_isTurn_26 (fun _ => bo_b_1)
theorem kX11_isTurn (l : Launch) (g : bo_G) (hi : bo_inj g) (σ : bo_M) (p1 : Int32) (p2 : Int32) : bo_CR l g yX11_isTurn cX11_isTurn 3 (some .boolean) 0 0 [.ref (g.2.2 135), .int p1, .int p2] σ true (mX11_isTurn σ p1 p2) :=
  bo_metR rfl (Or.inr ⟨rfl, rfl⟩) (by decide) rfl hi (Nat.le_of_ble_eq_true rfl) (fun x e1 e2 hx => by subst e1; subst e2; exact bX11_isTurn x hx σ p1 p2)
-- BellRopeModel.wouldRing
theorem dX11_wouldRing_0 : decode cX11_wouldRing 0 = .ok (.aload_n 0, 1) := by decide +kernel
theorem dX11_wouldRing_1 : decode cX11_wouldRing 1 = .ok (.invokevirtual 239, 3) := by decide +kernel
theorem dX11_wouldRing_11 : decode cX11_wouldRing 11 = .ok (.aload_n 0, 1) := by decide +kernel
theorem dX11_wouldRing_12 : decode cX11_wouldRing 12 = .ok (.getfield 34, 3) := by decide +kernel
theorem dX11_wouldRing_15 : decode cX11_wouldRing 15 = .ok (.bipush 7, 2) := by decide +kernel
theorem dX11_wouldRing_17 : decode cX11_wouldRing 17 = .ok (.iload_n 1, 1) := by decide +kernel
theorem dX11_wouldRing_18 : decode cX11_wouldRing 18 = .ok (.iadd, 1) := by decide +kernel
theorem dX11_wouldRing_19 : decode cX11_wouldRing 19 = .ok (.iaload, 1) := by decide +kernel
theorem dX11_wouldRing_7 : decode cX11_wouldRing 7 = .ok (.iconst 0, 1) := by decide +kernel
theorem dX11_wouldRing_8 : decode cX11_wouldRing 8 = .ok (.goto 12, 3) := by decide +kernel
theorem dX11_wouldRing_4 : decode cX11_wouldRing 4 = .ok (.ifCond .eq 7, 3) := by decide +kernel
theorem dX11_wouldRing_20 : decode cX11_wouldRing 20 = .ok (.istore_n 2, 1) := by decide +kernel
theorem dX11_wouldRing_21 : decode cX11_wouldRing 21 = .ok (.aload_n 0, 1) := by decide +kernel
theorem dX11_wouldRing_22 : decode cX11_wouldRing 22 = .ok (.getfield 34, 3) := by decide +kernel
theorem dX11_wouldRing_25 : decode cX11_wouldRing 25 = .ok (.iconst 0, 1) := by decide +kernel
theorem dX11_wouldRing_26 : decode cX11_wouldRing 26 = .ok (.iload_n 1, 1) := by decide +kernel
theorem dX11_wouldRing_27 : decode cX11_wouldRing 27 = .ok (.iadd, 1) := by decide +kernel
theorem dX11_wouldRing_28 : decode cX11_wouldRing 28 = .ok (.iaload, 1) := by decide +kernel
theorem dX11_wouldRing_29 : decode cX11_wouldRing 29 = .ok (.iconst 1, 1) := by decide +kernel
theorem dX11_wouldRing_62 : decode cX11_wouldRing 62 = .ok (.iconst 0, 1) := by decide +kernel
theorem dX11_wouldRing_63 : decode cX11_wouldRing 63 = .ok (.ireturn, 1) := by decide +kernel
theorem dX11_wouldRing_33 : decode cX11_wouldRing 33 = .ok (.iload_n 2, 1) := by decide +kernel
theorem dX11_wouldRing_34 : decode cX11_wouldRing 34 = .ok (.aload_n 0, 1) := by decide +kernel
theorem dX11_wouldRing_35 : decode cX11_wouldRing 35 = .ok (.getfield 13, 3) := by decide +kernel
theorem dX11_wouldRing_38 : decode cX11_wouldRing 38 = .ok (.iload_n 1, 1) := by decide +kernel
theorem dX11_wouldRing_39 : decode cX11_wouldRing 39 = .ok (.iaload, 1) := by decide +kernel
theorem dX11_wouldRing_43 : decode cX11_wouldRing 43 = .ok (.aload_n 0, 1) := by decide +kernel
theorem dX11_wouldRing_44 : decode cX11_wouldRing 44 = .ok (.iload_n 1, 1) := by decide +kernel
theorem dX11_wouldRing_45 : decode cX11_wouldRing 45 = .ok (.aload_n 0, 1) := by decide +kernel
theorem dX11_wouldRing_46 : decode cX11_wouldRing 46 = .ok (.getfield 34, 3) := by decide +kernel
theorem dX11_wouldRing_49 : decode cX11_wouldRing 49 = .ok (.bipush 21, 2) := by decide +kernel
theorem dX11_wouldRing_51 : decode cX11_wouldRing 51 = .ok (.iaload, 1) := by decide +kernel
theorem dX11_wouldRing_52 : decode cX11_wouldRing 52 = .ok (.invokevirtual 243, 3) := by decide +kernel
theorem dX11_wouldRing_58 : decode cX11_wouldRing 58 = .ok (.iconst 1, 1) := by decide +kernel
theorem dX11_wouldRing_59 : decode cX11_wouldRing 59 = .ok (.goto 4, 3) := by decide +kernel
theorem dX11_wouldRing_55 : decode cX11_wouldRing 55 = .ok (.ifCond .eq 7, 3) := by decide +kernel
theorem dX11_wouldRing_40 : decode cX11_wouldRing 40 = .ok (.if_icmp .ge 22, 3) := by decide +kernel
theorem dX11_wouldRing_30 : decode cX11_wouldRing 30 = .ok (.if_icmp .ne 32, 3) := by decide +kernel
theorem bX11_wouldRing (x : bo_X) (hx : bo_OK x cX11_wouldRing RX11 3 1 22) (σ : bo_M) (p1 : Int32) : bo_D x 0 [(0, .ref (bo_a x 135)), (1, .int p1)] [] σ (mX11_wouldRing σ p1) (bo_Ri x cX11_wouldRing σ true) := by
  unfold mX11_wouldRing
  refine bo_aload_n hx dX11_wouldRing_0 rfl 0 rfl ?_
  refine bo_goR (z := true) hx (fun rr hh => bo_runV (As := []) (S := []) hx dX11_wouldRing_1 lk_X11_239 mi_X11_isFirstOfDay bo_o_135 rfl rfl (kX11_isFirstOfDay (bo_l x) (bo_g x) hx.inj σ rr hh) ⟨by decide, by decide⟩ rfl rfl (Nat.le_of_ble_eq_true rfl)) (fun v1 hv1 => ?_)
  refine bo_seq 20 (fun a => [(0, .ref (bo_a x 135)), (1, .int p1)]) (fun a => [.int a]) (fun a => σ) ?_ (fun a2 => ?_)
  · refine bo_if_eq hx 11 dX11_wouldRing_4 (by decide) ?_ ?_
    · refine bo_aload_n hx dX11_wouldRing_11 rfl 0 rfl ?_
      refine gf_X11_34 hx dX11_wouldRing_12 ?_
      refine bo_bipush (v := 7) hx dX11_wouldRing_15 (by decide) ?_
      refine bo_iload_n hx dX11_wouldRing_17 rfl 1 rfl ?_
      refine bo_iadd hx dX11_wouldRing_18 ?_
      refine bo_iald hx bo_c_144 dX11_wouldRing_19 (fun v3 => ?_)
      exact bo_arr (fun h => h)
    · refine bo_iconst (v := 0) hx dX11_wouldRing_7 (by decide) ?_
      refine bo_goto hx 20 dX11_wouldRing_8 (by decide) ?_
      exact bo_arr (fun h => h)
  · refine bo_istore_n (L' := [(2, .int a2), (0, .ref (bo_a x 135)), (1, .int p1)]) hx dX11_wouldRing_20 rfl (by decide) rfl ?_
    refine bo_aload_n hx dX11_wouldRing_21 rfl 1 rfl ?_
    refine gf_X11_34 hx dX11_wouldRing_22 ?_
    refine bo_iconst (v := 0) hx dX11_wouldRing_25 (by decide) ?_
    refine bo_iload_n hx dX11_wouldRing_26 rfl 2 rfl ?_
    refine bo_iadd hx dX11_wouldRing_27 ?_
    refine bo_iald hx bo_c_144 dX11_wouldRing_28 (fun v4 => ?_)
    refine bo_iconst (v := 1) hx dX11_wouldRing_29 (by decide) ?_
    refine bo_icmp_ne hx 62 dX11_wouldRing_30 (by decide) ?_ ?_
    · refine bo_iconst (v := 0) hx dX11_wouldRing_62 (by decide) ?_
      exact bo_ret dX11_wouldRing_63 (fun _ => bo_b_0)
    · refine bo_iload_n hx dX11_wouldRing_33 rfl 0 rfl ?_
      refine bo_aload_n hx dX11_wouldRing_34 rfl 1 rfl ?_
      refine gf_X11_13 hx dX11_wouldRing_35 ?_
      refine bo_iload_n hx dX11_wouldRing_38 rfl 2 rfl ?_
      refine bo_iald hx bo_c_137 dX11_wouldRing_39 (fun v5 => ?_)
      refine bo_icmp_ge hx 62 dX11_wouldRing_40 (by decide) ?_ ?_
      · refine bo_iconst (v := 0) hx dX11_wouldRing_62 (by decide) ?_
        exact bo_ret dX11_wouldRing_63 (fun _ => bo_b_0)
      · refine bo_aload_n hx dX11_wouldRing_43 rfl 1 rfl ?_
        refine bo_iload_n hx dX11_wouldRing_44 rfl 2 rfl ?_
        refine bo_aload_n hx dX11_wouldRing_45 rfl 1 rfl ?_
        refine gf_X11_34 hx dX11_wouldRing_46 ?_
        refine bo_bipush (v := 21) hx dX11_wouldRing_49 (by decide) ?_
        refine bo_iald hx bo_c_144 dX11_wouldRing_51 (fun v6 => ?_)
        refine bo_goR (z := true) hx (fun rr hh => bo_runV (As := [.int p1, .int v6]) (S := []) hx dX11_wouldRing_52 lk_X11_243 mi_X11_isTurn bo_o_135 rfl rfl (kX11_isTurn (bo_l x) (bo_g x) hx.inj σ p1 v6 rr hh) ⟨by decide, by decide⟩ rfl rfl (Nat.le_of_ble_eq_true rfl)) (fun v7 hv7 => ?_)
        refine bo_if_eq hx 62 dX11_wouldRing_55 (by decide) ?_ ?_
        · refine bo_iconst (v := 0) hx dX11_wouldRing_62 (by decide) ?_
          exact bo_ret dX11_wouldRing_63 (fun _ => bo_b_0)
        · refine bo_iconst (v := 1) hx dX11_wouldRing_58 (by decide) ?_
          refine bo_goto hx 63 dX11_wouldRing_59 (by decide) ?_
          exact bo_ret dX11_wouldRing_63 (fun _ => bo_b_1)
theorem kX11_wouldRing (l : Launch) (g : bo_G) (hi : bo_inj g) (σ : bo_M) (p1 : Int32) : bo_CR l g yX11_wouldRing cX11_wouldRing 3 (some .boolean) 1 22 [.ref (g.2.2 135), .int p1] σ true (mX11_wouldRing σ p1) :=
  bo_metR rfl (Or.inr ⟨rfl, rfl⟩) (by decide) rfl hi (Nat.le_of_ble_eq_true rfl) (fun x e1 e2 hx => by subst e1; subst e2; exact bX11_wouldRing x hx σ p1)
-- BellRopeModel.muffle
theorem dX11_muffle_0 : decode cX11_muffle 0 = .ok (.iload_n 1, 1) := by decide +kernel
theorem dX11_muffle_1 : decode cX11_muffle 1 = .ok (.iload_n 2, 1) := by decide +kernel
theorem dX11_muffle_11 : decode cX11_muffle 11 = .ok (.iconst 0, 1) := by decide +kernel
theorem dX11_muffle_5 : decode cX11_muffle 5 = .ok (.iload_n 1, 1) := by decide +kernel
theorem dX11_muffle_6 : decode cX11_muffle 6 = .ok (.iload_n 2, 1) := by decide +kernel
theorem dX11_muffle_7 : decode cX11_muffle 7 = .ok (.isub, 1) := by decide +kernel
theorem dX11_muffle_8 : decode cX11_muffle 8 = .ok (.goto 4, 3) := by decide +kernel
theorem dX11_muffle_2 : decode cX11_muffle 2 = .ok (.if_icmp .le 9, 3) := by decide +kernel
theorem dX11_muffle_12 : decode cX11_muffle 12 = .ok (.istore_n 3, 1) := by decide +kernel
theorem dX11_muffle_13 : decode cX11_muffle 13 = .ok (.iload_n 3, 1) := by decide +kernel
theorem dX11_muffle_26 : decode cX11_muffle 26 = .ok (.iconst 0, 1) := by decide +kernel
theorem dX11_muffle_27 : decode cX11_muffle 27 = .ok (.ireturn, 1) := by decide +kernel
theorem dX11_muffle_17 : decode cX11_muffle 17 = .ok (.iload_n 3, 1) := by decide +kernel
theorem dX11_muffle_18 : decode cX11_muffle 18 = .ok (.aload_n 0, 1) := by decide +kernel
theorem dX11_muffle_19 : decode cX11_muffle 19 = .ok (.getfield 201, 3) := by decide +kernel
theorem dX11_muffle_22 : decode cX11_muffle 22 = .ok (.iadd, 1) := by decide +kernel
theorem dX11_muffle_23 : decode cX11_muffle 23 = .ok (.goto 4, 3) := by decide +kernel
theorem dX11_muffle_14 : decode cX11_muffle 14 = .ok (.ifCond .le 12, 3) := by decide +kernel
theorem bX11_muffle (x : bo_X) (hx : bo_OK x cX11_muffle RX11 4 0 0) (σ : bo_M) (p1 : Int32) (p2 : Int32) : bo_D x 0 [(0, .ref (bo_a x 135)), (1, .int p1), (2, .int p2)] [] σ (mX11_muffle σ p1 p2) (bo_Ri x cX11_muffle σ false) := by
  unfold mX11_muffle
  refine bo_iload_n hx dX11_muffle_0 rfl 1 rfl ?_
  refine bo_iload_n hx dX11_muffle_1 rfl 2 rfl ?_
  refine bo_seq 12 (fun a => [(0, .ref (bo_a x 135))]) (fun a => [.int a]) (fun a => σ) ?_ (fun a1 => ?_)
  · refine bo_icmp_le hx 11 dX11_muffle_2 (by decide) ?_ ?_
    · refine bo_iconst (v := 0) hx dX11_muffle_11 (by decide) ?_
      refine bo_sub (L' := [(0, .ref (bo_a x 135))]) [0] rfl ?_
      exact bo_arr (fun h => h)
    · refine bo_iload_n hx dX11_muffle_5 rfl 1 rfl ?_
      refine bo_iload_n hx dX11_muffle_6 rfl 2 rfl ?_
      refine bo_isub hx dX11_muffle_7 ?_
      refine bo_goto hx 12 dX11_muffle_8 (by decide) ?_
      refine bo_sub (L' := [(0, .ref (bo_a x 135))]) [0] rfl ?_
      exact bo_arr (fun h => h)
  · refine bo_istore_n (L' := [(3, .int a1), (0, .ref (bo_a x 135))]) hx dX11_muffle_12 rfl (by decide) rfl ?_
    refine bo_iload_n hx dX11_muffle_13 rfl 0 rfl ?_
    refine bo_if_le hx 26 dX11_muffle_14 (by decide) ?_ ?_
    · refine bo_iconst (v := 0) hx dX11_muffle_26 (by decide) ?_
      exact bo_ret dX11_muffle_27 (fun h => by cases h)
    · refine bo_iload_n hx dX11_muffle_17 rfl 0 rfl ?_
      refine bo_aload_n hx dX11_muffle_18 rfl 1 rfl ?_
      refine gf_X11_201 hx dX11_muffle_19 ?_
      refine bo_iadd hx dX11_muffle_22 ?_
      refine bo_goto hx 27 dX11_muffle_23 (by decide) ?_
      exact bo_ret dX11_muffle_27 (fun h => by cases h)
theorem kX11_muffle (l : Launch) (g : bo_G) (hi : bo_inj g) (σ : bo_M) (p1 : Int32) (p2 : Int32) : bo_CR l g yX11_muffle cX11_muffle 4 (some .int) 0 0 [.ref (g.2.2 135), .int p1, .int p2] σ false (mX11_muffle σ p1 p2) :=
  bo_metR rfl (Or.inl ⟨rfl, rfl⟩) (by decide) rfl hi (Nat.le_of_ble_eq_true rfl) (fun x e1 e2 hx => by subst e1; subst e2; exact bX11_muffle x hx σ p1 p2)
-- BellRopeModel.heardOf
theorem dX11_heardOf_0 : decode cX11_heardOf 0 = .ok (.aload_n 0, 1) := by decide +kernel
theorem dX11_heardOf_1 : decode cX11_heardOf 1 = .ok (.invokevirtual 246, 3) := by decide +kernel
theorem dX11_heardOf_13 : decode cX11_heardOf 13 = .ok (.iload_n 1, 1) := by decide +kernel
theorem dX11_heardOf_7 : decode cX11_heardOf 7 = .ok (.iload_n 1, 1) := by decide +kernel
theorem dX11_heardOf_8 : decode cX11_heardOf 8 = .ok (.iconst 2, 1) := by decide +kernel
theorem dX11_heardOf_9 : decode cX11_heardOf 9 = .ok (.idiv, 1) := by decide +kernel
theorem dX11_heardOf_10 : decode cX11_heardOf 10 = .ok (.goto 4, 3) := by decide +kernel
theorem dX11_heardOf_4 : decode cX11_heardOf 4 = .ok (.ifCond .eq 9, 3) := by decide +kernel
theorem dX11_heardOf_14 : decode cX11_heardOf 14 = .ok (.istore_n 2, 1) := by decide +kernel
theorem dX11_heardOf_15 : decode cX11_heardOf 15 = .ok (.aload_n 0, 1) := by decide +kernel
theorem dX11_heardOf_16 : decode cX11_heardOf 16 = .ok (.getfield 34, 3) := by decide +kernel
theorem dX11_heardOf_19 : decode cX11_heardOf 19 = .ok (.bipush 23, 2) := by decide +kernel
theorem dX11_heardOf_21 : decode cX11_heardOf 21 = .ok (.iaload, 1) := by decide +kernel
theorem dX11_heardOf_42 : decode cX11_heardOf 42 = .ok (.iconst 1, 1) := by decide +kernel
theorem dX11_heardOf_43 : decode cX11_heardOf 43 = .ok (.goto 4, 3) := by decide +kernel
theorem dX11_heardOf_25 : decode cX11_heardOf 25 = .ok (.aload_n 0, 1) := by decide +kernel
theorem dX11_heardOf_26 : decode cX11_heardOf 26 = .ok (.aload_n 0, 1) := by decide +kernel
theorem dX11_heardOf_27 : decode cX11_heardOf 27 = .ok (.getfield 34, 3) := by decide +kernel
theorem dX11_heardOf_30 : decode cX11_heardOf 30 = .ok (.bipush 21, 2) := by decide +kernel
theorem dX11_heardOf_32 : decode cX11_heardOf 32 = .ok (.iaload, 1) := by decide +kernel
theorem dX11_heardOf_33 : decode cX11_heardOf 33 = .ok (.bipush 96, 2) := by decide +kernel
theorem dX11_heardOf_35 : decode cX11_heardOf 35 = .ok (.irem, 1) := by decide +kernel
theorem dX11_heardOf_36 : decode cX11_heardOf 36 = .ok (.invokevirtual 249, 3) := by decide +kernel
theorem dX11_heardOf_46 : decode cX11_heardOf 46 = .ok (.iconst 0, 1) := by decide +kernel
theorem dX11_heardOf_39 : decode cX11_heardOf 39 = .ok (.ifCond .eq 7, 3) := by decide +kernel
theorem dX11_heardOf_22 : decode cX11_heardOf 22 = .ok (.ifCond .gt 20, 3) := by decide +kernel
theorem dX11_heardOf_47 : decode cX11_heardOf 47 = .ok (.istore_n 3, 1) := by decide +kernel
theorem dX11_heardOf_48 : decode cX11_heardOf 48 = .ok (.aload_n 0, 1) := by decide +kernel
theorem dX11_heardOf_49 : decode cX11_heardOf 49 = .ok (.iload_n 2, 1) := by decide +kernel
theorem dX11_heardOf_50 : decode cX11_heardOf 50 = .ok (.iload_n 3, 1) := by decide +kernel
theorem dX11_heardOf_61 : decode cX11_heardOf 61 = .ok (.iconst 0, 1) := by decide +kernel
theorem dX11_heardOf_54 : decode cX11_heardOf 54 = .ok (.aload_n 0, 1) := by decide +kernel
theorem dX11_heardOf_55 : decode cX11_heardOf 55 = .ok (.getfield 204, 3) := by decide +kernel
theorem dX11_heardOf_58 : decode cX11_heardOf 58 = .ok (.goto 4, 3) := by decide +kernel
theorem dX11_heardOf_51 : decode cX11_heardOf 51 = .ok (.ifCond .eq 10, 3) := by decide +kernel
theorem dX11_heardOf_62 : decode cX11_heardOf 62 = .ok (.invokevirtual 252, 3) := by decide +kernel
theorem dX11_heardOf_65 : decode cX11_heardOf 65 = .ok (.ireturn, 1) := by decide +kernel
theorem bX11_heardOf (x : bo_X) (hx : bo_OK x cX11_heardOf RX11 4 2 48) (σ : bo_M) (p1 : Int32) : bo_D x 0 [(0, .ref (bo_a x 135)), (1, .int p1)] [] σ (mX11_heardOf σ p1) (bo_Ri x cX11_heardOf σ false) := by
  unfold mX11_heardOf
  refine bo_aload_n hx dX11_heardOf_0 rfl 0 rfl ?_
  refine bo_goR (z := true) hx (fun rr hh => bo_runV (As := []) (S := []) hx dX11_heardOf_1 lk_X11_246 mi_X11_isWet bo_o_135 rfl rfl (kX11_isWet (bo_l x) (bo_g x) hx.inj σ rr hh) ⟨by decide, by decide⟩ rfl rfl (Nat.le_of_ble_eq_true rfl)) (fun v1 hv1 => ?_)
  refine bo_seq 14 (fun a => [(0, .ref (bo_a x 135))]) (fun a => [.int a]) (fun a => σ) ?_ (fun a2 => ?_)
  · refine bo_if_eq hx 13 dX11_heardOf_4 (by decide) ?_ ?_
    · refine bo_iload_n hx dX11_heardOf_13 rfl 1 rfl ?_
      refine bo_sub (L' := [(0, .ref (bo_a x 135))]) [0] rfl ?_
      exact bo_arr (fun h => h)
    · refine bo_iload_n hx dX11_heardOf_7 rfl 1 rfl ?_
      refine bo_iconst (v := 2) hx dX11_heardOf_8 (by decide) ?_
      refine bo_idivc hx dX11_heardOf_9 (by decide) ?_
      refine bo_goto hx 14 dX11_heardOf_10 (by decide) ?_
      refine bo_sub (L' := [(0, .ref (bo_a x 135))]) [0] rfl ?_
      exact bo_arr (fun h => h)
  · refine bo_istore_n (L' := [(2, .int a2), (0, .ref (bo_a x 135))]) hx dX11_heardOf_14 rfl (by decide) rfl ?_
    refine bo_aload_n hx dX11_heardOf_15 rfl 1 rfl ?_
    refine gf_X11_34 hx dX11_heardOf_16 ?_
    refine bo_bipush (v := 23) hx dX11_heardOf_19 (by decide) ?_
    refine bo_iald hx bo_c_144 dX11_heardOf_21 (fun v3 => ?_)
    refine bo_seq 47 (fun a => [(0, .ref (bo_a x 135)), (2, .int a2)]) (fun a => [.int a]) (fun a => σ) ?_ (fun a4 => ?_)
    · refine bo_if_gt hx 42 dX11_heardOf_22 (by decide) ?_ ?_
      · refine bo_iconst (v := 1) hx dX11_heardOf_42 (by decide) ?_
        refine bo_goto hx 47 dX11_heardOf_43 (by decide) ?_
        refine bo_sub (L' := [(0, .ref (bo_a x 135)), (2, .int a2)]) [1, 0] rfl ?_
        exact bo_arr (fun h => h)
      · refine bo_aload_n hx dX11_heardOf_25 rfl 1 rfl ?_
        refine bo_aload_n hx dX11_heardOf_26 rfl 1 rfl ?_
        refine gf_X11_34 hx dX11_heardOf_27 ?_
        refine bo_bipush (v := 21) hx dX11_heardOf_30 (by decide) ?_
        refine bo_iald hx bo_c_144 dX11_heardOf_32 (fun v5 => ?_)
        refine bo_bipush (v := 96) hx dX11_heardOf_33 (by decide) ?_
        refine bo_iremc hx dX11_heardOf_35 (by decide) ?_
        refine bo_goR (z := true) hx (fun rr hh => bo_runV (As := [.int (bo_irm v5 96)]) (S := []) hx dX11_heardOf_36 lk_X11_249 mi_X11_isBlanketed bo_o_135 rfl rfl (kX11_isBlanketed (bo_l x) (bo_g x) hx.inj σ (bo_irm v5 96) rr hh) ⟨by decide, by decide⟩ rfl rfl (Nat.le_of_ble_eq_true rfl)) (fun v6 hv6 => ?_)
        refine bo_if_eq hx 46 dX11_heardOf_39 (by decide) ?_ ?_
        · refine bo_iconst (v := 0) hx dX11_heardOf_46 (by decide) ?_
          refine bo_sub (L' := [(0, .ref (bo_a x 135)), (2, .int a2)]) [1, 0] rfl ?_
          exact bo_arr (fun h => h)
        · refine bo_iconst (v := 1) hx dX11_heardOf_42 (by decide) ?_
          refine bo_goto hx 47 dX11_heardOf_43 (by decide) ?_
          refine bo_sub (L' := [(0, .ref (bo_a x 135)), (2, .int a2)]) [1, 0] rfl ?_
          exact bo_arr (fun h => h)
    · refine bo_istore_n (L' := [(3, .int a4), (0, .ref (bo_a x 135)), (2, .int a2)]) hx dX11_heardOf_47 rfl (by decide) rfl ?_
      refine bo_aload_n hx dX11_heardOf_48 rfl 1 rfl ?_
      refine bo_iload_n hx dX11_heardOf_49 rfl 2 rfl ?_
      refine bo_iload_n hx dX11_heardOf_50 rfl 0 rfl ?_
      refine bo_seq 62 (fun a => []) (fun a => [.int a, .int a2, .ref (bo_a x 135)]) (fun a => σ) ?_ (fun a7 => ?_)
      · refine bo_if_eq hx 61 dX11_heardOf_51 (by decide) ?_ ?_
        · refine bo_iconst (v := 0) hx dX11_heardOf_61 (by decide) ?_
          refine bo_sub (L' := []) [] rfl ?_
          exact bo_arr (fun h => h)
        · refine bo_aload_n hx dX11_heardOf_54 rfl 1 rfl ?_
          refine gf_X11_204 hx dX11_heardOf_55 ?_
          refine bo_goto hx 62 dX11_heardOf_58 (by decide) ?_
          refine bo_sub (L' := []) [] rfl ?_
          exact bo_arr (fun h => h)
      · refine bo_goR (z := false) hx (fun rr hh => bo_runV (As := [.int a2, .int a7]) (S := []) hx dX11_heardOf_62 lk_X11_252 mi_X11_muffle bo_o_135 rfl rfl (kX11_muffle (bo_l x) (bo_g x) hx.inj σ a2 a7 rr hh) ⟨by decide, by decide⟩ rfl rfl (Nat.le_of_ble_eq_true rfl)) (fun v8 hv8 => ?_)
        exact bo_ret dX11_heardOf_65 (fun h => by cases h)
theorem kX11_heardOf (l : Launch) (g : bo_G) (hi : bo_inj g) (σ : bo_M) (p1 : Int32) : bo_CR l g yX11_heardOf cX11_heardOf 4 (some .int) 2 48 [.ref (g.2.2 135), .int p1] σ false (mX11_heardOf σ p1) :=
  bo_metR rfl (Or.inl ⟨rfl, rfl⟩) (by decide) rfl hi (Nat.le_of_ble_eq_true rfl) (fun x e1 e2 hx => by subst e1; subst e2; exact bX11_heardOf x hx σ p1)
-- BellRopeModel.told
theorem dX11_told_0 : decode cX11_told 0 = .ok (.iload_n 1, 1) := by decide +kernel
theorem dX11_told_84 : decode cX11_told 84 = .ok (.aload_n 0, 1) := by decide +kernel
theorem dX11_told_85 : decode cX11_told 85 = .ok (.getfield 201, 3) := by decide +kernel
theorem dX11_told_88 : decode cX11_told 88 = .ok (.ireturn, 1) := by decide +kernel
theorem dX11_told_89 : decode cX11_told 89 = .ok (.aload_n 0, 1) := by decide +kernel
theorem dX11_told_90 : decode cX11_told 90 = .ok (.getfield 204, 3) := by decide +kernel
theorem dX11_told_93 : decode cX11_told 93 = .ok (.ireturn, 1) := by decide +kernel
theorem dX11_told_94 : decode cX11_told 94 = .ok (.aload_n 0, 1) := by decide +kernel
theorem dX11_told_95 : decode cX11_told 95 = .ok (.getfield 115, 3) := by decide +kernel
theorem dX11_told_98 : decode cX11_told 98 = .ok (.ireturn, 1) := by decide +kernel
theorem dX11_told_99 : decode cX11_told 99 = .ok (.aload_n 0, 1) := by decide +kernel
theorem dX11_told_100 : decode cX11_told 100 = .ok (.getfield 122, 3) := by decide +kernel
theorem dX11_told_103 : decode cX11_told 103 = .ok (.ireturn, 1) := by decide +kernel
theorem dX11_told_104 : decode cX11_told 104 = .ok (.aload_n 0, 1) := by decide +kernel
theorem dX11_told_105 : decode cX11_told 105 = .ok (.getfield 213, 3) := by decide +kernel
theorem dX11_told_108 : decode cX11_told 108 = .ok (.ireturn, 1) := by decide +kernel
theorem dX11_told_109 : decode cX11_told 109 = .ok (.aload_n 0, 1) := by decide +kernel
theorem dX11_told_110 : decode cX11_told 110 = .ok (.getfield 128, 3) := by decide +kernel
theorem dX11_told_113 : decode cX11_told 113 = .ok (.ireturn, 1) := by decide +kernel
theorem dX11_told_114 : decode cX11_told 114 = .ok (.aload_n 0, 1) := by decide +kernel
theorem dX11_told_115 : decode cX11_told 115 = .ok (.getfield 34, 3) := by decide +kernel
theorem dX11_told_118 : decode cX11_told 118 = .ok (.bipush 21, 2) := by decide +kernel
theorem dX11_told_120 : decode cX11_told 120 = .ok (.iaload, 1) := by decide +kernel
theorem dX11_told_121 : decode cX11_told 121 = .ok (.ireturn, 1) := by decide +kernel
theorem dX11_told_122 : decode cX11_told 122 = .ok (.aload_n 0, 1) := by decide +kernel
theorem dX11_told_123 : decode cX11_told 123 = .ok (.invokevirtual 255, 3) := by decide +kernel
theorem dX11_told_126 : decode cX11_told 126 = .ok (.ireturn, 1) := by decide +kernel
theorem dX11_told_127 : decode cX11_told 127 = .ok (.aload_n 0, 1) := by decide +kernel
theorem dX11_told_128 : decode cX11_told 128 = .ok (.getfield 34, 3) := by decide +kernel
theorem dX11_told_131 : decode cX11_told 131 = .ok (.bipush 22, 2) := by decide +kernel
theorem dX11_told_133 : decode cX11_told 133 = .ok (.iaload, 1) := by decide +kernel
theorem dX11_told_134 : decode cX11_told 134 = .ok (.ireturn, 1) := by decide +kernel
theorem dX11_told_135 : decode cX11_told 135 = .ok (.aload_n 0, 1) := by decide +kernel
theorem dX11_told_136 : decode cX11_told 136 = .ok (.invokevirtual 246, 3) := by decide +kernel
theorem dX11_told_146 : decode cX11_told 146 = .ok (.iconst 0, 1) := by decide +kernel
theorem dX11_told_147 : decode cX11_told 147 = .ok (.ireturn, 1) := by decide +kernel
theorem dX11_told_142 : decode cX11_told 142 = .ok (.iconst 1, 1) := by decide +kernel
theorem dX11_told_143 : decode cX11_told 143 = .ok (.goto 4, 3) := by decide +kernel
theorem dX11_told_139 : decode cX11_told 139 = .ok (.ifCond .eq 7, 3) := by decide +kernel
theorem dX11_told_148 : decode cX11_told 148 = .ok (.aload_n 0, 1) := by decide +kernel
theorem dX11_told_149 : decode cX11_told 149 = .ok (.getfield 34, 3) := by decide +kernel
theorem dX11_told_152 : decode cX11_told 152 = .ok (.bipush 23, 2) := by decide +kernel
theorem dX11_told_154 : decode cX11_told 154 = .ok (.iaload, 1) := by decide +kernel
theorem dX11_told_155 : decode cX11_told 155 = .ok (.ireturn, 1) := by decide +kernel
theorem dX11_told_156 : decode cX11_told 156 = .ok (.aload_n 0, 1) := by decide +kernel
theorem dX11_told_157 : decode cX11_told 157 = .ok (.getfield 34, 3) := by decide +kernel
theorem dX11_told_160 : decode cX11_told 160 = .ok (.bipush 24, 2) := by decide +kernel
theorem dX11_told_162 : decode cX11_told 162 = .ok (.iaload, 1) := by decide +kernel
theorem dX11_told_163 : decode cX11_told 163 = .ok (.ireturn, 1) := by decide +kernel
theorem dX11_told_164 : decode cX11_told 164 = .ok (.aload_n 0, 1) := by decide +kernel
theorem dX11_told_165 : decode cX11_told 165 = .ok (.getfield 34, 3) := by decide +kernel
theorem dX11_told_168 : decode cX11_told 168 = .ok (.bipush 26, 2) := by decide +kernel
theorem dX11_told_170 : decode cX11_told 170 = .ok (.iaload, 1) := by decide +kernel
theorem dX11_told_171 : decode cX11_told 171 = .ok (.ireturn, 1) := by decide +kernel
theorem dX11_told_172 : decode cX11_told 172 = .ok (.aload_n 0, 1) := by decide +kernel
theorem dX11_told_173 : decode cX11_told 173 = .ok (.getfield 34, 3) := by decide +kernel
theorem dX11_told_176 : decode cX11_told 176 = .ok (.bipush 25, 2) := by decide +kernel
theorem dX11_told_178 : decode cX11_told 178 = .ok (.iaload, 1) := by decide +kernel
theorem dX11_told_179 : decode cX11_told 179 = .ok (.ireturn, 1) := by decide +kernel
theorem dX11_told_180 : decode cX11_told 180 = .ok (.aload_n 0, 1) := by decide +kernel
theorem dX11_told_181 : decode cX11_told 181 = .ok (.getfield 226, 3) := by decide +kernel
theorem dX11_told_184 : decode cX11_told 184 = .ok (.ireturn, 1) := by decide +kernel
theorem dX11_told_185 : decode cX11_told 185 = .ok (.aload_n 0, 1) := by decide +kernel
theorem dX11_told_186 : decode cX11_told 186 = .ok (.getfield 229, 3) := by decide +kernel
theorem dX11_told_189 : decode cX11_told 189 = .ok (.ireturn, 1) := by decide +kernel
theorem dX11_told_190 : decode cX11_told 190 = .ok (.aload_n 0, 1) := by decide +kernel
theorem dX11_told_191 : decode cX11_told 191 = .ok (.getfield 232, 3) := by decide +kernel
theorem dX11_told_194 : decode cX11_told 194 = .ok (.ireturn, 1) := by decide +kernel
theorem dX11_told_195 : decode cX11_told 195 = .ok (.ldc 127, 2) := by decide +kernel
theorem dX11_told_197 : decode cX11_told 197 = .ok (.ireturn, 1) := by decide +kernel
theorem dX11_told_1 : decode cX11_told 1 = .ok (.tableswitch 194 0 16 #[83, 88, 93, 98, 103, 108, 113, 121, 126, 134, 147, 155, 163, 171, 179, 184, 189], 83) := by decide +kernel
theorem bX11_told (x : bo_X) (hx : bo_OK x cX11_told RX11 2 2 41) (σ : bo_M) (p1 : Int32) : bo_D x 0 [(0, .ref (bo_a x 135)), (1, .int p1)] [] σ (mX11_told σ p1) (bo_Ri x cX11_told σ false) := by
  unfold mX11_told
  refine bo_iload_n hx dX11_told_0 rfl 1 rfl ?_
  refine bo_by (fun c1 => ?_) (fun c1 => ?_)
  · refine bo_tabIn (v := 0) (off := 83) hx 84 dX11_told_1 c1 (by decide) (by decide) (by decide) (by decide) ?_
    refine bo_aload_n hx dX11_told_84 rfl 0 rfl ?_
    refine gf_X11_201 hx dX11_told_85 ?_
    exact bo_ret dX11_told_88 (fun h => by cases h)
  · refine bo_by (fun c2 => ?_) (fun c2 => ?_)
    · refine bo_tabIn (v := 1) (off := 88) hx 89 dX11_told_1 c2 (by decide) (by decide) (by decide) (by decide) ?_
      refine bo_aload_n hx dX11_told_89 rfl 0 rfl ?_
      refine gf_X11_204 hx dX11_told_90 ?_
      exact bo_ret dX11_told_93 (fun h => by cases h)
    · refine bo_by (fun c3 => ?_) (fun c3 => ?_)
      · refine bo_tabIn (v := 2) (off := 93) hx 94 dX11_told_1 c3 (by decide) (by decide) (by decide) (by decide) ?_
        refine bo_aload_n hx dX11_told_94 rfl 0 rfl ?_
        refine gf_X11_115 hx dX11_told_95 ?_
        exact bo_ret dX11_told_98 (fun h => by cases h)
      · refine bo_by (fun c4 => ?_) (fun c4 => ?_)
        · refine bo_tabIn (v := 3) (off := 98) hx 99 dX11_told_1 c4 (by decide) (by decide) (by decide) (by decide) ?_
          refine bo_aload_n hx dX11_told_99 rfl 0 rfl ?_
          refine gf_X11_122 hx dX11_told_100 ?_
          exact bo_ret dX11_told_103 (fun h => by cases h)
        · refine bo_by (fun c5 => ?_) (fun c5 => ?_)
          · refine bo_tabIn (v := 4) (off := 103) hx 104 dX11_told_1 c5 (by decide) (by decide) (by decide) (by decide) ?_
            refine bo_aload_n hx dX11_told_104 rfl 0 rfl ?_
            refine gf_X11_213 hx dX11_told_105 ?_
            exact bo_ret dX11_told_108 (fun h => by cases h)
          · refine bo_by (fun c6 => ?_) (fun c6 => ?_)
            · refine bo_tabIn (v := 5) (off := 108) hx 109 dX11_told_1 c6 (by decide) (by decide) (by decide) (by decide) ?_
              refine bo_aload_n hx dX11_told_109 rfl 0 rfl ?_
              refine gf_X11_128 hx dX11_told_110 ?_
              exact bo_ret dX11_told_113 (fun h => by cases h)
            · refine bo_by (fun c7 => ?_) (fun c7 => ?_)
              · refine bo_tabIn (v := 6) (off := 113) hx 114 dX11_told_1 c7 (by decide) (by decide) (by decide) (by decide) ?_
                refine bo_aload_n hx dX11_told_114 rfl 0 rfl ?_
                refine gf_X11_34 hx dX11_told_115 ?_
                refine bo_bipush (v := 21) hx dX11_told_118 (by decide) ?_
                refine bo_iald hx bo_c_144 dX11_told_120 (fun v8 => ?_)
                exact bo_ret dX11_told_121 (fun h => by cases h)
              · refine bo_by (fun c9 => ?_) (fun c9 => ?_)
                · refine bo_tabIn (v := 7) (off := 121) hx 122 dX11_told_1 c9 (by decide) (by decide) (by decide) (by decide) ?_
                  refine bo_aload_n hx dX11_told_122 rfl 0 rfl ?_
                  refine bo_goR (z := false) hx (fun rr hh => bo_runV (As := []) (S := []) hx dX11_told_123 lk_X11_255 mi_X11_whoIsIn bo_o_135 rfl rfl (kX11_whoIsIn (bo_l x) (bo_g x) hx.inj σ rr hh) ⟨by decide, by decide⟩ rfl rfl (Nat.le_of_ble_eq_true rfl)) (fun v10 hv10 => ?_)
                  exact bo_ret dX11_told_126 (fun h => by cases h)
                · refine bo_by (fun c11 => ?_) (fun c11 => ?_)
                  · refine bo_tabIn (v := 8) (off := 126) hx 127 dX11_told_1 c11 (by decide) (by decide) (by decide) (by decide) ?_
                    refine bo_aload_n hx dX11_told_127 rfl 0 rfl ?_
                    refine gf_X11_34 hx dX11_told_128 ?_
                    refine bo_bipush (v := 22) hx dX11_told_131 (by decide) ?_
                    refine bo_iald hx bo_c_144 dX11_told_133 (fun v12 => ?_)
                    exact bo_ret dX11_told_134 (fun h => by cases h)
                  · refine bo_by (fun c13 => ?_) (fun c13 => ?_)
                    · refine bo_tabIn (v := 9) (off := 134) hx 135 dX11_told_1 c13 (by decide) (by decide) (by decide) (by decide) ?_
                      refine bo_aload_n hx dX11_told_135 rfl 0 rfl ?_
                      refine bo_goR (z := true) hx (fun rr hh => bo_runV (As := []) (S := []) hx dX11_told_136 lk_X11_246 mi_X11_isWet bo_o_135 rfl rfl (kX11_isWet (bo_l x) (bo_g x) hx.inj σ rr hh) ⟨by decide, by decide⟩ rfl rfl (Nat.le_of_ble_eq_true rfl)) (fun v14 hv14 => ?_)
                      refine bo_if_eq hx 146 dX11_told_139 (by decide) ?_ ?_
                      · refine bo_iconst (v := 0) hx dX11_told_146 (by decide) ?_
                        exact bo_ret dX11_told_147 (fun h => by cases h)
                      · refine bo_iconst (v := 1) hx dX11_told_142 (by decide) ?_
                        refine bo_goto hx 147 dX11_told_143 (by decide) ?_
                        exact bo_ret dX11_told_147 (fun h => by cases h)
                    · refine bo_by (fun c15 => ?_) (fun c15 => ?_)
                      · refine bo_tabIn (v := 10) (off := 147) hx 148 dX11_told_1 c15 (by decide) (by decide) (by decide) (by decide) ?_
                        refine bo_aload_n hx dX11_told_148 rfl 0 rfl ?_
                        refine gf_X11_34 hx dX11_told_149 ?_
                        refine bo_bipush (v := 23) hx dX11_told_152 (by decide) ?_
                        refine bo_iald hx bo_c_144 dX11_told_154 (fun v16 => ?_)
                        exact bo_ret dX11_told_155 (fun h => by cases h)
                      · refine bo_by (fun c17 => ?_) (fun c17 => ?_)
                        · refine bo_tabIn (v := 11) (off := 155) hx 156 dX11_told_1 c17 (by decide) (by decide) (by decide) (by decide) ?_
                          refine bo_aload_n hx dX11_told_156 rfl 0 rfl ?_
                          refine gf_X11_34 hx dX11_told_157 ?_
                          refine bo_bipush (v := 24) hx dX11_told_160 (by decide) ?_
                          refine bo_iald hx bo_c_144 dX11_told_162 (fun v18 => ?_)
                          exact bo_ret dX11_told_163 (fun h => by cases h)
                        · refine bo_by (fun c19 => ?_) (fun c19 => ?_)
                          · refine bo_tabIn (v := 12) (off := 163) hx 164 dX11_told_1 c19 (by decide) (by decide) (by decide) (by decide) ?_
                            refine bo_aload_n hx dX11_told_164 rfl 0 rfl ?_
                            refine gf_X11_34 hx dX11_told_165 ?_
                            refine bo_bipush (v := 26) hx dX11_told_168 (by decide) ?_
                            refine bo_iald hx bo_c_144 dX11_told_170 (fun v20 => ?_)
                            exact bo_ret dX11_told_171 (fun h => by cases h)
                          · refine bo_by (fun c21 => ?_) (fun c21 => ?_)
                            · refine bo_tabIn (v := 13) (off := 171) hx 172 dX11_told_1 c21 (by decide) (by decide) (by decide) (by decide) ?_
                              refine bo_aload_n hx dX11_told_172 rfl 0 rfl ?_
                              refine gf_X11_34 hx dX11_told_173 ?_
                              refine bo_bipush (v := 25) hx dX11_told_176 (by decide) ?_
                              refine bo_iald hx bo_c_144 dX11_told_178 (fun v22 => ?_)
                              exact bo_ret dX11_told_179 (fun h => by cases h)
                            · refine bo_by (fun c23 => ?_) (fun c23 => ?_)
                              · refine bo_tabIn (v := 14) (off := 179) hx 180 dX11_told_1 c23 (by decide) (by decide) (by decide) (by decide) ?_
                                refine bo_aload_n hx dX11_told_180 rfl 0 rfl ?_
                                refine gf_X11_226 hx dX11_told_181 ?_
                                exact bo_ret dX11_told_184 (fun h => by cases h)
                              · refine bo_by (fun c24 => ?_) (fun c24 => ?_)
                                · refine bo_tabIn (v := 15) (off := 184) hx 185 dX11_told_1 c24 (by decide) (by decide) (by decide) (by decide) ?_
                                  refine bo_aload_n hx dX11_told_185 rfl 0 rfl ?_
                                  refine gf_X11_229 hx dX11_told_186 ?_
                                  exact bo_ret dX11_told_189 (fun h => by cases h)
                                · refine bo_by (fun c25 => ?_) (fun c25 => ?_)
                                  · refine bo_tabIn (v := 16) (off := 189) hx 190 dX11_told_1 c25 (by decide) (by decide) (by decide) (by decide) ?_
                                    refine bo_aload_n hx dX11_told_190 rfl 0 rfl ?_
                                    refine gf_X11_232 hx dX11_told_191 ?_
                                    exact bo_ret dX11_told_194 (fun h => by cases h)
                                  · refine bo_tabOut hx 195 dX11_told_1 (by have e1 : (p1).toInt ≠ 0 := bo_ne_n c1 (by decide); have e2 : (p1).toInt ≠ 1 := bo_ne_n c2 (by decide); have e3 : (p1).toInt ≠ 2 := bo_ne_n c3 (by decide); have e4 : (p1).toInt ≠ 3 := bo_ne_n c4 (by decide); have e5 : (p1).toInt ≠ 4 := bo_ne_n c5 (by decide); have e6 : (p1).toInt ≠ 5 := bo_ne_n c6 (by decide); have e7 : (p1).toInt ≠ 6 := bo_ne_n c7 (by decide); have e9 : (p1).toInt ≠ 7 := bo_ne_n c9 (by decide); have e11 : (p1).toInt ≠ 8 := bo_ne_n c11 (by decide); have e13 : (p1).toInt ≠ 9 := bo_ne_n c13 (by decide); have e15 : (p1).toInt ≠ 10 := bo_ne_n c15 (by decide); have e17 : (p1).toInt ≠ 11 := bo_ne_n c17 (by decide); have e19 : (p1).toInt ≠ 12 := bo_ne_n c19 (by decide); have e21 : (p1).toInt ≠ 13 := bo_ne_n c21 (by decide); have e23 : (p1).toInt ≠ 14 := bo_ne_n c23 (by decide); have e24 : (p1).toInt ≠ 15 := bo_ne_n c24 (by decide); have e25 : (p1).toInt ≠ 16 := bo_ne_n c25 (by decide); omega) (by decide) ?_
                                    refine bo_ldc (v := (-1000000002)) hx dX11_told_195 wc_X11_127 ?_
                                    exact bo_ret dX11_told_197 (fun h => by cases h)
theorem kX11_told (l : Launch) (g : bo_G) (hi : bo_inj g) (σ : bo_M) (p1 : Int32) : bo_CR l g yX11_told cX11_told 2 (some .int) 2 41 [.ref (g.2.2 135), .int p1] σ false (mX11_told σ p1) :=
  bo_metR rfl (Or.inl ⟨rfl, rfl⟩) (by decide) rfl hi (Nat.le_of_ble_eq_true rfl) (fun x e1 e2 hx => by subst e1; subst e2; exact bX11_told x hx σ p1)
-- BellRopeModel.drinker
theorem dX11_drinker_0 : decode cX11_drinker 0 = .ok (.aload_n 0, 1) := by decide +kernel
theorem dX11_drinker_1 : decode cX11_drinker 1 = .ok (.iload_n 1, 1) := by decide +kernel
theorem dX11_drinker_2 : decode cX11_drinker 2 = .ok (.invokevirtual 258, 3) := by decide +kernel
theorem dX11_drinker_12 : decode cX11_drinker 12 = .ok (.iload_n 2, 1) := by decide +kernel
theorem dX11_drinker_56 : decode cX11_drinker 56 = .ok (.aload_n 0, 1) := by decide +kernel
theorem dX11_drinker_57 : decode cX11_drinker 57 = .ok (.getfield 7, 3) := by decide +kernel
theorem dX11_drinker_60 : decode cX11_drinker 60 = .ok (.iload_n 1, 1) := by decide +kernel
theorem dX11_drinker_61 : decode cX11_drinker 61 = .ok (.iaload, 1) := by decide +kernel
theorem dX11_drinker_62 : decode cX11_drinker 62 = .ok (.ireturn, 1) := by decide +kernel
theorem dX11_drinker_63 : decode cX11_drinker 63 = .ok (.aload_n 0, 1) := by decide +kernel
theorem dX11_drinker_64 : decode cX11_drinker 64 = .ok (.getfield 13, 3) := by decide +kernel
theorem dX11_drinker_67 : decode cX11_drinker 67 = .ok (.iload_n 1, 1) := by decide +kernel
theorem dX11_drinker_68 : decode cX11_drinker 68 = .ok (.iaload, 1) := by decide +kernel
theorem dX11_drinker_69 : decode cX11_drinker 69 = .ok (.ireturn, 1) := by decide +kernel
theorem dX11_drinker_70 : decode cX11_drinker 70 = .ok (.aload_n 0, 1) := by decide +kernel
theorem dX11_drinker_71 : decode cX11_drinker 71 = .ok (.getfield 16, 3) := by decide +kernel
theorem dX11_drinker_74 : decode cX11_drinker 74 = .ok (.iload_n 1, 1) := by decide +kernel
theorem dX11_drinker_75 : decode cX11_drinker 75 = .ok (.iaload, 1) := by decide +kernel
theorem dX11_drinker_76 : decode cX11_drinker 76 = .ok (.ireturn, 1) := by decide +kernel
theorem dX11_drinker_77 : decode cX11_drinker 77 = .ok (.aload_n 0, 1) := by decide +kernel
theorem dX11_drinker_78 : decode cX11_drinker 78 = .ok (.getfield 34, 3) := by decide +kernel
theorem dX11_drinker_81 : decode cX11_drinker 81 = .ok (.iconst 0, 1) := by decide +kernel
theorem dX11_drinker_82 : decode cX11_drinker 82 = .ok (.iload_n 1, 1) := by decide +kernel
theorem dX11_drinker_83 : decode cX11_drinker 83 = .ok (.iadd, 1) := by decide +kernel
theorem dX11_drinker_84 : decode cX11_drinker 84 = .ok (.iaload, 1) := by decide +kernel
theorem dX11_drinker_85 : decode cX11_drinker 85 = .ok (.ireturn, 1) := by decide +kernel
theorem dX11_drinker_86 : decode cX11_drinker 86 = .ok (.aload_n 0, 1) := by decide +kernel
theorem dX11_drinker_87 : decode cX11_drinker 87 = .ok (.getfield 34, 3) := by decide +kernel
theorem dX11_drinker_90 : decode cX11_drinker 90 = .ok (.bipush 7, 2) := by decide +kernel
theorem dX11_drinker_92 : decode cX11_drinker 92 = .ok (.iload_n 1, 1) := by decide +kernel
theorem dX11_drinker_93 : decode cX11_drinker 93 = .ok (.iadd, 1) := by decide +kernel
theorem dX11_drinker_94 : decode cX11_drinker 94 = .ok (.iaload, 1) := by decide +kernel
theorem dX11_drinker_95 : decode cX11_drinker 95 = .ok (.ireturn, 1) := by decide +kernel
theorem dX11_drinker_96 : decode cX11_drinker 96 = .ok (.aload_n 0, 1) := by decide +kernel
theorem dX11_drinker_97 : decode cX11_drinker 97 = .ok (.getfield 34, 3) := by decide +kernel
theorem dX11_drinker_100 : decode cX11_drinker 100 = .ok (.bipush 14, 2) := by decide +kernel
theorem dX11_drinker_102 : decode cX11_drinker 102 = .ok (.iload_n 1, 1) := by decide +kernel
theorem dX11_drinker_103 : decode cX11_drinker 103 = .ok (.iadd, 1) := by decide +kernel
theorem dX11_drinker_104 : decode cX11_drinker 104 = .ok (.iaload, 1) := by decide +kernel
theorem dX11_drinker_105 : decode cX11_drinker 105 = .ok (.ireturn, 1) := by decide +kernel
theorem dX11_drinker_106 : decode cX11_drinker 106 = .ok (.aload_n 0, 1) := by decide +kernel
theorem dX11_drinker_107 : decode cX11_drinker 107 = .ok (.iload_n 1, 1) := by decide +kernel
theorem dX11_drinker_108 : decode cX11_drinker 108 = .ok (.invokevirtual 262, 3) := by decide +kernel
theorem dX11_drinker_118 : decode cX11_drinker 118 = .ok (.iconst 0, 1) := by decide +kernel
theorem dX11_drinker_119 : decode cX11_drinker 119 = .ok (.ireturn, 1) := by decide +kernel
theorem dX11_drinker_114 : decode cX11_drinker 114 = .ok (.iconst 1, 1) := by decide +kernel
theorem dX11_drinker_115 : decode cX11_drinker 115 = .ok (.goto 4, 3) := by decide +kernel
theorem dX11_drinker_111 : decode cX11_drinker 111 = .ok (.ifCond .eq 7, 3) := by decide +kernel
theorem dX11_drinker_120 : decode cX11_drinker 120 = .ok (.ldc 127, 2) := by decide +kernel
theorem dX11_drinker_122 : decode cX11_drinker 122 = .ok (.ireturn, 1) := by decide +kernel
theorem dX11_drinker_13 : decode cX11_drinker 13 = .ok (.tableswitch 107 0 6 #[43, 50, 57, 64, 73, 83, 93], 43) := by decide +kernel
theorem dX11_drinker_8 : decode cX11_drinker 8 = .ok (.ldc_w 261, 3) := by decide +kernel
theorem dX11_drinker_11 : decode cX11_drinker 11 = .ok (.ireturn, 1) := by decide +kernel
theorem dX11_drinker_5 : decode cX11_drinker 5 = .ok (.ifCond .ne 7, 3) := by decide +kernel
theorem bX11_drinker (x : bo_X) (hx : bo_OK x cX11_drinker RX11 3 2 46) (σ : bo_M) (p1 : Int32) (p2 : Int32) : bo_D x 0 [(0, .ref (bo_a x 135)), (1, .int p1), (2, .int p2)] [] σ (mX11_drinker σ p1 p2) (bo_Ri x cX11_drinker σ false) := by
  unfold mX11_drinker
  refine bo_aload_n hx dX11_drinker_0 rfl 0 rfl ?_
  refine bo_iload_n hx dX11_drinker_1 rfl 1 rfl ?_
  refine bo_goR (z := true) hx (fun rr hh => bo_runV (As := [.int p1]) (S := []) hx dX11_drinker_2 lk_X11_258 mi_X11_isDrinker bo_o_135 rfl rfl (kX11_isDrinker (bo_l x) (bo_g x) hx.inj σ p1 rr hh) ⟨by decide, by decide⟩ rfl rfl (Nat.le_of_ble_eq_true rfl)) (fun v1 hv1 => ?_)
  refine bo_if_ne hx 12 dX11_drinker_5 (by decide) ?_ ?_
  · refine bo_iload_n hx dX11_drinker_12 rfl 2 rfl ?_
    refine bo_by (fun c2 => ?_) (fun c2 => ?_)
    · refine bo_tabIn (v := 0) (off := 43) hx 56 dX11_drinker_13 c2 (by decide) (by decide) (by decide) (by decide) ?_
      refine bo_aload_n hx dX11_drinker_56 rfl 0 rfl ?_
      refine gf_X11_7 hx dX11_drinker_57 ?_
      refine bo_iload_n hx dX11_drinker_60 rfl 1 rfl ?_
      refine bo_iald hx bo_c_136 dX11_drinker_61 (fun v3 => ?_)
      exact bo_ret dX11_drinker_62 (fun h => by cases h)
    · refine bo_by (fun c4 => ?_) (fun c4 => ?_)
      · refine bo_tabIn (v := 1) (off := 50) hx 63 dX11_drinker_13 c4 (by decide) (by decide) (by decide) (by decide) ?_
        refine bo_aload_n hx dX11_drinker_63 rfl 0 rfl ?_
        refine gf_X11_13 hx dX11_drinker_64 ?_
        refine bo_iload_n hx dX11_drinker_67 rfl 1 rfl ?_
        refine bo_iald hx bo_c_137 dX11_drinker_68 (fun v5 => ?_)
        exact bo_ret dX11_drinker_69 (fun h => by cases h)
      · refine bo_by (fun c6 => ?_) (fun c6 => ?_)
        · refine bo_tabIn (v := 2) (off := 57) hx 70 dX11_drinker_13 c6 (by decide) (by decide) (by decide) (by decide) ?_
          refine bo_aload_n hx dX11_drinker_70 rfl 0 rfl ?_
          refine gf_X11_16 hx dX11_drinker_71 ?_
          refine bo_iload_n hx dX11_drinker_74 rfl 1 rfl ?_
          refine bo_iald hx bo_c_138 dX11_drinker_75 (fun v7 => ?_)
          exact bo_ret dX11_drinker_76 (fun h => by cases h)
        · refine bo_by (fun c8 => ?_) (fun c8 => ?_)
          · refine bo_tabIn (v := 3) (off := 64) hx 77 dX11_drinker_13 c8 (by decide) (by decide) (by decide) (by decide) ?_
            refine bo_aload_n hx dX11_drinker_77 rfl 0 rfl ?_
            refine gf_X11_34 hx dX11_drinker_78 ?_
            refine bo_iconst (v := 0) hx dX11_drinker_81 (by decide) ?_
            refine bo_iload_n hx dX11_drinker_82 rfl 1 rfl ?_
            refine bo_iadd hx dX11_drinker_83 ?_
            refine bo_iald hx bo_c_144 dX11_drinker_84 (fun v9 => ?_)
            exact bo_ret dX11_drinker_85 (fun h => by cases h)
          · refine bo_by (fun c10 => ?_) (fun c10 => ?_)
            · refine bo_tabIn (v := 4) (off := 73) hx 86 dX11_drinker_13 c10 (by decide) (by decide) (by decide) (by decide) ?_
              refine bo_aload_n hx dX11_drinker_86 rfl 0 rfl ?_
              refine gf_X11_34 hx dX11_drinker_87 ?_
              refine bo_bipush (v := 7) hx dX11_drinker_90 (by decide) ?_
              refine bo_iload_n hx dX11_drinker_92 rfl 1 rfl ?_
              refine bo_iadd hx dX11_drinker_93 ?_
              refine bo_iald hx bo_c_144 dX11_drinker_94 (fun v11 => ?_)
              exact bo_ret dX11_drinker_95 (fun h => by cases h)
            · refine bo_by (fun c12 => ?_) (fun c12 => ?_)
              · refine bo_tabIn (v := 5) (off := 83) hx 96 dX11_drinker_13 c12 (by decide) (by decide) (by decide) (by decide) ?_
                refine bo_aload_n hx dX11_drinker_96 rfl 0 rfl ?_
                refine gf_X11_34 hx dX11_drinker_97 ?_
                refine bo_bipush (v := 14) hx dX11_drinker_100 (by decide) ?_
                refine bo_iload_n hx dX11_drinker_102 rfl 1 rfl ?_
                refine bo_iadd hx dX11_drinker_103 ?_
                refine bo_iald hx bo_c_144 dX11_drinker_104 (fun v13 => ?_)
                exact bo_ret dX11_drinker_105 (fun h => by cases h)
              · refine bo_by (fun c14 => ?_) (fun c14 => ?_)
                · refine bo_tabIn (v := 6) (off := 93) hx 106 dX11_drinker_13 c14 (by decide) (by decide) (by decide) (by decide) ?_
                  refine bo_aload_n hx dX11_drinker_106 rfl 0 rfl ?_
                  refine bo_iload_n hx dX11_drinker_107 rfl 1 rfl ?_
                  refine bo_goR (z := true) hx (fun rr hh => bo_runV (As := [.int p1]) (S := []) hx dX11_drinker_108 lk_X11_262 mi_X11_wouldRing bo_o_135 rfl rfl (kX11_wouldRing (bo_l x) (bo_g x) hx.inj σ p1 rr hh) ⟨by decide, by decide⟩ rfl rfl (Nat.le_of_ble_eq_true rfl)) (fun v15 hv15 => ?_)
                  refine bo_if_eq hx 118 dX11_drinker_111 (by decide) ?_ ?_
                  · refine bo_iconst (v := 0) hx dX11_drinker_118 (by decide) ?_
                    exact bo_ret dX11_drinker_119 (fun h => by cases h)
                  · refine bo_iconst (v := 1) hx dX11_drinker_114 (by decide) ?_
                    refine bo_goto hx 119 dX11_drinker_115 (by decide) ?_
                    exact bo_ret dX11_drinker_119 (fun h => by cases h)
                · refine bo_tabOut hx 120 dX11_drinker_13 (by have e2 : (p2).toInt ≠ 0 := bo_ne_n c2 (by decide); have e4 : (p2).toInt ≠ 1 := bo_ne_n c4 (by decide); have e6 : (p2).toInt ≠ 2 := bo_ne_n c6 (by decide); have e8 : (p2).toInt ≠ 3 := bo_ne_n c8 (by decide); have e10 : (p2).toInt ≠ 4 := bo_ne_n c10 (by decide); have e12 : (p2).toInt ≠ 5 := bo_ne_n c12 (by decide); have e14 : (p2).toInt ≠ 6 := bo_ne_n c14 (by decide); omega) (by decide) ?_
                  refine bo_ldc (v := (-1000000002)) hx dX11_drinker_120 wc_X11_127 ?_
                  exact bo_ret dX11_drinker_122 (fun h => by cases h)
  · refine bo_ldcw (v := (-1000000001)) hx dX11_drinker_8 wc_X11_261 ?_
    exact bo_ret dX11_drinker_11 (fun h => by cases h)
theorem kX11_drinker (l : Launch) (g : bo_G) (hi : bo_inj g) (σ : bo_M) (p1 : Int32) (p2 : Int32) : bo_CR l g yX11_drinker cX11_drinker 3 (some .int) 2 46 [.ref (g.2.2 135), .int p1, .int p2] σ false (mX11_drinker σ p1 p2) :=
  bo_metR rfl (Or.inl ⟨rfl, rfl⟩) (by decide) rfl hi (Nat.le_of_ble_eq_true rfl) (fun x e1 e2 hx => by subst e1; subst e2; exact bX11_drinker x hx σ p1 p2)
-- BellRopeModel.goer
theorem dX11_goer_0 : decode cX11_goer 0 = .ok (.aload_n 0, 1) := by decide +kernel
theorem dX11_goer_1 : decode cX11_goer 1 = .ok (.iload_n 1, 1) := by decide +kernel
theorem dX11_goer_2 : decode cX11_goer 2 = .ok (.invokevirtual 265, 3) := by decide +kernel
theorem dX11_goer_12 : decode cX11_goer 12 = .ok (.iload_n 2, 1) := by decide +kernel
theorem dX11_goer_25 : decode cX11_goer 25 = .ok (.iload_n 2, 1) := by decide +kernel
theorem dX11_goer_26 : decode cX11_goer 26 = .ok (.iconst 1, 1) := by decide +kernel
theorem dX11_goer_39 : decode cX11_goer 39 = .ok (.ldc 127, 2) := by decide +kernel
theorem dX11_goer_41 : decode cX11_goer 41 = .ok (.ireturn, 1) := by decide +kernel
theorem dX11_goer_30 : decode cX11_goer 30 = .ok (.aload_n 0, 1) := by decide +kernel
theorem dX11_goer_31 : decode cX11_goer 31 = .ok (.getfield 28, 3) := by decide +kernel
theorem dX11_goer_34 : decode cX11_goer 34 = .ok (.iload_n 1, 1) := by decide +kernel
theorem dX11_goer_35 : decode cX11_goer 35 = .ok (.iaload, 1) := by decide +kernel
theorem dX11_goer_36 : decode cX11_goer 36 = .ok (.goto 5, 3) := by decide +kernel
theorem dX11_goer_27 : decode cX11_goer 27 = .ok (.if_icmp .ne 12, 3) := by decide +kernel
theorem dX11_goer_16 : decode cX11_goer 16 = .ok (.aload_n 0, 1) := by decide +kernel
theorem dX11_goer_17 : decode cX11_goer 17 = .ok (.getfield 25, 3) := by decide +kernel
theorem dX11_goer_20 : decode cX11_goer 20 = .ok (.iload_n 1, 1) := by decide +kernel
theorem dX11_goer_21 : decode cX11_goer 21 = .ok (.iaload, 1) := by decide +kernel
theorem dX11_goer_22 : decode cX11_goer 22 = .ok (.goto 19, 3) := by decide +kernel
theorem dX11_goer_13 : decode cX11_goer 13 = .ok (.ifCond .ne 12, 3) := by decide +kernel
theorem dX11_goer_8 : decode cX11_goer 8 = .ok (.ldc_w 261, 3) := by decide +kernel
theorem dX11_goer_11 : decode cX11_goer 11 = .ok (.ireturn, 1) := by decide +kernel
theorem dX11_goer_5 : decode cX11_goer 5 = .ok (.ifCond .ne 7, 3) := by decide +kernel
theorem bX11_goer (x : bo_X) (hx : bo_OK x cX11_goer RX11 3 2 46) (σ : bo_M) (p1 : Int32) (p2 : Int32) : bo_D x 0 [(0, .ref (bo_a x 135)), (1, .int p1), (2, .int p2)] [] σ (mX11_goer σ p1 p2) (bo_Ri x cX11_goer σ false) := by
  unfold mX11_goer
  refine bo_aload_n hx dX11_goer_0 rfl 0 rfl ?_
  refine bo_iload_n hx dX11_goer_1 rfl 1 rfl ?_
  refine bo_goR (z := true) hx (fun rr hh => bo_runV (As := [.int p1]) (S := []) hx dX11_goer_2 lk_X11_265 mi_X11_isGoer bo_o_135 rfl rfl (kX11_isGoer (bo_l x) (bo_g x) hx.inj σ p1 rr hh) ⟨by decide, by decide⟩ rfl rfl (Nat.le_of_ble_eq_true rfl)) (fun v1 hv1 => ?_)
  refine bo_if_ne hx 12 dX11_goer_5 (by decide) ?_ ?_
  · refine bo_iload_n hx dX11_goer_12 rfl 2 rfl ?_
    refine bo_if_ne hx 25 dX11_goer_13 (by decide) ?_ ?_
    · refine bo_iload_n hx dX11_goer_25 rfl 2 rfl ?_
      refine bo_iconst (v := 1) hx dX11_goer_26 (by decide) ?_
      refine bo_icmp_ne hx 39 dX11_goer_27 (by decide) ?_ ?_
      · refine bo_ldc (v := (-1000000002)) hx dX11_goer_39 wc_X11_127 ?_
        exact bo_ret dX11_goer_41 (fun h => by cases h)
      · refine bo_aload_n hx dX11_goer_30 rfl 0 rfl ?_
        refine gf_X11_28 hx dX11_goer_31 ?_
        refine bo_iload_n hx dX11_goer_34 rfl 1 rfl ?_
        refine bo_iald hx bo_c_142 dX11_goer_35 (fun v2 => ?_)
        refine bo_goto hx 41 dX11_goer_36 (by decide) ?_
        exact bo_ret dX11_goer_41 (fun h => by cases h)
    · refine bo_aload_n hx dX11_goer_16 rfl 0 rfl ?_
      refine gf_X11_25 hx dX11_goer_17 ?_
      refine bo_iload_n hx dX11_goer_20 rfl 1 rfl ?_
      refine bo_iald hx bo_c_141 dX11_goer_21 (fun v3 => ?_)
      refine bo_goto hx 41 dX11_goer_22 (by decide) ?_
      exact bo_ret dX11_goer_41 (fun h => by cases h)
  · refine bo_ldcw (v := (-1000000001)) hx dX11_goer_8 wc_X11_261 ?_
    exact bo_ret dX11_goer_11 (fun h => by cases h)
theorem kX11_goer (l : Launch) (g : bo_G) (hi : bo_inj g) (σ : bo_M) (p1 : Int32) (p2 : Int32) : bo_CR l g yX11_goer cX11_goer 3 (some .int) 2 46 [.ref (g.2.2 135), .int p1, .int p2] σ false (mX11_goer σ p1 p2) :=
  bo_metR rfl (Or.inl ⟨rfl, rfl⟩) (by decide) rfl hi (Nat.le_of_ble_eq_true rfl) (fun x e1 e2 hx => by subst e1; subst e2; exact bX11_goer x hx σ p1 p2)
-- BellRopeModel.signal
theorem dX11_signal_0 : decode cX11_signal 0 = .ok (.iload_n 1, 1) := by decide +kernel
theorem dX11_signal_1 : decode cX11_signal 1 = .ok (.i2l, 1) := by decide +kernel
theorem dX11_signal_2 : decode cX11_signal 2 = .ok (.lconst 0, 1) := by decide +kernel
theorem dX11_signal_3 : decode cX11_signal 3 = .ok (.aload_n 0, 1) := by decide +kernel
theorem dX11_signal_4 : decode cX11_signal 4 = .ok (.getfield 213, 3) := by decide +kernel
theorem dX11_signal_7 : decode cX11_signal 7 = .ok (.iconst 1, 1) := by decide +kernel
theorem dX11_signal_8 : decode cX11_signal 8 = .ok (.isub, 1) := by decide +kernel
theorem dX11_signal_9 : decode cX11_signal 9 = .ok (.i2l, 1) := by decide +kernel
theorem dX11_signal_10 : decode cX11_signal 10 = .ok (.invokestatic 118, 3) := by decide +kernel
theorem dX11_signal_25 : decode cX11_signal 25 = .ok (.ldc_w 261, 3) := by decide +kernel
theorem dX11_signal_28 : decode cX11_signal 28 = .ok (.ireturn, 1) := by decide +kernel
theorem dX11_signal_16 : decode cX11_signal 16 = .ok (.aload_n 0, 1) := by decide +kernel
theorem dX11_signal_17 : decode cX11_signal 17 = .ok (.getfield 31, 3) := by decide +kernel
theorem dX11_signal_20 : decode cX11_signal 20 = .ok (.iload_n 1, 1) := by decide +kernel
theorem dX11_signal_21 : decode cX11_signal 21 = .ok (.iaload, 1) := by decide +kernel
theorem dX11_signal_22 : decode cX11_signal 22 = .ok (.goto 6, 3) := by decide +kernel
theorem dX11_signal_13 : decode cX11_signal 13 = .ok (.ifCond .eq 12, 3) := by decide +kernel
theorem bX11_signal (x : bo_X) (hx : bo_OK x cX11_signal RX11 2 1 25) (σ : bo_M) (p1 : Int32) : bo_D x 0 [(0, .ref (bo_a x 135)), (1, .int p1)] [] σ (mX11_signal σ p1) (bo_Ri x cX11_signal σ false) := by
  unfold mX11_signal
  refine bo_iload_n hx dX11_signal_0 rfl 1 rfl ?_
  refine bo_i2l hx dX11_signal_1 ?_
  refine bo_lconst (v := 0) hx dX11_signal_2 (by decide) ?_
  refine bo_aload_n hx dX11_signal_3 rfl 0 rfl ?_
  refine gf_X11_213 hx dX11_signal_4 ?_
  refine bo_iconst (v := 1) hx dX11_signal_7 (by decide) ?_
  refine bo_isub hx dX11_signal_8 ?_
  refine bo_i2l hx dX11_signal_9 ?_
  refine bo_goR (z := true) hx (fun rr hh => bo_runS (As := [.long (Int32.toInt64 p1), .long 0, .long (Int32.toInt64 ((σ 135 14) - 1))]) (S := []) hx dX11_signal_10 lk_X11_118 ms_X11_in (kX11_in (bo_l x) (bo_g x) hx.inj σ (Int32.toInt64 p1) 0 (Int32.toInt64 ((σ 135 14) - 1)) rr hh) ⟨by decide, by decide⟩ rfl rfl (Nat.le_of_ble_eq_true rfl)) (fun v1 hv1 => ?_)
  refine bo_if_eq hx 25 dX11_signal_13 (by decide) ?_ ?_
  · refine bo_ldcw (v := (-1000000001)) hx dX11_signal_25 wc_X11_261 ?_
    exact bo_ret dX11_signal_28 (fun h => by cases h)
  · refine bo_aload_n hx dX11_signal_16 rfl 0 rfl ?_
    refine gf_X11_31 hx dX11_signal_17 ?_
    refine bo_iload_n hx dX11_signal_20 rfl 1 rfl ?_
    refine bo_iald hx bo_c_143 dX11_signal_21 (fun v2 => ?_)
    refine bo_goto hx 28 dX11_signal_22 (by decide) ?_
    exact bo_ret dX11_signal_28 (fun h => by cases h)
theorem kX11_signal (l : Launch) (g : bo_G) (hi : bo_inj g) (σ : bo_M) (p1 : Int32) : bo_CR l g yX11_signal cX11_signal 2 (some .int) 1 25 [.ref (g.2.2 135), .int p1] σ false (mX11_signal σ p1) :=
  bo_metR rfl (Or.inl ⟨rfl, rfl⟩) (by decide) rfl hi (Nat.le_of_ble_eq_true rfl) (fun x e1 e2 hx => by subst e1; subst e2; exact bX11_signal x hx σ p1)
-- BellRopeModel.logged
theorem dX11_logged_0 : decode cX11_logged 0 = .ok (.iload_n 2, 1) := by decide +kernel
theorem dX11_logged_1 : decode cX11_logged 1 = .ok (.i2l, 1) := by decide +kernel
theorem dX11_logged_2 : decode cX11_logged 2 = .ok (.lconst 0, 1) := by decide +kernel
theorem dX11_logged_3 : decode cX11_logged 3 = .ok (.lconst 1, 1) := by decide +kernel
theorem dX11_logged_4 : decode cX11_logged 4 = .ok (.invokestatic 118, 3) := by decide +kernel
theorem dX11_logged_13 : decode cX11_logged 13 = .ok (.iload_n 1, 1) := by decide +kernel
theorem dX11_logged_14 : decode cX11_logged 14 = .ok (.i2l, 1) := by decide +kernel
theorem dX11_logged_15 : decode cX11_logged 15 = .ok (.lconst 0, 1) := by decide +kernel
theorem dX11_logged_16 : decode cX11_logged 16 = .ok (.aload_n 0, 1) := by decide +kernel
theorem dX11_logged_17 : decode cX11_logged 17 = .ok (.getfield 34, 3) := by decide +kernel
theorem dX11_logged_20 : decode cX11_logged 20 = .ok (.bipush 26, 2) := by decide +kernel
theorem dX11_logged_22 : decode cX11_logged 22 = .ok (.iaload, 1) := by decide +kernel
theorem dX11_logged_23 : decode cX11_logged 23 = .ok (.iconst 1, 1) := by decide +kernel
theorem dX11_logged_24 : decode cX11_logged 24 = .ok (.isub, 1) := by decide +kernel
theorem dX11_logged_25 : decode cX11_logged 25 = .ok (.i2l, 1) := by decide +kernel
theorem dX11_logged_26 : decode cX11_logged 26 = .ok (.invokestatic 118, 3) := by decide +kernel
theorem dX11_logged_34 : decode cX11_logged 34 = .ok (.aload_n 0, 1) := by decide +kernel
theorem dX11_logged_35 : decode cX11_logged 35 = .ok (.getfield 34, 3) := by decide +kernel
theorem dX11_logged_38 : decode cX11_logged 38 = .ok (.bipush 26, 2) := by decide +kernel
theorem dX11_logged_40 : decode cX11_logged 40 = .ok (.iaload, 1) := by decide +kernel
theorem dX11_logged_41 : decode cX11_logged 41 = .ok (.iconst 1, 1) := by decide +kernel
theorem dX11_logged_42 : decode cX11_logged 42 = .ok (.isub, 1) := by decide +kernel
theorem dX11_logged_43 : decode cX11_logged 43 = .ok (.iload_n 1, 1) := by decide +kernel
theorem dX11_logged_44 : decode cX11_logged 44 = .ok (.isub, 1) := by decide +kernel
theorem dX11_logged_45 : decode cX11_logged 45 = .ok (.istore_n 3, 1) := by decide +kernel
theorem dX11_logged_46 : decode cX11_logged 46 = .ok (.iload_n 2, 1) := by decide +kernel
theorem dX11_logged_62 : decode cX11_logged 62 = .ok (.aload_n 0, 1) := by decide +kernel
theorem dX11_logged_63 : decode cX11_logged 63 = .ok (.getfield 34, 3) := by decide +kernel
theorem dX11_logged_66 : decode cX11_logged 66 = .ok (.bipush 67, 2) := by decide +kernel
theorem dX11_logged_68 : decode cX11_logged 68 = .ok (.iload_n 3, 1) := by decide +kernel
theorem dX11_logged_69 : decode cX11_logged 69 = .ok (.iadd, 1) := by decide +kernel
theorem dX11_logged_70 : decode cX11_logged 70 = .ok (.iaload, 1) := by decide +kernel
theorem dX11_logged_71 : decode cX11_logged 71 = .ok (.ireturn, 1) := by decide +kernel
theorem dX11_logged_50 : decode cX11_logged 50 = .ok (.aload_n 0, 1) := by decide +kernel
theorem dX11_logged_51 : decode cX11_logged 51 = .ok (.getfield 34, 3) := by decide +kernel
theorem dX11_logged_54 : decode cX11_logged 54 = .ok (.bipush 27, 2) := by decide +kernel
theorem dX11_logged_56 : decode cX11_logged 56 = .ok (.iload_n 3, 1) := by decide +kernel
theorem dX11_logged_57 : decode cX11_logged 57 = .ok (.iadd, 1) := by decide +kernel
theorem dX11_logged_58 : decode cX11_logged 58 = .ok (.iaload, 1) := by decide +kernel
theorem dX11_logged_59 : decode cX11_logged 59 = .ok (.goto 12, 3) := by decide +kernel
theorem dX11_logged_47 : decode cX11_logged 47 = .ok (.ifCond .ne 15, 3) := by decide +kernel
theorem dX11_logged_32 : decode cX11_logged 32 = .ok (.iconst (-1), 1) := by decide +kernel
theorem dX11_logged_33 : decode cX11_logged 33 = .ok (.ireturn, 1) := by decide +kernel
theorem dX11_logged_29 : decode cX11_logged 29 = .ok (.ifCond .ne 5, 3) := by decide +kernel
theorem dX11_logged_10 : decode cX11_logged 10 = .ok (.ldc 127, 2) := by decide +kernel
theorem dX11_logged_12 : decode cX11_logged 12 = .ok (.ireturn, 1) := by decide +kernel
theorem dX11_logged_7 : decode cX11_logged 7 = .ok (.ifCond .ne 6, 3) := by decide +kernel
theorem bX11_logged (x : bo_X) (hx : bo_OK x cX11_logged RX11 4 1 25) (σ : bo_M) (p1 : Int32) (p2 : Int32) : bo_D x 0 [(0, .ref (bo_a x 135)), (1, .int p1), (2, .int p2)] [] σ (mX11_logged σ p1 p2) (bo_Ri x cX11_logged σ false) := by
  unfold mX11_logged
  refine bo_iload_n hx dX11_logged_0 rfl 2 rfl ?_
  refine bo_i2l hx dX11_logged_1 ?_
  refine bo_lconst (v := 0) hx dX11_logged_2 (by decide) ?_
  refine bo_lconst (v := 1) hx dX11_logged_3 (by decide) ?_
  refine bo_goR (z := true) hx (fun rr hh => bo_runS (As := [.long (Int32.toInt64 p2), .long 0, .long 1]) (S := []) hx dX11_logged_4 lk_X11_118 ms_X11_in (kX11_in (bo_l x) (bo_g x) hx.inj σ (Int32.toInt64 p2) 0 1 rr hh) ⟨by decide, by decide⟩ rfl rfl (Nat.le_of_ble_eq_true rfl)) (fun v1 hv1 => ?_)
  refine bo_if_ne hx 13 dX11_logged_7 (by decide) ?_ ?_
  · refine bo_iload_n hx dX11_logged_13 rfl 1 rfl ?_
    refine bo_i2l hx dX11_logged_14 ?_
    refine bo_lconst (v := 0) hx dX11_logged_15 (by decide) ?_
    refine bo_aload_n hx dX11_logged_16 rfl 0 rfl ?_
    refine gf_X11_34 hx dX11_logged_17 ?_
    refine bo_bipush (v := 26) hx dX11_logged_20 (by decide) ?_
    refine bo_iald hx bo_c_144 dX11_logged_22 (fun v2 => ?_)
    refine bo_iconst (v := 1) hx dX11_logged_23 (by decide) ?_
    refine bo_isub hx dX11_logged_24 ?_
    refine bo_i2l hx dX11_logged_25 ?_
    refine bo_goR (z := true) hx (fun rr hh => bo_runS (As := [.long (Int32.toInt64 p1), .long 0, .long (Int32.toInt64 (v2 - 1))]) (S := []) hx dX11_logged_26 lk_X11_118 ms_X11_in (kX11_in (bo_l x) (bo_g x) hx.inj σ (Int32.toInt64 p1) 0 (Int32.toInt64 (v2 - 1)) rr hh) ⟨by decide, by decide⟩ rfl rfl (Nat.le_of_ble_eq_true rfl)) (fun v3 hv3 => ?_)
    refine bo_if_ne hx 34 dX11_logged_29 (by decide) ?_ ?_
    · refine bo_aload_n hx dX11_logged_34 rfl 0 rfl ?_
      refine gf_X11_34 hx dX11_logged_35 ?_
      refine bo_bipush (v := 26) hx dX11_logged_38 (by decide) ?_
      refine bo_iald hx bo_c_144 dX11_logged_40 (fun v4 => ?_)
      refine bo_iconst (v := 1) hx dX11_logged_41 (by decide) ?_
      refine bo_isub hx dX11_logged_42 ?_
      refine bo_iload_n hx dX11_logged_43 rfl 1 rfl ?_
      refine bo_isub hx dX11_logged_44 ?_
      refine bo_istore_n (L' := [(3, .int ((v4 - 1) - p1)), (0, .ref (bo_a x 135)), (1, .int p1), (2, .int p2)]) hx dX11_logged_45 rfl (by decide) rfl ?_
      refine bo_iload_n hx dX11_logged_46 rfl 3 rfl ?_
      refine bo_if_ne hx 62 dX11_logged_47 (by decide) ?_ ?_
      · refine bo_aload_n hx dX11_logged_62 rfl 1 rfl ?_
        refine gf_X11_34 hx dX11_logged_63 ?_
        refine bo_bipush (v := 67) hx dX11_logged_66 (by decide) ?_
        refine bo_iload_n hx dX11_logged_68 rfl 0 rfl ?_
        refine bo_iadd hx dX11_logged_69 ?_
        refine bo_iald hx bo_c_144 dX11_logged_70 (fun v5 => ?_)
        exact bo_ret dX11_logged_71 (fun h => by cases h)
      · refine bo_aload_n hx dX11_logged_50 rfl 1 rfl ?_
        refine gf_X11_34 hx dX11_logged_51 ?_
        refine bo_bipush (v := 27) hx dX11_logged_54 (by decide) ?_
        refine bo_iload_n hx dX11_logged_56 rfl 0 rfl ?_
        refine bo_iadd hx dX11_logged_57 ?_
        refine bo_iald hx bo_c_144 dX11_logged_58 (fun v6 => ?_)
        refine bo_goto hx 71 dX11_logged_59 (by decide) ?_
        exact bo_ret dX11_logged_71 (fun h => by cases h)
    · refine bo_iconst (v := (-1)) hx dX11_logged_32 (by decide) ?_
      exact bo_ret dX11_logged_33 (fun h => by cases h)
  · refine bo_ldc (v := (-1000000002)) hx dX11_logged_10 wc_X11_127 ?_
    exact bo_ret dX11_logged_12 (fun h => by cases h)
theorem kX11_logged (l : Launch) (g : bo_G) (hi : bo_inj g) (σ : bo_M) (p1 : Int32) (p2 : Int32) : bo_CR l g yX11_logged cX11_logged 4 (some .int) 1 25 [.ref (g.2.2 135), .int p1, .int p2] σ false (mX11_logged σ p1 p2) :=
  bo_metR rfl (Or.inl ⟨rfl, rfl⟩) (by decide) rfl hi (Nat.le_of_ble_eq_true rfl) (fun x e1 e2 hx => by subst e1; subst e2; exact bX11_logged x hx σ p1 p2)
-- BellRopeModel.log
theorem dX11_log_0 : decode cX11_log 0 = .ok (.aload_n 0, 1) := by decide +kernel
theorem dX11_log_1 : decode cX11_log 1 = .ok (.getfield 34, 3) := by decide +kernel
theorem dX11_log_4 : decode cX11_log 4 = .ok (.bipush 26, 2) := by decide +kernel
theorem dX11_log_6 : decode cX11_log 6 = .ok (.iaload, 1) := by decide +kernel
theorem dX11_log_7 : decode cX11_log 7 = .ok (.bipush 40, 2) := by decide +kernel
theorem dX11_log_12 : decode cX11_log 12 = .ok (.iconst 1, 1) := by decide +kernel
theorem dX11_log_13 : decode cX11_log 13 = .ok (.istore_n 3, 1) := by decide +kernel
theorem dX11_log_14 : decode cX11_log 14 = .ok (.iload_n 3, 1) := by decide +kernel
theorem dX11_log_15 : decode cX11_log 15 = .ok (.bipush 40, 2) := by decide +kernel
theorem dX11_log_20 : decode cX11_log 20 = .ok (.aload_n 0, 1) := by decide +kernel
theorem dX11_log_21 : decode cX11_log 21 = .ok (.getfield 34, 3) := by decide +kernel
theorem dX11_log_24 : decode cX11_log 24 = .ok (.bipush 27, 2) := by decide +kernel
theorem dX11_log_26 : decode cX11_log 26 = .ok (.iload_n 3, 1) := by decide +kernel
theorem dX11_log_27 : decode cX11_log 27 = .ok (.iadd, 1) := by decide +kernel
theorem dX11_log_28 : decode cX11_log 28 = .ok (.iconst 1, 1) := by decide +kernel
theorem dX11_log_29 : decode cX11_log 29 = .ok (.isub, 1) := by decide +kernel
theorem dX11_log_30 : decode cX11_log 30 = .ok (.aload_n 0, 1) := by decide +kernel
theorem dX11_log_31 : decode cX11_log 31 = .ok (.getfield 34, 3) := by decide +kernel
theorem dX11_log_34 : decode cX11_log 34 = .ok (.bipush 27, 2) := by decide +kernel
theorem dX11_log_36 : decode cX11_log 36 = .ok (.iload_n 3, 1) := by decide +kernel
theorem dX11_log_37 : decode cX11_log 37 = .ok (.iadd, 1) := by decide +kernel
theorem dX11_log_38 : decode cX11_log 38 = .ok (.iaload, 1) := by decide +kernel
theorem dX11_log_39 : decode cX11_log 39 = .ok (.iastore, 1) := by decide +kernel
theorem dX11_log_40 : decode cX11_log 40 = .ok (.aload_n 0, 1) := by decide +kernel
theorem dX11_log_41 : decode cX11_log 41 = .ok (.getfield 34, 3) := by decide +kernel
theorem dX11_log_44 : decode cX11_log 44 = .ok (.bipush 67, 2) := by decide +kernel
theorem dX11_log_46 : decode cX11_log 46 = .ok (.iload_n 3, 1) := by decide +kernel
theorem dX11_log_47 : decode cX11_log 47 = .ok (.iadd, 1) := by decide +kernel
theorem dX11_log_48 : decode cX11_log 48 = .ok (.iconst 1, 1) := by decide +kernel
theorem dX11_log_49 : decode cX11_log 49 = .ok (.isub, 1) := by decide +kernel
theorem dX11_log_50 : decode cX11_log 50 = .ok (.aload_n 0, 1) := by decide +kernel
theorem dX11_log_51 : decode cX11_log 51 = .ok (.getfield 34, 3) := by decide +kernel
theorem dX11_log_54 : decode cX11_log 54 = .ok (.bipush 67, 2) := by decide +kernel
theorem dX11_log_56 : decode cX11_log 56 = .ok (.iload_n 3, 1) := by decide +kernel
theorem dX11_log_57 : decode cX11_log 57 = .ok (.iadd, 1) := by decide +kernel
theorem dX11_log_58 : decode cX11_log 58 = .ok (.iaload, 1) := by decide +kernel
theorem dX11_log_59 : decode cX11_log 59 = .ok (.iastore, 1) := by decide +kernel
theorem dX11_log_60 : decode cX11_log 60 = .ok (.iinc 3 1, 3) := by decide +kernel
theorem dX11_log_63 : decode cX11_log 63 = .ok (.goto (-49), 3) := by decide +kernel
theorem dX11_log_17 : decode cX11_log 17 = .ok (.if_icmp .ge 49, 3) := by decide +kernel
theorem dX11_log_66 : decode cX11_log 66 = .ok (.aload_n 0, 1) := by decide +kernel
theorem dX11_log_67 : decode cX11_log 67 = .ok (.getfield 34, 3) := by decide +kernel
theorem dX11_log_70 : decode cX11_log 70 = .ok (.bipush 26, 2) := by decide +kernel
theorem dX11_log_72 : decode cX11_log 72 = .ok (.dup2, 1) := by decide +kernel
theorem dX11_log_73 : decode cX11_log 73 = .ok (.iaload, 1) := by decide +kernel
theorem dX11_log_74 : decode cX11_log 74 = .ok (.iconst 1, 1) := by decide +kernel
theorem dX11_log_75 : decode cX11_log 75 = .ok (.isub, 1) := by decide +kernel
theorem dX11_log_76 : decode cX11_log 76 = .ok (.iastore, 1) := by decide +kernel
theorem dX11_log_9 : decode cX11_log 9 = .ok (.if_icmp .ne 68, 3) := by decide +kernel
theorem dX11_log_77 : decode cX11_log 77 = .ok (.aload_n 0, 1) := by decide +kernel
theorem dX11_log_78 : decode cX11_log 78 = .ok (.getfield 34, 3) := by decide +kernel
theorem dX11_log_81 : decode cX11_log 81 = .ok (.bipush 27, 2) := by decide +kernel
theorem dX11_log_83 : decode cX11_log 83 = .ok (.aload_n 0, 1) := by decide +kernel
theorem dX11_log_84 : decode cX11_log 84 = .ok (.getfield 34, 3) := by decide +kernel
theorem dX11_log_87 : decode cX11_log 87 = .ok (.bipush 26, 2) := by decide +kernel
theorem dX11_log_89 : decode cX11_log 89 = .ok (.iaload, 1) := by decide +kernel
theorem dX11_log_90 : decode cX11_log 90 = .ok (.iadd, 1) := by decide +kernel
theorem dX11_log_91 : decode cX11_log 91 = .ok (.iload_n 1, 1) := by decide +kernel
theorem dX11_log_92 : decode cX11_log 92 = .ok (.iastore, 1) := by decide +kernel
theorem dX11_log_93 : decode cX11_log 93 = .ok (.aload_n 0, 1) := by decide +kernel
theorem dX11_log_94 : decode cX11_log 94 = .ok (.getfield 34, 3) := by decide +kernel
theorem dX11_log_97 : decode cX11_log 97 = .ok (.bipush 67, 2) := by decide +kernel
theorem dX11_log_99 : decode cX11_log 99 = .ok (.aload_n 0, 1) := by decide +kernel
theorem dX11_log_100 : decode cX11_log 100 = .ok (.getfield 34, 3) := by decide +kernel
theorem dX11_log_103 : decode cX11_log 103 = .ok (.bipush 26, 2) := by decide +kernel
theorem dX11_log_105 : decode cX11_log 105 = .ok (.iaload, 1) := by decide +kernel
theorem dX11_log_106 : decode cX11_log 106 = .ok (.iadd, 1) := by decide +kernel
theorem dX11_log_107 : decode cX11_log 107 = .ok (.iload_n 2, 1) := by decide +kernel
theorem dX11_log_108 : decode cX11_log 108 = .ok (.iastore, 1) := by decide +kernel
theorem dX11_log_109 : decode cX11_log 109 = .ok (.aload_n 0, 1) := by decide +kernel
theorem dX11_log_110 : decode cX11_log 110 = .ok (.getfield 34, 3) := by decide +kernel
theorem dX11_log_113 : decode cX11_log 113 = .ok (.bipush 26, 2) := by decide +kernel
theorem dX11_log_115 : decode cX11_log 115 = .ok (.dup2, 1) := by decide +kernel
theorem dX11_log_116 : decode cX11_log 116 = .ok (.iaload, 1) := by decide +kernel
theorem dX11_log_117 : decode cX11_log 117 = .ok (.iconst 1, 1) := by decide +kernel
theorem dX11_log_118 : decode cX11_log 118 = .ok (.iadd, 1) := by decide +kernel
theorem dX11_log_119 : decode cX11_log 119 = .ok (.iastore, 1) := by decide +kernel
theorem dX11_log_120 : decode cX11_log 120 = .ok (.return_, 1) := by decide +kernel
theorem lX11_log_L14 (x : bo_X) (hx : bo_OK x cX11_log RX11 4 0 0) (f1 : Int32) (f2 : Int32) : ∀ (n : Nat) (w3 : Int32) (σ : bo_M), bo_D x 14 [(0, .ref (bo_a x 135)), (1, .int f1), (2, .int f2), (3, .int w3)] [] σ (mX11_log_L14 f1 f2 n w3 σ) (fun a => bo_N x 66 [(0, .ref (bo_a x 135)), (1, .int f1), (2, .int f2)] [] a) := by
  intro n
  induction n with
  | zero => intro w3 σ; exact bo_none
  | succ n ih =>
    intro w3 σ
    rw [mX11_log_L14]
    refine bo_iload_n hx dX11_log_14 rfl 3 rfl ?_
    refine bo_bipush (v := 40) hx dX11_log_15 (by decide) ?_
    refine bo_icmp_ge hx 66 dX11_log_17 (by decide) ?_ ?_
    · refine bo_sub (L' := [(0, .ref (bo_a x 135)), (1, .int f1), (2, .int f2)]) [0, 1, 2] rfl ?_
      exact bo_arr (fun h => h)
    · refine bo_aload_n hx dX11_log_20 rfl 0 rfl ?_
      refine gf_X11_34 hx dX11_log_21 ?_
      refine bo_bipush (v := 27) hx dX11_log_24 (by decide) ?_
      refine bo_iload_n hx dX11_log_26 rfl 3 rfl ?_
      refine bo_iadd hx dX11_log_27 ?_
      refine bo_iconst (v := 1) hx dX11_log_28 (by decide) ?_
      refine bo_isub hx dX11_log_29 ?_
      refine bo_aload_n hx dX11_log_30 rfl 0 rfl ?_
      refine gf_X11_34 hx dX11_log_31 ?_
      refine bo_bipush (v := 27) hx dX11_log_34 (by decide) ?_
      refine bo_iload_n hx dX11_log_36 rfl 3 rfl ?_
      refine bo_iadd hx dX11_log_37 ?_
      refine bo_iald hx bo_c_144 dX11_log_38 (fun v3 => ?_)
      refine bo_iast hx bo_c_144 dX11_log_39 (fun σ4 => ?_)
      refine bo_aload_n hx dX11_log_40 rfl 0 rfl ?_
      refine gf_X11_34 hx dX11_log_41 ?_
      refine bo_bipush (v := 67) hx dX11_log_44 (by decide) ?_
      refine bo_iload_n hx dX11_log_46 rfl 3 rfl ?_
      refine bo_iadd hx dX11_log_47 ?_
      refine bo_iconst (v := 1) hx dX11_log_48 (by decide) ?_
      refine bo_isub hx dX11_log_49 ?_
      refine bo_aload_n hx dX11_log_50 rfl 0 rfl ?_
      refine gf_X11_34 hx dX11_log_51 ?_
      refine bo_bipush (v := 67) hx dX11_log_54 (by decide) ?_
      refine bo_iload_n hx dX11_log_56 rfl 3 rfl ?_
      refine bo_iadd hx dX11_log_57 ?_
      refine bo_iald hx bo_c_144 dX11_log_58 (fun v5 => ?_)
      refine bo_iast hx bo_c_144 dX11_log_59 (fun σ6 => ?_)
      refine bo_iinc (L' := [(3, .int (w3 + 1)), (0, .ref (bo_a x 135)), (1, .int f1), (2, .int f2)]) (w := (w3 + 1)) hx dX11_log_60 3 rfl rfl (by decide) rfl ?_
      refine bo_goto hx 14 dX11_log_63 (by decide) ?_
      refine bo_sub (L' := [(0, .ref (bo_a x 135)), (1, .int f1), (2, .int f2), (3, .int (w3 + 1))]) [1, 2, 3, 0] rfl ?_
      exact ih (w3 + 1) σ6
theorem bX11_log (x : bo_X) (hx : bo_OK x cX11_log RX11 4 0 0) (σ : bo_M) (p1 : Int32) (p2 : Int32) : bo_D x 0 [(0, .ref (bo_a x 135)), (1, .int p1), (2, .int p2)] [] σ (mX11_log σ p1 p2) (bo_Rv x cX11_log) := by
  unfold mX11_log
  refine bo_aload_n hx dX11_log_0 rfl 0 rfl ?_
  refine gf_X11_34 hx dX11_log_1 ?_
  refine bo_bipush (v := 26) hx dX11_log_4 (by decide) ?_
  refine bo_iald hx bo_c_144 dX11_log_6 (fun v1 => ?_)
  refine bo_bipush (v := 40) hx dX11_log_7 (by decide) ?_
  refine bo_seq 77 (fun a => [(0, .ref (bo_a x 135)), (1, .int p1), (2, .int p2)]) (fun a => []) (fun a => a) ?_ (fun a2 => ?_)
  · refine bo_icmp_ne hx 77 dX11_log_9 (by decide) ?_ ?_
    · exact bo_arr (fun h => h)
    · refine bo_iconst (v := 1) hx dX11_log_12 (by decide) ?_
      refine bo_istore_n (L' := [(3, .int 1), (0, .ref (bo_a x 135)), (1, .int p1), (2, .int p2)]) hx dX11_log_13 rfl (by decide) rfl ?_
      refine bo_sub (L' := [(0, .ref (bo_a x 135)), (1, .int p1), (2, .int p2), (3, .int 1)]) [1, 2, 3, 0] rfl ?_
      refine bo_seq 66 (fun a => [(0, .ref (bo_a x 135)), (1, .int p1), (2, .int p2)]) (fun a => []) (fun a => a) (lX11_log_L14 x hx p1 p2 bo_fuel 1 σ) (fun a7 => ?_)
      refine bo_aload_n hx dX11_log_66 rfl 0 rfl ?_
      refine gf_X11_34 hx dX11_log_67 ?_
      refine bo_bipush (v := 26) hx dX11_log_70 (by decide) ?_
      refine bo_dup2 hx dX11_log_72 rfl rfl ?_
      refine bo_iald hx bo_c_144 dX11_log_73 (fun v8 => ?_)
      refine bo_iconst (v := 1) hx dX11_log_74 (by decide) ?_
      refine bo_isub hx dX11_log_75 ?_
      refine bo_iast hx bo_c_144 dX11_log_76 (fun σ9 => ?_)
      exact bo_arr (fun h => h)
  · refine bo_aload_n hx dX11_log_77 rfl 0 rfl ?_
    refine gf_X11_34 hx dX11_log_78 ?_
    refine bo_bipush (v := 27) hx dX11_log_81 (by decide) ?_
    refine bo_aload_n hx dX11_log_83 rfl 0 rfl ?_
    refine gf_X11_34 hx dX11_log_84 ?_
    refine bo_bipush (v := 26) hx dX11_log_87 (by decide) ?_
    refine bo_iald hx bo_c_144 dX11_log_89 (fun v10 => ?_)
    refine bo_iadd hx dX11_log_90 ?_
    refine bo_iload_n hx dX11_log_91 rfl 1 rfl ?_
    refine bo_iast hx bo_c_144 dX11_log_92 (fun σ11 => ?_)
    refine bo_aload_n hx dX11_log_93 rfl 0 rfl ?_
    refine gf_X11_34 hx dX11_log_94 ?_
    refine bo_bipush (v := 67) hx dX11_log_97 (by decide) ?_
    refine bo_aload_n hx dX11_log_99 rfl 0 rfl ?_
    refine gf_X11_34 hx dX11_log_100 ?_
    refine bo_bipush (v := 26) hx dX11_log_103 (by decide) ?_
    refine bo_iald hx bo_c_144 dX11_log_105 (fun v12 => ?_)
    refine bo_iadd hx dX11_log_106 ?_
    refine bo_iload_n hx dX11_log_107 rfl 2 rfl ?_
    refine bo_iast hx bo_c_144 dX11_log_108 (fun σ13 => ?_)
    refine bo_aload_n hx dX11_log_109 rfl 0 rfl ?_
    refine gf_X11_34 hx dX11_log_110 ?_
    refine bo_bipush (v := 26) hx dX11_log_113 (by decide) ?_
    refine bo_dup2 hx dX11_log_115 rfl rfl ?_
    refine bo_iald hx bo_c_144 dX11_log_116 (fun v14 => ?_)
    refine bo_iconst (v := 1) hx dX11_log_117 (by decide) ?_
    refine bo_iadd hx dX11_log_118 ?_
    refine bo_iast hx bo_c_144 dX11_log_119 (fun σ15 => ?_)
    exact bo_retv dX11_log_120
theorem kX11_log (l : Launch) (g : bo_G) (hi : bo_inj g) (σ : bo_M) (p1 : Int32) (p2 : Int32) : bo_CV l g yX11_log cX11_log 4 none 0 0 [.ref (g.2.2 135), .int p1, .int p2] σ (mX11_log σ p1 p2) :=
  bo_metV rfl  (by decide) rfl hi (Nat.le_of_ble_eq_true rfl) (fun x e1 e2 hx => by subst e1; subst e2; exact bX11_log x hx σ p1 p2)
-- BellRopeModel.pass
theorem dX11_pass_0 : decode cX11_pass 0 = .ok (.iconst 0, 1) := by decide +kernel
theorem dX11_pass_1 : decode cX11_pass 1 = .ok (.istore_n 1, 1) := by decide +kernel
theorem dX11_pass_2 : decode cX11_pass 2 = .ok (.aload_n 0, 1) := by decide +kernel
theorem dX11_pass_3 : decode cX11_pass 3 = .ok (.invokevirtual 239, 3) := by decide +kernel
theorem dX11_pass_6 : decode cX11_pass 6 = .ok (.istore_n 2, 1) := by decide +kernel
theorem dX11_pass_7 : decode cX11_pass 7 = .ok (.iconst 0, 1) := by decide +kernel
theorem dX11_pass_8 : decode cX11_pass 8 = .ok (.istore_n 3, 1) := by decide +kernel
theorem dX11_pass_9 : decode cX11_pass 9 = .ok (.iload_n 3, 1) := by decide +kernel
theorem dX11_pass_10 : decode cX11_pass 10 = .ok (.aload_n 0, 1) := by decide +kernel
theorem dX11_pass_11 : decode cX11_pass 11 = .ok (.getfield 115, 3) := by decide +kernel
theorem dX11_pass_17 : decode cX11_pass 17 = .ok (.aload_n 0, 1) := by decide +kernel
theorem dX11_pass_18 : decode cX11_pass 18 = .ok (.iload_n 3, 1) := by decide +kernel
theorem dX11_pass_19 : decode cX11_pass 19 = .ok (.invokevirtual 262, 3) := by decide +kernel
theorem dX11_pass_22 : decode cX11_pass 22 = .ok (.istore 4, 2) := by decide +kernel
theorem dX11_pass_24 : decode cX11_pass 24 = .ok (.aload_n 0, 1) := by decide +kernel
theorem dX11_pass_25 : decode cX11_pass 25 = .ok (.getfield 34, 3) := by decide +kernel
theorem dX11_pass_28 : decode cX11_pass 28 = .ok (.bipush 7, 2) := by decide +kernel
theorem dX11_pass_30 : decode cX11_pass 30 = .ok (.iload_n 3, 1) := by decide +kernel
theorem dX11_pass_31 : decode cX11_pass 31 = .ok (.iadd, 1) := by decide +kernel
theorem dX11_pass_32 : decode cX11_pass 32 = .ok (.iload_n 2, 1) := by decide +kernel
theorem dX11_pass_40 : decode cX11_pass 40 = .ok (.aload_n 0, 1) := by decide +kernel
theorem dX11_pass_41 : decode cX11_pass 41 = .ok (.getfield 34, 3) := by decide +kernel
theorem dX11_pass_44 : decode cX11_pass 44 = .ok (.bipush 7, 2) := by decide +kernel
theorem dX11_pass_46 : decode cX11_pass 46 = .ok (.iload_n 3, 1) := by decide +kernel
theorem dX11_pass_47 : decode cX11_pass 47 = .ok (.iadd, 1) := by decide +kernel
theorem dX11_pass_48 : decode cX11_pass 48 = .ok (.iaload, 1) := by decide +kernel
theorem dX11_pass_36 : decode cX11_pass 36 = .ok (.iconst 0, 1) := by decide +kernel
theorem dX11_pass_37 : decode cX11_pass 37 = .ok (.goto 12, 3) := by decide +kernel
theorem dX11_pass_33 : decode cX11_pass 33 = .ok (.ifCond .eq 7, 3) := by decide +kernel
theorem dX11_pass_49 : decode cX11_pass 49 = .ok (.iastore, 1) := by decide +kernel
theorem dX11_pass_50 : decode cX11_pass 50 = .ok (.aload_n 0, 1) := by decide +kernel
theorem dX11_pass_51 : decode cX11_pass 51 = .ok (.getfield 34, 3) := by decide +kernel
theorem dX11_pass_54 : decode cX11_pass 54 = .ok (.bipush 7, 2) := by decide +kernel
theorem dX11_pass_56 : decode cX11_pass 56 = .ok (.iload_n 3, 1) := by decide +kernel
theorem dX11_pass_57 : decode cX11_pass 57 = .ok (.iadd, 1) := by decide +kernel
theorem dX11_pass_58 : decode cX11_pass 58 = .ok (.dup2, 1) := by decide +kernel
theorem dX11_pass_59 : decode cX11_pass 59 = .ok (.iaload, 1) := by decide +kernel
theorem dX11_pass_60 : decode cX11_pass 60 = .ok (.iload 4, 2) := by decide +kernel
theorem dX11_pass_69 : decode cX11_pass 69 = .ok (.iconst 0, 1) := by decide +kernel
theorem dX11_pass_65 : decode cX11_pass 65 = .ok (.iconst 1, 1) := by decide +kernel
theorem dX11_pass_66 : decode cX11_pass 66 = .ok (.goto 4, 3) := by decide +kernel
theorem dX11_pass_62 : decode cX11_pass 62 = .ok (.ifCond .eq 7, 3) := by decide +kernel
theorem dX11_pass_70 : decode cX11_pass 70 = .ok (.iadd, 1) := by decide +kernel
theorem dX11_pass_71 : decode cX11_pass 71 = .ok (.iastore, 1) := by decide +kernel
theorem dX11_pass_72 : decode cX11_pass 72 = .ok (.iload_n 1, 1) := by decide +kernel
theorem dX11_pass_73 : decode cX11_pass 73 = .ok (.iload 4, 2) := by decide +kernel
theorem dX11_pass_82 : decode cX11_pass 82 = .ok (.iconst 0, 1) := by decide +kernel
theorem dX11_pass_78 : decode cX11_pass 78 = .ok (.iconst 1, 1) := by decide +kernel
theorem dX11_pass_79 : decode cX11_pass 79 = .ok (.goto 4, 3) := by decide +kernel
theorem dX11_pass_75 : decode cX11_pass 75 = .ok (.ifCond .eq 7, 3) := by decide +kernel
theorem dX11_pass_83 : decode cX11_pass 83 = .ok (.iadd, 1) := by decide +kernel
theorem dX11_pass_84 : decode cX11_pass 84 = .ok (.istore_n 1, 1) := by decide +kernel
theorem dX11_pass_85 : decode cX11_pass 85 = .ok (.iinc 3 1, 3) := by decide +kernel
theorem dX11_pass_88 : decode cX11_pass 88 = .ok (.goto (-79), 3) := by decide +kernel
theorem dX11_pass_14 : decode cX11_pass 14 = .ok (.if_icmp .ge 77, 3) := by decide +kernel
theorem dX11_pass_91 : decode cX11_pass 91 = .ok (.aload_n 0, 1) := by decide +kernel
theorem dX11_pass_92 : decode cX11_pass 92 = .ok (.getfield 34, 3) := by decide +kernel
theorem dX11_pass_95 : decode cX11_pass 95 = .ok (.bipush 24, 2) := by decide +kernel
theorem dX11_pass_97 : decode cX11_pass 97 = .ok (.dup2, 1) := by decide +kernel
theorem dX11_pass_98 : decode cX11_pass 98 = .ok (.iaload, 1) := by decide +kernel
theorem dX11_pass_99 : decode cX11_pass 99 = .ok (.iload_n 1, 1) := by decide +kernel
theorem dX11_pass_100 : decode cX11_pass 100 = .ok (.iadd, 1) := by decide +kernel
theorem dX11_pass_101 : decode cX11_pass 101 = .ok (.iastore, 1) := by decide +kernel
theorem dX11_pass_102 : decode cX11_pass 102 = .ok (.aload_n 0, 1) := by decide +kernel
theorem dX11_pass_103 : decode cX11_pass 103 = .ok (.iload_n 1, 1) := by decide +kernel
theorem dX11_pass_104 : decode cX11_pass 104 = .ok (.invokevirtual 268, 3) := by decide +kernel
theorem dX11_pass_107 : decode cX11_pass 107 = .ok (.istore_n 3, 1) := by decide +kernel
theorem dX11_pass_108 : decode cX11_pass 108 = .ok (.aload_n 0, 1) := by decide +kernel
theorem dX11_pass_109 : decode cX11_pass 109 = .ok (.iload_n 3, 1) := by decide +kernel
theorem dX11_pass_110 : decode cX11_pass 110 = .ok (.iload_n 1, 1) := by decide +kernel
theorem dX11_pass_111 : decode cX11_pass 111 = .ok (.invokevirtual 271, 3) := by decide +kernel
theorem dX11_pass_114 : decode cX11_pass 114 = .ok (.aload_n 0, 1) := by decide +kernel
theorem dX11_pass_115 : decode cX11_pass 115 = .ok (.getfield 34, 3) := by decide +kernel
theorem dX11_pass_118 : decode cX11_pass 118 = .ok (.bipush 22, 2) := by decide +kernel
theorem dX11_pass_120 : decode cX11_pass 120 = .ok (.iload_n 3, 1) := by decide +kernel
theorem dX11_pass_139 : decode cX11_pass 139 = .ok (.aload_n 0, 1) := by decide +kernel
theorem dX11_pass_140 : decode cX11_pass 140 = .ok (.getfield 34, 3) := by decide +kernel
theorem dX11_pass_143 : decode cX11_pass 143 = .ok (.bipush 22, 2) := by decide +kernel
theorem dX11_pass_145 : decode cX11_pass 145 = .ok (.iaload, 1) := by decide +kernel
theorem dX11_pass_124 : decode cX11_pass 124 = .ok (.aload_n 0, 1) := by decide +kernel
theorem dX11_pass_125 : decode cX11_pass 125 = .ok (.getfield 34, 3) := by decide +kernel
theorem dX11_pass_128 : decode cX11_pass 128 = .ok (.bipush 22, 2) := by decide +kernel
theorem dX11_pass_130 : decode cX11_pass 130 = .ok (.iaload, 1) := by decide +kernel
theorem dX11_pass_131 : decode cX11_pass 131 = .ok (.iconst 1, 1) := by decide +kernel
theorem dX11_pass_132 : decode cX11_pass 132 = .ok (.iadd, 1) := by decide +kernel
theorem dX11_pass_133 : decode cX11_pass 133 = .ok (.bipush 12, 2) := by decide +kernel
theorem dX11_pass_135 : decode cX11_pass 135 = .ok (.irem, 1) := by decide +kernel
theorem dX11_pass_136 : decode cX11_pass 136 = .ok (.goto 10, 3) := by decide +kernel
theorem dX11_pass_121 : decode cX11_pass 121 = .ok (.ifCond .le 18, 3) := by decide +kernel
theorem dX11_pass_146 : decode cX11_pass 146 = .ok (.iastore, 1) := by decide +kernel
theorem dX11_pass_147 : decode cX11_pass 147 = .ok (.aload_n 0, 1) := by decide +kernel
theorem dX11_pass_148 : decode cX11_pass 148 = .ok (.getfield 34, 3) := by decide +kernel
theorem dX11_pass_151 : decode cX11_pass 151 = .ok (.bipush 23, 2) := by decide +kernel
theorem dX11_pass_153 : decode cX11_pass 153 = .ok (.dup2, 1) := by decide +kernel
theorem dX11_pass_154 : decode cX11_pass 154 = .ok (.iaload, 1) := by decide +kernel
theorem dX11_pass_155 : decode cX11_pass 155 = .ok (.aload_n 0, 1) := by decide +kernel
theorem dX11_pass_156 : decode cX11_pass 156 = .ok (.getfield 34, 3) := by decide +kernel
theorem dX11_pass_159 : decode cX11_pass 159 = .ok (.bipush 23, 2) := by decide +kernel
theorem dX11_pass_161 : decode cX11_pass 161 = .ok (.iaload, 1) := by decide +kernel
theorem dX11_pass_169 : decode cX11_pass 169 = .ok (.iconst 0, 1) := by decide +kernel
theorem dX11_pass_165 : decode cX11_pass 165 = .ok (.iconst 1, 1) := by decide +kernel
theorem dX11_pass_166 : decode cX11_pass 166 = .ok (.goto 4, 3) := by decide +kernel
theorem dX11_pass_162 : decode cX11_pass 162 = .ok (.ifCond .le 7, 3) := by decide +kernel
theorem dX11_pass_170 : decode cX11_pass 170 = .ok (.isub, 1) := by decide +kernel
theorem dX11_pass_171 : decode cX11_pass 171 = .ok (.iastore, 1) := by decide +kernel
theorem dX11_pass_172 : decode cX11_pass 172 = .ok (.aload_n 0, 1) := by decide +kernel
theorem dX11_pass_173 : decode cX11_pass 173 = .ok (.getfield 34, 3) := by decide +kernel
theorem dX11_pass_176 : decode cX11_pass 176 = .ok (.bipush 21, 2) := by decide +kernel
theorem dX11_pass_178 : decode cX11_pass 178 = .ok (.dup2, 1) := by decide +kernel
theorem dX11_pass_179 : decode cX11_pass 179 = .ok (.iaload, 1) := by decide +kernel
theorem dX11_pass_180 : decode cX11_pass 180 = .ok (.iconst 1, 1) := by decide +kernel
theorem dX11_pass_181 : decode cX11_pass 181 = .ok (.iadd, 1) := by decide +kernel
theorem dX11_pass_182 : decode cX11_pass 182 = .ok (.iastore, 1) := by decide +kernel
theorem dX11_pass_183 : decode cX11_pass 183 = .ok (.iload_n 3, 1) := by decide +kernel
theorem dX11_pass_184 : decode cX11_pass 184 = .ok (.ireturn, 1) := by decide +kernel
theorem lX11_pass_L9 (x : bo_X) (hx : bo_OK x cX11_pass RX11 5 3 71) (f2 : Int32) : ∀ (n : Nat) (w1 : Int32) (w3 : Int32) (σ : bo_M), bo_D x 9 [(0, .ref (bo_a x 135)), (1, .int w1), (2, .int f2), (3, .int w3)] [] σ (mX11_pass_L9 f2 n w1 w3 σ) (fun a => bo_N x 91 [(0, .ref (bo_a x 135)), (1, .int a.1)] [] a.2) := by
  intro n
  induction n with
  | zero => intro w1 w3 σ; exact bo_none
  | succ n ih =>
    intro w1 w3 σ
    rw [mX11_pass_L9]
    refine bo_iload_n hx dX11_pass_9 rfl 3 rfl ?_
    refine bo_aload_n hx dX11_pass_10 rfl 0 rfl ?_
    refine gf_X11_115 hx dX11_pass_11 ?_
    refine bo_icmp_ge hx 91 dX11_pass_14 (by decide) ?_ ?_
    · refine bo_sub (L' := [(0, .ref (bo_a x 135)), (1, .int w1)]) [0, 1] rfl ?_
      exact bo_arr (fun h => h)
    · refine bo_aload_n hx dX11_pass_17 rfl 0 rfl ?_
      refine bo_iload_n hx dX11_pass_18 rfl 3 rfl ?_
      refine bo_goR (z := true) hx (fun rr hh => bo_runV (As := [.int w3]) (S := []) hx dX11_pass_19 lk_X11_262 mi_X11_wouldRing bo_o_135 rfl rfl (kX11_wouldRing (bo_l x) (bo_g x) hx.inj σ w3 rr hh) ⟨by decide, by decide⟩ rfl rfl (Nat.le_of_ble_eq_true rfl)) (fun v2 hv2 => ?_)
      refine bo_istore (L' := [(4, .int v2), (0, .ref (bo_a x 135)), (1, .int w1), (2, .int f2), (3, .int w3)]) hx dX11_pass_22 (by decide) rfl ?_
      refine bo_aload_n hx dX11_pass_24 rfl 1 rfl ?_
      refine gf_X11_34 hx dX11_pass_25 ?_
      refine bo_bipush (v := 7) hx dX11_pass_28 (by decide) ?_
      refine bo_iload_n hx dX11_pass_30 rfl 4 rfl ?_
      refine bo_iadd hx dX11_pass_31 ?_
      refine bo_iload_n hx dX11_pass_32 rfl 3 rfl ?_
      refine bo_seq 49 (fun a => [(0, .ref (bo_a x 135)), (1, .int w1), (2, .int f2), (3, .int w3), (4, .int v2)]) (fun a => [.int a, .int (7 + w3), .ref (bo_a x 144)]) (fun a => σ) ?_ (fun a3 => ?_)
      · refine bo_if_eq hx 40 dX11_pass_33 (by decide) ?_ ?_
        · refine bo_aload_n hx dX11_pass_40 rfl 1 rfl ?_
          refine gf_X11_34 hx dX11_pass_41 ?_
          refine bo_bipush (v := 7) hx dX11_pass_44 (by decide) ?_
          refine bo_iload_n hx dX11_pass_46 rfl 4 rfl ?_
          refine bo_iadd hx dX11_pass_47 ?_
          refine bo_iald hx bo_c_144 dX11_pass_48 (fun v4 => ?_)
          refine bo_sub (L' := [(0, .ref (bo_a x 135)), (1, .int w1), (2, .int f2), (3, .int w3), (4, .int v2)]) [1, 2, 3, 4, 0] rfl ?_
          exact bo_arr (fun h => h)
        · refine bo_iconst (v := 0) hx dX11_pass_36 (by decide) ?_
          refine bo_goto hx 49 dX11_pass_37 (by decide) ?_
          refine bo_sub (L' := [(0, .ref (bo_a x 135)), (1, .int w1), (2, .int f2), (3, .int w3), (4, .int v2)]) [1, 2, 3, 4, 0] rfl ?_
          exact bo_arr (fun h => h)
      · refine bo_iast hx bo_c_144 dX11_pass_49 (fun σ5 => ?_)
        refine bo_aload_n hx dX11_pass_50 rfl 0 rfl ?_
        refine gf_X11_34 hx dX11_pass_51 ?_
        refine bo_bipush (v := 7) hx dX11_pass_54 (by decide) ?_
        refine bo_iload_n hx dX11_pass_56 rfl 3 rfl ?_
        refine bo_iadd hx dX11_pass_57 ?_
        refine bo_dup2 hx dX11_pass_58 rfl rfl ?_
        refine bo_iald hx bo_c_144 dX11_pass_59 (fun v6 => ?_)
        refine bo_iload hx dX11_pass_60 4 rfl ?_
        refine bo_seq 70 (fun a => [(0, .ref (bo_a x 135)), (1, .int w1), (2, .int f2), (3, .int w3), (4, .int v2)]) (fun a => [.int a, .int v6, .int (7 + w3), .ref (bo_a x 144)]) (fun a => σ5) ?_ (fun a7 => ?_)
        · refine bo_if_eq hx 69 dX11_pass_62 (by decide) ?_ ?_
          · refine bo_iconst (v := 0) hx dX11_pass_69 (by decide) ?_
            exact bo_arr (fun h => h)
          · refine bo_iconst (v := 1) hx dX11_pass_65 (by decide) ?_
            refine bo_goto hx 70 dX11_pass_66 (by decide) ?_
            exact bo_arr (fun h => h)
        · refine bo_iadd hx dX11_pass_70 ?_
          refine bo_iast hx bo_c_144 dX11_pass_71 (fun σ8 => ?_)
          refine bo_iload_n hx dX11_pass_72 rfl 1 rfl ?_
          refine bo_iload hx dX11_pass_73 4 rfl ?_
          refine bo_seq 83 (fun a => [(0, .ref (bo_a x 135)), (2, .int f2), (3, .int w3)]) (fun a => [.int a, .int w1]) (fun a => σ8) ?_ (fun a9 => ?_)
          · refine bo_if_eq hx 82 dX11_pass_75 (by decide) ?_ ?_
            · refine bo_iconst (v := 0) hx dX11_pass_82 (by decide) ?_
              refine bo_sub (L' := [(0, .ref (bo_a x 135)), (2, .int f2), (3, .int w3)]) [0, 2, 3] rfl ?_
              exact bo_arr (fun h => h)
            · refine bo_iconst (v := 1) hx dX11_pass_78 (by decide) ?_
              refine bo_goto hx 83 dX11_pass_79 (by decide) ?_
              refine bo_sub (L' := [(0, .ref (bo_a x 135)), (2, .int f2), (3, .int w3)]) [0, 2, 3] rfl ?_
              exact bo_arr (fun h => h)
          · refine bo_iadd hx dX11_pass_83 ?_
            refine bo_istore_n (L' := [(1, .int (w1 + a9)), (0, .ref (bo_a x 135)), (2, .int f2), (3, .int w3)]) hx dX11_pass_84 rfl (by decide) rfl ?_
            refine bo_iinc (L' := [(3, .int (w3 + 1)), (1, .int (w1 + a9)), (0, .ref (bo_a x 135)), (2, .int f2)]) (w := (w3 + 1)) hx dX11_pass_85 3 rfl rfl (by decide) rfl ?_
            refine bo_goto hx 9 dX11_pass_88 (by decide) ?_
            refine bo_sub (L' := [(0, .ref (bo_a x 135)), (1, .int (w1 + a9)), (2, .int f2), (3, .int (w3 + 1))]) [2, 1, 3, 0] rfl ?_
            exact ih (w1 + a9) (w3 + 1) σ8
theorem bX11_pass (x : bo_X) (hx : bo_OK x cX11_pass RX11 5 3 71) (σ : bo_M) : bo_D x 0 [(0, .ref (bo_a x 135))] [] σ (mX11_pass σ) (bo_Rw x cX11_pass false) := by
  unfold mX11_pass
  refine bo_iconst (v := 0) hx dX11_pass_0 (by decide) ?_
  refine bo_istore_n (L' := [(1, .int 0), (0, .ref (bo_a x 135))]) hx dX11_pass_1 rfl (by decide) rfl ?_
  refine bo_aload_n hx dX11_pass_2 rfl 1 rfl ?_
  refine bo_goR (z := true) hx (fun rr hh => bo_runV (As := []) (S := []) hx dX11_pass_3 lk_X11_239 mi_X11_isFirstOfDay bo_o_135 rfl rfl (kX11_isFirstOfDay (bo_l x) (bo_g x) hx.inj σ rr hh) ⟨by decide, by decide⟩ rfl rfl (Nat.le_of_ble_eq_true rfl)) (fun v1 hv1 => ?_)
  refine bo_istore_n (L' := [(2, .int v1), (1, .int 0), (0, .ref (bo_a x 135))]) hx dX11_pass_6 rfl (by decide) rfl ?_
  refine bo_iconst (v := 0) hx dX11_pass_7 (by decide) ?_
  refine bo_istore_n (L' := [(3, .int 0), (2, .int v1), (1, .int 0), (0, .ref (bo_a x 135))]) hx dX11_pass_8 rfl (by decide) rfl ?_
  refine bo_sub (L' := [(0, .ref (bo_a x 135)), (1, .int 0), (2, .int v1), (3, .int 0)]) [3, 2, 1, 0] rfl ?_
  refine bo_seq 91 (fun a => [(0, .ref (bo_a x 135)), (1, .int a.1)]) (fun a => []) (fun a => a.2) (lX11_pass_L9 x hx v1 bo_fuel 0 0 σ) (fun a10 => ?_)
  refine bo_aload_n hx dX11_pass_91 rfl 0 rfl ?_
  refine gf_X11_34 hx dX11_pass_92 ?_
  refine bo_bipush (v := 24) hx dX11_pass_95 (by decide) ?_
  refine bo_dup2 hx dX11_pass_97 rfl rfl ?_
  refine bo_iald hx bo_c_144 dX11_pass_98 (fun v11 => ?_)
  refine bo_iload_n hx dX11_pass_99 rfl 1 rfl ?_
  refine bo_iadd hx dX11_pass_100 ?_
  refine bo_iast hx bo_c_144 dX11_pass_101 (fun σ12 => ?_)
  refine bo_aload_n hx dX11_pass_102 rfl 0 rfl ?_
  refine bo_iload_n hx dX11_pass_103 rfl 1 rfl ?_
  refine bo_goR (z := false) hx (fun rr hh => bo_runV (As := [.int a10.1]) (S := []) hx dX11_pass_104 lk_X11_268 mi_X11_heardOf bo_o_135 rfl rfl (kX11_heardOf (bo_l x) (bo_g x) hx.inj σ12 a10.1 rr hh) ⟨by decide, by decide⟩ rfl rfl (Nat.le_of_ble_eq_true rfl)) (fun v13 hv13 => ?_)
  refine bo_istore_n (L' := [(3, .int v13), (0, .ref (bo_a x 135)), (1, .int a10.1)]) hx dX11_pass_107 rfl (by decide) rfl ?_
  refine bo_aload_n hx dX11_pass_108 rfl 1 rfl ?_
  refine bo_iload_n hx dX11_pass_109 rfl 0 rfl ?_
  refine bo_iload_n hx dX11_pass_110 rfl 2 rfl ?_
  refine bo_goV hx (fun rr hh => bo_runV (As := [.int v13, .int a10.1]) (S := []) hx dX11_pass_111 lk_X11_271 mi_X11_log bo_o_135 rfl rfl (kX11_log (bo_l x) (bo_g x) hx.inj σ12 v13 a10.1 rr hh) ⟨by decide, by decide⟩ rfl rfl (Nat.le_of_ble_eq_true rfl)) (fun σ14 => ?_)
  refine bo_aload_n hx dX11_pass_114 rfl 1 rfl ?_
  refine gf_X11_34 hx dX11_pass_115 ?_
  refine bo_bipush (v := 22) hx dX11_pass_118 (by decide) ?_
  refine bo_iload_n hx dX11_pass_120 rfl 0 rfl ?_
  refine bo_seq 146 (fun a => [(0, .ref (bo_a x 135)), (3, .int v13)]) (fun a => [.int a, .int 22, .ref (bo_a x 144)]) (fun a => σ14) ?_ (fun a15 => ?_)
  · refine bo_if_le hx 139 dX11_pass_121 (by decide) ?_ ?_
    · refine bo_aload_n hx dX11_pass_139 rfl 1 rfl ?_
      refine gf_X11_34 hx dX11_pass_140 ?_
      refine bo_bipush (v := 22) hx dX11_pass_143 (by decide) ?_
      refine bo_iald hx bo_c_144 dX11_pass_145 (fun v16 => ?_)
      refine bo_sub (L' := [(0, .ref (bo_a x 135)), (3, .int v13)]) [1, 0] rfl ?_
      exact bo_arr (fun h => h)
    · refine bo_aload_n hx dX11_pass_124 rfl 1 rfl ?_
      refine gf_X11_34 hx dX11_pass_125 ?_
      refine bo_bipush (v := 22) hx dX11_pass_128 (by decide) ?_
      refine bo_iald hx bo_c_144 dX11_pass_130 (fun v17 => ?_)
      refine bo_iconst (v := 1) hx dX11_pass_131 (by decide) ?_
      refine bo_iadd hx dX11_pass_132 ?_
      refine bo_bipush (v := 12) hx dX11_pass_133 (by decide) ?_
      refine bo_iremc hx dX11_pass_135 (by decide) ?_
      refine bo_goto hx 146 dX11_pass_136 (by decide) ?_
      refine bo_sub (L' := [(0, .ref (bo_a x 135)), (3, .int v13)]) [1, 0] rfl ?_
      exact bo_arr (fun h => h)
  · refine bo_iast hx bo_c_144 dX11_pass_146 (fun σ18 => ?_)
    refine bo_aload_n hx dX11_pass_147 rfl 0 rfl ?_
    refine gf_X11_34 hx dX11_pass_148 ?_
    refine bo_bipush (v := 23) hx dX11_pass_151 (by decide) ?_
    refine bo_dup2 hx dX11_pass_153 rfl rfl ?_
    refine bo_iald hx bo_c_144 dX11_pass_154 (fun v19 => ?_)
    refine bo_aload_n hx dX11_pass_155 rfl 0 rfl ?_
    refine gf_X11_34 hx dX11_pass_156 ?_
    refine bo_bipush (v := 23) hx dX11_pass_159 (by decide) ?_
    refine bo_iald hx bo_c_144 dX11_pass_161 (fun v20 => ?_)
    refine bo_seq 170 (fun a => [(0, .ref (bo_a x 135)), (3, .int v13)]) (fun a => [.int a, .int v19, .int 23, .ref (bo_a x 144)]) (fun a => σ18) ?_ (fun a21 => ?_)
    · refine bo_if_le hx 169 dX11_pass_162 (by decide) ?_ ?_
      · refine bo_iconst (v := 0) hx dX11_pass_169 (by decide) ?_
        exact bo_arr (fun h => h)
      · refine bo_iconst (v := 1) hx dX11_pass_165 (by decide) ?_
        refine bo_goto hx 170 dX11_pass_166 (by decide) ?_
        exact bo_arr (fun h => h)
    · refine bo_isub hx dX11_pass_170 ?_
      refine bo_iast hx bo_c_144 dX11_pass_171 (fun σ22 => ?_)
      refine bo_aload_n hx dX11_pass_172 rfl 0 rfl ?_
      refine gf_X11_34 hx dX11_pass_173 ?_
      refine bo_bipush (v := 21) hx dX11_pass_176 (by decide) ?_
      refine bo_dup2 hx dX11_pass_178 rfl rfl ?_
      refine bo_iald hx bo_c_144 dX11_pass_179 (fun v23 => ?_)
      refine bo_iconst (v := 1) hx dX11_pass_180 (by decide) ?_
      refine bo_iadd hx dX11_pass_181 ?_
      refine bo_iast hx bo_c_144 dX11_pass_182 (fun σ24 => ?_)
      refine bo_iload_n hx dX11_pass_183 rfl 1 rfl ?_
      exact bo_retw dX11_pass_184 (fun h => by cases h)
theorem kX11_pass (l : Launch) (g : bo_G) (hi : bo_inj g) (σ : bo_M) : bo_CW l g yX11_pass cX11_pass 5 (some .int) 3 71 [.ref (g.2.2 135)] σ false (mX11_pass σ) :=
  bo_metW rfl (Or.inl ⟨rfl, rfl⟩) (by decide) rfl hi (Nat.le_of_ble_eq_true rfl) (fun x e1 e2 hx => by subst e1; subst e2; exact bX11_pass x hx σ)
-- BellRopeModel.remember
theorem dX11_remember_0 : decode cX11_remember 0 = .ok (.aload_n 0, 1) := by decide +kernel
theorem dX11_remember_1 : decode cX11_remember 1 = .ok (.getfield 232, 3) := by decide +kernel
theorem dX11_remember_4 : decode cX11_remember 4 = .ok (.bipush 16, 2) := by decide +kernel
theorem dX11_remember_9 : decode cX11_remember 9 = .ok (.bipush 107, 2) := by decide +kernel
theorem dX11_remember_11 : decode cX11_remember 11 = .ok (.istore_n 1, 1) := by decide +kernel
theorem dX11_remember_12 : decode cX11_remember 12 = .ok (.iload_n 1, 1) := by decide +kernel
theorem dX11_remember_13 : decode cX11_remember 13 = .ok (.sipush 1712, 3) := by decide +kernel
theorem dX11_remember_19 : decode cX11_remember 19 = .ok (.aload_n 0, 1) := by decide +kernel
theorem dX11_remember_20 : decode cX11_remember 20 = .ok (.getfield 71, 3) := by decide +kernel
theorem dX11_remember_23 : decode cX11_remember 23 = .ok (.iload_n 1, 1) := by decide +kernel
theorem dX11_remember_24 : decode cX11_remember 24 = .ok (.bipush 107, 2) := by decide +kernel
theorem dX11_remember_26 : decode cX11_remember 26 = .ok (.isub, 1) := by decide +kernel
theorem dX11_remember_27 : decode cX11_remember 27 = .ok (.aload_n 0, 1) := by decide +kernel
theorem dX11_remember_28 : decode cX11_remember 28 = .ok (.getfield 71, 3) := by decide +kernel
theorem dX11_remember_31 : decode cX11_remember 31 = .ok (.iload_n 1, 1) := by decide +kernel
theorem dX11_remember_32 : decode cX11_remember 32 = .ok (.iaload, 1) := by decide +kernel
theorem dX11_remember_33 : decode cX11_remember 33 = .ok (.iastore, 1) := by decide +kernel
theorem dX11_remember_34 : decode cX11_remember 34 = .ok (.iinc 1 1, 3) := by decide +kernel
theorem dX11_remember_37 : decode cX11_remember 37 = .ok (.goto (-25), 3) := by decide +kernel
theorem dX11_remember_16 : decode cX11_remember 16 = .ok (.if_icmp .ge 24, 3) := by decide +kernel
theorem dX11_remember_40 : decode cX11_remember 40 = .ok (.aload_n 0, 1) := by decide +kernel
theorem dX11_remember_41 : decode cX11_remember 41 = .ok (.dup, 1) := by decide +kernel
theorem dX11_remember_42 : decode cX11_remember 42 = .ok (.getfield 232, 3) := by decide +kernel
theorem dX11_remember_45 : decode cX11_remember 45 = .ok (.iconst 1, 1) := by decide +kernel
theorem dX11_remember_46 : decode cX11_remember 46 = .ok (.isub, 1) := by decide +kernel
theorem dX11_remember_47 : decode cX11_remember 47 = .ok (.putfield 232, 3) := by decide +kernel
theorem dX11_remember_6 : decode cX11_remember 6 = .ok (.if_icmp .ne 44, 3) := by decide +kernel
theorem dX11_remember_50 : decode cX11_remember 50 = .ok (.iconst 0, 1) := by decide +kernel
theorem dX11_remember_51 : decode cX11_remember 51 = .ok (.istore_n 1, 1) := by decide +kernel
theorem dX11_remember_52 : decode cX11_remember 52 = .ok (.iload_n 1, 1) := by decide +kernel
theorem dX11_remember_53 : decode cX11_remember 53 = .ok (.bipush 107, 2) := by decide +kernel
theorem dX11_remember_58 : decode cX11_remember 58 = .ok (.aload_n 0, 1) := by decide +kernel
theorem dX11_remember_59 : decode cX11_remember 59 = .ok (.getfield 71, 3) := by decide +kernel
theorem dX11_remember_62 : decode cX11_remember 62 = .ok (.bipush 107, 2) := by decide +kernel
theorem dX11_remember_64 : decode cX11_remember 64 = .ok (.aload_n 0, 1) := by decide +kernel
theorem dX11_remember_65 : decode cX11_remember 65 = .ok (.getfield 232, 3) := by decide +kernel
theorem dX11_remember_68 : decode cX11_remember 68 = .ok (.imul, 1) := by decide +kernel
theorem dX11_remember_69 : decode cX11_remember 69 = .ok (.iload_n 1, 1) := by decide +kernel
theorem dX11_remember_70 : decode cX11_remember 70 = .ok (.iadd, 1) := by decide +kernel
theorem dX11_remember_71 : decode cX11_remember 71 = .ok (.aload_n 0, 1) := by decide +kernel
theorem dX11_remember_72 : decode cX11_remember 72 = .ok (.getfield 34, 3) := by decide +kernel
theorem dX11_remember_75 : decode cX11_remember 75 = .ok (.iload_n 1, 1) := by decide +kernel
theorem dX11_remember_76 : decode cX11_remember 76 = .ok (.iaload, 1) := by decide +kernel
theorem dX11_remember_77 : decode cX11_remember 77 = .ok (.iastore, 1) := by decide +kernel
theorem dX11_remember_78 : decode cX11_remember 78 = .ok (.iinc 1 1, 3) := by decide +kernel
theorem dX11_remember_81 : decode cX11_remember 81 = .ok (.goto (-29), 3) := by decide +kernel
theorem dX11_remember_55 : decode cX11_remember 55 = .ok (.if_icmp .ge 29, 3) := by decide +kernel
theorem dX11_remember_84 : decode cX11_remember 84 = .ok (.aload_n 0, 1) := by decide +kernel
theorem dX11_remember_85 : decode cX11_remember 85 = .ok (.dup, 1) := by decide +kernel
theorem dX11_remember_86 : decode cX11_remember 86 = .ok (.getfield 232, 3) := by decide +kernel
theorem dX11_remember_89 : decode cX11_remember 89 = .ok (.iconst 1, 1) := by decide +kernel
theorem dX11_remember_90 : decode cX11_remember 90 = .ok (.iadd, 1) := by decide +kernel
theorem dX11_remember_91 : decode cX11_remember 91 = .ok (.putfield 232, 3) := by decide +kernel
theorem dX11_remember_94 : decode cX11_remember 94 = .ok (.return_, 1) := by decide +kernel
theorem lX11_remember_L12 (x : bo_X) (hx : bo_OK x cX11_remember RX11 2 0 0)  : ∀ (n : Nat) (w1 : Int32) (σ : bo_M), bo_D x 12 [(0, .ref (bo_a x 135)), (1, .int w1)] [] σ (mX11_remember_L12 n w1 σ) (fun a => bo_N x 40 [(0, .ref (bo_a x 135))] [] a) := by
  intro n
  induction n with
  | zero => intro w1 σ; exact bo_none
  | succ n ih =>
    intro w1 σ
    rw [mX11_remember_L12]
    refine bo_iload_n hx dX11_remember_12 rfl 1 rfl ?_
    refine bo_sipush (v := 1712) hx dX11_remember_13 (by decide) ?_
    refine bo_icmp_ge hx 40 dX11_remember_16 (by decide) ?_ ?_
    · refine bo_sub (L' := [(0, .ref (bo_a x 135))]) [0] rfl ?_
      exact bo_arr (fun h => h)
    · refine bo_aload_n hx dX11_remember_19 rfl 0 rfl ?_
      refine gf_X11_71 hx dX11_remember_20 ?_
      refine bo_iload_n hx dX11_remember_23 rfl 1 rfl ?_
      refine bo_bipush (v := 107) hx dX11_remember_24 (by decide) ?_
      refine bo_isub hx dX11_remember_26 ?_
      refine bo_aload_n hx dX11_remember_27 rfl 0 rfl ?_
      refine gf_X11_71 hx dX11_remember_28 ?_
      refine bo_iload_n hx dX11_remember_31 rfl 1 rfl ?_
      refine bo_iald hx bo_c_155 dX11_remember_32 (fun v2 => ?_)
      refine bo_iast hx bo_c_155 dX11_remember_33 (fun σ3 => ?_)
      refine bo_iinc (L' := [(1, .int (w1 + 1)), (0, .ref (bo_a x 135))]) (w := (w1 + 1)) hx dX11_remember_34 1 rfl rfl (by decide) rfl ?_
      refine bo_goto hx 12 dX11_remember_37 (by decide) ?_
      refine bo_sub (L' := [(0, .ref (bo_a x 135)), (1, .int (w1 + 1))]) [1, 0] rfl ?_
      exact ih (w1 + 1) σ3
theorem lX11_remember_L52 (x : bo_X) (hx : bo_OK x cX11_remember RX11 2 0 0)  : ∀ (n : Nat) (w1 : Int32) (σ : bo_M), bo_D x 52 [(0, .ref (bo_a x 135)), (1, .int w1)] [] σ (mX11_remember_L52 n w1 σ) (fun a => bo_N x 84 [(0, .ref (bo_a x 135))] [] a) := by
  intro n
  induction n with
  | zero => intro w1 σ; exact bo_none
  | succ n ih =>
    intro w1 σ
    rw [mX11_remember_L52]
    refine bo_iload_n hx dX11_remember_52 rfl 1 rfl ?_
    refine bo_bipush (v := 107) hx dX11_remember_53 (by decide) ?_
    refine bo_icmp_ge hx 84 dX11_remember_55 (by decide) ?_ ?_
    · refine bo_sub (L' := [(0, .ref (bo_a x 135))]) [0] rfl ?_
      exact bo_arr (fun h => h)
    · refine bo_aload_n hx dX11_remember_58 rfl 0 rfl ?_
      refine gf_X11_71 hx dX11_remember_59 ?_
      refine bo_bipush (v := 107) hx dX11_remember_62 (by decide) ?_
      refine bo_aload_n hx dX11_remember_64 rfl 0 rfl ?_
      refine gf_X11_232 hx dX11_remember_65 ?_
      refine bo_imul hx dX11_remember_68 ?_
      refine bo_iload_n hx dX11_remember_69 rfl 1 rfl ?_
      refine bo_iadd hx dX11_remember_70 ?_
      refine bo_aload_n hx dX11_remember_71 rfl 0 rfl ?_
      refine gf_X11_34 hx dX11_remember_72 ?_
      refine bo_iload_n hx dX11_remember_75 rfl 1 rfl ?_
      refine bo_iald hx bo_c_144 dX11_remember_76 (fun v6 => ?_)
      refine bo_iast hx bo_c_155 dX11_remember_77 (fun σ7 => ?_)
      refine bo_iinc (L' := [(1, .int (w1 + 1)), (0, .ref (bo_a x 135))]) (w := (w1 + 1)) hx dX11_remember_78 1 rfl rfl (by decide) rfl ?_
      refine bo_goto hx 52 dX11_remember_81 (by decide) ?_
      refine bo_sub (L' := [(0, .ref (bo_a x 135)), (1, .int (w1 + 1))]) [1, 0] rfl ?_
      exact ih (w1 + 1) σ7
theorem bX11_remember (x : bo_X) (hx : bo_OK x cX11_remember RX11 2 0 0) (σ : bo_M) : bo_D x 0 [(0, .ref (bo_a x 135))] [] σ (mX11_remember σ) (bo_Rv x cX11_remember) := by
  unfold mX11_remember
  refine bo_aload_n hx dX11_remember_0 rfl 0 rfl ?_
  refine gf_X11_232 hx dX11_remember_1 ?_
  refine bo_bipush (v := 16) hx dX11_remember_4 (by decide) ?_
  refine bo_seq 50 (fun a => [(0, .ref (bo_a x 135))]) (fun a => []) (fun a => a) ?_ (fun a1 => ?_)
  · refine bo_icmp_ne hx 50 dX11_remember_6 (by decide) ?_ ?_
    · exact bo_arr (fun h => h)
    · refine bo_bipush (v := 107) hx dX11_remember_9 (by decide) ?_
      refine bo_istore_n (L' := [(1, .int 107), (0, .ref (bo_a x 135))]) hx dX11_remember_11 rfl (by decide) rfl ?_
      refine bo_sub (L' := [(0, .ref (bo_a x 135)), (1, .int 107)]) [1, 0] rfl ?_
      refine bo_seq 40 (fun a => [(0, .ref (bo_a x 135))]) (fun a => []) (fun a => a) (lX11_remember_L12 x hx bo_fuel 107 σ) (fun a4 => ?_)
      refine bo_aload_n hx dX11_remember_40 rfl 0 rfl ?_
      refine bo_dup hx dX11_remember_41 rfl ?_
      refine gf_X11_232 hx dX11_remember_42 ?_
      refine bo_iconst (v := 1) hx dX11_remember_45 (by decide) ?_
      refine bo_isub hx dX11_remember_46 ?_
      refine pf_X11_232 hx dX11_remember_47 (fun σ5 => ?_)
      exact bo_arr (fun h => h)
  · refine bo_iconst (v := 0) hx dX11_remember_50 (by decide) ?_
    refine bo_istore_n (L' := [(1, .int 0), (0, .ref (bo_a x 135))]) hx dX11_remember_51 rfl (by decide) rfl ?_
    refine bo_sub (L' := [(0, .ref (bo_a x 135)), (1, .int 0)]) [1, 0] rfl ?_
    refine bo_seq 84 (fun a => [(0, .ref (bo_a x 135))]) (fun a => []) (fun a => a) (lX11_remember_L52 x hx bo_fuel 0 a1) (fun a8 => ?_)
    refine bo_aload_n hx dX11_remember_84 rfl 0 rfl ?_
    refine bo_dup hx dX11_remember_85 rfl ?_
    refine gf_X11_232 hx dX11_remember_86 ?_
    refine bo_iconst (v := 1) hx dX11_remember_89 (by decide) ?_
    refine bo_iadd hx dX11_remember_90 ?_
    refine pf_X11_232 hx dX11_remember_91 (fun σ9 => ?_)
    exact bo_retv dX11_remember_94
theorem kX11_remember (l : Launch) (g : bo_G) (hi : bo_inj g) (σ : bo_M) : bo_CV l g yX11_remember cX11_remember 2 none 0 0 [.ref (g.2.2 135)] σ (mX11_remember σ) :=
  bo_metV rfl  (by decide) rfl hi (Nat.le_of_ble_eq_true rfl) (fun x e1 e2 hx => by subst e1; subst e2; exact bX11_remember x hx σ)
-- BellRopeModel.quartersRefused
theorem dX11_quartersRefused_0 : decode cX11_quartersRefused 0 = .ok (.iload_n 1, 1) := by decide +kernel
theorem dX11_quartersRefused_1 : decode cX11_quartersRefused 1 = .ok (.i2l, 1) := by decide +kernel
theorem dX11_quartersRefused_2 : decode cX11_quartersRefused 2 = .ok (.lconst 1, 1) := by decide +kernel
theorem dX11_quartersRefused_3 : decode cX11_quartersRefused 3 = .ok (.ldc2_w 275, 3) := by decide +kernel
theorem dX11_quartersRefused_6 : decode cX11_quartersRefused 6 = .ok (.invokestatic 118, 3) := by decide +kernel
theorem dX11_quartersRefused_15 : decode cX11_quartersRefused 15 = .ok (.aload_n 0, 1) := by decide +kernel
theorem dX11_quartersRefused_16 : decode cX11_quartersRefused 16 = .ok (.getfield 111, 3) := by decide +kernel
theorem dX11_quartersRefused_28 : decode cX11_quartersRefused 28 = .ok (.aload_n 0, 1) := by decide +kernel
theorem dX11_quartersRefused_29 : decode cX11_quartersRefused 29 = .ok (.getfield 34, 3) := by decide +kernel
theorem dX11_quartersRefused_32 : decode cX11_quartersRefused 32 = .ok (.bipush 21, 2) := by decide +kernel
theorem dX11_quartersRefused_34 : decode cX11_quartersRefused 34 = .ok (.iaload, 1) := by decide +kernel
theorem dX11_quartersRefused_35 : decode cX11_quartersRefused 35 = .ok (.ldc_w 278, 3) := by decide +kernel
theorem dX11_quartersRefused_46 : decode cX11_quartersRefused 46 = .ok (.iconst 0, 1) := by decide +kernel
theorem dX11_quartersRefused_47 : decode cX11_quartersRefused 47 = .ok (.ireturn, 1) := by decide +kernel
theorem dX11_quartersRefused_41 : decode cX11_quartersRefused 41 = .ok (.ldc 131, 2) := by decide +kernel
theorem dX11_quartersRefused_43 : decode cX11_quartersRefused 43 = .ok (.goto 4, 3) := by decide +kernel
theorem dX11_quartersRefused_38 : decode cX11_quartersRefused 38 = .ok (.if_icmp .le 8, 3) := by decide +kernel
theorem dX11_quartersRefused_22 : decode cX11_quartersRefused 22 = .ok (.ldc_w 277, 3) := by decide +kernel
theorem dX11_quartersRefused_25 : decode cX11_quartersRefused 25 = .ok (.goto 22, 3) := by decide +kernel
theorem dX11_quartersRefused_19 : decode cX11_quartersRefused 19 = .ok (.ifCond .ne 9, 3) := by decide +kernel
theorem dX11_quartersRefused_12 : decode cX11_quartersRefused 12 = .ok (.ldc 127, 2) := by decide +kernel
theorem dX11_quartersRefused_14 : decode cX11_quartersRefused 14 = .ok (.ireturn, 1) := by decide +kernel
theorem dX11_quartersRefused_9 : decode cX11_quartersRefused 9 = .ok (.ifCond .ne 6, 3) := by decide +kernel
theorem bX11_quartersRefused (x : bo_X) (hx : bo_OK x cX11_quartersRefused RX11 2 1 25) (σ : bo_M) (p1 : Int32) : bo_D x 0 [(0, .ref (bo_a x 135)), (1, .int p1)] [] σ (mX11_quartersRefused σ p1) (bo_Ri x cX11_quartersRefused σ false) := by
  unfold mX11_quartersRefused
  refine bo_iload_n hx dX11_quartersRefused_0 rfl 1 rfl ?_
  refine bo_i2l hx dX11_quartersRefused_1 ?_
  refine bo_lconst (v := 1) hx dX11_quartersRefused_2 (by decide) ?_
  refine bo_ldc2 (v := 96) hx dX11_quartersRefused_3 wl_X11_275 ?_
  refine bo_goR (z := true) hx (fun rr hh => bo_runS (As := [.long (Int32.toInt64 p1), .long 1, .long 96]) (S := []) hx dX11_quartersRefused_6 lk_X11_118 ms_X11_in (kX11_in (bo_l x) (bo_g x) hx.inj σ (Int32.toInt64 p1) 1 96 rr hh) ⟨by decide, by decide⟩ rfl rfl (Nat.le_of_ble_eq_true rfl)) (fun v1 hv1 => ?_)
  refine bo_if_ne hx 15 dX11_quartersRefused_9 (by decide) ?_ ?_
  · refine bo_aload_n hx dX11_quartersRefused_15 rfl 0 rfl ?_
    refine gf_X11_111 hx dX11_quartersRefused_16 ?_
    refine bo_if_ne hx 28 dX11_quartersRefused_19 (by decide) ?_ ?_
    · refine bo_aload_n hx dX11_quartersRefused_28 rfl 0 rfl ?_
      refine gf_X11_34 hx dX11_quartersRefused_29 ?_
      refine bo_bipush (v := 21) hx dX11_quartersRefused_32 (by decide) ?_
      refine bo_iald hx bo_c_144 dX11_quartersRefused_34 (fun v2 => ?_)
      refine bo_ldcw (v := 90000) hx dX11_quartersRefused_35 wc_X11_278 ?_
      refine bo_icmp_le hx 46 dX11_quartersRefused_38 (by decide) ?_ ?_
      · refine bo_iconst (v := 0) hx dX11_quartersRefused_46 (by decide) ?_
        exact bo_ret dX11_quartersRefused_47 (fun h => by cases h)
      · refine bo_ldc (v := (-1000000004)) hx dX11_quartersRefused_41 wc_X11_131 ?_
        refine bo_goto hx 47 dX11_quartersRefused_43 (by decide) ?_
        exact bo_ret dX11_quartersRefused_47 (fun h => by cases h)
    · refine bo_ldcw (v := (-1000000003)) hx dX11_quartersRefused_22 wc_X11_277 ?_
      refine bo_goto hx 47 dX11_quartersRefused_25 (by decide) ?_
      exact bo_ret dX11_quartersRefused_47 (fun h => by cases h)
  · refine bo_ldc (v := (-1000000002)) hx dX11_quartersRefused_12 wc_X11_127 ?_
    exact bo_ret dX11_quartersRefused_14 (fun h => by cases h)
theorem kX11_quartersRefused (l : Launch) (g : bo_G) (hi : bo_inj g) (σ : bo_M) (p1 : Int32) : bo_CR l g yX11_quartersRefused cX11_quartersRefused 2 (some .int) 1 25 [.ref (g.2.2 135), .int p1] σ false (mX11_quartersRefused σ p1) :=
  bo_metR rfl (Or.inl ⟨rfl, rfl⟩) (by decide) rfl hi (Nat.le_of_ble_eq_true rfl) (fun x e1 e2 hx => by subst e1; subst e2; exact bX11_quartersRefused x hx σ p1)
-- BellRopeModel.quarter
theorem dX11_quarter_0 : decode cX11_quarter 0 = .ok (.aload_n 0, 1) := by decide +kernel
theorem dX11_quarter_1 : decode cX11_quarter 1 = .ok (.iload_n 1, 1) := by decide +kernel
theorem dX11_quarter_2 : decode cX11_quarter 2 = .ok (.invokevirtual 279, 3) := by decide +kernel
theorem dX11_quarter_5 : decode cX11_quarter 5 = .ok (.istore_n 2, 1) := by decide +kernel
theorem dX11_quarter_6 : decode cX11_quarter 6 = .ok (.iload_n 2, 1) := by decide +kernel
theorem dX11_quarter_12 : decode cX11_quarter 12 = .ok (.aload_n 0, 1) := by decide +kernel
theorem dX11_quarter_13 : decode cX11_quarter 13 = .ok (.invokevirtual 282, 3) := by decide +kernel
theorem dX11_quarter_16 : decode cX11_quarter 16 = .ok (.iconst 0, 1) := by decide +kernel
theorem dX11_quarter_17 : decode cX11_quarter 17 = .ok (.istore_n 3, 1) := by decide +kernel
theorem dX11_quarter_18 : decode cX11_quarter 18 = .ok (.iconst 0, 1) := by decide +kernel
theorem dX11_quarter_19 : decode cX11_quarter 19 = .ok (.istore 4, 2) := by decide +kernel
theorem dX11_quarter_21 : decode cX11_quarter 21 = .ok (.iload 4, 2) := by decide +kernel
theorem dX11_quarter_23 : decode cX11_quarter 23 = .ok (.iload_n 1, 1) := by decide +kernel
theorem dX11_quarter_27 : decode cX11_quarter 27 = .ok (.aload_n 0, 1) := by decide +kernel
theorem dX11_quarter_28 : decode cX11_quarter 28 = .ok (.invokevirtual 285, 3) := by decide +kernel
theorem dX11_quarter_31 : decode cX11_quarter 31 = .ok (.istore_n 3, 1) := by decide +kernel
theorem dX11_quarter_32 : decode cX11_quarter 32 = .ok (.iinc 4 1, 3) := by decide +kernel
theorem dX11_quarter_35 : decode cX11_quarter 35 = .ok (.goto (-14), 3) := by decide +kernel
theorem dX11_quarter_24 : decode cX11_quarter 24 = .ok (.if_icmp .ge 14, 3) := by decide +kernel
theorem dX11_quarter_38 : decode cX11_quarter 38 = .ok (.iload_n 3, 1) := by decide +kernel
theorem dX11_quarter_39 : decode cX11_quarter 39 = .ok (.ireturn, 1) := by decide +kernel
theorem dX11_quarter_10 : decode cX11_quarter 10 = .ok (.iload_n 2, 1) := by decide +kernel
theorem dX11_quarter_11 : decode cX11_quarter 11 = .ok (.ireturn, 1) := by decide +kernel
theorem dX11_quarter_7 : decode cX11_quarter 7 = .ok (.ifCond .eq 5, 3) := by decide +kernel
theorem lX11_quarter_L21 (x : bo_X) (hx : bo_OK x cX11_quarter RX11 5 4 95) (f1 : Int32) : ∀ (n : Nat) (w3 : Int32) (w4 : Int32) (σ : bo_M), bo_D x 21 [(0, .ref (bo_a x 135)), (1, .int f1), (3, .int w3), (4, .int w4)] [] σ (mX11_quarter_L21 f1 n w3 w4 σ) (fun a => bo_N x 38 [(3, .int a.1)] [] a.2) := by
  intro n
  induction n with
  | zero => intro w3 w4 σ; exact bo_none
  | succ n ih =>
    intro w3 w4 σ
    rw [mX11_quarter_L21]
    refine bo_iload hx dX11_quarter_21 3 rfl ?_
    refine bo_iload_n hx dX11_quarter_23 rfl 1 rfl ?_
    refine bo_icmp_ge hx 38 dX11_quarter_24 (by decide) ?_ ?_
    · refine bo_sub (L' := [(3, .int w3)]) [2] rfl ?_
      exact bo_arr (fun h => h)
    · refine bo_aload_n hx dX11_quarter_27 rfl 0 rfl ?_
      refine bo_goW (z := false) hx (fun rr hh => bo_runV (As := []) (S := []) hx dX11_quarter_28 lk_X11_285 mi_X11_pass bo_o_135 rfl rfl (kX11_pass (bo_l x) (bo_g x) hx.inj σ rr hh) ⟨by decide, by decide⟩ rfl rfl (Nat.le_of_ble_eq_true rfl)) (fun a3 ha3 => ?_)
      refine bo_istore_n (L' := [(3, .int a3.1), (0, .ref (bo_a x 135)), (1, .int f1), (4, .int w4)]) hx dX11_quarter_31 rfl (by decide) rfl ?_
      refine bo_iinc (L' := [(4, .int (w4 + 1)), (3, .int a3.1), (0, .ref (bo_a x 135)), (1, .int f1)]) (w := (w4 + 1)) hx dX11_quarter_32 3 rfl rfl (by decide) rfl ?_
      refine bo_goto hx 21 dX11_quarter_35 (by decide) ?_
      refine bo_sub (L' := [(0, .ref (bo_a x 135)), (1, .int f1), (3, .int a3.1), (4, .int (w4 + 1))]) [2, 3, 1, 0] rfl ?_
      exact ih a3.1 (w4 + 1) a3.2
theorem bX11_quarter (x : bo_X) (hx : bo_OK x cX11_quarter RX11 5 4 95) (σ : bo_M) (p1 : Int32) : bo_D x 0 [(0, .ref (bo_a x 135)), (1, .int p1)] [] σ (mX11_quarter σ p1) (bo_Rw x cX11_quarter false) := by
  unfold mX11_quarter
  refine bo_aload_n hx dX11_quarter_0 rfl 0 rfl ?_
  refine bo_iload_n hx dX11_quarter_1 rfl 1 rfl ?_
  refine bo_goR (z := false) hx (fun rr hh => bo_runV (As := [.int p1]) (S := []) hx dX11_quarter_2 lk_X11_279 mi_X11_quartersRefused bo_o_135 rfl rfl (kX11_quartersRefused (bo_l x) (bo_g x) hx.inj σ p1 rr hh) ⟨by decide, by decide⟩ rfl rfl (Nat.le_of_ble_eq_true rfl)) (fun v1 hv1 => ?_)
  refine bo_istore_n (L' := [(2, .int v1), (0, .ref (bo_a x 135)), (1, .int p1)]) hx dX11_quarter_5 rfl (by decide) rfl ?_
  refine bo_iload_n hx dX11_quarter_6 rfl 0 rfl ?_
  refine bo_if_eq hx 12 dX11_quarter_7 (by decide) ?_ ?_
  · refine bo_aload_n hx dX11_quarter_12 rfl 1 rfl ?_
    refine bo_goV hx (fun rr hh => bo_runV (As := []) (S := []) hx dX11_quarter_13 lk_X11_282 mi_X11_remember bo_o_135 rfl rfl (kX11_remember (bo_l x) (bo_g x) hx.inj σ rr hh) ⟨by decide, by decide⟩ rfl rfl (Nat.le_of_ble_eq_true rfl)) (fun σ2 => ?_)
    refine bo_iconst (v := 0) hx dX11_quarter_16 (by decide) ?_
    refine bo_istore_n (L' := [(3, .int 0), (2, .int v1), (0, .ref (bo_a x 135)), (1, .int p1)]) hx dX11_quarter_17 rfl (by decide) rfl ?_
    refine bo_iconst (v := 0) hx dX11_quarter_18 (by decide) ?_
    refine bo_istore (L' := [(4, .int 0), (3, .int 0), (2, .int v1), (0, .ref (bo_a x 135)), (1, .int p1)]) hx dX11_quarter_19 (by decide) rfl ?_
    refine bo_sub (L' := [(0, .ref (bo_a x 135)), (1, .int p1), (3, .int 0), (4, .int 0)]) [3, 4, 1, 0] rfl ?_
    refine bo_seq 38 (fun a => [(3, .int a.1)]) (fun a => []) (fun a => a.2) (lX11_quarter_L21 x hx p1 bo_fuel 0 0 σ2) (fun a4 => ?_)
    refine bo_iload_n hx dX11_quarter_38 rfl 0 rfl ?_
    exact bo_retw dX11_quarter_39 (fun h => by cases h)
  · refine bo_iload_n hx dX11_quarter_10 rfl 0 rfl ?_
    exact bo_retw dX11_quarter_11 (fun h => by cases h)
theorem kX11_quarter (l : Launch) (g : bo_G) (hi : bo_inj g) (σ : bo_M) (p1 : Int32) : bo_CW l g yX11_quarter cX11_quarter 5 (some .int) 4 95 [.ref (g.2.2 135), .int p1] σ false (mX11_quarter σ p1) :=
  bo_metW rfl (Or.inl ⟨rfl, rfl⟩) (by decide) rfl hi (Nat.le_of_ble_eq_true rfl) (fun x e1 e2 hx => by subst e1; subst e2; exact bX11_quarter x hx σ p1)
-- BellRopeModel.come
theorem dX11_come_0 : decode cX11_come 0 = .ok (.aload_n 0, 1) := by decide +kernel
theorem dX11_come_1 : decode cX11_come 1 = .ok (.iload_n 1, 1) := by decide +kernel
theorem dX11_come_2 : decode cX11_come 2 = .ok (.invokevirtual 258, 3) := by decide +kernel
theorem dX11_come_12 : decode cX11_come 12 = .ok (.aload_n 0, 1) := by decide +kernel
theorem dX11_come_13 : decode cX11_come 13 = .ok (.getfield 34, 3) := by decide +kernel
theorem dX11_come_16 : decode cX11_come 16 = .ok (.iconst 0, 1) := by decide +kernel
theorem dX11_come_17 : decode cX11_come 17 = .ok (.iload_n 1, 1) := by decide +kernel
theorem dX11_come_18 : decode cX11_come 18 = .ok (.iadd, 1) := by decide +kernel
theorem dX11_come_19 : decode cX11_come 19 = .ok (.iaload, 1) := by decide +kernel
theorem dX11_come_20 : decode cX11_come 20 = .ok (.iconst 1, 1) := by decide +kernel
theorem dX11_come_28 : decode cX11_come 28 = .ok (.aload_n 0, 1) := by decide +kernel
theorem dX11_come_29 : decode cX11_come 29 = .ok (.invokevirtual 282, 3) := by decide +kernel
theorem dX11_come_32 : decode cX11_come 32 = .ok (.aload_n 0, 1) := by decide +kernel
theorem dX11_come_33 : decode cX11_come 33 = .ok (.getfield 34, 3) := by decide +kernel
theorem dX11_come_36 : decode cX11_come 36 = .ok (.iconst 0, 1) := by decide +kernel
theorem dX11_come_37 : decode cX11_come 37 = .ok (.iload_n 1, 1) := by decide +kernel
theorem dX11_come_38 : decode cX11_come 38 = .ok (.iadd, 1) := by decide +kernel
theorem dX11_come_39 : decode cX11_come 39 = .ok (.iconst 1, 1) := by decide +kernel
theorem dX11_come_40 : decode cX11_come 40 = .ok (.iastore, 1) := by decide +kernel
theorem dX11_come_41 : decode cX11_come 41 = .ok (.aload_n 0, 1) := by decide +kernel
theorem dX11_come_42 : decode cX11_come 42 = .ok (.invokevirtual 255, 3) := by decide +kernel
theorem dX11_come_45 : decode cX11_come 45 = .ok (.ireturn, 1) := by decide +kernel
theorem dX11_come_24 : decode cX11_come 24 = .ok (.ldc_w 277, 3) := by decide +kernel
theorem dX11_come_27 : decode cX11_come 27 = .ok (.ireturn, 1) := by decide +kernel
theorem dX11_come_21 : decode cX11_come 21 = .ok (.if_icmp .ne 7, 3) := by decide +kernel
theorem dX11_come_8 : decode cX11_come 8 = .ok (.ldc_w 261, 3) := by decide +kernel
theorem dX11_come_11 : decode cX11_come 11 = .ok (.ireturn, 1) := by decide +kernel
theorem dX11_come_5 : decode cX11_come 5 = .ok (.ifCond .ne 7, 3) := by decide +kernel
theorem bX11_come (x : bo_X) (hx : bo_OK x cX11_come RX11 2 2 46) (σ : bo_M) (p1 : Int32) : bo_D x 0 [(0, .ref (bo_a x 135)), (1, .int p1)] [] σ (mX11_come σ p1) (bo_Rw x cX11_come false) := by
  unfold mX11_come
  refine bo_aload_n hx dX11_come_0 rfl 0 rfl ?_
  refine bo_iload_n hx dX11_come_1 rfl 1 rfl ?_
  refine bo_goR (z := true) hx (fun rr hh => bo_runV (As := [.int p1]) (S := []) hx dX11_come_2 lk_X11_258 mi_X11_isDrinker bo_o_135 rfl rfl (kX11_isDrinker (bo_l x) (bo_g x) hx.inj σ p1 rr hh) ⟨by decide, by decide⟩ rfl rfl (Nat.le_of_ble_eq_true rfl)) (fun v1 hv1 => ?_)
  refine bo_if_ne hx 12 dX11_come_5 (by decide) ?_ ?_
  · refine bo_aload_n hx dX11_come_12 rfl 0 rfl ?_
    refine gf_X11_34 hx dX11_come_13 ?_
    refine bo_iconst (v := 0) hx dX11_come_16 (by decide) ?_
    refine bo_iload_n hx dX11_come_17 rfl 1 rfl ?_
    refine bo_iadd hx dX11_come_18 ?_
    refine bo_iald hx bo_c_144 dX11_come_19 (fun v2 => ?_)
    refine bo_iconst (v := 1) hx dX11_come_20 (by decide) ?_
    refine bo_icmp_ne hx 28 dX11_come_21 (by decide) ?_ ?_
    · refine bo_aload_n hx dX11_come_28 rfl 0 rfl ?_
      refine bo_goV hx (fun rr hh => bo_runV (As := []) (S := []) hx dX11_come_29 lk_X11_282 mi_X11_remember bo_o_135 rfl rfl (kX11_remember (bo_l x) (bo_g x) hx.inj σ rr hh) ⟨by decide, by decide⟩ rfl rfl (Nat.le_of_ble_eq_true rfl)) (fun σ3 => ?_)
      refine bo_aload_n hx dX11_come_32 rfl 0 rfl ?_
      refine gf_X11_34 hx dX11_come_33 ?_
      refine bo_iconst (v := 0) hx dX11_come_36 (by decide) ?_
      refine bo_iload_n hx dX11_come_37 rfl 1 rfl ?_
      refine bo_iadd hx dX11_come_38 ?_
      refine bo_iconst (v := 1) hx dX11_come_39 (by decide) ?_
      refine bo_iast hx bo_c_144 dX11_come_40 (fun σ4 => ?_)
      refine bo_aload_n hx dX11_come_41 rfl 0 rfl ?_
      refine bo_goR (z := false) hx (fun rr hh => bo_runV (As := []) (S := []) hx dX11_come_42 lk_X11_255 mi_X11_whoIsIn bo_o_135 rfl rfl (kX11_whoIsIn (bo_l x) (bo_g x) hx.inj σ4 rr hh) ⟨by decide, by decide⟩ rfl rfl (Nat.le_of_ble_eq_true rfl)) (fun v5 hv5 => ?_)
      exact bo_retw dX11_come_45 (fun h => by cases h)
    · refine bo_ldcw (v := (-1000000003)) hx dX11_come_24 wc_X11_277 ?_
      exact bo_retw dX11_come_27 (fun h => by cases h)
  · refine bo_ldcw (v := (-1000000001)) hx dX11_come_8 wc_X11_261 ?_
    exact bo_retw dX11_come_11 (fun h => by cases h)
theorem kX11_come (l : Launch) (g : bo_G) (hi : bo_inj g) (σ : bo_M) (p1 : Int32) : bo_CW l g yX11_come cX11_come 2 (some .int) 2 46 [.ref (g.2.2 135), .int p1] σ false (mX11_come σ p1) :=
  bo_metW rfl (Or.inl ⟨rfl, rfl⟩) (by decide) rfl hi (Nat.le_of_ble_eq_true rfl) (fun x e1 e2 hx => by subst e1; subst e2; exact bX11_come x hx σ p1)
-- BellRopeModel.go
theorem dX11_go_0 : decode cX11_go 0 = .ok (.aload_n 0, 1) := by decide +kernel
theorem dX11_go_1 : decode cX11_go 1 = .ok (.iload_n 1, 1) := by decide +kernel
theorem dX11_go_2 : decode cX11_go 2 = .ok (.invokevirtual 258, 3) := by decide +kernel
theorem dX11_go_12 : decode cX11_go 12 = .ok (.aload_n 0, 1) := by decide +kernel
theorem dX11_go_13 : decode cX11_go 13 = .ok (.getfield 34, 3) := by decide +kernel
theorem dX11_go_16 : decode cX11_go 16 = .ok (.iconst 0, 1) := by decide +kernel
theorem dX11_go_17 : decode cX11_go 17 = .ok (.iload_n 1, 1) := by decide +kernel
theorem dX11_go_18 : decode cX11_go 18 = .ok (.iadd, 1) := by decide +kernel
theorem dX11_go_19 : decode cX11_go 19 = .ok (.iaload, 1) := by decide +kernel
theorem dX11_go_27 : decode cX11_go 27 = .ok (.aload_n 0, 1) := by decide +kernel
theorem dX11_go_28 : decode cX11_go 28 = .ok (.invokevirtual 282, 3) := by decide +kernel
theorem dX11_go_31 : decode cX11_go 31 = .ok (.aload_n 0, 1) := by decide +kernel
theorem dX11_go_32 : decode cX11_go 32 = .ok (.getfield 34, 3) := by decide +kernel
theorem dX11_go_35 : decode cX11_go 35 = .ok (.iconst 0, 1) := by decide +kernel
theorem dX11_go_36 : decode cX11_go 36 = .ok (.iload_n 1, 1) := by decide +kernel
theorem dX11_go_37 : decode cX11_go 37 = .ok (.iadd, 1) := by decide +kernel
theorem dX11_go_38 : decode cX11_go 38 = .ok (.iconst 0, 1) := by decide +kernel
theorem dX11_go_39 : decode cX11_go 39 = .ok (.iastore, 1) := by decide +kernel
theorem dX11_go_40 : decode cX11_go 40 = .ok (.aload_n 0, 1) := by decide +kernel
theorem dX11_go_41 : decode cX11_go 41 = .ok (.invokevirtual 255, 3) := by decide +kernel
theorem dX11_go_44 : decode cX11_go 44 = .ok (.ireturn, 1) := by decide +kernel
theorem dX11_go_23 : decode cX11_go 23 = .ok (.ldc_w 277, 3) := by decide +kernel
theorem dX11_go_26 : decode cX11_go 26 = .ok (.ireturn, 1) := by decide +kernel
theorem dX11_go_20 : decode cX11_go 20 = .ok (.ifCond .ne 7, 3) := by decide +kernel
theorem dX11_go_8 : decode cX11_go 8 = .ok (.ldc_w 261, 3) := by decide +kernel
theorem dX11_go_11 : decode cX11_go 11 = .ok (.ireturn, 1) := by decide +kernel
theorem dX11_go_5 : decode cX11_go 5 = .ok (.ifCond .ne 7, 3) := by decide +kernel
theorem bX11_go (x : bo_X) (hx : bo_OK x cX11_go RX11 2 2 46) (σ : bo_M) (p1 : Int32) : bo_D x 0 [(0, .ref (bo_a x 135)), (1, .int p1)] [] σ (mX11_go σ p1) (bo_Rw x cX11_go false) := by
  unfold mX11_go
  refine bo_aload_n hx dX11_go_0 rfl 0 rfl ?_
  refine bo_iload_n hx dX11_go_1 rfl 1 rfl ?_
  refine bo_goR (z := true) hx (fun rr hh => bo_runV (As := [.int p1]) (S := []) hx dX11_go_2 lk_X11_258 mi_X11_isDrinker bo_o_135 rfl rfl (kX11_isDrinker (bo_l x) (bo_g x) hx.inj σ p1 rr hh) ⟨by decide, by decide⟩ rfl rfl (Nat.le_of_ble_eq_true rfl)) (fun v1 hv1 => ?_)
  refine bo_if_ne hx 12 dX11_go_5 (by decide) ?_ ?_
  · refine bo_aload_n hx dX11_go_12 rfl 0 rfl ?_
    refine gf_X11_34 hx dX11_go_13 ?_
    refine bo_iconst (v := 0) hx dX11_go_16 (by decide) ?_
    refine bo_iload_n hx dX11_go_17 rfl 1 rfl ?_
    refine bo_iadd hx dX11_go_18 ?_
    refine bo_iald hx bo_c_144 dX11_go_19 (fun v2 => ?_)
    refine bo_if_ne hx 27 dX11_go_20 (by decide) ?_ ?_
    · refine bo_aload_n hx dX11_go_27 rfl 0 rfl ?_
      refine bo_goV hx (fun rr hh => bo_runV (As := []) (S := []) hx dX11_go_28 lk_X11_282 mi_X11_remember bo_o_135 rfl rfl (kX11_remember (bo_l x) (bo_g x) hx.inj σ rr hh) ⟨by decide, by decide⟩ rfl rfl (Nat.le_of_ble_eq_true rfl)) (fun σ3 => ?_)
      refine bo_aload_n hx dX11_go_31 rfl 0 rfl ?_
      refine gf_X11_34 hx dX11_go_32 ?_
      refine bo_iconst (v := 0) hx dX11_go_35 (by decide) ?_
      refine bo_iload_n hx dX11_go_36 rfl 1 rfl ?_
      refine bo_iadd hx dX11_go_37 ?_
      refine bo_iconst (v := 0) hx dX11_go_38 (by decide) ?_
      refine bo_iast hx bo_c_144 dX11_go_39 (fun σ4 => ?_)
      refine bo_aload_n hx dX11_go_40 rfl 0 rfl ?_
      refine bo_goR (z := false) hx (fun rr hh => bo_runV (As := []) (S := []) hx dX11_go_41 lk_X11_255 mi_X11_whoIsIn bo_o_135 rfl rfl (kX11_whoIsIn (bo_l x) (bo_g x) hx.inj σ4 rr hh) ⟨by decide, by decide⟩ rfl rfl (Nat.le_of_ble_eq_true rfl)) (fun v5 hv5 => ?_)
      exact bo_retw dX11_go_44 (fun h => by cases h)
    · refine bo_ldcw (v := (-1000000003)) hx dX11_go_23 wc_X11_277 ?_
      exact bo_retw dX11_go_26 (fun h => by cases h)
  · refine bo_ldcw (v := (-1000000001)) hx dX11_go_8 wc_X11_261 ?_
    exact bo_retw dX11_go_11 (fun h => by cases h)
theorem kX11_go (l : Launch) (g : bo_G) (hi : bo_inj g) (σ : bo_M) (p1 : Int32) : bo_CW l g yX11_go cX11_go 2 (some .int) 2 46 [.ref (g.2.2 135), .int p1] σ false (mX11_go σ p1) :=
  bo_metW rfl (Or.inl ⟨rfl, rfl⟩) (by decide) rfl hi (Nat.le_of_ble_eq_true rfl) (fun x e1 e2 hx => by subst e1; subst e2; exact bX11_go x hx σ p1)
