-- BellRopeModel.costs
theorem dX11_costs_0 : decode cX11_costs 0 = .ok (.iconst 0, 1) := by decide +kernel
theorem dX11_costs_1 : decode cX11_costs 1 = .ok (.istore_n 2, 1) := by decide +kernel
theorem dX11_costs_2 : decode cX11_costs 2 = .ok (.iconst 0, 1) := by decide +kernel
theorem dX11_costs_3 : decode cX11_costs 3 = .ok (.istore_n 3, 1) := by decide +kernel
theorem dX11_costs_4 : decode cX11_costs 4 = .ok (.iload_n 3, 1) := by decide +kernel
theorem dX11_costs_5 : decode cX11_costs 5 = .ok (.aload_n 0, 1) := by decide +kernel
theorem dX11_costs_6 : decode cX11_costs 6 = .ok (.getfield 115, 3) := by decide +kernel
theorem dX11_costs_12 : decode cX11_costs 12 = .ok (.iload_n 2, 1) := by decide +kernel
theorem dX11_costs_13 : decode cX11_costs 13 = .ok (.iload_n 1, 1) := by decide +kernel
theorem dX11_costs_14 : decode cX11_costs 14 = .ok (.iload_n 3, 1) := by decide +kernel
theorem dX11_costs_15 : decode cX11_costs 15 = .ok (.invokestatic 235, 3) := by decide +kernel
theorem dX11_costs_29 : decode cX11_costs 29 = .ok (.iconst 0, 1) := by decide +kernel
theorem dX11_costs_21 : decode cX11_costs 21 = .ok (.aload_n 0, 1) := by decide +kernel
theorem dX11_costs_22 : decode cX11_costs 22 = .ok (.iload_n 3, 1) := by decide +kernel
theorem dX11_costs_23 : decode cX11_costs 23 = .ok (.invokevirtual 332, 3) := by decide +kernel
theorem dX11_costs_26 : decode cX11_costs 26 = .ok (.goto 4, 3) := by decide +kernel
theorem dX11_costs_18 : decode cX11_costs 18 = .ok (.ifCond .eq 11, 3) := by decide +kernel
theorem dX11_costs_30 : decode cX11_costs 30 = .ok (.iadd, 1) := by decide +kernel
theorem dX11_costs_31 : decode cX11_costs 31 = .ok (.istore_n 2, 1) := by decide +kernel
theorem dX11_costs_32 : decode cX11_costs 32 = .ok (.iinc 3 1, 3) := by decide +kernel
theorem dX11_costs_35 : decode cX11_costs 35 = .ok (.goto (-31), 3) := by decide +kernel
theorem dX11_costs_9 : decode cX11_costs 9 = .ok (.if_icmp .ge 29, 3) := by decide +kernel
theorem dX11_costs_38 : decode cX11_costs 38 = .ok (.iload_n 2, 1) := by decide +kernel
theorem dX11_costs_39 : decode cX11_costs 39 = .ok (.ireturn, 1) := by decide +kernel
theorem lX11_costs_L4 (x : bo_X) (hx : bo_OK x cX11_costs RX11 4 2 42) (σ : bo_M) (f1 : Int32) : ∀ (n : Nat) (w2 : Int32) (w3 : Int32), bo_D x 4 [(0, .ref (bo_a x 135)), (1, .int f1), (2, .int w2), (3, .int w3)] [] σ (mX11_costs_L4 σ f1 n w2 w3) (fun a => bo_N x 38 [(2, .int a)] [] σ) := by
  intro n
  induction n with
  | zero => intro w2 w3; exact bo_none
  | succ n ih =>
    intro w2 w3
    rw [mX11_costs_L4]
    refine bo_iload_n hx dX11_costs_4 rfl 3 rfl ?_
    refine bo_aload_n hx dX11_costs_5 rfl 0 rfl ?_
    refine gf_X11_115 hx dX11_costs_6 ?_
    refine bo_icmp_ge hx 38 dX11_costs_9 (by decide) ?_ ?_
    · refine bo_sub (L' := [(2, .int w2)]) [2] rfl ?_
      exact bo_arr (fun h => h)
    · refine bo_iload_n hx dX11_costs_12 rfl 2 rfl ?_
      refine bo_iload_n hx dX11_costs_13 rfl 1 rfl ?_
      refine bo_iload_n hx dX11_costs_14 rfl 3 rfl ?_
      refine bo_goR (z := true) hx (fun rr hh => bo_runS (As := [.int f1, .int w3]) (S := [.int w2]) hx dX11_costs_15 lk_X11_235 ms_X11_has (kX11_has (bo_l x) (bo_g x) hx.inj σ f1 w3 rr hh) ⟨by decide, by decide⟩ rfl rfl (Nat.le_of_ble_eq_true rfl)) (fun v1 hv1 => ?_)
      refine bo_seq 30 (fun a => [(0, .ref (bo_a x 135)), (1, .int f1), (3, .int w3)]) (fun a => [.int a, .int w2]) (fun a => σ) ?_ (fun a2 => ?_)
      · refine bo_if_eq hx 29 dX11_costs_18 (by decide) ?_ ?_
        · refine bo_iconst (v := 0) hx dX11_costs_29 (by decide) ?_
          refine bo_sub (L' := [(0, .ref (bo_a x 135)), (1, .int f1), (3, .int w3)]) [0, 1, 3] rfl ?_
          exact bo_arr (fun h => h)
        · refine bo_aload_n hx dX11_costs_21 rfl 0 rfl ?_
          refine bo_iload_n hx dX11_costs_22 rfl 3 rfl ?_
          refine bo_goR (z := false) hx (fun rr hh => bo_runV (As := [.int w3]) (S := [.int w2]) hx dX11_costs_23 lk_X11_332 mi_X11_costOf bo_o_135 rfl rfl (kX11_costOf (bo_l x) (bo_g x) hx.inj σ w3 rr hh) ⟨by decide, by decide⟩ rfl rfl (Nat.le_of_ble_eq_true rfl)) (fun v3 hv3 => ?_)
          refine bo_goto hx 30 dX11_costs_26 (by decide) ?_
          refine bo_sub (L' := [(0, .ref (bo_a x 135)), (1, .int f1), (3, .int w3)]) [0, 1, 3] rfl ?_
          exact bo_arr (fun h => h)
      · refine bo_iadd hx dX11_costs_30 ?_
        refine bo_istore_n (L' := [(2, .int (w2 + a2)), (0, .ref (bo_a x 135)), (1, .int f1), (3, .int w3)]) hx dX11_costs_31 rfl (by decide) rfl ?_
        refine bo_iinc (L' := [(3, .int (w3 + 1)), (2, .int (w2 + a2)), (0, .ref (bo_a x 135)), (1, .int f1)]) (w := (w3 + 1)) hx dX11_costs_32 3 rfl rfl (by decide) rfl ?_
        refine bo_goto hx 4 dX11_costs_35 (by decide) ?_
        refine bo_sub (L' := [(0, .ref (bo_a x 135)), (1, .int f1), (2, .int (w2 + a2)), (3, .int (w3 + 1))]) [2, 3, 1, 0] rfl ?_
        exact ih (w2 + a2) (w3 + 1)
theorem bX11_costs (x : bo_X) (hx : bo_OK x cX11_costs RX11 4 2 42) (σ : bo_M) (p1 : Int32) : bo_D x 0 [(0, .ref (bo_a x 135)), (1, .int p1)] [] σ (mX11_costs σ p1) (bo_Ri x cX11_costs σ false) := by
  unfold mX11_costs
  refine bo_iconst (v := 0) hx dX11_costs_0 (by decide) ?_
  refine bo_istore_n (L' := [(2, .int 0), (0, .ref (bo_a x 135)), (1, .int p1)]) hx dX11_costs_1 rfl (by decide) rfl ?_
  refine bo_iconst (v := 0) hx dX11_costs_2 (by decide) ?_
  refine bo_istore_n (L' := [(3, .int 0), (2, .int 0), (0, .ref (bo_a x 135)), (1, .int p1)]) hx dX11_costs_3 rfl (by decide) rfl ?_
  refine bo_sub (L' := [(0, .ref (bo_a x 135)), (1, .int p1), (2, .int 0), (3, .int 0)]) [2, 3, 1, 0] rfl ?_
  refine bo_seq 38 (fun a => [(2, .int a)]) (fun a => []) (fun a => σ) (lX11_costs_L4 x hx σ p1 bo_fuel 0 0) (fun a4 => ?_)
  refine bo_iload_n hx dX11_costs_38 rfl 0 rfl ?_
  exact bo_ret dX11_costs_39 (fun h => by cases h)
theorem kX11_costs (l : Launch) (g : bo_G) (hi : bo_inj g) (σ : bo_M) (p1 : Int32) : bo_CR l g yX11_costs cX11_costs 4 (some .int) 2 42 [.ref (g.2.2 135), .int p1] σ false (mX11_costs σ p1) :=
  bo_metR rfl (Or.inl ⟨rfl, rfl⟩) (by decide) rfl hi (Nat.le_of_ble_eq_true rfl) (fun x e1 e2 hx => by subst e1; subst e2; exact bX11_costs x hx σ p1)
-- BellRopeModel.rungWith
theorem dX11_rungWith_0 : decode cX11_rungWith 0 = .ok (.iconst 0, 1) := by decide +kernel
theorem dX11_rungWith_1 : decode cX11_rungWith 1 = .ok (.istore_n 2, 1) := by decide +kernel
theorem dX11_rungWith_2 : decode cX11_rungWith 2 = .ok (.iconst 0, 1) := by decide +kernel
theorem dX11_rungWith_3 : decode cX11_rungWith 3 = .ok (.istore_n 3, 1) := by decide +kernel
theorem dX11_rungWith_4 : decode cX11_rungWith 4 = .ok (.iload_n 3, 1) := by decide +kernel
theorem dX11_rungWith_5 : decode cX11_rungWith 5 = .ok (.aload_n 0, 1) := by decide +kernel
theorem dX11_rungWith_6 : decode cX11_rungWith 6 = .ok (.getfield 115, 3) := by decide +kernel
theorem dX11_rungWith_12 : decode cX11_rungWith 12 = .ok (.iload_n 1, 1) := by decide +kernel
theorem dX11_rungWith_13 : decode cX11_rungWith 13 = .ok (.iload_n 3, 1) := by decide +kernel
theorem dX11_rungWith_14 : decode cX11_rungWith 14 = .ok (.invokestatic 235, 3) := by decide +kernel
theorem dX11_rungWith_39 : decode cX11_rungWith 39 = .ok (.iconst 0, 1) := by decide +kernel
theorem dX11_rungWith_20 : decode cX11_rungWith 20 = .ok (.aload_n 0, 1) := by decide +kernel
theorem dX11_rungWith_21 : decode cX11_rungWith 21 = .ok (.iload_n 3, 1) := by decide +kernel
theorem dX11_rungWith_22 : decode cX11_rungWith 22 = .ok (.aload_n 0, 1) := by decide +kernel
theorem dX11_rungWith_23 : decode cX11_rungWith 23 = .ok (.getfield 34, 3) := by decide +kernel
theorem dX11_rungWith_26 : decode cX11_rungWith 26 = .ok (.bipush 21, 2) := by decide +kernel
theorem dX11_rungWith_28 : decode cX11_rungWith 28 = .ok (.iaload, 1) := by decide +kernel
theorem dX11_rungWith_29 : decode cX11_rungWith 29 = .ok (.invokevirtual 243, 3) := by decide +kernel
theorem dX11_rungWith_35 : decode cX11_rungWith 35 = .ok (.iconst 1, 1) := by decide +kernel
theorem dX11_rungWith_36 : decode cX11_rungWith 36 = .ok (.goto 4, 3) := by decide +kernel
theorem dX11_rungWith_32 : decode cX11_rungWith 32 = .ok (.ifCond .eq 7, 3) := by decide +kernel
theorem dX11_rungWith_17 : decode cX11_rungWith 17 = .ok (.ifCond .eq 22, 3) := by decide +kernel
theorem dX11_rungWith_40 : decode cX11_rungWith 40 = .ok (.istore 4, 2) := by decide +kernel
theorem dX11_rungWith_42 : decode cX11_rungWith 42 = .ok (.iload_n 2, 1) := by decide +kernel
theorem dX11_rungWith_43 : decode cX11_rungWith 43 = .ok (.iload 4, 2) := by decide +kernel
theorem dX11_rungWith_56 : decode cX11_rungWith 56 = .ok (.iconst 1, 1) := by decide +kernel
theorem dX11_rungWith_57 : decode cX11_rungWith 57 = .ok (.goto 4, 3) := by decide +kernel
theorem dX11_rungWith_48 : decode cX11_rungWith 48 = .ok (.aload_n 0, 1) := by decide +kernel
theorem dX11_rungWith_49 : decode cX11_rungWith 49 = .ok (.iload_n 3, 1) := by decide +kernel
theorem dX11_rungWith_50 : decode cX11_rungWith 50 = .ok (.invokevirtual 262, 3) := by decide +kernel
theorem dX11_rungWith_60 : decode cX11_rungWith 60 = .ok (.iconst 0, 1) := by decide +kernel
theorem dX11_rungWith_53 : decode cX11_rungWith 53 = .ok (.ifCond .eq 7, 3) := by decide +kernel
theorem dX11_rungWith_45 : decode cX11_rungWith 45 = .ok (.ifCond .ne 11, 3) := by decide +kernel
theorem dX11_rungWith_61 : decode cX11_rungWith 61 = .ok (.iadd, 1) := by decide +kernel
theorem dX11_rungWith_62 : decode cX11_rungWith 62 = .ok (.istore_n 2, 1) := by decide +kernel
theorem dX11_rungWith_63 : decode cX11_rungWith 63 = .ok (.iinc 3 1, 3) := by decide +kernel
theorem dX11_rungWith_66 : decode cX11_rungWith 66 = .ok (.goto (-62), 3) := by decide +kernel
theorem dX11_rungWith_9 : decode cX11_rungWith 9 = .ok (.if_icmp .ge 60, 3) := by decide +kernel
theorem dX11_rungWith_69 : decode cX11_rungWith 69 = .ok (.iload_n 2, 1) := by decide +kernel
theorem dX11_rungWith_70 : decode cX11_rungWith 70 = .ok (.ireturn, 1) := by decide +kernel
theorem lX11_rungWith_L4 (x : bo_X) (hx : bo_OK x cX11_rungWith RX11 5 2 44) (σ : bo_M) (f1 : Int32) : ∀ (n : Nat) (w2 : Int32) (w3 : Int32), bo_D x 4 [(0, .ref (bo_a x 135)), (1, .int f1), (2, .int w2), (3, .int w3)] [] σ (mX11_rungWith_L4 σ f1 n w2 w3) (fun a => bo_N x 69 [(2, .int a)] [] σ) := by
  intro n
  induction n with
  | zero => intro w2 w3; exact bo_none
  | succ n ih =>
    intro w2 w3
    rw [mX11_rungWith_L4]
    refine bo_iload_n hx dX11_rungWith_4 rfl 3 rfl ?_
    refine bo_aload_n hx dX11_rungWith_5 rfl 0 rfl ?_
    refine gf_X11_115 hx dX11_rungWith_6 ?_
    refine bo_icmp_ge hx 69 dX11_rungWith_9 (by decide) ?_ ?_
    · refine bo_sub (L' := [(2, .int w2)]) [2] rfl ?_
      exact bo_arr (fun h => h)
    · refine bo_iload_n hx dX11_rungWith_12 rfl 1 rfl ?_
      refine bo_iload_n hx dX11_rungWith_13 rfl 3 rfl ?_
      refine bo_goR (z := true) hx (fun rr hh => bo_runS (As := [.int f1, .int w3]) (S := []) hx dX11_rungWith_14 lk_X11_235 ms_X11_has (kX11_has (bo_l x) (bo_g x) hx.inj σ f1 w3 rr hh) ⟨by decide, by decide⟩ rfl rfl (Nat.le_of_ble_eq_true rfl)) (fun v1 hv1 => ?_)
      refine bo_seq 40 (fun a => [(0, .ref (bo_a x 135)), (1, .int f1), (2, .int w2), (3, .int w3)]) (fun a => [.int a]) (fun a => σ) ?_ (fun a2 => ?_)
      · refine bo_if_eq hx 39 dX11_rungWith_17 (by decide) ?_ ?_
        · refine bo_iconst (v := 0) hx dX11_rungWith_39 (by decide) ?_
          exact bo_arr (fun h => h)
        · refine bo_aload_n hx dX11_rungWith_20 rfl 0 rfl ?_
          refine bo_iload_n hx dX11_rungWith_21 rfl 3 rfl ?_
          refine bo_aload_n hx dX11_rungWith_22 rfl 0 rfl ?_
          refine gf_X11_34 hx dX11_rungWith_23 ?_
          refine bo_bipush (v := 21) hx dX11_rungWith_26 (by decide) ?_
          refine bo_iald hx bo_c_144 dX11_rungWith_28 (fun v3 => ?_)
          refine bo_goR (z := true) hx (fun rr hh => bo_runV (As := [.int w3, .int v3]) (S := []) hx dX11_rungWith_29 lk_X11_243 mi_X11_isTurn bo_o_135 rfl rfl (kX11_isTurn (bo_l x) (bo_g x) hx.inj σ w3 v3 rr hh) ⟨by decide, by decide⟩ rfl rfl (Nat.le_of_ble_eq_true rfl)) (fun v4 hv4 => ?_)
          refine bo_if_eq hx 39 dX11_rungWith_32 (by decide) ?_ ?_
          · refine bo_iconst (v := 0) hx dX11_rungWith_39 (by decide) ?_
            exact bo_arr (fun h => h)
          · refine bo_iconst (v := 1) hx dX11_rungWith_35 (by decide) ?_
            refine bo_goto hx 40 dX11_rungWith_36 (by decide) ?_
            exact bo_arr (fun h => h)
      · refine bo_istore (L' := [(4, .int a2), (0, .ref (bo_a x 135)), (1, .int f1), (2, .int w2), (3, .int w3)]) hx dX11_rungWith_40 (by decide) rfl ?_
        refine bo_iload_n hx dX11_rungWith_42 rfl 3 rfl ?_
        refine bo_iload hx dX11_rungWith_43 0 rfl ?_
        refine bo_seq 61 (fun a => [(0, .ref (bo_a x 135)), (1, .int f1), (3, .int w3)]) (fun a => [.int a, .int w2]) (fun a => σ) ?_ (fun a5 => ?_)
        · refine bo_if_ne hx 56 dX11_rungWith_45 (by decide) ?_ ?_
          · refine bo_iconst (v := 1) hx dX11_rungWith_56 (by decide) ?_
            refine bo_goto hx 61 dX11_rungWith_57 (by decide) ?_
            refine bo_sub (L' := [(0, .ref (bo_a x 135)), (1, .int f1), (3, .int w3)]) [1, 2, 4] rfl ?_
            exact bo_arr (fun h => h)
          · refine bo_aload_n hx dX11_rungWith_48 rfl 1 rfl ?_
            refine bo_iload_n hx dX11_rungWith_49 rfl 4 rfl ?_
            refine bo_goR (z := true) hx (fun rr hh => bo_runV (As := [.int w3]) (S := [.int w2]) hx dX11_rungWith_50 lk_X11_262 mi_X11_wouldRing bo_o_135 rfl rfl (kX11_wouldRing (bo_l x) (bo_g x) hx.inj σ w3 rr hh) ⟨by decide, by decide⟩ rfl rfl (Nat.le_of_ble_eq_true rfl)) (fun v6 hv6 => ?_)
            refine bo_if_eq hx 60 dX11_rungWith_53 (by decide) ?_ ?_
            · refine bo_iconst (v := 0) hx dX11_rungWith_60 (by decide) ?_
              refine bo_sub (L' := [(0, .ref (bo_a x 135)), (1, .int f1), (3, .int w3)]) [1, 2, 4] rfl ?_
              exact bo_arr (fun h => h)
            · refine bo_iconst (v := 1) hx dX11_rungWith_56 (by decide) ?_
              refine bo_goto hx 61 dX11_rungWith_57 (by decide) ?_
              refine bo_sub (L' := [(0, .ref (bo_a x 135)), (1, .int f1), (3, .int w3)]) [1, 2, 4] rfl ?_
              exact bo_arr (fun h => h)
        · refine bo_iadd hx dX11_rungWith_61 ?_
          refine bo_istore_n (L' := [(2, .int (w2 + a5)), (0, .ref (bo_a x 135)), (1, .int f1), (3, .int w3)]) hx dX11_rungWith_62 rfl (by decide) rfl ?_
          refine bo_iinc (L' := [(3, .int (w3 + 1)), (2, .int (w2 + a5)), (0, .ref (bo_a x 135)), (1, .int f1)]) (w := (w3 + 1)) hx dX11_rungWith_63 3 rfl rfl (by decide) rfl ?_
          refine bo_goto hx 4 dX11_rungWith_66 (by decide) ?_
          refine bo_sub (L' := [(0, .ref (bo_a x 135)), (1, .int f1), (2, .int (w2 + a5)), (3, .int (w3 + 1))]) [2, 3, 1, 0] rfl ?_
          exact ih (w2 + a5) (w3 + 1)
theorem bX11_rungWith (x : bo_X) (hx : bo_OK x cX11_rungWith RX11 5 2 44) (σ : bo_M) (p1 : Int32) : bo_D x 0 [(0, .ref (bo_a x 135)), (1, .int p1)] [] σ (mX11_rungWith σ p1) (bo_Ri x cX11_rungWith σ false) := by
  unfold mX11_rungWith
  refine bo_iconst (v := 0) hx dX11_rungWith_0 (by decide) ?_
  refine bo_istore_n (L' := [(2, .int 0), (0, .ref (bo_a x 135)), (1, .int p1)]) hx dX11_rungWith_1 rfl (by decide) rfl ?_
  refine bo_iconst (v := 0) hx dX11_rungWith_2 (by decide) ?_
  refine bo_istore_n (L' := [(3, .int 0), (2, .int 0), (0, .ref (bo_a x 135)), (1, .int p1)]) hx dX11_rungWith_3 rfl (by decide) rfl ?_
  refine bo_sub (L' := [(0, .ref (bo_a x 135)), (1, .int p1), (2, .int 0), (3, .int 0)]) [2, 3, 1, 0] rfl ?_
  refine bo_seq 69 (fun a => [(2, .int a)]) (fun a => []) (fun a => σ) (lX11_rungWith_L4 x hx σ p1 bo_fuel 0 0) (fun a7 => ?_)
  refine bo_iload_n hx dX11_rungWith_69 rfl 0 rfl ?_
  exact bo_ret dX11_rungWith_70 (fun h => by cases h)
theorem kX11_rungWith (l : Launch) (g : bo_G) (hi : bo_inj g) (σ : bo_M) (p1 : Int32) : bo_CR l g yX11_rungWith cX11_rungWith 5 (some .int) 2 44 [.ref (g.2.2 135), .int p1] σ false (mX11_rungWith σ p1) :=
  bo_metR rfl (Or.inl ⟨rfl, rfl⟩) (by decide) rfl hi (Nat.le_of_ble_eq_true rfl) (fun x e1 e2 hx => by subst e1; subst e2; exact bX11_rungWith x hx σ p1)
-- BellRopeModel.vespers
theorem dX11_vespers_0 : decode cX11_vespers 0 = .ok (.iload_n 1, 1) := by decide +kernel
theorem dX11_vespers_1 : decode cX11_vespers 1 = .ok (.i2l, 1) := by decide +kernel
theorem dX11_vespers_2 : decode cX11_vespers 2 = .ok (.lconst 1, 1) := by decide +kernel
theorem dX11_vespers_3 : decode cX11_vespers 3 = .ok (.ldc2_w 315, 3) := by decide +kernel
theorem dX11_vespers_6 : decode cX11_vespers 6 = .ok (.invokestatic 118, 3) := by decide +kernel
theorem dX11_vespers_22 : decode cX11_vespers 22 = .ok (.ldc 127, 2) := by decide +kernel
theorem dX11_vespers_24 : decode cX11_vespers 24 = .ok (.ireturn, 1) := by decide +kernel
theorem dX11_vespers_12 : decode cX11_vespers 12 = .ok (.iload_n 2, 1) := by decide +kernel
theorem dX11_vespers_13 : decode cX11_vespers 13 = .ok (.i2l, 1) := by decide +kernel
theorem dX11_vespers_14 : decode cX11_vespers 14 = .ok (.lconst 0, 1) := by decide +kernel
theorem dX11_vespers_15 : decode cX11_vespers 15 = .ok (.lconst 1, 1) := by decide +kernel
theorem dX11_vespers_16 : decode cX11_vespers 16 = .ok (.invokestatic 118, 3) := by decide +kernel
theorem dX11_vespers_25 : decode cX11_vespers 25 = .ok (.aload_n 0, 1) := by decide +kernel
theorem dX11_vespers_26 : decode cX11_vespers 26 = .ok (.getfield 111, 3) := by decide +kernel
theorem dX11_vespers_36 : decode cX11_vespers 36 = .ok (.iconst (-1), 1) := by decide +kernel
theorem dX11_vespers_37 : decode cX11_vespers 37 = .ok (.istore_n 3, 1) := by decide +kernel
theorem dX11_vespers_38 : decode cX11_vespers 38 = .ok (.ldc_w 328, 3) := by decide +kernel
theorem dX11_vespers_41 : decode cX11_vespers 41 = .ok (.istore 4, 2) := by decide +kernel
theorem dX11_vespers_43 : decode cX11_vespers 43 = .ok (.iconst 0, 1) := by decide +kernel
theorem dX11_vespers_44 : decode cX11_vespers 44 = .ok (.istore 5, 2) := by decide +kernel
theorem dX11_vespers_46 : decode cX11_vespers 46 = .ok (.iload 5, 2) := by decide +kernel
theorem dX11_vespers_48 : decode cX11_vespers 48 = .ok (.iconst 1, 1) := by decide +kernel
theorem dX11_vespers_49 : decode cX11_vespers 49 = .ok (.aload_n 0, 1) := by decide +kernel
theorem dX11_vespers_50 : decode cX11_vespers 50 = .ok (.getfield 115, 3) := by decide +kernel
theorem dX11_vespers_53 : decode cX11_vespers 53 = .ok (.ishl, 1) := by decide +kernel
theorem dX11_vespers_57 : decode cX11_vespers 57 = .ok (.aload_n 0, 1) := by decide +kernel
theorem dX11_vespers_58 : decode cX11_vespers 58 = .ok (.iload 5, 2) := by decide +kernel
theorem dX11_vespers_60 : decode cX11_vespers 60 = .ok (.invokevirtual 335, 3) := by decide +kernel
theorem dX11_vespers_63 : decode cX11_vespers 63 = .ok (.istore 6, 2) := by decide +kernel
theorem dX11_vespers_65 : decode cX11_vespers 65 = .ok (.iload 6, 2) := by decide +kernel
theorem dX11_vespers_67 : decode cX11_vespers 67 = .ok (.iload 4, 2) := by decide +kernel
theorem dX11_vespers_72 : decode cX11_vespers 72 = .ok (.aload_n 0, 1) := by decide +kernel
theorem dX11_vespers_73 : decode cX11_vespers 73 = .ok (.aload_n 0, 1) := by decide +kernel
theorem dX11_vespers_74 : decode cX11_vespers 74 = .ok (.iload 5, 2) := by decide +kernel
theorem dX11_vespers_76 : decode cX11_vespers 76 = .ok (.invokevirtual 338, 3) := by decide +kernel
theorem dX11_vespers_79 : decode cX11_vespers 79 = .ok (.invokevirtual 268, 3) := by decide +kernel
theorem dX11_vespers_82 : decode cX11_vespers 82 = .ok (.iload_n 1, 1) := by decide +kernel
theorem dX11_vespers_86 : decode cX11_vespers 86 = .ok (.iload 5, 2) := by decide +kernel
theorem dX11_vespers_88 : decode cX11_vespers 88 = .ok (.istore_n 3, 1) := by decide +kernel
theorem dX11_vespers_89 : decode cX11_vespers 89 = .ok (.iload 6, 2) := by decide +kernel
theorem dX11_vespers_91 : decode cX11_vespers 91 = .ok (.istore 4, 2) := by decide +kernel
theorem dX11_vespers_83 : decode cX11_vespers 83 = .ok (.if_icmp .lt 10, 3) := by decide +kernel
theorem dX11_vespers_69 : decode cX11_vespers 69 = .ok (.if_icmp .ge 24, 3) := by decide +kernel
theorem dX11_vespers_93 : decode cX11_vespers 93 = .ok (.iinc 5 1, 3) := by decide +kernel
theorem dX11_vespers_96 : decode cX11_vespers 96 = .ok (.goto (-50), 3) := by decide +kernel
theorem dX11_vespers_54 : decode cX11_vespers 54 = .ok (.if_icmp .ge 45, 3) := by decide +kernel
theorem dX11_vespers_99 : decode cX11_vespers 99 = .ok (.iload_n 3, 1) := by decide +kernel
theorem dX11_vespers_108 : decode cX11_vespers 108 = .ok (.iload_n 3, 1) := by decide +kernel
theorem dX11_vespers_109 : decode cX11_vespers 109 = .ok (.goto 5, 3) := by decide +kernel
theorem dX11_vespers_114 : decode cX11_vespers 114 = .ok (.ireturn, 1) := by decide +kernel
theorem dX11_vespers_103 : decode cX11_vespers 103 = .ok (.iload_n 2, 1) := by decide +kernel
theorem dX11_vespers_104 : decode cX11_vespers 104 = .ok (.iconst 1, 1) := by decide +kernel
theorem dX11_vespers_112 : decode cX11_vespers 112 = .ok (.iload 4, 2) := by decide +kernel
theorem dX11_vespers_105 : decode cX11_vespers 105 = .ok (.if_icmp .ne 7, 3) := by decide +kernel
theorem dX11_vespers_100 : decode cX11_vespers 100 = .ok (.ifCond .lt 8, 3) := by decide +kernel
theorem dX11_vespers_32 : decode cX11_vespers 32 = .ok (.ldc_w 277, 3) := by decide +kernel
theorem dX11_vespers_35 : decode cX11_vespers 35 = .ok (.ireturn, 1) := by decide +kernel
theorem dX11_vespers_29 : decode cX11_vespers 29 = .ok (.ifCond .ne 7, 3) := by decide +kernel
theorem dX11_vespers_19 : decode cX11_vespers 19 = .ok (.ifCond .ne 6, 3) := by decide +kernel
theorem dX11_vespers_9 : decode cX11_vespers 9 = .ok (.ifCond .eq 13, 3) := by decide +kernel
theorem lX11_vespers_L46 (x : bo_X) (hx : bo_OK x cX11_vespers RX11 7 3 71) (σ : bo_M) (f1 : Int32) (f2 : Int32) : ∀ (n : Nat) (w3 : Int32) (w4 : Int32) (w5 : Int32), bo_D x 46 [(0, .ref (bo_a x 135)), (1, .int f1), (2, .int f2), (3, .int w3), (4, .int w4), (5, .int w5)] [] σ (mX11_vespers_L46 σ f1 f2 n w3 w4 w5) (fun a => bo_N x 99 [(2, .int f2), (3, .int a.1), (4, .int a.2)] [] σ) := by
  intro n
  induction n with
  | zero => intro w3 w4 w5; exact bo_none
  | succ n ih =>
    intro w3 w4 w5
    rw [mX11_vespers_L46]
    refine bo_iload hx dX11_vespers_46 5 rfl ?_
    refine bo_iconst (v := 1) hx dX11_vespers_48 (by decide) ?_
    refine bo_aload_n hx dX11_vespers_49 rfl 0 rfl ?_
    refine gf_X11_115 hx dX11_vespers_50 ?_
    refine bo_ishl hx dX11_vespers_53 ?_
    refine bo_icmp_ge hx 99 dX11_vespers_54 (by decide) ?_ ?_
    · refine bo_sub (L' := [(2, .int f2), (3, .int w3), (4, .int w4)]) [2, 3, 4] rfl ?_
      exact bo_arr (fun h => h)
    · refine bo_aload_n hx dX11_vespers_57 rfl 0 rfl ?_
      refine bo_iload hx dX11_vespers_58 5 rfl ?_
      refine bo_goR (z := false) hx (fun rr hh => bo_runV (As := [.int w5]) (S := []) hx dX11_vespers_60 lk_X11_335 mi_X11_costs bo_o_135 rfl rfl (kX11_costs (bo_l x) (bo_g x) hx.inj σ w5 rr hh) ⟨by decide, by decide⟩ rfl rfl (Nat.le_of_ble_eq_true rfl)) (fun v3 hv3 => ?_)
      refine bo_istore (L' := [(6, .int v3), (0, .ref (bo_a x 135)), (1, .int f1), (2, .int f2), (3, .int w3), (4, .int w4), (5, .int w5)]) hx dX11_vespers_63 (by decide) rfl ?_
      refine bo_iload hx dX11_vespers_65 0 rfl ?_
      refine bo_iload hx dX11_vespers_67 5 rfl ?_
      refine bo_seq 93 (fun a => [(0, .ref (bo_a x 135)), (1, .int f1), (2, .int f2), (3, .int a.1), (4, .int a.2), (5, .int w5)]) (fun a => []) (fun a => σ) ?_ (fun a4 => ?_)
      · refine bo_icmp_ge hx 93 dX11_vespers_69 (by decide) ?_ ?_
        · refine bo_sub (L' := [(0, .ref (bo_a x 135)), (1, .int f1), (2, .int f2), (3, .int w3), (4, .int w4), (5, .int w5)]) [1, 2, 3, 4, 5, 6] rfl ?_
          exact bo_arr (fun h => h)
        · refine bo_aload_n hx dX11_vespers_72 rfl 1 rfl ?_
          refine bo_aload_n hx dX11_vespers_73 rfl 1 rfl ?_
          refine bo_iload hx dX11_vespers_74 6 rfl ?_
          refine bo_goR (z := false) hx (fun rr hh => bo_runV (As := [.int w5]) (S := [.ref (bo_a x 135)]) hx dX11_vespers_76 lk_X11_338 mi_X11_rungWith bo_o_135 rfl rfl (kX11_rungWith (bo_l x) (bo_g x) hx.inj σ w5 rr hh) ⟨by decide, by decide⟩ rfl rfl (Nat.le_of_ble_eq_true rfl)) (fun v5 hv5 => ?_)
          refine bo_goR (z := false) hx (fun rr hh => bo_runV (As := [.int v5]) (S := []) hx dX11_vespers_79 lk_X11_268 mi_X11_heardOf bo_o_135 rfl rfl (kX11_heardOf (bo_l x) (bo_g x) hx.inj σ v5 rr hh) ⟨by decide, by decide⟩ rfl rfl (Nat.le_of_ble_eq_true rfl)) (fun v6 hv6 => ?_)
          refine bo_iload_n hx dX11_vespers_82 rfl 2 rfl ?_
          refine bo_icmp_lt hx 93 dX11_vespers_83 (by decide) ?_ ?_
          · refine bo_sub (L' := [(0, .ref (bo_a x 135)), (1, .int f1), (2, .int f2), (3, .int w3), (4, .int w4), (5, .int w5)]) [1, 2, 3, 4, 5, 6] rfl ?_
            exact bo_arr (fun h => h)
          · refine bo_iload hx dX11_vespers_86 6 rfl ?_
            refine bo_istore_n (L' := [(3, .int w5), (6, .int v3), (0, .ref (bo_a x 135)), (1, .int f1), (2, .int f2), (4, .int w4), (5, .int w5)]) hx dX11_vespers_88 rfl (by decide) rfl ?_
            refine bo_iload hx dX11_vespers_89 1 rfl ?_
            refine bo_istore (L' := [(4, .int v3), (3, .int w5), (6, .int v3), (0, .ref (bo_a x 135)), (1, .int f1), (2, .int f2), (5, .int w5)]) hx dX11_vespers_91 (by decide) rfl ?_
            refine bo_sub (L' := [(0, .ref (bo_a x 135)), (1, .int f1), (2, .int f2), (3, .int w5), (4, .int v3), (5, .int w5)]) [3, 4, 5, 1, 0, 6] rfl ?_
            exact bo_arr (fun h => h)
      · refine bo_iinc (L' := [(5, .int (w5 + 1)), (0, .ref (bo_a x 135)), (1, .int f1), (2, .int f2), (3, .int a4.1), (4, .int a4.2)]) (w := (w5 + 1)) hx dX11_vespers_93 5 rfl rfl (by decide) rfl ?_
        refine bo_goto hx 46 dX11_vespers_96 (by decide) ?_
        refine bo_sub (L' := [(0, .ref (bo_a x 135)), (1, .int f1), (2, .int f2), (3, .int a4.1), (4, .int a4.2), (5, .int (w5 + 1))]) [1, 2, 3, 4, 5, 0] rfl ?_
        exact ih a4.1 a4.2 (w5 + 1)
theorem bX11_vespers (x : bo_X) (hx : bo_OK x cX11_vespers RX11 7 3 71) (σ : bo_M) (p1 : Int32) (p2 : Int32) : bo_D x 0 [(0, .ref (bo_a x 135)), (1, .int p1), (2, .int p2)] [] σ (mX11_vespers σ p1 p2) (bo_Ri x cX11_vespers σ false) := by
  unfold mX11_vespers
  refine bo_iload_n hx dX11_vespers_0 rfl 1 rfl ?_
  refine bo_i2l hx dX11_vespers_1 ?_
  refine bo_lconst (v := 1) hx dX11_vespers_2 (by decide) ?_
  refine bo_ldc2 (v := 16) hx dX11_vespers_3 wl_X11_315 ?_
  refine bo_goR (z := true) hx (fun rr hh => bo_runS (As := [.long (Int32.toInt64 p1), .long 1, .long 16]) (S := []) hx dX11_vespers_6 lk_X11_118 ms_X11_in (kX11_in (bo_l x) (bo_g x) hx.inj σ (Int32.toInt64 p1) 1 16 rr hh) ⟨by decide, by decide⟩ rfl rfl (Nat.le_of_ble_eq_true rfl)) (fun v1 hv1 => ?_)
  refine bo_if_eq hx 22 dX11_vespers_9 (by decide) ?_ ?_
  · refine bo_ldc (v := (-1000000002)) hx dX11_vespers_22 wc_X11_127 ?_
    exact bo_ret dX11_vespers_24 (fun h => by cases h)
  · refine bo_iload_n hx dX11_vespers_12 rfl 2 rfl ?_
    refine bo_i2l hx dX11_vespers_13 ?_
    refine bo_lconst (v := 0) hx dX11_vespers_14 (by decide) ?_
    refine bo_lconst (v := 1) hx dX11_vespers_15 (by decide) ?_
    refine bo_goR (z := true) hx (fun rr hh => bo_runS (As := [.long (Int32.toInt64 p2), .long 0, .long 1]) (S := []) hx dX11_vespers_16 lk_X11_118 ms_X11_in (kX11_in (bo_l x) (bo_g x) hx.inj σ (Int32.toInt64 p2) 0 1 rr hh) ⟨by decide, by decide⟩ rfl rfl (Nat.le_of_ble_eq_true rfl)) (fun v2 hv2 => ?_)
    refine bo_if_ne hx 25 dX11_vespers_19 (by decide) ?_ ?_
    · refine bo_aload_n hx dX11_vespers_25 rfl 0 rfl ?_
      refine gf_X11_111 hx dX11_vespers_26 ?_
      refine bo_if_ne hx 36 dX11_vespers_29 (by decide) ?_ ?_
      · refine bo_iconst (v := (-1)) hx dX11_vespers_36 (by decide) ?_
        refine bo_istore_n (L' := [(3, .int (-1)), (0, .ref (bo_a x 135)), (1, .int p1), (2, .int p2)]) hx dX11_vespers_37 rfl (by decide) rfl ?_
        refine bo_ldcw (v := 100000) hx dX11_vespers_38 wc_X11_328 ?_
        refine bo_istore (L' := [(4, .int 100000), (3, .int (-1)), (0, .ref (bo_a x 135)), (1, .int p1), (2, .int p2)]) hx dX11_vespers_41 (by decide) rfl ?_
        refine bo_iconst (v := 0) hx dX11_vespers_43 (by decide) ?_
        refine bo_istore (L' := [(5, .int 0), (4, .int 100000), (3, .int (-1)), (0, .ref (bo_a x 135)), (1, .int p1), (2, .int p2)]) hx dX11_vespers_44 (by decide) rfl ?_
        refine bo_sub (L' := [(0, .ref (bo_a x 135)), (1, .int p1), (2, .int p2), (3, .int (-1)), (4, .int 100000), (5, .int 0)]) [3, 4, 5, 2, 1, 0] rfl ?_
        refine bo_seq 99 (fun a => [(2, .int p2), (3, .int a.1), (4, .int a.2)]) (fun a => []) (fun a => σ) (lX11_vespers_L46 x hx σ p1 p2 bo_fuel (-1) 100000 0) (fun a7 => ?_)
        refine bo_iload_n hx dX11_vespers_99 rfl 1 rfl ?_
        refine bo_if_lt hx 108 dX11_vespers_100 (by decide) ?_ ?_
        · refine bo_iload_n hx dX11_vespers_108 rfl 1 rfl ?_
          refine bo_goto hx 114 dX11_vespers_109 (by decide) ?_
          exact bo_ret dX11_vespers_114 (fun h => by cases h)
        · refine bo_iload_n hx dX11_vespers_103 rfl 0 rfl ?_
          refine bo_iconst (v := 1) hx dX11_vespers_104 (by decide) ?_
          refine bo_icmp_ne hx 112 dX11_vespers_105 (by decide) ?_ ?_
          · refine bo_iload hx dX11_vespers_112 2 rfl ?_
            exact bo_ret dX11_vespers_114 (fun h => by cases h)
          · refine bo_iload_n hx dX11_vespers_108 rfl 1 rfl ?_
            refine bo_goto hx 114 dX11_vespers_109 (by decide) ?_
            exact bo_ret dX11_vespers_114 (fun h => by cases h)
      · refine bo_ldcw (v := (-1000000003)) hx dX11_vespers_32 wc_X11_277 ?_
        exact bo_ret dX11_vespers_35 (fun h => by cases h)
    · refine bo_ldc (v := (-1000000002)) hx dX11_vespers_22 wc_X11_127 ?_
      exact bo_ret dX11_vespers_24 (fun h => by cases h)
theorem kX11_vespers (l : Launch) (g : bo_G) (hi : bo_inj g) (σ : bo_M) (p1 : Int32) (p2 : Int32) : bo_CR l g yX11_vespers cX11_vespers 7 (some .int) 3 71 [.ref (g.2.2 135), .int p1, .int p2] σ false (mX11_vespers σ p1 p2) :=
  bo_metR rfl (Or.inl ⟨rfl, rfl⟩) (by decide) rfl hi (Nat.le_of_ble_eq_true rfl) (fun x e1 e2 hx => by subst e1; subst e2; exact bX11_vespers x hx σ p1 p2)
-- BellRopeModel.ship
theorem dX11_ship_0 : decode cX11_ship 0 = .ok (.iload_n 1, 1) := by decide +kernel
theorem dX11_ship_1 : decode cX11_ship 1 = .ok (.i2l, 1) := by decide +kernel
theorem dX11_ship_2 : decode cX11_ship 2 = .ok (.lconst 1, 1) := by decide +kernel
theorem dX11_ship_3 : decode cX11_ship 3 = .ok (.ldc2_w 341, 3) := by decide +kernel
theorem dX11_ship_6 : decode cX11_ship 6 = .ok (.invokestatic 118, 3) := by decide +kernel
theorem dX11_ship_15 : decode cX11_ship 15 = .ok (.aload_n 0, 1) := by decide +kernel
theorem dX11_ship_16 : decode cX11_ship 16 = .ok (.getfield 111, 3) := by decide +kernel
theorem dX11_ship_26 : decode cX11_ship 26 = .ok (.aload_n 0, 1) := by decide +kernel
theorem dX11_ship_27 : decode cX11_ship 27 = .ok (.invokevirtual 312, 3) := by decide +kernel
theorem dX11_ship_30 : decode cX11_ship 30 = .ok (.iload_n 1, 1) := by decide +kernel
theorem dX11_ship_31 : decode cX11_ship 31 = .ok (.istore_n 2, 1) := by decide +kernel
theorem dX11_ship_32 : decode cX11_ship 32 = .ok (.iconst 0, 1) := by decide +kernel
theorem dX11_ship_33 : decode cX11_ship 33 = .ok (.istore_n 3, 1) := by decide +kernel
theorem dX11_ship_34 : decode cX11_ship 34 = .ok (.iload_n 3, 1) := by decide +kernel
theorem dX11_ship_35 : decode cX11_ship 35 = .ok (.sipush 192, 3) := by decide +kernel
theorem dX11_ship_85 : decode cX11_ship 85 = .ok (.iconst (-1), 1) := by decide +kernel
theorem dX11_ship_86 : decode cX11_ship 86 = .ok (.ireturn, 1) := by decide +kernel
theorem dX11_ship_41 : decode cX11_ship 41 = .ok (.iload_n 2, 1) := by decide +kernel
theorem dX11_ship_42 : decode cX11_ship 42 = .ok (.iconst 2, 1) := by decide +kernel
theorem dX11_ship_43 : decode cX11_ship 43 = .ok (.aload_n 0, 1) := by decide +kernel
theorem dX11_ship_44 : decode cX11_ship 44 = .ok (.getfield 77, 3) := by decide +kernel
theorem dX11_ship_47 : decode cX11_ship 47 = .ok (.iload_n 3, 1) := by decide +kernel
theorem dX11_ship_48 : decode cX11_ship 48 = .ok (.iaload, 1) := by decide +kernel
theorem dX11_ship_49 : decode cX11_ship 49 = .ok (.imul, 1) := by decide +kernel
theorem dX11_ship_50 : decode cX11_ship 50 = .ok (.iload_n 2, 1) := by decide +kernel
theorem dX11_ship_64 : decode cX11_ship 64 = .ok (.iconst 1, 1) := by decide +kernel
theorem dX11_ship_65 : decode cX11_ship 65 = .ok (.goto 4, 3) := by decide +kernel
theorem dX11_ship_54 : decode cX11_ship 54 = .ok (.aload_n 0, 1) := by decide +kernel
theorem dX11_ship_55 : decode cX11_ship 55 = .ok (.getfield 77, 3) := by decide +kernel
theorem dX11_ship_58 : decode cX11_ship 58 = .ok (.iload_n 3, 1) := by decide +kernel
theorem dX11_ship_59 : decode cX11_ship 59 = .ok (.iaload, 1) := by decide +kernel
theorem dX11_ship_60 : decode cX11_ship 60 = .ok (.iconst 3, 1) := by decide +kernel
theorem dX11_ship_68 : decode cX11_ship 68 = .ok (.iconst 0, 1) := by decide +kernel
theorem dX11_ship_61 : decode cX11_ship 61 = .ok (.if_icmp .lt 7, 3) := by decide +kernel
theorem dX11_ship_51 : decode cX11_ship 51 = .ok (.if_icmp .ge 13, 3) := by decide +kernel
theorem dX11_ship_69 : decode cX11_ship 69 = .ok (.isub, 1) := by decide +kernel
theorem dX11_ship_70 : decode cX11_ship 70 = .ok (.istore_n 2, 1) := by decide +kernel
theorem dX11_ship_71 : decode cX11_ship 71 = .ok (.iload_n 2, 1) := by decide +kernel
theorem dX11_ship_79 : decode cX11_ship 79 = .ok (.iinc 3 1, 3) := by decide +kernel
theorem dX11_ship_82 : decode cX11_ship 82 = .ok (.goto (-48), 3) := by decide +kernel
theorem dX11_ship_75 : decode cX11_ship 75 = .ok (.iload_n 3, 1) := by decide +kernel
theorem dX11_ship_76 : decode cX11_ship 76 = .ok (.iconst 1, 1) := by decide +kernel
theorem dX11_ship_77 : decode cX11_ship 77 = .ok (.iadd, 1) := by decide +kernel
theorem dX11_ship_78 : decode cX11_ship 78 = .ok (.ireturn, 1) := by decide +kernel
theorem dX11_ship_72 : decode cX11_ship 72 = .ok (.ifCond .ne 7, 3) := by decide +kernel
theorem dX11_ship_38 : decode cX11_ship 38 = .ok (.if_icmp .ge 47, 3) := by decide +kernel
theorem dX11_ship_22 : decode cX11_ship 22 = .ok (.ldc_w 277, 3) := by decide +kernel
theorem dX11_ship_25 : decode cX11_ship 25 = .ok (.ireturn, 1) := by decide +kernel
theorem dX11_ship_19 : decode cX11_ship 19 = .ok (.ifCond .ne 7, 3) := by decide +kernel
theorem dX11_ship_12 : decode cX11_ship 12 = .ok (.ldc 127, 2) := by decide +kernel
theorem dX11_ship_14 : decode cX11_ship 14 = .ok (.ireturn, 1) := by decide +kernel
theorem dX11_ship_9 : decode cX11_ship 9 = .ok (.ifCond .ne 6, 3) := by decide +kernel
theorem lX11_ship_L34 (x : bo_X) (hx : bo_OK x cX11_ship RX11 4 5 116) (σ : bo_M) : ∀ (n : Nat) (w2 : Int32) (w3 : Int32), bo_D x 34 [(0, .ref (bo_a x 135)), (2, .int w2), (3, .int w3)] [] σ (mX11_ship_L34 σ n w2 w3) (bo_Rw x cX11_ship false) := by
  intro n
  induction n with
  | zero => intro w2 w3; exact bo_none
  | succ n ih =>
    intro w2 w3
    rw [mX11_ship_L34]
    refine bo_iload_n hx dX11_ship_34 rfl 2 rfl ?_
    refine bo_sipush (v := 192) hx dX11_ship_35 (by decide) ?_
    refine bo_icmp_ge hx 85 dX11_ship_38 (by decide) ?_ ?_
    · refine bo_iconst (v := (-1)) hx dX11_ship_85 (by decide) ?_
      exact bo_retw dX11_ship_86 (fun h => by cases h)
    · refine bo_iload_n hx dX11_ship_41 rfl 1 rfl ?_
      refine bo_iconst (v := 2) hx dX11_ship_42 (by decide) ?_
      refine bo_aload_n hx dX11_ship_43 rfl 0 rfl ?_
      refine gf_X11_77 hx dX11_ship_44 ?_
      refine bo_iload_n hx dX11_ship_47 rfl 2 rfl ?_
      refine bo_iald hx bo_c_157 dX11_ship_48 (fun v3 => ?_)
      refine bo_imul hx dX11_ship_49 ?_
      refine bo_iload_n hx dX11_ship_50 rfl 1 rfl ?_
      refine bo_seq 69 (fun a => [(0, .ref (bo_a x 135)), (3, .int w3)]) (fun a => [.int a, .int w2]) (fun a => σ) ?_ (fun a4 => ?_)
      · refine bo_icmp_ge hx 64 dX11_ship_51 (by decide) ?_ ?_
        · refine bo_iconst (v := 1) hx dX11_ship_64 (by decide) ?_
          refine bo_goto hx 69 dX11_ship_65 (by decide) ?_
          refine bo_sub (L' := [(0, .ref (bo_a x 135)), (3, .int w3)]) [0, 2] rfl ?_
          exact bo_arr (fun h => h)
        · refine bo_aload_n hx dX11_ship_54 rfl 0 rfl ?_
          refine gf_X11_77 hx dX11_ship_55 ?_
          refine bo_iload_n hx dX11_ship_58 rfl 2 rfl ?_
          refine bo_iald hx bo_c_157 dX11_ship_59 (fun v5 => ?_)
          refine bo_iconst (v := 3) hx dX11_ship_60 (by decide) ?_
          refine bo_icmp_lt hx 68 dX11_ship_61 (by decide) ?_ ?_
          · refine bo_iconst (v := 0) hx dX11_ship_68 (by decide) ?_
            refine bo_sub (L' := [(0, .ref (bo_a x 135)), (3, .int w3)]) [0, 2] rfl ?_
            exact bo_arr (fun h => h)
          · refine bo_iconst (v := 1) hx dX11_ship_64 (by decide) ?_
            refine bo_goto hx 69 dX11_ship_65 (by decide) ?_
            refine bo_sub (L' := [(0, .ref (bo_a x 135)), (3, .int w3)]) [0, 2] rfl ?_
            exact bo_arr (fun h => h)
      · refine bo_isub hx dX11_ship_69 ?_
        refine bo_istore_n (L' := [(2, .int (w2 - a4)), (0, .ref (bo_a x 135)), (3, .int w3)]) hx dX11_ship_70 rfl (by decide) rfl ?_
        refine bo_iload_n hx dX11_ship_71 rfl 0 rfl ?_
        refine bo_if_ne hx 79 dX11_ship_72 (by decide) ?_ ?_
        · refine bo_iinc (L' := [(3, .int (w3 + 1)), (2, .int (w2 - a4)), (0, .ref (bo_a x 135))]) (w := (w3 + 1)) hx dX11_ship_79 2 rfl rfl (by decide) rfl ?_
          refine bo_goto hx 34 dX11_ship_82 (by decide) ?_
          refine bo_sub (L' := [(0, .ref (bo_a x 135)), (2, .int (w2 - a4)), (3, .int (w3 + 1))]) [2, 1, 0] rfl ?_
          exact ih (w2 - a4) (w3 + 1)
        · refine bo_iload_n hx dX11_ship_75 rfl 2 rfl ?_
          refine bo_iconst (v := 1) hx dX11_ship_76 (by decide) ?_
          refine bo_iadd hx dX11_ship_77 ?_
          exact bo_retw dX11_ship_78 (fun h => by cases h)
theorem bX11_ship (x : bo_X) (hx : bo_OK x cX11_ship RX11 4 5 116) (σ : bo_M) (p1 : Int32) : bo_D x 0 [(0, .ref (bo_a x 135)), (1, .int p1)] [] σ (mX11_ship σ p1) (bo_Rw x cX11_ship false) := by
  unfold mX11_ship
  refine bo_iload_n hx dX11_ship_0 rfl 1 rfl ?_
  refine bo_i2l hx dX11_ship_1 ?_
  refine bo_lconst (v := 1) hx dX11_ship_2 (by decide) ?_
  refine bo_ldc2 (v := 99) hx dX11_ship_3 wl_X11_341 ?_
  refine bo_goR (z := true) hx (fun rr hh => bo_runS (As := [.long (Int32.toInt64 p1), .long 1, .long 99]) (S := []) hx dX11_ship_6 lk_X11_118 ms_X11_in (kX11_in (bo_l x) (bo_g x) hx.inj σ (Int32.toInt64 p1) 1 99 rr hh) ⟨by decide, by decide⟩ rfl rfl (Nat.le_of_ble_eq_true rfl)) (fun v1 hv1 => ?_)
  refine bo_if_ne hx 15 dX11_ship_9 (by decide) ?_ ?_
  · refine bo_aload_n hx dX11_ship_15 rfl 0 rfl ?_
    refine gf_X11_111 hx dX11_ship_16 ?_
    refine bo_if_ne hx 26 dX11_ship_19 (by decide) ?_ ?_
    · refine bo_aload_n hx dX11_ship_26 rfl 0 rfl ?_
      refine bo_goV hx (fun rr hh => bo_runV (As := []) (S := []) hx dX11_ship_27 lk_X11_312 mi_X11_lookAhead bo_o_135 rfl rfl (kX11_lookAhead (bo_l x) (bo_g x) hx.inj σ rr hh) ⟨by decide, by decide⟩ rfl rfl (Nat.le_of_ble_eq_true rfl)) (fun σ2 => ?_)
      refine bo_iload_n hx dX11_ship_30 rfl 1 rfl ?_
      refine bo_istore_n (L' := [(2, .int p1), (0, .ref (bo_a x 135)), (1, .int p1)]) hx dX11_ship_31 rfl (by decide) rfl ?_
      refine bo_iconst (v := 0) hx dX11_ship_32 (by decide) ?_
      refine bo_istore_n (L' := [(3, .int 0), (2, .int p1), (0, .ref (bo_a x 135)), (1, .int p1)]) hx dX11_ship_33 rfl (by decide) rfl ?_
      refine bo_sub (L' := [(0, .ref (bo_a x 135)), (2, .int p1), (3, .int 0)]) [2, 1, 0] rfl ?_
      exact lX11_ship_L34 x hx σ2 bo_fuel p1 0
    · refine bo_ldcw (v := (-1000000003)) hx dX11_ship_22 wc_X11_277 ?_
      exact bo_retw dX11_ship_25 (fun h => by cases h)
  · refine bo_ldc (v := (-1000000002)) hx dX11_ship_12 wc_X11_127 ?_
    exact bo_retw dX11_ship_14 (fun h => by cases h)
theorem kX11_ship (l : Launch) (g : bo_G) (hi : bo_inj g) (σ : bo_M) (p1 : Int32) : bo_CW l g yX11_ship cX11_ship 4 (some .int) 5 116 [.ref (g.2.2 135), .int p1] σ false (mX11_ship σ p1) :=
  bo_metW rfl (Or.inl ⟨rfl, rfl⟩) (by decide) rfl hi (Nat.le_of_ble_eq_true rfl) (fun x e1 e2 hx => by subst e1; subst e2; exact bX11_ship x hx σ p1)
-- BellRopeModel.widows
theorem dX11_widows_0 : decode cX11_widows 0 = .ok (.iload_n 1, 1) := by decide +kernel
theorem dX11_widows_1 : decode cX11_widows 1 = .ok (.i2l, 1) := by decide +kernel
theorem dX11_widows_2 : decode cX11_widows 2 = .ok (.lconst 0, 1) := by decide +kernel
theorem dX11_widows_3 : decode cX11_widows 3 = .ok (.ldc2_w 341, 3) := by decide +kernel
theorem dX11_widows_6 : decode cX11_widows 6 = .ok (.invokestatic 118, 3) := by decide +kernel
theorem dX11_widows_15 : decode cX11_widows 15 = .ok (.iconst 0, 1) := by decide +kernel
theorem dX11_widows_16 : decode cX11_widows 16 = .ok (.istore_n 2, 1) := by decide +kernel
theorem dX11_widows_17 : decode cX11_widows 17 = .ok (.iconst 0, 1) := by decide +kernel
theorem dX11_widows_18 : decode cX11_widows 18 = .ok (.istore_n 3, 1) := by decide +kernel
theorem dX11_widows_19 : decode cX11_widows 19 = .ok (.iload_n 3, 1) := by decide +kernel
theorem dX11_widows_20 : decode cX11_widows 20 = .ok (.aload_n 0, 1) := by decide +kernel
theorem dX11_widows_21 : decode cX11_widows 21 = .ok (.getfield 34, 3) := by decide +kernel
theorem dX11_widows_24 : decode cX11_widows 24 = .ok (.bipush 26, 2) := by decide +kernel
theorem dX11_widows_26 : decode cX11_widows 26 = .ok (.iaload, 1) := by decide +kernel
theorem dX11_widows_30 : decode cX11_widows 30 = .ok (.iload_n 3, 1) := by decide +kernel
theorem dX11_widows_61 : decode cX11_widows 61 = .ok (.iconst 0, 1) := by decide +kernel
theorem dX11_widows_34 : decode cX11_widows 34 = .ok (.aload_n 0, 1) := by decide +kernel
theorem dX11_widows_35 : decode cX11_widows 35 = .ok (.getfield 34, 3) := by decide +kernel
theorem dX11_widows_38 : decode cX11_widows 38 = .ok (.bipush 27, 2) := by decide +kernel
theorem dX11_widows_40 : decode cX11_widows 40 = .ok (.iload_n 3, 1) := by decide +kernel
theorem dX11_widows_41 : decode cX11_widows 41 = .ok (.iadd, 1) := by decide +kernel
theorem dX11_widows_42 : decode cX11_widows 42 = .ok (.iaload, 1) := by decide +kernel
theorem dX11_widows_43 : decode cX11_widows 43 = .ok (.aload_n 0, 1) := by decide +kernel
theorem dX11_widows_44 : decode cX11_widows 44 = .ok (.getfield 34, 3) := by decide +kernel
theorem dX11_widows_47 : decode cX11_widows 47 = .ok (.bipush 27, 2) := by decide +kernel
theorem dX11_widows_49 : decode cX11_widows 49 = .ok (.iload_n 3, 1) := by decide +kernel
theorem dX11_widows_50 : decode cX11_widows 50 = .ok (.iadd, 1) := by decide +kernel
theorem dX11_widows_51 : decode cX11_widows 51 = .ok (.iconst 1, 1) := by decide +kernel
theorem dX11_widows_52 : decode cX11_widows 52 = .ok (.isub, 1) := by decide +kernel
theorem dX11_widows_53 : decode cX11_widows 53 = .ok (.iaload, 1) := by decide +kernel
theorem dX11_widows_57 : decode cX11_widows 57 = .ok (.iconst 1, 1) := by decide +kernel
theorem dX11_widows_58 : decode cX11_widows 58 = .ok (.goto 4, 3) := by decide +kernel
theorem dX11_widows_54 : decode cX11_widows 54 = .ok (.if_icmp .ne 7, 3) := by decide +kernel
theorem dX11_widows_31 : decode cX11_widows 31 = .ok (.ifCond .le 30, 3) := by decide +kernel
theorem dX11_widows_62 : decode cX11_widows 62 = .ok (.istore 4, 2) := by decide +kernel
theorem dX11_widows_64 : decode cX11_widows 64 = .ok (.iload_n 2, 1) := by decide +kernel
theorem dX11_widows_65 : decode cX11_widows 65 = .ok (.iload 4, 2) := by decide +kernel
theorem dX11_widows_74 : decode cX11_widows 74 = .ok (.iload_n 1, 1) := by decide +kernel
theorem dX11_widows_75 : decode cX11_widows 75 = .ok (.aload_n 0, 1) := by decide +kernel
theorem dX11_widows_76 : decode cX11_widows 76 = .ok (.getfield 34, 3) := by decide +kernel
theorem dX11_widows_79 : decode cX11_widows 79 = .ok (.bipush 27, 2) := by decide +kernel
theorem dX11_widows_81 : decode cX11_widows 81 = .ok (.iload_n 3, 1) := by decide +kernel
theorem dX11_widows_82 : decode cX11_widows 82 = .ok (.iadd, 1) := by decide +kernel
theorem dX11_widows_83 : decode cX11_widows 83 = .ok (.iaload, 1) := by decide +kernel
theorem dX11_widows_84 : decode cX11_widows 84 = .ok (.imul, 1) := by decide +kernel
theorem dX11_widows_70 : decode cX11_widows 70 = .ok (.iconst 0, 1) := by decide +kernel
theorem dX11_widows_71 : decode cX11_widows 71 = .ok (.goto 14, 3) := by decide +kernel
theorem dX11_widows_67 : decode cX11_widows 67 = .ok (.ifCond .eq 7, 3) := by decide +kernel
theorem dX11_widows_85 : decode cX11_widows 85 = .ok (.iadd, 1) := by decide +kernel
theorem dX11_widows_86 : decode cX11_widows 86 = .ok (.istore_n 2, 1) := by decide +kernel
theorem dX11_widows_87 : decode cX11_widows 87 = .ok (.iinc 3 1, 3) := by decide +kernel
theorem dX11_widows_90 : decode cX11_widows 90 = .ok (.goto (-71), 3) := by decide +kernel
theorem dX11_widows_27 : decode cX11_widows 27 = .ok (.if_icmp .ge 66, 3) := by decide +kernel
theorem dX11_widows_93 : decode cX11_widows 93 = .ok (.iload_n 2, 1) := by decide +kernel
theorem dX11_widows_94 : decode cX11_widows 94 = .ok (.ireturn, 1) := by decide +kernel
theorem dX11_widows_12 : decode cX11_widows 12 = .ok (.ldc 127, 2) := by decide +kernel
theorem dX11_widows_14 : decode cX11_widows 14 = .ok (.ireturn, 1) := by decide +kernel
theorem dX11_widows_9 : decode cX11_widows 9 = .ok (.ifCond .ne 6, 3) := by decide +kernel
theorem lX11_widows_L19 (x : bo_X) (hx : bo_OK x cX11_widows RX11 5 1 25) (σ : bo_M) (f1 : Int32) : ∀ (n : Nat) (w2 : Int32) (w3 : Int32), bo_D x 19 [(0, .ref (bo_a x 135)), (1, .int f1), (2, .int w2), (3, .int w3)] [] σ (mX11_widows_L19 σ f1 n w2 w3) (fun a => bo_N x 93 [(2, .int a)] [] σ) := by
  intro n
  induction n with
  | zero => intro w2 w3; exact bo_none
  | succ n ih =>
    intro w2 w3
    rw [mX11_widows_L19]
    refine bo_iload_n hx dX11_widows_19 rfl 3 rfl ?_
    refine bo_aload_n hx dX11_widows_20 rfl 0 rfl ?_
    refine gf_X11_34 hx dX11_widows_21 ?_
    refine bo_bipush (v := 26) hx dX11_widows_24 (by decide) ?_
    refine bo_iald hx bo_c_144 dX11_widows_26 (fun v2 => ?_)
    refine bo_icmp_ge hx 93 dX11_widows_27 (by decide) ?_ ?_
    · refine bo_sub (L' := [(2, .int w2)]) [2] rfl ?_
      exact bo_arr (fun h => h)
    · refine bo_iload_n hx dX11_widows_30 rfl 3 rfl ?_
      refine bo_seq 62 (fun a => [(0, .ref (bo_a x 135)), (1, .int f1), (2, .int w2), (3, .int w3)]) (fun a => [.int a]) (fun a => σ) ?_ (fun a3 => ?_)
      · refine bo_if_le hx 61 dX11_widows_31 (by decide) ?_ ?_
        · refine bo_iconst (v := 0) hx dX11_widows_61 (by decide) ?_
          exact bo_arr (fun h => h)
        · refine bo_aload_n hx dX11_widows_34 rfl 0 rfl ?_
          refine gf_X11_34 hx dX11_widows_35 ?_
          refine bo_bipush (v := 27) hx dX11_widows_38 (by decide) ?_
          refine bo_iload_n hx dX11_widows_40 rfl 3 rfl ?_
          refine bo_iadd hx dX11_widows_41 ?_
          refine bo_iald hx bo_c_144 dX11_widows_42 (fun v4 => ?_)
          refine bo_aload_n hx dX11_widows_43 rfl 0 rfl ?_
          refine gf_X11_34 hx dX11_widows_44 ?_
          refine bo_bipush (v := 27) hx dX11_widows_47 (by decide) ?_
          refine bo_iload_n hx dX11_widows_49 rfl 3 rfl ?_
          refine bo_iadd hx dX11_widows_50 ?_
          refine bo_iconst (v := 1) hx dX11_widows_51 (by decide) ?_
          refine bo_isub hx dX11_widows_52 ?_
          refine bo_iald hx bo_c_144 dX11_widows_53 (fun v5 => ?_)
          refine bo_icmp_ne hx 61 dX11_widows_54 (by decide) ?_ ?_
          · refine bo_iconst (v := 0) hx dX11_widows_61 (by decide) ?_
            exact bo_arr (fun h => h)
          · refine bo_iconst (v := 1) hx dX11_widows_57 (by decide) ?_
            refine bo_goto hx 62 dX11_widows_58 (by decide) ?_
            exact bo_arr (fun h => h)
      · refine bo_istore (L' := [(4, .int a3), (0, .ref (bo_a x 135)), (1, .int f1), (2, .int w2), (3, .int w3)]) hx dX11_widows_62 (by decide) rfl ?_
        refine bo_iload_n hx dX11_widows_64 rfl 3 rfl ?_
        refine bo_iload hx dX11_widows_65 0 rfl ?_
        refine bo_seq 85 (fun a => [(0, .ref (bo_a x 135)), (1, .int f1), (3, .int w3)]) (fun a => [.int a, .int w2]) (fun a => σ) ?_ (fun a6 => ?_)
        · refine bo_if_eq hx 74 dX11_widows_67 (by decide) ?_ ?_
          · refine bo_iload_n hx dX11_widows_74 rfl 2 rfl ?_
            refine bo_aload_n hx dX11_widows_75 rfl 1 rfl ?_
            refine gf_X11_34 hx dX11_widows_76 ?_
            refine bo_bipush (v := 27) hx dX11_widows_79 (by decide) ?_
            refine bo_iload_n hx dX11_widows_81 rfl 4 rfl ?_
            refine bo_iadd hx dX11_widows_82 ?_
            refine bo_iald hx bo_c_144 dX11_widows_83 (fun v7 => ?_)
            refine bo_imul hx dX11_widows_84 ?_
            refine bo_sub (L' := [(0, .ref (bo_a x 135)), (1, .int f1), (3, .int w3)]) [1, 2, 4] rfl ?_
            exact bo_arr (fun h => h)
          · refine bo_iconst (v := 0) hx dX11_widows_70 (by decide) ?_
            refine bo_goto hx 85 dX11_widows_71 (by decide) ?_
            refine bo_sub (L' := [(0, .ref (bo_a x 135)), (1, .int f1), (3, .int w3)]) [1, 2, 4] rfl ?_
            exact bo_arr (fun h => h)
        · refine bo_iadd hx dX11_widows_85 ?_
          refine bo_istore_n (L' := [(2, .int (w2 + a6)), (0, .ref (bo_a x 135)), (1, .int f1), (3, .int w3)]) hx dX11_widows_86 rfl (by decide) rfl ?_
          refine bo_iinc (L' := [(3, .int (w3 + 1)), (2, .int (w2 + a6)), (0, .ref (bo_a x 135)), (1, .int f1)]) (w := (w3 + 1)) hx dX11_widows_87 3 rfl rfl (by decide) rfl ?_
          refine bo_goto hx 19 dX11_widows_90 (by decide) ?_
          refine bo_sub (L' := [(0, .ref (bo_a x 135)), (1, .int f1), (2, .int (w2 + a6)), (3, .int (w3 + 1))]) [2, 3, 1, 0] rfl ?_
          exact ih (w2 + a6) (w3 + 1)
theorem bX11_widows (x : bo_X) (hx : bo_OK x cX11_widows RX11 5 1 25) (σ : bo_M) (p1 : Int32) : bo_D x 0 [(0, .ref (bo_a x 135)), (1, .int p1)] [] σ (mX11_widows σ p1) (bo_Ri x cX11_widows σ false) := by
  unfold mX11_widows
  refine bo_iload_n hx dX11_widows_0 rfl 1 rfl ?_
  refine bo_i2l hx dX11_widows_1 ?_
  refine bo_lconst (v := 0) hx dX11_widows_2 (by decide) ?_
  refine bo_ldc2 (v := 99) hx dX11_widows_3 wl_X11_341 ?_
  refine bo_goR (z := true) hx (fun rr hh => bo_runS (As := [.long (Int32.toInt64 p1), .long 0, .long 99]) (S := []) hx dX11_widows_6 lk_X11_118 ms_X11_in (kX11_in (bo_l x) (bo_g x) hx.inj σ (Int32.toInt64 p1) 0 99 rr hh) ⟨by decide, by decide⟩ rfl rfl (Nat.le_of_ble_eq_true rfl)) (fun v1 hv1 => ?_)
  refine bo_if_ne hx 15 dX11_widows_9 (by decide) ?_ ?_
  · refine bo_iconst (v := 0) hx dX11_widows_15 (by decide) ?_
    refine bo_istore_n (L' := [(2, .int 0), (0, .ref (bo_a x 135)), (1, .int p1)]) hx dX11_widows_16 rfl (by decide) rfl ?_
    refine bo_iconst (v := 0) hx dX11_widows_17 (by decide) ?_
    refine bo_istore_n (L' := [(3, .int 0), (2, .int 0), (0, .ref (bo_a x 135)), (1, .int p1)]) hx dX11_widows_18 rfl (by decide) rfl ?_
    refine bo_sub (L' := [(0, .ref (bo_a x 135)), (1, .int p1), (2, .int 0), (3, .int 0)]) [2, 3, 1, 0] rfl ?_
    refine bo_seq 93 (fun a => [(2, .int a)]) (fun a => []) (fun a => σ) (lX11_widows_L19 x hx σ p1 bo_fuel 0 0) (fun a8 => ?_)
    refine bo_iload_n hx dX11_widows_93 rfl 0 rfl ?_
    exact bo_ret dX11_widows_94 (fun h => by cases h)
  · refine bo_ldc (v := (-1000000002)) hx dX11_widows_12 wc_X11_127 ?_
    exact bo_ret dX11_widows_14 (fun h => by cases h)
theorem kX11_widows (l : Launch) (g : bo_G) (hi : bo_inj g) (σ : bo_M) (p1 : Int32) : bo_CR l g yX11_widows cX11_widows 5 (some .int) 1 25 [.ref (g.2.2 135), .int p1] σ false (mX11_widows σ p1) :=
  bo_metR rfl (Or.inl ⟨rfl, rfl⟩) (by decide) rfl hi (Nat.le_of_ble_eq_true rfl) (fun x e1 e2 hx => by subst e1; subst e2; exact bX11_widows x hx σ p1)
-- BellRopeModel.odds
theorem dX11_odds_0 : decode cX11_odds 0 = .ok (.iload_n 1, 1) := by decide +kernel
theorem dX11_odds_1 : decode cX11_odds 1 = .ok (.i2l, 1) := by decide +kernel
theorem dX11_odds_2 : decode cX11_odds 2 = .ok (.lconst 0, 1) := by decide +kernel
theorem dX11_odds_3 : decode cX11_odds 3 = .ok (.ldc2_w 315, 3) := by decide +kernel
theorem dX11_odds_6 : decode cX11_odds 6 = .ok (.invokestatic 118, 3) := by decide +kernel
theorem dX11_odds_15 : decode cX11_odds 15 = .ok (.aload_n 0, 1) := by decide +kernel
theorem dX11_odds_16 : decode cX11_odds 16 = .ok (.getfield 111, 3) := by decide +kernel
theorem dX11_odds_26 : decode cX11_odds 26 = .ok (.iconst 0, 1) := by decide +kernel
theorem dX11_odds_27 : decode cX11_odds 27 = .ok (.istore_n 2, 1) := by decide +kernel
theorem dX11_odds_28 : decode cX11_odds 28 = .ok (.iload_n 2, 1) := by decide +kernel
theorem dX11_odds_29 : decode cX11_odds 29 = .ok (.bipush 8, 2) := by decide +kernel
theorem dX11_odds_34 : decode cX11_odds 34 = .ok (.aload_n 0, 1) := by decide +kernel
theorem dX11_odds_35 : decode cX11_odds 35 = .ok (.getfield 83, 3) := by decide +kernel
theorem dX11_odds_38 : decode cX11_odds 38 = .ok (.iload_n 2, 1) := by decide +kernel
theorem dX11_odds_39 : decode cX11_odds 39 = .ok (.iconst 0, 1) := by decide +kernel
theorem dX11_odds_40 : decode cX11_odds 40 = .ok (.iastore, 1) := by decide +kernel
theorem dX11_odds_41 : decode cX11_odds 41 = .ok (.iinc 2 1, 3) := by decide +kernel
theorem dX11_odds_44 : decode cX11_odds 44 = .ok (.goto (-16), 3) := by decide +kernel
theorem dX11_odds_31 : decode cX11_odds 31 = .ok (.if_icmp .ge 16, 3) := by decide +kernel
theorem dX11_odds_47 : decode cX11_odds 47 = .ok (.aload_n 0, 1) := by decide +kernel
theorem dX11_odds_48 : decode cX11_odds 48 = .ok (.getfield 83, 3) := by decide +kernel
theorem dX11_odds_51 : decode cX11_odds 51 = .ok (.iconst 0, 1) := by decide +kernel
theorem dX11_odds_52 : decode cX11_odds 52 = .ok (.ldc_w 343, 3) := by decide +kernel
theorem dX11_odds_55 : decode cX11_odds 55 = .ok (.iastore, 1) := by decide +kernel
theorem dX11_odds_56 : decode cX11_odds 56 = .ok (.iconst 0, 1) := by decide +kernel
theorem dX11_odds_57 : decode cX11_odds 57 = .ok (.istore_n 2, 1) := by decide +kernel
theorem dX11_odds_58 : decode cX11_odds 58 = .ok (.iload_n 2, 1) := by decide +kernel
theorem dX11_odds_59 : decode cX11_odds 59 = .ok (.aload_n 0, 1) := by decide +kernel
theorem dX11_odds_60 : decode cX11_odds 60 = .ok (.getfield 115, 3) := by decide +kernel
theorem dX11_odds_66 : decode cX11_odds 66 = .ok (.bipush 6, 2) := by decide +kernel
theorem dX11_odds_68 : decode cX11_odds 68 = .ok (.istore_n 3, 1) := by decide +kernel
theorem dX11_odds_69 : decode cX11_odds 69 = .ok (.iload_n 3, 1) := by decide +kernel
theorem dX11_odds_73 : decode cX11_odds 73 = .ok (.aload_n 0, 1) := by decide +kernel
theorem dX11_odds_74 : decode cX11_odds 74 = .ok (.iload_n 2, 1) := by decide +kernel
theorem dX11_odds_75 : decode cX11_odds 75 = .ok (.invokevirtual 262, 3) := by decide +kernel
theorem dX11_odds_81 : decode cX11_odds 81 = .ok (.aload_n 0, 1) := by decide +kernel
theorem dX11_odds_82 : decode cX11_odds 82 = .ok (.getfield 83, 3) := by decide +kernel
theorem dX11_odds_85 : decode cX11_odds 85 = .ok (.iload_n 3, 1) := by decide +kernel
theorem dX11_odds_86 : decode cX11_odds 86 = .ok (.iaload, 1) := by decide +kernel
theorem dX11_odds_87 : decode cX11_odds 87 = .ok (.aload_n 0, 1) := by decide +kernel
theorem dX11_odds_88 : decode cX11_odds 88 = .ok (.getfield 16, 3) := by decide +kernel
theorem dX11_odds_91 : decode cX11_odds 91 = .ok (.iload_n 2, 1) := by decide +kernel
theorem dX11_odds_92 : decode cX11_odds 92 = .ok (.iaload, 1) := by decide +kernel
theorem dX11_odds_93 : decode cX11_odds 93 = .ok (.imul, 1) := by decide +kernel
theorem dX11_odds_94 : decode cX11_odds 94 = .ok (.bipush 100, 2) := by decide +kernel
theorem dX11_odds_96 : decode cX11_odds 96 = .ok (.idiv, 1) := by decide +kernel
theorem dX11_odds_97 : decode cX11_odds 97 = .ok (.istore 4, 2) := by decide +kernel
theorem dX11_odds_99 : decode cX11_odds 99 = .ok (.aload_n 0, 1) := by decide +kernel
theorem dX11_odds_100 : decode cX11_odds 100 = .ok (.getfield 83, 3) := by decide +kernel
theorem dX11_odds_103 : decode cX11_odds 103 = .ok (.iload_n 3, 1) := by decide +kernel
theorem dX11_odds_104 : decode cX11_odds 104 = .ok (.dup2, 1) := by decide +kernel
theorem dX11_odds_105 : decode cX11_odds 105 = .ok (.iaload, 1) := by decide +kernel
theorem dX11_odds_106 : decode cX11_odds 106 = .ok (.iload 4, 2) := by decide +kernel
theorem dX11_odds_108 : decode cX11_odds 108 = .ok (.isub, 1) := by decide +kernel
theorem dX11_odds_109 : decode cX11_odds 109 = .ok (.iastore, 1) := by decide +kernel
theorem dX11_odds_110 : decode cX11_odds 110 = .ok (.aload_n 0, 1) := by decide +kernel
theorem dX11_odds_111 : decode cX11_odds 111 = .ok (.getfield 83, 3) := by decide +kernel
theorem dX11_odds_114 : decode cX11_odds 114 = .ok (.iload_n 3, 1) := by decide +kernel
theorem dX11_odds_115 : decode cX11_odds 115 = .ok (.iconst 1, 1) := by decide +kernel
theorem dX11_odds_116 : decode cX11_odds 116 = .ok (.iadd, 1) := by decide +kernel
theorem dX11_odds_117 : decode cX11_odds 117 = .ok (.dup2, 1) := by decide +kernel
theorem dX11_odds_118 : decode cX11_odds 118 = .ok (.iaload, 1) := by decide +kernel
theorem dX11_odds_119 : decode cX11_odds 119 = .ok (.iload 4, 2) := by decide +kernel
theorem dX11_odds_121 : decode cX11_odds 121 = .ok (.iadd, 1) := by decide +kernel
theorem dX11_odds_122 : decode cX11_odds 122 = .ok (.iastore, 1) := by decide +kernel
theorem dX11_odds_123 : decode cX11_odds 123 = .ok (.iinc 3 (-1), 3) := by decide +kernel
theorem dX11_odds_126 : decode cX11_odds 126 = .ok (.goto (-57), 3) := by decide +kernel
theorem dX11_odds_78 : decode cX11_odds 78 = .ok (.ifCond .eq 51, 3) := by decide +kernel
theorem dX11_odds_70 : decode cX11_odds 70 = .ok (.ifCond .lt 59, 3) := by decide +kernel
theorem dX11_odds_129 : decode cX11_odds 129 = .ok (.iinc 2 1, 3) := by decide +kernel
theorem dX11_odds_132 : decode cX11_odds 132 = .ok (.goto (-74), 3) := by decide +kernel
theorem dX11_odds_63 : decode cX11_odds 63 = .ok (.if_icmp .ge 72, 3) := by decide +kernel
theorem dX11_odds_135 : decode cX11_odds 135 = .ok (.iconst 0, 1) := by decide +kernel
theorem dX11_odds_136 : decode cX11_odds 136 = .ok (.istore_n 2, 1) := by decide +kernel
theorem dX11_odds_137 : decode cX11_odds 137 = .ok (.iconst 0, 1) := by decide +kernel
theorem dX11_odds_138 : decode cX11_odds 138 = .ok (.istore_n 3, 1) := by decide +kernel
theorem dX11_odds_139 : decode cX11_odds 139 = .ok (.iload_n 3, 1) := by decide +kernel
theorem dX11_odds_140 : decode cX11_odds 140 = .ok (.bipush 8, 2) := by decide +kernel
theorem dX11_odds_145 : decode cX11_odds 145 = .ok (.iload_n 2, 1) := by decide +kernel
theorem dX11_odds_146 : decode cX11_odds 146 = .ok (.iload_n 3, 1) := by decide +kernel
theorem dX11_odds_147 : decode cX11_odds 147 = .ok (.iload_n 1, 1) := by decide +kernel
theorem dX11_odds_160 : decode cX11_odds 160 = .ok (.iconst 0, 1) := by decide +kernel
theorem dX11_odds_151 : decode cX11_odds 151 = .ok (.aload_n 0, 1) := by decide +kernel
theorem dX11_odds_152 : decode cX11_odds 152 = .ok (.getfield 83, 3) := by decide +kernel
theorem dX11_odds_155 : decode cX11_odds 155 = .ok (.iload_n 3, 1) := by decide +kernel
theorem dX11_odds_156 : decode cX11_odds 156 = .ok (.iaload, 1) := by decide +kernel
theorem dX11_odds_157 : decode cX11_odds 157 = .ok (.goto 4, 3) := by decide +kernel
theorem dX11_odds_148 : decode cX11_odds 148 = .ok (.if_icmp .lt 12, 3) := by decide +kernel
theorem dX11_odds_161 : decode cX11_odds 161 = .ok (.iadd, 1) := by decide +kernel
theorem dX11_odds_162 : decode cX11_odds 162 = .ok (.istore_n 2, 1) := by decide +kernel
theorem dX11_odds_163 : decode cX11_odds 163 = .ok (.iinc 3 1, 3) := by decide +kernel
theorem dX11_odds_166 : decode cX11_odds 166 = .ok (.goto (-27), 3) := by decide +kernel
theorem dX11_odds_142 : decode cX11_odds 142 = .ok (.if_icmp .ge 27, 3) := by decide +kernel
theorem dX11_odds_169 : decode cX11_odds 169 = .ok (.iload_n 2, 1) := by decide +kernel
theorem dX11_odds_170 : decode cX11_odds 170 = .ok (.ireturn, 1) := by decide +kernel
theorem dX11_odds_22 : decode cX11_odds 22 = .ok (.ldc_w 277, 3) := by decide +kernel
theorem dX11_odds_25 : decode cX11_odds 25 = .ok (.ireturn, 1) := by decide +kernel
theorem dX11_odds_19 : decode cX11_odds 19 = .ok (.ifCond .ne 7, 3) := by decide +kernel
theorem dX11_odds_12 : decode cX11_odds 12 = .ok (.ldc 127, 2) := by decide +kernel
theorem dX11_odds_14 : decode cX11_odds 14 = .ok (.ireturn, 1) := by decide +kernel
theorem dX11_odds_9 : decode cX11_odds 9 = .ok (.ifCond .ne 6, 3) := by decide +kernel
theorem lX11_odds_L28 (x : bo_X) (hx : bo_OK x cX11_odds RX11 5 2 44) (f1 : Int32) : ∀ (n : Nat) (w2 : Int32) (σ : bo_M), bo_D x 28 [(0, .ref (bo_a x 135)), (1, .int f1), (2, .int w2)] [] σ (mX11_odds_L28 f1 n w2 σ) (fun a => bo_N x 47 [(0, .ref (bo_a x 135)), (1, .int f1)] [] a) := by
  intro n
  induction n with
  | zero => intro w2 σ; exact bo_none
  | succ n ih =>
    intro w2 σ
    rw [mX11_odds_L28]
    refine bo_iload_n hx dX11_odds_28 rfl 2 rfl ?_
    refine bo_bipush (v := 8) hx dX11_odds_29 (by decide) ?_
    refine bo_icmp_ge hx 47 dX11_odds_31 (by decide) ?_ ?_
    · refine bo_sub (L' := [(0, .ref (bo_a x 135)), (1, .int f1)]) [0, 1] rfl ?_
      exact bo_arr (fun h => h)
    · refine bo_aload_n hx dX11_odds_34 rfl 0 rfl ?_
      refine gf_X11_83 hx dX11_odds_35 ?_
      refine bo_iload_n hx dX11_odds_38 rfl 2 rfl ?_
      refine bo_iconst (v := 0) hx dX11_odds_39 (by decide) ?_
      refine bo_iast hx bo_c_159 dX11_odds_40 (fun σ2 => ?_)
      refine bo_iinc (L' := [(2, .int (w2 + 1)), (0, .ref (bo_a x 135)), (1, .int f1)]) (w := (w2 + 1)) hx dX11_odds_41 2 rfl rfl (by decide) rfl ?_
      refine bo_goto hx 28 dX11_odds_44 (by decide) ?_
      refine bo_sub (L' := [(0, .ref (bo_a x 135)), (1, .int f1), (2, .int (w2 + 1))]) [1, 2, 0] rfl ?_
      exact ih (w2 + 1) σ2
theorem lX11_odds_L69 (x : bo_X) (hx : bo_OK x cX11_odds RX11 5 2 44) (f1 : Int32) (f2 : Int32) : ∀ (n : Nat) (w3 : Int32) (σ : bo_M), bo_D x 69 [(0, .ref (bo_a x 135)), (1, .int f1), (2, .int f2), (3, .int w3)] [] σ (mX11_odds_L69 f1 f2 n w3 σ) (fun a => bo_N x 129 [(0, .ref (bo_a x 135)), (1, .int f1), (2, .int f2)] [] a) := by
  intro n
  induction n with
  | zero => intro w3 σ; exact bo_none
  | succ n ih =>
    intro w3 σ
    rw [mX11_odds_L69]
    refine bo_iload_n hx dX11_odds_69 rfl 3 rfl ?_
    refine bo_if_lt hx 129 dX11_odds_70 (by decide) ?_ ?_
    · refine bo_sub (L' := [(0, .ref (bo_a x 135)), (1, .int f1), (2, .int f2)]) [0, 1, 2] rfl ?_
      exact bo_arr (fun h => h)
    · refine bo_aload_n hx dX11_odds_73 rfl 0 rfl ?_
      refine bo_iload_n hx dX11_odds_74 rfl 2 rfl ?_
      refine bo_goR (z := true) hx (fun rr hh => bo_runV (As := [.int f2]) (S := []) hx dX11_odds_75 lk_X11_262 mi_X11_wouldRing bo_o_135 rfl rfl (kX11_wouldRing (bo_l x) (bo_g x) hx.inj σ f2 rr hh) ⟨by decide, by decide⟩ rfl rfl (Nat.le_of_ble_eq_true rfl)) (fun v5 hv5 => ?_)
      refine bo_if_eq hx 129 dX11_odds_78 (by decide) ?_ ?_
      · refine bo_sub (L' := [(0, .ref (bo_a x 135)), (1, .int f1), (2, .int f2)]) [0, 1, 2] rfl ?_
        exact bo_arr (fun h => h)
      · refine bo_aload_n hx dX11_odds_81 rfl 0 rfl ?_
        refine gf_X11_83 hx dX11_odds_82 ?_
        refine bo_iload_n hx dX11_odds_85 rfl 3 rfl ?_
        refine bo_iald hx bo_c_159 dX11_odds_86 (fun v6 => ?_)
        refine bo_aload_n hx dX11_odds_87 rfl 0 rfl ?_
        refine gf_X11_16 hx dX11_odds_88 ?_
        refine bo_iload_n hx dX11_odds_91 rfl 2 rfl ?_
        refine bo_iald hx bo_c_138 dX11_odds_92 (fun v7 => ?_)
        refine bo_imul hx dX11_odds_93 ?_
        refine bo_bipush (v := 100) hx dX11_odds_94 (by decide) ?_
        refine bo_idivc hx dX11_odds_96 (by decide) ?_
        refine bo_istore (L' := [(4, .int ((v6 * v7) / 100)), (0, .ref (bo_a x 135)), (1, .int f1), (2, .int f2), (3, .int w3)]) hx dX11_odds_97 (by decide) rfl ?_
        refine bo_aload_n hx dX11_odds_99 rfl 1 rfl ?_
        refine gf_X11_83 hx dX11_odds_100 ?_
        refine bo_iload_n hx dX11_odds_103 rfl 4 rfl ?_
        refine bo_dup2 hx dX11_odds_104 rfl rfl ?_
        refine bo_iald hx bo_c_159 dX11_odds_105 (fun v8 => ?_)
        refine bo_iload hx dX11_odds_106 0 rfl ?_
        refine bo_isub hx dX11_odds_108 ?_
        refine bo_iast hx bo_c_159 dX11_odds_109 (fun σ9 => ?_)
        refine bo_aload_n hx dX11_odds_110 rfl 1 rfl ?_
        refine gf_X11_83 hx dX11_odds_111 ?_
        refine bo_iload_n hx dX11_odds_114 rfl 4 rfl ?_
        refine bo_iconst (v := 1) hx dX11_odds_115 (by decide) ?_
        refine bo_iadd hx dX11_odds_116 ?_
        refine bo_dup2 hx dX11_odds_117 rfl rfl ?_
        refine bo_iald hx bo_c_159 dX11_odds_118 (fun v10 => ?_)
        refine bo_iload hx dX11_odds_119 0 rfl ?_
        refine bo_iadd hx dX11_odds_121 ?_
        refine bo_iast hx bo_c_159 dX11_odds_122 (fun σ11 => ?_)
        refine bo_iinc (L' := [(3, .int (w3 + (-1))), (4, .int ((v6 * v7) / 100)), (0, .ref (bo_a x 135)), (1, .int f1), (2, .int f2)]) (w := (w3 + (-1))) hx dX11_odds_123 4 rfl rfl (by decide) rfl ?_
        refine bo_goto hx 69 dX11_odds_126 (by decide) ?_
        refine bo_sub (L' := [(0, .ref (bo_a x 135)), (1, .int f1), (2, .int f2), (3, .int (w3 + (-1)))]) [2, 3, 4, 0] rfl ?_
        exact ih (w3 + (-1)) σ11
theorem lX11_odds_L58 (x : bo_X) (hx : bo_OK x cX11_odds RX11 5 2 44) (f1 : Int32) : ∀ (n : Nat) (w2 : Int32) (σ : bo_M), bo_D x 58 [(0, .ref (bo_a x 135)), (1, .int f1), (2, .int w2)] [] σ (mX11_odds_L58 f1 n w2 σ) (fun a => bo_N x 135 [(0, .ref (bo_a x 135)), (1, .int f1)] [] a) := by
  intro n
  induction n with
  | zero => intro w2 σ; exact bo_none
  | succ n ih =>
    intro w2 σ
    rw [mX11_odds_L58]
    refine bo_iload_n hx dX11_odds_58 rfl 2 rfl ?_
    refine bo_aload_n hx dX11_odds_59 rfl 0 rfl ?_
    refine gf_X11_115 hx dX11_odds_60 ?_
    refine bo_icmp_ge hx 135 dX11_odds_63 (by decide) ?_ ?_
    · refine bo_sub (L' := [(0, .ref (bo_a x 135)), (1, .int f1)]) [0, 1] rfl ?_
      exact bo_arr (fun h => h)
    · refine bo_bipush (v := 6) hx dX11_odds_66 (by decide) ?_
      refine bo_istore_n (L' := [(3, .int 6), (0, .ref (bo_a x 135)), (1, .int f1), (2, .int w2)]) hx dX11_odds_68 rfl (by decide) rfl ?_
      refine bo_sub (L' := [(0, .ref (bo_a x 135)), (1, .int f1), (2, .int w2), (3, .int 6)]) [1, 2, 3, 0] rfl ?_
      refine bo_seq 129 (fun a => [(0, .ref (bo_a x 135)), (1, .int f1), (2, .int w2)]) (fun a => []) (fun a => a) (lX11_odds_L69 x hx f1 w2 bo_fuel 6 σ) (fun a12 => ?_)
      refine bo_iinc (L' := [(2, .int (w2 + 1)), (0, .ref (bo_a x 135)), (1, .int f1)]) (w := (w2 + 1)) hx dX11_odds_129 2 rfl rfl (by decide) rfl ?_
      refine bo_goto hx 58 dX11_odds_132 (by decide) ?_
      refine bo_sub (L' := [(0, .ref (bo_a x 135)), (1, .int f1), (2, .int (w2 + 1))]) [1, 2, 0] rfl ?_
      exact ih (w2 + 1) a12
theorem lX11_odds_L139 (x : bo_X) (hx : bo_OK x cX11_odds RX11 5 2 44) (σ : bo_M) (f1 : Int32) : ∀ (n : Nat) (w2 : Int32) (w3 : Int32), bo_D x 139 [(0, .ref (bo_a x 135)), (1, .int f1), (2, .int w2), (3, .int w3)] [] σ (mX11_odds_L139 σ f1 n w2 w3) (fun a => bo_N x 169 [(2, .int a)] [] σ) := by
  intro n
  induction n with
  | zero => intro w2 w3; exact bo_none
  | succ n ih =>
    intro w2 w3
    rw [mX11_odds_L139]
    refine bo_iload_n hx dX11_odds_139 rfl 3 rfl ?_
    refine bo_bipush (v := 8) hx dX11_odds_140 (by decide) ?_
    refine bo_icmp_ge hx 169 dX11_odds_142 (by decide) ?_ ?_
    · refine bo_sub (L' := [(2, .int w2)]) [2] rfl ?_
      exact bo_arr (fun h => h)
    · refine bo_iload_n hx dX11_odds_145 rfl 2 rfl ?_
      refine bo_iload_n hx dX11_odds_146 rfl 3 rfl ?_
      refine bo_iload_n hx dX11_odds_147 rfl 1 rfl ?_
      refine bo_seq 161 (fun a => [(0, .ref (bo_a x 135)), (1, .int f1), (3, .int w3)]) (fun a => [.int a, .int w2]) (fun a => σ) ?_ (fun a14 => ?_)
      · refine bo_icmp_lt hx 160 dX11_odds_148 (by decide) ?_ ?_
        · refine bo_iconst (v := 0) hx dX11_odds_160 (by decide) ?_
          refine bo_sub (L' := [(0, .ref (bo_a x 135)), (1, .int f1), (3, .int w3)]) [0, 1, 3] rfl ?_
          exact bo_arr (fun h => h)
        · refine bo_aload_n hx dX11_odds_151 rfl 0 rfl ?_
          refine gf_X11_83 hx dX11_odds_152 ?_
          refine bo_iload_n hx dX11_odds_155 rfl 3 rfl ?_
          refine bo_iald hx bo_c_159 dX11_odds_156 (fun v15 => ?_)
          refine bo_goto hx 161 dX11_odds_157 (by decide) ?_
          refine bo_sub (L' := [(0, .ref (bo_a x 135)), (1, .int f1), (3, .int w3)]) [0, 1, 3] rfl ?_
          exact bo_arr (fun h => h)
      · refine bo_iadd hx dX11_odds_161 ?_
        refine bo_istore_n (L' := [(2, .int (w2 + a14)), (0, .ref (bo_a x 135)), (1, .int f1), (3, .int w3)]) hx dX11_odds_162 rfl (by decide) rfl ?_
        refine bo_iinc (L' := [(3, .int (w3 + 1)), (2, .int (w2 + a14)), (0, .ref (bo_a x 135)), (1, .int f1)]) (w := (w3 + 1)) hx dX11_odds_163 3 rfl rfl (by decide) rfl ?_
        refine bo_goto hx 139 dX11_odds_166 (by decide) ?_
        refine bo_sub (L' := [(0, .ref (bo_a x 135)), (1, .int f1), (2, .int (w2 + a14)), (3, .int (w3 + 1))]) [2, 3, 1, 0] rfl ?_
        exact ih (w2 + a14) (w3 + 1)
theorem bX11_odds (x : bo_X) (hx : bo_OK x cX11_odds RX11 5 2 44) (σ : bo_M) (p1 : Int32) : bo_D x 0 [(0, .ref (bo_a x 135)), (1, .int p1)] [] σ (mX11_odds σ p1) (bo_Rw x cX11_odds false) := by
  unfold mX11_odds
  refine bo_iload_n hx dX11_odds_0 rfl 1 rfl ?_
  refine bo_i2l hx dX11_odds_1 ?_
  refine bo_lconst (v := 0) hx dX11_odds_2 (by decide) ?_
  refine bo_ldc2 (v := 16) hx dX11_odds_3 wl_X11_315 ?_
  refine bo_goR (z := true) hx (fun rr hh => bo_runS (As := [.long (Int32.toInt64 p1), .long 0, .long 16]) (S := []) hx dX11_odds_6 lk_X11_118 ms_X11_in (kX11_in (bo_l x) (bo_g x) hx.inj σ (Int32.toInt64 p1) 0 16 rr hh) ⟨by decide, by decide⟩ rfl rfl (Nat.le_of_ble_eq_true rfl)) (fun v1 hv1 => ?_)
  refine bo_if_ne hx 15 dX11_odds_9 (by decide) ?_ ?_
  · refine bo_aload_n hx dX11_odds_15 rfl 0 rfl ?_
    refine gf_X11_111 hx dX11_odds_16 ?_
    refine bo_if_ne hx 26 dX11_odds_19 (by decide) ?_ ?_
    · refine bo_iconst (v := 0) hx dX11_odds_26 (by decide) ?_
      refine bo_istore_n (L' := [(2, .int 0), (0, .ref (bo_a x 135)), (1, .int p1)]) hx dX11_odds_27 rfl (by decide) rfl ?_
      refine bo_sub (L' := [(0, .ref (bo_a x 135)), (1, .int p1), (2, .int 0)]) [1, 2, 0] rfl ?_
      refine bo_seq 47 (fun a => [(0, .ref (bo_a x 135)), (1, .int p1)]) (fun a => []) (fun a => a) (lX11_odds_L28 x hx p1 bo_fuel 0 σ) (fun a3 => ?_)
      refine bo_aload_n hx dX11_odds_47 rfl 0 rfl ?_
      refine gf_X11_83 hx dX11_odds_48 ?_
      refine bo_iconst (v := 0) hx dX11_odds_51 (by decide) ?_
      refine bo_ldcw (v := 1000000) hx dX11_odds_52 wc_X11_343 ?_
      refine bo_iast hx bo_c_159 dX11_odds_55 (fun σ4 => ?_)
      refine bo_iconst (v := 0) hx dX11_odds_56 (by decide) ?_
      refine bo_istore_n (L' := [(2, .int 0), (0, .ref (bo_a x 135)), (1, .int p1)]) hx dX11_odds_57 rfl (by decide) rfl ?_
      refine bo_sub (L' := [(0, .ref (bo_a x 135)), (1, .int p1), (2, .int 0)]) [1, 2, 0] rfl ?_
      refine bo_seq 135 (fun a => [(0, .ref (bo_a x 135)), (1, .int p1)]) (fun a => []) (fun a => a) (lX11_odds_L58 x hx p1 bo_fuel 0 σ4) (fun a13 => ?_)
      refine bo_iconst (v := 0) hx dX11_odds_135 (by decide) ?_
      refine bo_istore_n (L' := [(2, .int 0), (0, .ref (bo_a x 135)), (1, .int p1)]) hx dX11_odds_136 rfl (by decide) rfl ?_
      refine bo_iconst (v := 0) hx dX11_odds_137 (by decide) ?_
      refine bo_istore_n (L' := [(3, .int 0), (2, .int 0), (0, .ref (bo_a x 135)), (1, .int p1)]) hx dX11_odds_138 rfl (by decide) rfl ?_
      refine bo_sub (L' := [(0, .ref (bo_a x 135)), (1, .int p1), (2, .int 0), (3, .int 0)]) [2, 3, 1, 0] rfl ?_
      refine bo_seq 169 (fun a => [(2, .int a)]) (fun a => []) (fun a => a13) (lX11_odds_L139 x hx a13 p1 bo_fuel 0 0) (fun a16 => ?_)
      refine bo_iload_n hx dX11_odds_169 rfl 0 rfl ?_
      exact bo_retw dX11_odds_170 (fun h => by cases h)
    · refine bo_ldcw (v := (-1000000003)) hx dX11_odds_22 wc_X11_277 ?_
      exact bo_retw dX11_odds_25 (fun h => by cases h)
  · refine bo_ldc (v := (-1000000002)) hx dX11_odds_12 wc_X11_127 ?_
    exact bo_retw dX11_odds_14 (fun h => by cases h)
theorem kX11_odds (l : Launch) (g : bo_G) (hi : bo_inj g) (σ : bo_M) (p1 : Int32) : bo_CW l g yX11_odds cX11_odds 5 (some .int) 2 44 [.ref (g.2.2 135), .int p1] σ false (mX11_odds σ p1) :=
  bo_metW rfl (Or.inl ⟨rfl, rfl⟩) (by decide) rfl hi (Nat.le_of_ble_eq_true rfl) (fun x e1 e2 hx => by subst e1; subst e2; exact bX11_odds x hx σ p1)
-- BellRopeModel.most
theorem dX11_most_0 : decode cX11_most 0 = .ok (.iconst (-1), 1) := by decide +kernel
theorem dX11_most_1 : decode cX11_most 1 = .ok (.istore_n 1, 1) := by decide +kernel
theorem dX11_most_2 : decode cX11_most 2 = .ok (.iconst 0, 1) := by decide +kernel
theorem dX11_most_3 : decode cX11_most 3 = .ok (.istore_n 2, 1) := by decide +kernel
theorem dX11_most_4 : decode cX11_most 4 = .ok (.iconst 0, 1) := by decide +kernel
theorem dX11_most_5 : decode cX11_most 5 = .ok (.istore_n 3, 1) := by decide +kernel
theorem dX11_most_6 : decode cX11_most 6 = .ok (.iload_n 3, 1) := by decide +kernel
theorem dX11_most_7 : decode cX11_most 7 = .ok (.aload_n 0, 1) := by decide +kernel
theorem dX11_most_8 : decode cX11_most 8 = .ok (.getfield 115, 3) := by decide +kernel
theorem dX11_most_14 : decode cX11_most 14 = .ok (.aload_n 0, 1) := by decide +kernel
theorem dX11_most_15 : decode cX11_most 15 = .ok (.getfield 34, 3) := by decide +kernel
theorem dX11_most_18 : decode cX11_most 18 = .ok (.bipush 7, 2) := by decide +kernel
theorem dX11_most_20 : decode cX11_most 20 = .ok (.iload_n 3, 1) := by decide +kernel
theorem dX11_most_21 : decode cX11_most 21 = .ok (.iadd, 1) := by decide +kernel
theorem dX11_most_22 : decode cX11_most 22 = .ok (.iaload, 1) := by decide +kernel
theorem dX11_most_23 : decode cX11_most 23 = .ok (.iload_n 2, 1) := by decide +kernel
theorem dX11_most_31 : decode cX11_most 31 = .ok (.iload_n 1, 1) := by decide +kernel
theorem dX11_most_27 : decode cX11_most 27 = .ok (.iload_n 3, 1) := by decide +kernel
theorem dX11_most_28 : decode cX11_most 28 = .ok (.goto 4, 3) := by decide +kernel
theorem dX11_most_24 : decode cX11_most 24 = .ok (.if_icmp .le 7, 3) := by decide +kernel
theorem dX11_most_32 : decode cX11_most 32 = .ok (.istore_n 1, 1) := by decide +kernel
theorem dX11_most_33 : decode cX11_most 33 = .ok (.aload_n 0, 1) := by decide +kernel
theorem dX11_most_34 : decode cX11_most 34 = .ok (.getfield 34, 3) := by decide +kernel
theorem dX11_most_37 : decode cX11_most 37 = .ok (.bipush 7, 2) := by decide +kernel
theorem dX11_most_39 : decode cX11_most 39 = .ok (.iload_n 3, 1) := by decide +kernel
theorem dX11_most_40 : decode cX11_most 40 = .ok (.iadd, 1) := by decide +kernel
theorem dX11_most_41 : decode cX11_most 41 = .ok (.iaload, 1) := by decide +kernel
theorem dX11_most_42 : decode cX11_most 42 = .ok (.iload_n 2, 1) := by decide +kernel
theorem dX11_most_58 : decode cX11_most 58 = .ok (.iload_n 2, 1) := by decide +kernel
theorem dX11_most_46 : decode cX11_most 46 = .ok (.aload_n 0, 1) := by decide +kernel
theorem dX11_most_47 : decode cX11_most 47 = .ok (.getfield 34, 3) := by decide +kernel
theorem dX11_most_50 : decode cX11_most 50 = .ok (.bipush 7, 2) := by decide +kernel
theorem dX11_most_52 : decode cX11_most 52 = .ok (.iload_n 3, 1) := by decide +kernel
theorem dX11_most_53 : decode cX11_most 53 = .ok (.iadd, 1) := by decide +kernel
theorem dX11_most_54 : decode cX11_most 54 = .ok (.iaload, 1) := by decide +kernel
theorem dX11_most_55 : decode cX11_most 55 = .ok (.goto 4, 3) := by decide +kernel
theorem dX11_most_43 : decode cX11_most 43 = .ok (.if_icmp .le 15, 3) := by decide +kernel
theorem dX11_most_59 : decode cX11_most 59 = .ok (.istore_n 2, 1) := by decide +kernel
theorem dX11_most_60 : decode cX11_most 60 = .ok (.iinc 3 1, 3) := by decide +kernel
theorem dX11_most_63 : decode cX11_most 63 = .ok (.goto (-57), 3) := by decide +kernel
theorem dX11_most_11 : decode cX11_most 11 = .ok (.if_icmp .ge 55, 3) := by decide +kernel
theorem dX11_most_66 : decode cX11_most 66 = .ok (.iload_n 1, 1) := by decide +kernel
theorem dX11_most_67 : decode cX11_most 67 = .ok (.ireturn, 1) := by decide +kernel
theorem lX11_most_L6 (x : bo_X) (hx : bo_OK x cX11_most RX11 4 0 0) (σ : bo_M) : ∀ (n : Nat) (w1 : Int32) (w2 : Int32) (w3 : Int32), bo_D x 6 [(0, .ref (bo_a x 135)), (1, .int w1), (2, .int w2), (3, .int w3)] [] σ (mX11_most_L6 σ n w1 w2 w3) (fun a => bo_N x 66 [(1, .int a)] [] σ) := by
  intro n
  induction n with
  | zero => intro w1 w2 w3; exact bo_none
  | succ n ih =>
    intro w1 w2 w3
    rw [mX11_most_L6]
    refine bo_iload_n hx dX11_most_6 rfl 3 rfl ?_
    refine bo_aload_n hx dX11_most_7 rfl 0 rfl ?_
    refine gf_X11_115 hx dX11_most_8 ?_
    refine bo_icmp_ge hx 66 dX11_most_11 (by decide) ?_ ?_
    · refine bo_sub (L' := [(1, .int w1)]) [1] rfl ?_
      exact bo_arr (fun h => h)
    · refine bo_aload_n hx dX11_most_14 rfl 0 rfl ?_
      refine gf_X11_34 hx dX11_most_15 ?_
      refine bo_bipush (v := 7) hx dX11_most_18 (by decide) ?_
      refine bo_iload_n hx dX11_most_20 rfl 3 rfl ?_
      refine bo_iadd hx dX11_most_21 ?_
      refine bo_iald hx bo_c_144 dX11_most_22 (fun v1 => ?_)
      refine bo_iload_n hx dX11_most_23 rfl 2 rfl ?_
      refine bo_seq 32 (fun a => [(0, .ref (bo_a x 135)), (2, .int w2), (3, .int w3)]) (fun a => [.int a]) (fun a => σ) ?_ (fun a2 => ?_)
      · refine bo_icmp_le hx 31 dX11_most_24 (by decide) ?_ ?_
        · refine bo_iload_n hx dX11_most_31 rfl 1 rfl ?_
          refine bo_sub (L' := [(0, .ref (bo_a x 135)), (2, .int w2), (3, .int w3)]) [0, 2, 3] rfl ?_
          exact bo_arr (fun h => h)
        · refine bo_iload_n hx dX11_most_27 rfl 3 rfl ?_
          refine bo_goto hx 32 dX11_most_28 (by decide) ?_
          refine bo_sub (L' := [(0, .ref (bo_a x 135)), (2, .int w2), (3, .int w3)]) [0, 2, 3] rfl ?_
          exact bo_arr (fun h => h)
      · refine bo_istore_n (L' := [(1, .int a2), (0, .ref (bo_a x 135)), (2, .int w2), (3, .int w3)]) hx dX11_most_32 rfl (by decide) rfl ?_
        refine bo_aload_n hx dX11_most_33 rfl 1 rfl ?_
        refine gf_X11_34 hx dX11_most_34 ?_
        refine bo_bipush (v := 7) hx dX11_most_37 (by decide) ?_
        refine bo_iload_n hx dX11_most_39 rfl 3 rfl ?_
        refine bo_iadd hx dX11_most_40 ?_
        refine bo_iald hx bo_c_144 dX11_most_41 (fun v3 => ?_)
        refine bo_iload_n hx dX11_most_42 rfl 2 rfl ?_
        refine bo_seq 59 (fun a => [(0, .ref (bo_a x 135)), (1, .int a2), (3, .int w3)]) (fun a => [.int a]) (fun a => σ) ?_ (fun a4 => ?_)
        · refine bo_icmp_le hx 58 dX11_most_43 (by decide) ?_ ?_
          · refine bo_iload_n hx dX11_most_58 rfl 2 rfl ?_
            refine bo_sub (L' := [(0, .ref (bo_a x 135)), (1, .int a2), (3, .int w3)]) [1, 0, 3] rfl ?_
            exact bo_arr (fun h => h)
          · refine bo_aload_n hx dX11_most_46 rfl 1 rfl ?_
            refine gf_X11_34 hx dX11_most_47 ?_
            refine bo_bipush (v := 7) hx dX11_most_50 (by decide) ?_
            refine bo_iload_n hx dX11_most_52 rfl 3 rfl ?_
            refine bo_iadd hx dX11_most_53 ?_
            refine bo_iald hx bo_c_144 dX11_most_54 (fun v5 => ?_)
            refine bo_goto hx 59 dX11_most_55 (by decide) ?_
            refine bo_sub (L' := [(0, .ref (bo_a x 135)), (1, .int a2), (3, .int w3)]) [1, 0, 3] rfl ?_
            exact bo_arr (fun h => h)
        · refine bo_istore_n (L' := [(2, .int a4), (0, .ref (bo_a x 135)), (1, .int a2), (3, .int w3)]) hx dX11_most_59 rfl (by decide) rfl ?_
          refine bo_iinc (L' := [(3, .int (w3 + 1)), (2, .int a4), (0, .ref (bo_a x 135)), (1, .int a2)]) (w := (w3 + 1)) hx dX11_most_60 3 rfl rfl (by decide) rfl ?_
          refine bo_goto hx 6 dX11_most_63 (by decide) ?_
          refine bo_sub (L' := [(0, .ref (bo_a x 135)), (1, .int a2), (2, .int a4), (3, .int (w3 + 1))]) [2, 3, 1, 0] rfl ?_
          exact ih a2 a4 (w3 + 1)
theorem bX11_most (x : bo_X) (hx : bo_OK x cX11_most RX11 4 0 0) (σ : bo_M) : bo_D x 0 [(0, .ref (bo_a x 135))] [] σ (mX11_most σ) (bo_Ri x cX11_most σ false) := by
  unfold mX11_most
  refine bo_iconst (v := (-1)) hx dX11_most_0 (by decide) ?_
  refine bo_istore_n (L' := [(1, .int (-1)), (0, .ref (bo_a x 135))]) hx dX11_most_1 rfl (by decide) rfl ?_
  refine bo_iconst (v := 0) hx dX11_most_2 (by decide) ?_
  refine bo_istore_n (L' := [(2, .int 0), (1, .int (-1)), (0, .ref (bo_a x 135))]) hx dX11_most_3 rfl (by decide) rfl ?_
  refine bo_iconst (v := 0) hx dX11_most_4 (by decide) ?_
  refine bo_istore_n (L' := [(3, .int 0), (2, .int 0), (1, .int (-1)), (0, .ref (bo_a x 135))]) hx dX11_most_5 rfl (by decide) rfl ?_
  refine bo_sub (L' := [(0, .ref (bo_a x 135)), (1, .int (-1)), (2, .int 0), (3, .int 0)]) [3, 2, 1, 0] rfl ?_
  refine bo_seq 66 (fun a => [(1, .int a)]) (fun a => []) (fun a => σ) (lX11_most_L6 x hx σ bo_fuel (-1) 0 0) (fun a6 => ?_)
  refine bo_iload_n hx dX11_most_66 rfl 0 rfl ?_
  exact bo_ret dX11_most_67 (fun h => by cases h)
theorem kX11_most (l : Launch) (g : bo_G) (hi : bo_inj g) (σ : bo_M) : bo_CR l g yX11_most cX11_most 4 (some .int) 0 0 [.ref (g.2.2 135)] σ false (mX11_most σ) :=
  bo_metR rfl (Or.inl ⟨rfl, rfl⟩) (by decide) rfl hi (Nat.le_of_ble_eq_true rfl) (fun x e1 e2 hx => by subst e1; subst e2; exact bX11_most x hx σ)
-- BellRopeModel.common
theorem dX11_common_0 : decode cX11_common 0 = .ok (.iload_n 0, 1) := by decide +kernel
theorem dX11_common_1 : decode cX11_common 1 = .ok (.istore_n 2, 1) := by decide +kernel
theorem dX11_common_2 : decode cX11_common 2 = .ok (.iload_n 1, 1) := by decide +kernel
theorem dX11_common_3 : decode cX11_common 3 = .ok (.istore_n 3, 1) := by decide +kernel
theorem dX11_common_4 : decode cX11_common 4 = .ok (.iload_n 3, 1) := by decide +kernel
theorem dX11_common_8 : decode cX11_common 8 = .ok (.iload_n 2, 1) := by decide +kernel
theorem dX11_common_9 : decode cX11_common 9 = .ok (.iload_n 3, 1) := by decide +kernel
theorem dX11_common_10 : decode cX11_common 10 = .ok (.irem, 1) := by decide +kernel
theorem dX11_common_11 : decode cX11_common 11 = .ok (.istore 4, 2) := by decide +kernel
theorem dX11_common_13 : decode cX11_common 13 = .ok (.iload_n 3, 1) := by decide +kernel
theorem dX11_common_14 : decode cX11_common 14 = .ok (.istore_n 2, 1) := by decide +kernel
theorem dX11_common_15 : decode cX11_common 15 = .ok (.iload 4, 2) := by decide +kernel
theorem dX11_common_17 : decode cX11_common 17 = .ok (.istore_n 3, 1) := by decide +kernel
theorem dX11_common_18 : decode cX11_common 18 = .ok (.goto (-14), 3) := by decide +kernel
theorem dX11_common_5 : decode cX11_common 5 = .ok (.ifCond .le 16, 3) := by decide +kernel
theorem dX11_common_21 : decode cX11_common 21 = .ok (.iload_n 2, 1) := by decide +kernel
theorem dX11_common_22 : decode cX11_common 22 = .ok (.ireturn, 1) := by decide +kernel
theorem lX11_common_L4 (x : bo_X) (hx : bo_OK x cX11_common RX11 5 0 0) (σ : bo_M) : ∀ (n : Nat) (w2 : Int32) (w3 : Int32), bo_D x 4 [(2, .int w2), (3, .int w3)] [] σ (mX11_common_L4 σ n w2 w3) (fun a => bo_N x 21 [(2, .int a)] [] σ) := by
  intro n
  induction n with
  | zero => intro w2 w3; exact bo_none
  | succ n ih =>
    intro w2 w3
    rw [mX11_common_L4]
    refine bo_iload_n hx dX11_common_4 rfl 1 rfl ?_
    refine bo_if_le hx 21 dX11_common_5 (by decide) ?_ ?_
    · refine bo_sub (L' := [(2, .int w2)]) [0] rfl ?_
      exact bo_arr (fun h => h)
    · refine bo_iload_n hx dX11_common_8 rfl 0 rfl ?_
      refine bo_iload_n hx dX11_common_9 rfl 1 rfl ?_
      refine bo_irem hx dX11_common_10 (fun v1 => ?_)
      refine bo_istore (L' := [(4, .int v1), (2, .int w2), (3, .int w3)]) hx dX11_common_11 (by decide) rfl ?_
      refine bo_iload_n hx dX11_common_13 rfl 2 rfl ?_
      refine bo_istore_n (L' := [(2, .int w3), (4, .int v1), (3, .int w3)]) hx dX11_common_14 rfl (by decide) rfl ?_
      refine bo_iload hx dX11_common_15 1 rfl ?_
      refine bo_istore_n (L' := [(3, .int v1), (2, .int w3), (4, .int v1)]) hx dX11_common_17 rfl (by decide) rfl ?_
      refine bo_goto hx 4 dX11_common_18 (by decide) ?_
      refine bo_sub (L' := [(2, .int w3), (3, .int v1)]) [1, 0] rfl ?_
      exact ih w3 v1
theorem bX11_common (x : bo_X) (hx : bo_OK x cX11_common RX11 5 0 0) (σ : bo_M) (p0 : Int32) (p1 : Int32) : bo_D x 0 [(0, .int p0), (1, .int p1)] [] σ (mX11_common σ p0 p1) (bo_Ri x cX11_common σ false) := by
  unfold mX11_common
  refine bo_iload_n hx dX11_common_0 rfl 0 rfl ?_
  refine bo_istore_n (L' := [(2, .int p0), (0, .int p0), (1, .int p1)]) hx dX11_common_1 rfl (by decide) rfl ?_
  refine bo_iload_n hx dX11_common_2 rfl 2 rfl ?_
  refine bo_istore_n (L' := [(3, .int p1), (2, .int p0), (0, .int p0), (1, .int p1)]) hx dX11_common_3 rfl (by decide) rfl ?_
  refine bo_sub (L' := [(2, .int p0), (3, .int p1)]) [1, 0] rfl ?_
  refine bo_seq 21 (fun a => [(2, .int a)]) (fun a => []) (fun a => σ) (lX11_common_L4 x hx σ bo_fuel p0 p1) (fun a2 => ?_)
  refine bo_iload_n hx dX11_common_21 rfl 0 rfl ?_
  exact bo_ret dX11_common_22 (fun h => by cases h)
theorem kX11_common (l : Launch) (g : bo_G) (hi : bo_inj g) (σ : bo_M) (p0 : Int32) (p1 : Int32) : bo_CR l g yX11_common cX11_common 5 (some .int) 0 0 [.int p0, .int p1] σ false (mX11_common σ p0 p1) :=
  bo_metR rfl (Or.inl ⟨rfl, rfl⟩) (by decide) rfl hi (Nat.le_of_ble_eq_true rfl) (fun x e1 e2 hx => by subst e1; subst e2; exact bX11_common x hx σ p0 p1)
-- BellRopeModel.round
theorem dX11_round_0 : decode cX11_round 0 = .ok (.lconst 1, 1) := by decide +kernel
theorem dX11_round_1 : decode cX11_round 1 = .ok (.lstore_n 1, 1) := by decide +kernel
theorem dX11_round_2 : decode cX11_round 2 = .ok (.iconst 0, 1) := by decide +kernel
theorem dX11_round_3 : decode cX11_round 3 = .ok (.istore_n 3, 1) := by decide +kernel
theorem dX11_round_4 : decode cX11_round 4 = .ok (.iload_n 3, 1) := by decide +kernel
theorem dX11_round_5 : decode cX11_round 5 = .ok (.aload_n 0, 1) := by decide +kernel
theorem dX11_round_6 : decode cX11_round 6 = .ok (.getfield 115, 3) := by decide +kernel
theorem dX11_round_65 : decode cX11_round 65 = .ok (.lload_n 1, 1) := by decide +kernel
theorem dX11_round_66 : decode cX11_round 66 = .ok (.l2i, 1) := by decide +kernel
theorem dX11_round_67 : decode cX11_round 67 = .ok (.ireturn, 1) := by decide +kernel
theorem dX11_round_12 : decode cX11_round 12 = .ok (.aload_n 0, 1) := by decide +kernel
theorem dX11_round_13 : decode cX11_round 13 = .ok (.getfield 34, 3) := by decide +kernel
theorem dX11_round_16 : decode cX11_round 16 = .ok (.iconst 0, 1) := by decide +kernel
theorem dX11_round_17 : decode cX11_round 17 = .ok (.iload_n 3, 1) := by decide +kernel
theorem dX11_round_18 : decode cX11_round 18 = .ok (.iadd, 1) := by decide +kernel
theorem dX11_round_19 : decode cX11_round 19 = .ok (.iaload, 1) := by decide +kernel
theorem dX11_round_20 : decode cX11_round 20 = .ok (.iconst 1, 1) := by decide +kernel
theorem dX11_round_24 : decode cX11_round 24 = .ok (.lload_n 1, 1) := by decide +kernel
theorem dX11_round_25 : decode cX11_round 25 = .ok (.lload_n 1, 1) := by decide +kernel
theorem dX11_round_26 : decode cX11_round 26 = .ok (.l2i, 1) := by decide +kernel
theorem dX11_round_27 : decode cX11_round 27 = .ok (.aload_n 0, 1) := by decide +kernel
theorem dX11_round_28 : decode cX11_round 28 = .ok (.getfield 7, 3) := by decide +kernel
theorem dX11_round_31 : decode cX11_round 31 = .ok (.iload_n 3, 1) := by decide +kernel
theorem dX11_round_32 : decode cX11_round 32 = .ok (.iaload, 1) := by decide +kernel
theorem dX11_round_33 : decode cX11_round 33 = .ok (.invokestatic 344, 3) := by decide +kernel
theorem dX11_round_36 : decode cX11_round 36 = .ok (.i2l, 1) := by decide +kernel
theorem dX11_round_37 : decode cX11_round 37 = .ok (.ldiv, 1) := by decide +kernel
theorem dX11_round_38 : decode cX11_round 38 = .ok (.aload_n 0, 1) := by decide +kernel
theorem dX11_round_39 : decode cX11_round 39 = .ok (.getfield 7, 3) := by decide +kernel
theorem dX11_round_42 : decode cX11_round 42 = .ok (.iload_n 3, 1) := by decide +kernel
theorem dX11_round_43 : decode cX11_round 43 = .ok (.iaload, 1) := by decide +kernel
theorem dX11_round_44 : decode cX11_round 44 = .ok (.i2l, 1) := by decide +kernel
theorem dX11_round_45 : decode cX11_round 45 = .ok (.lmul, 1) := by decide +kernel
theorem dX11_round_46 : decode cX11_round 46 = .ok (.lstore_n 1, 1) := by decide +kernel
theorem dX11_round_21 : decode cX11_round 21 = .ok (.if_icmp .ne 26, 3) := by decide +kernel
theorem dX11_round_47 : decode cX11_round 47 = .ok (.lload_n 1, 1) := by decide +kernel
theorem dX11_round_48 : decode cX11_round 48 = .ok (.ldc2_w 347, 3) := by decide +kernel
theorem dX11_round_51 : decode cX11_round 51 = .ok (.lcmp, 1) := by decide +kernel
theorem dX11_round_59 : decode cX11_round 59 = .ok (.iinc 3 1, 3) := by decide +kernel
theorem dX11_round_62 : decode cX11_round 62 = .ok (.goto (-58), 3) := by decide +kernel
theorem dX11_round_55 : decode cX11_round 55 = .ok (.ldc_w 349, 3) := by decide +kernel
theorem dX11_round_58 : decode cX11_round 58 = .ok (.ireturn, 1) := by decide +kernel
theorem dX11_round_52 : decode cX11_round 52 = .ok (.ifCond .le 7, 3) := by decide +kernel
theorem dX11_round_9 : decode cX11_round 9 = .ok (.if_icmp .ge 56, 3) := by decide +kernel
theorem lX11_round_L4 (x : bo_X) (hx : bo_OK x cX11_round RX11 4 1 24) (σ : bo_M) : ∀ (n : Nat) (w1 : Int64) (w3 : Int32), bo_D x 4 [(0, .ref (bo_a x 135)), (1, .long w1), (3, .int w3)] [] σ (mX11_round_L4 σ n w1 w3) (bo_Ri x cX11_round σ false) := by
  intro n
  induction n with
  | zero => intro w1 w3; exact bo_none
  | succ n ih =>
    intro w1 w3
    rw [mX11_round_L4]
    refine bo_iload_n hx dX11_round_4 rfl 2 rfl ?_
    refine bo_aload_n hx dX11_round_5 rfl 0 rfl ?_
    refine gf_X11_115 hx dX11_round_6 ?_
    refine bo_icmp_ge hx 65 dX11_round_9 (by decide) ?_ ?_
    · refine bo_lload_n hx dX11_round_65 rfl 1 rfl ?_
      refine bo_l2i hx dX11_round_66 ?_
      exact bo_ret dX11_round_67 (fun h => by cases h)
    · refine bo_aload_n hx dX11_round_12 rfl 0 rfl ?_
      refine gf_X11_34 hx dX11_round_13 ?_
      refine bo_iconst (v := 0) hx dX11_round_16 (by decide) ?_
      refine bo_iload_n hx dX11_round_17 rfl 2 rfl ?_
      refine bo_iadd hx dX11_round_18 ?_
      refine bo_iald hx bo_c_144 dX11_round_19 (fun v1 => ?_)
      refine bo_iconst (v := 1) hx dX11_round_20 (by decide) ?_
      refine bo_seq 47 (fun a => [(0, .ref (bo_a x 135)), (1, .long a), (3, .int w3)]) (fun a => []) (fun a => σ) ?_ (fun a2 => ?_)
      · refine bo_icmp_ne hx 47 dX11_round_21 (by decide) ?_ ?_
        · exact bo_arr (fun h => h)
        · refine bo_lload_n hx dX11_round_24 rfl 1 rfl ?_
          refine bo_lload_n hx dX11_round_25 rfl 1 rfl ?_
          refine bo_l2i hx dX11_round_26 ?_
          refine bo_aload_n hx dX11_round_27 rfl 0 rfl ?_
          refine gf_X11_7 hx dX11_round_28 ?_
          refine bo_iload_n hx dX11_round_31 rfl 2 rfl ?_
          refine bo_iald hx bo_c_136 dX11_round_32 (fun v3 => ?_)
          refine bo_goR (z := false) hx (fun rr hh => bo_runS (As := [.int (Int64.toInt32 w1), .int v3]) (S := [.long w1]) hx dX11_round_33 lk_X11_344 ms_X11_common (kX11_common (bo_l x) (bo_g x) hx.inj σ (Int64.toInt32 w1) v3 rr hh) ⟨by decide, by decide⟩ rfl rfl (Nat.le_of_ble_eq_true rfl)) (fun v4 hv4 => ?_)
          refine bo_i2l hx dX11_round_36 ?_
          refine bo_ldiv hx dX11_round_37 (fun v5 => ?_)
          refine bo_aload_n hx dX11_round_38 rfl 0 rfl ?_
          refine gf_X11_7 hx dX11_round_39 ?_
          refine bo_iload_n hx dX11_round_42 rfl 2 rfl ?_
          refine bo_iald hx bo_c_136 dX11_round_43 (fun v6 => ?_)
          refine bo_i2l hx dX11_round_44 ?_
          refine bo_lmul hx dX11_round_45 ?_
          refine bo_lstore_n (L' := [(1, .long (v5 * (Int32.toInt64 v6))), (0, .ref (bo_a x 135)), (3, .int w3)]) hx dX11_round_46 rfl (by decide) rfl ?_
          refine bo_sub (L' := [(0, .ref (bo_a x 135)), (1, .long (v5 * (Int32.toInt64 v6))), (3, .int w3)]) [1, 0, 2] rfl ?_
          exact bo_arr (fun h => h)
      · refine bo_lload_n hx dX11_round_47 rfl 1 rfl ?_
        refine bo_ldc2 (v := 999999) hx dX11_round_48 wl_X11_347 ?_
        refine bo_lcmp hx dX11_round_51 ?_
        refine bo_if_le hx 59 dX11_round_52 (by decide) ?_ ?_
        · refine bo_iinc (L' := [(3, .int (w3 + 1)), (0, .ref (bo_a x 135)), (1, .long a2)]) (w := (w3 + 1)) hx dX11_round_59 2 rfl rfl (by decide) rfl ?_
          refine bo_goto hx 4 dX11_round_62 (by decide) ?_
          refine bo_sub (L' := [(0, .ref (bo_a x 135)), (1, .long a2), (3, .int (w3 + 1))]) [1, 2, 0] rfl ?_
          exact ih a2 (w3 + 1)
        · refine bo_ldcw (v := 999999) hx dX11_round_55 wc_X11_349 ?_
          exact bo_ret dX11_round_58 (fun h => by cases h)
theorem bX11_round (x : bo_X) (hx : bo_OK x cX11_round RX11 4 1 24) (σ : bo_M) : bo_D x 0 [(0, .ref (bo_a x 135))] [] σ (mX11_round σ) (bo_Ri x cX11_round σ false) := by
  unfold mX11_round
  refine bo_lconst (v := 1) hx dX11_round_0 (by decide) ?_
  refine bo_lstore_n (L' := [(1, .long 1), (0, .ref (bo_a x 135))]) hx dX11_round_1 rfl (by decide) rfl ?_
  refine bo_iconst (v := 0) hx dX11_round_2 (by decide) ?_
  refine bo_istore_n (L' := [(3, .int 0), (1, .long 1), (0, .ref (bo_a x 135))]) hx dX11_round_3 rfl (by decide) rfl ?_
  refine bo_sub (L' := [(0, .ref (bo_a x 135)), (1, .long 1), (3, .int 0)]) [2, 1, 0] rfl ?_
  exact lX11_round_L4 x hx σ bo_fuel 1 0
theorem kX11_round (l : Launch) (g : bo_G) (hi : bo_inj g) (σ : bo_M) : bo_CR l g yX11_round cX11_round 4 (some .int) 1 24 [.ref (g.2.2 135)] σ false (mX11_round σ) :=
  bo_metR rfl (Or.inl ⟨rfl, rfl⟩) (by decide) rfl hi (Nat.le_of_ble_eq_true rfl) (fun x e1 e2 hx => by subst e1; subst e2; exact bX11_round x hx σ)
-- BellRopeModel.isAhead
theorem dX11_isAhead_0 : decode cX11_isAhead 0 = .ok (.aload_n 0, 1) := by decide +kernel
theorem dX11_isAhead_1 : decode cX11_isAhead 1 = .ok (.getfield 34, 3) := by decide +kernel
theorem dX11_isAhead_4 : decode cX11_isAhead 4 = .ok (.bipush 7, 2) := by decide +kernel
theorem dX11_isAhead_6 : decode cX11_isAhead 6 = .ok (.iload_n 1, 1) := by decide +kernel
theorem dX11_isAhead_7 : decode cX11_isAhead 7 = .ok (.iadd, 1) := by decide +kernel
theorem dX11_isAhead_8 : decode cX11_isAhead 8 = .ok (.iaload, 1) := by decide +kernel
theorem dX11_isAhead_9 : decode cX11_isAhead 9 = .ok (.aload_n 0, 1) := by decide +kernel
theorem dX11_isAhead_10 : decode cX11_isAhead 10 = .ok (.getfield 34, 3) := by decide +kernel
theorem dX11_isAhead_13 : decode cX11_isAhead 13 = .ok (.bipush 7, 2) := by decide +kernel
theorem dX11_isAhead_15 : decode cX11_isAhead 15 = .ok (.iload_n 2, 1) := by decide +kernel
theorem dX11_isAhead_16 : decode cX11_isAhead 16 = .ok (.iadd, 1) := by decide +kernel
theorem dX11_isAhead_17 : decode cX11_isAhead 17 = .ok (.iaload, 1) := by decide +kernel
theorem dX11_isAhead_47 : decode cX11_isAhead 47 = .ok (.iconst 1, 1) := by decide +kernel
theorem dX11_isAhead_48 : decode cX11_isAhead 48 = .ok (.goto 4, 3) := by decide +kernel
theorem dX11_isAhead_52 : decode cX11_isAhead 52 = .ok (.ireturn, 1) := by decide +kernel
theorem dX11_isAhead_21 : decode cX11_isAhead 21 = .ok (.aload_n 0, 1) := by decide +kernel
theorem dX11_isAhead_22 : decode cX11_isAhead 22 = .ok (.getfield 34, 3) := by decide +kernel
theorem dX11_isAhead_25 : decode cX11_isAhead 25 = .ok (.bipush 7, 2) := by decide +kernel
theorem dX11_isAhead_27 : decode cX11_isAhead 27 = .ok (.iload_n 1, 1) := by decide +kernel
theorem dX11_isAhead_28 : decode cX11_isAhead 28 = .ok (.iadd, 1) := by decide +kernel
theorem dX11_isAhead_29 : decode cX11_isAhead 29 = .ok (.iaload, 1) := by decide +kernel
theorem dX11_isAhead_30 : decode cX11_isAhead 30 = .ok (.aload_n 0, 1) := by decide +kernel
theorem dX11_isAhead_31 : decode cX11_isAhead 31 = .ok (.getfield 34, 3) := by decide +kernel
theorem dX11_isAhead_34 : decode cX11_isAhead 34 = .ok (.bipush 7, 2) := by decide +kernel
theorem dX11_isAhead_36 : decode cX11_isAhead 36 = .ok (.iload_n 2, 1) := by decide +kernel
theorem dX11_isAhead_37 : decode cX11_isAhead 37 = .ok (.iadd, 1) := by decide +kernel
theorem dX11_isAhead_38 : decode cX11_isAhead 38 = .ok (.iaload, 1) := by decide +kernel
theorem dX11_isAhead_51 : decode cX11_isAhead 51 = .ok (.iconst 0, 1) := by decide +kernel
theorem dX11_isAhead_42 : decode cX11_isAhead 42 = .ok (.iload_n 1, 1) := by decide +kernel
theorem dX11_isAhead_43 : decode cX11_isAhead 43 = .ok (.iload_n 2, 1) := by decide +kernel
theorem dX11_isAhead_44 : decode cX11_isAhead 44 = .ok (.if_icmp .ge 7, 3) := by decide +kernel
theorem dX11_isAhead_39 : decode cX11_isAhead 39 = .ok (.if_icmp .ne 12, 3) := by decide +kernel
theorem dX11_isAhead_18 : decode cX11_isAhead 18 = .ok (.if_icmp .gt 29, 3) := by decide +kernel
theorem bX11_isAhead (x : bo_X) (hx : bo_OK x cX11_isAhead RX11 3 0 0) (σ : bo_M) (p1 : Int32) (p2 : Int32) : bo_D x 0 [(0, .ref (bo_a x 135)), (1, .int p1), (2, .int p2)] [] σ (mX11_isAhead σ p1 p2) (bo_Ri x cX11_isAhead σ true) := by
  unfold mX11_isAhead
  refine bo_aload_n hx dX11_isAhead_0 rfl 0 rfl ?_
  refine gf_X11_34 hx dX11_isAhead_1 ?_
  refine bo_bipush (v := 7) hx dX11_isAhead_4 (by decide) ?_
  refine bo_iload_n hx dX11_isAhead_6 rfl 1 rfl ?_
  refine bo_iadd hx dX11_isAhead_7 ?_
  refine bo_iald hx bo_c_144 dX11_isAhead_8 (fun v1 => ?_)
  refine bo_aload_n hx dX11_isAhead_9 rfl 0 rfl ?_
  refine gf_X11_34 hx dX11_isAhead_10 ?_
  refine bo_bipush (v := 7) hx dX11_isAhead_13 (by decide) ?_
  refine bo_iload_n hx dX11_isAhead_15 rfl 2 rfl ?_
  refine bo_iadd hx dX11_isAhead_16 ?_
  refine bo_iald hx bo_c_144 dX11_isAhead_17 (fun v2 => ?_)
  refine bo_icmp_gt hx 47 dX11_isAhead_18 (by decide) ?_ ?_
  · refine bo_iconst (v := 1) hx dX11_isAhead_47 (by decide) ?_
    refine bo_goto hx 52 dX11_isAhead_48 (by decide) ?_
    exact bo_ret dX11_isAhead_52 (fun _ => bo_b_1)
  · refine bo_aload_n hx dX11_isAhead_21 rfl 0 rfl ?_
    refine gf_X11_34 hx dX11_isAhead_22 ?_
    refine bo_bipush (v := 7) hx dX11_isAhead_25 (by decide) ?_
    refine bo_iload_n hx dX11_isAhead_27 rfl 1 rfl ?_
    refine bo_iadd hx dX11_isAhead_28 ?_
    refine bo_iald hx bo_c_144 dX11_isAhead_29 (fun v3 => ?_)
    refine bo_aload_n hx dX11_isAhead_30 rfl 0 rfl ?_
    refine gf_X11_34 hx dX11_isAhead_31 ?_
    refine bo_bipush (v := 7) hx dX11_isAhead_34 (by decide) ?_
    refine bo_iload_n hx dX11_isAhead_36 rfl 2 rfl ?_
    refine bo_iadd hx dX11_isAhead_37 ?_
    refine bo_iald hx bo_c_144 dX11_isAhead_38 (fun v4 => ?_)
    refine bo_icmp_ne hx 51 dX11_isAhead_39 (by decide) ?_ ?_
    · refine bo_iconst (v := 0) hx dX11_isAhead_51 (by decide) ?_
      exact bo_ret dX11_isAhead_52 (fun _ => bo_b_0)
    · refine bo_iload_n hx dX11_isAhead_42 rfl 1 rfl ?_
      refine bo_iload_n hx dX11_isAhead_43 rfl 2 rfl ?_
      refine bo_icmp_ge hx 51 dX11_isAhead_44 (by decide) ?_ ?_
      · refine bo_iconst (v := 0) hx dX11_isAhead_51 (by decide) ?_
        exact bo_ret dX11_isAhead_52 (fun _ => bo_b_0)
      · refine bo_iconst (v := 1) hx dX11_isAhead_47 (by decide) ?_
        refine bo_goto hx 52 dX11_isAhead_48 (by decide) ?_
        exact bo_ret dX11_isAhead_52 (fun _ => bo_b_1)
theorem kX11_isAhead (l : Launch) (g : bo_G) (hi : bo_inj g) (σ : bo_M) (p1 : Int32) (p2 : Int32) : bo_CR l g yX11_isAhead cX11_isAhead 3 (some .boolean) 0 0 [.ref (g.2.2 135), .int p1, .int p2] σ true (mX11_isAhead σ p1 p2) :=
  bo_metR rfl (Or.inr ⟨rfl, rfl⟩) (by decide) rfl hi (Nat.le_of_ble_eq_true rfl) (fun x e1 e2 hx => by subst e1; subst e2; exact bX11_isAhead x hx σ p1 p2)
-- BellRopeModel.share
theorem dX11_share_0 : decode cX11_share 0 = .ok (.aload_n 0, 1) := by decide +kernel
theorem dX11_share_1 : decode cX11_share 1 = .ok (.iload_n 1, 1) := by decide +kernel
theorem dX11_share_2 : decode cX11_share 2 = .ok (.invokevirtual 258, 3) := by decide +kernel
theorem dX11_share_12 : decode cX11_share 12 = .ok (.aload_n 0, 1) := by decide +kernel
theorem dX11_share_13 : decode cX11_share 13 = .ok (.getfield 34, 3) := by decide +kernel
theorem dX11_share_16 : decode cX11_share 16 = .ok (.iconst 0, 1) := by decide +kernel
theorem dX11_share_17 : decode cX11_share 17 = .ok (.iload_n 1, 1) := by decide +kernel
theorem dX11_share_18 : decode cX11_share 18 = .ok (.iadd, 1) := by decide +kernel
theorem dX11_share_19 : decode cX11_share 19 = .ok (.iaload, 1) := by decide +kernel
theorem dX11_share_25 : decode cX11_share 25 = .ok (.iconst 0, 1) := by decide +kernel
theorem dX11_share_26 : decode cX11_share 26 = .ok (.istore_n 2, 1) := by decide +kernel
theorem dX11_share_27 : decode cX11_share 27 = .ok (.iconst 0, 1) := by decide +kernel
theorem dX11_share_28 : decode cX11_share 28 = .ok (.istore_n 3, 1) := by decide +kernel
theorem dX11_share_29 : decode cX11_share 29 = .ok (.iconst 0, 1) := by decide +kernel
theorem dX11_share_30 : decode cX11_share 30 = .ok (.istore 4, 2) := by decide +kernel
theorem dX11_share_32 : decode cX11_share 32 = .ok (.iconst 0, 1) := by decide +kernel
theorem dX11_share_33 : decode cX11_share 33 = .ok (.istore 5, 2) := by decide +kernel
theorem dX11_share_35 : decode cX11_share 35 = .ok (.iload 5, 2) := by decide +kernel
theorem dX11_share_37 : decode cX11_share 37 = .ok (.aload_n 0, 1) := by decide +kernel
theorem dX11_share_38 : decode cX11_share 38 = .ok (.getfield 115, 3) := by decide +kernel
theorem dX11_share_44 : decode cX11_share 44 = .ok (.iload_n 2, 1) := by decide +kernel
theorem dX11_share_45 : decode cX11_share 45 = .ok (.aload_n 0, 1) := by decide +kernel
theorem dX11_share_46 : decode cX11_share 46 = .ok (.getfield 34, 3) := by decide +kernel
theorem dX11_share_49 : decode cX11_share 49 = .ok (.bipush 7, 2) := by decide +kernel
theorem dX11_share_51 : decode cX11_share 51 = .ok (.iload 5, 2) := by decide +kernel
theorem dX11_share_53 : decode cX11_share 53 = .ok (.iadd, 1) := by decide +kernel
theorem dX11_share_54 : decode cX11_share 54 = .ok (.iaload, 1) := by decide +kernel
theorem dX11_share_55 : decode cX11_share 55 = .ok (.iadd, 1) := by decide +kernel
theorem dX11_share_56 : decode cX11_share 56 = .ok (.istore_n 2, 1) := by decide +kernel
theorem dX11_share_57 : decode cX11_share 57 = .ok (.iload_n 3, 1) := by decide +kernel
theorem dX11_share_58 : decode cX11_share 58 = .ok (.aload_n 0, 1) := by decide +kernel
theorem dX11_share_59 : decode cX11_share 59 = .ok (.getfield 34, 3) := by decide +kernel
theorem dX11_share_62 : decode cX11_share 62 = .ok (.iconst 0, 1) := by decide +kernel
theorem dX11_share_63 : decode cX11_share 63 = .ok (.iload 5, 2) := by decide +kernel
theorem dX11_share_65 : decode cX11_share 65 = .ok (.iadd, 1) := by decide +kernel
theorem dX11_share_66 : decode cX11_share 66 = .ok (.iaload, 1) := by decide +kernel
theorem dX11_share_67 : decode cX11_share 67 = .ok (.iadd, 1) := by decide +kernel
theorem dX11_share_68 : decode cX11_share 68 = .ok (.istore_n 3, 1) := by decide +kernel
theorem dX11_share_69 : decode cX11_share 69 = .ok (.iload 4, 2) := by decide +kernel
theorem dX11_share_71 : decode cX11_share 71 = .ok (.aload_n 0, 1) := by decide +kernel
theorem dX11_share_72 : decode cX11_share 72 = .ok (.getfield 34, 3) := by decide +kernel
theorem dX11_share_75 : decode cX11_share 75 = .ok (.iconst 0, 1) := by decide +kernel
theorem dX11_share_76 : decode cX11_share 76 = .ok (.iload 5, 2) := by decide +kernel
theorem dX11_share_78 : decode cX11_share 78 = .ok (.iadd, 1) := by decide +kernel
theorem dX11_share_79 : decode cX11_share 79 = .ok (.iaload, 1) := by decide +kernel
theorem dX11_share_80 : decode cX11_share 80 = .ok (.iconst 1, 1) := by decide +kernel
theorem dX11_share_104 : decode cX11_share 104 = .ok (.iconst 0, 1) := by decide +kernel
theorem dX11_share_84 : decode cX11_share 84 = .ok (.iload 5, 2) := by decide +kernel
theorem dX11_share_86 : decode cX11_share 86 = .ok (.iload_n 1, 1) := by decide +kernel
theorem dX11_share_90 : decode cX11_share 90 = .ok (.aload_n 0, 1) := by decide +kernel
theorem dX11_share_91 : decode cX11_share 91 = .ok (.iload 5, 2) := by decide +kernel
theorem dX11_share_93 : decode cX11_share 93 = .ok (.iload_n 1, 1) := by decide +kernel
theorem dX11_share_94 : decode cX11_share 94 = .ok (.invokevirtual 350, 3) := by decide +kernel
theorem dX11_share_100 : decode cX11_share 100 = .ok (.iconst 1, 1) := by decide +kernel
theorem dX11_share_101 : decode cX11_share 101 = .ok (.goto 4, 3) := by decide +kernel
theorem dX11_share_97 : decode cX11_share 97 = .ok (.ifCond .eq 7, 3) := by decide +kernel
theorem dX11_share_87 : decode cX11_share 87 = .ok (.if_icmp .eq 17, 3) := by decide +kernel
theorem dX11_share_81 : decode cX11_share 81 = .ok (.if_icmp .ne 23, 3) := by decide +kernel
theorem dX11_share_105 : decode cX11_share 105 = .ok (.iadd, 1) := by decide +kernel
theorem dX11_share_106 : decode cX11_share 106 = .ok (.istore 4, 2) := by decide +kernel
theorem dX11_share_108 : decode cX11_share 108 = .ok (.iinc 5 1, 3) := by decide +kernel
theorem dX11_share_111 : decode cX11_share 111 = .ok (.goto (-76), 3) := by decide +kernel
theorem dX11_share_41 : decode cX11_share 41 = .ok (.if_icmp .ge 73, 3) := by decide +kernel
theorem dX11_share_114 : decode cX11_share 114 = .ok (.iload_n 2, 1) := by decide +kernel
theorem dX11_share_115 : decode cX11_share 115 = .ok (.iload_n 3, 1) := by decide +kernel
theorem dX11_share_116 : decode cX11_share 116 = .ok (.idiv, 1) := by decide +kernel
theorem dX11_share_117 : decode cX11_share 117 = .ok (.iload 4, 2) := by decide +kernel
theorem dX11_share_119 : decode cX11_share 119 = .ok (.iload_n 2, 1) := by decide +kernel
theorem dX11_share_120 : decode cX11_share 120 = .ok (.iload_n 3, 1) := by decide +kernel
theorem dX11_share_121 : decode cX11_share 121 = .ok (.irem, 1) := by decide +kernel
theorem dX11_share_129 : decode cX11_share 129 = .ok (.iconst 0, 1) := by decide +kernel
theorem dX11_share_125 : decode cX11_share 125 = .ok (.iconst 1, 1) := by decide +kernel
theorem dX11_share_126 : decode cX11_share 126 = .ok (.goto 4, 3) := by decide +kernel
theorem dX11_share_122 : decode cX11_share 122 = .ok (.if_icmp .ge 7, 3) := by decide +kernel
theorem dX11_share_130 : decode cX11_share 130 = .ok (.iadd, 1) := by decide +kernel
theorem dX11_share_131 : decode cX11_share 131 = .ok (.ireturn, 1) := by decide +kernel
theorem dX11_share_23 : decode cX11_share 23 = .ok (.iconst 0, 1) := by decide +kernel
theorem dX11_share_24 : decode cX11_share 24 = .ok (.ireturn, 1) := by decide +kernel
theorem dX11_share_20 : decode cX11_share 20 = .ok (.ifCond .ne 5, 3) := by decide +kernel
theorem dX11_share_8 : decode cX11_share 8 = .ok (.ldc_w 261, 3) := by decide +kernel
theorem dX11_share_11 : decode cX11_share 11 = .ok (.ireturn, 1) := by decide +kernel
theorem dX11_share_5 : decode cX11_share 5 = .ok (.ifCond .ne 7, 3) := by decide +kernel
theorem lX11_share_L35 (x : bo_X) (hx : bo_OK x cX11_share RX11 6 2 46) (σ : bo_M) (f1 : Int32) : ∀ (n : Nat) (w2 : Int32) (w3 : Int32) (w4 : Int32) (w5 : Int32), bo_D x 35 [(0, .ref (bo_a x 135)), (1, .int f1), (2, .int w2), (3, .int w3), (4, .int w4), (5, .int w5)] [] σ (mX11_share_L35 σ f1 n w2 w3 w4 w5) (fun a => bo_N x 114 [(2, .int a.1), (3, .int a.2.1), (4, .int a.2.2)] [] σ) := by
  intro n
  induction n with
  | zero => intro w2 w3 w4 w5; exact bo_none
  | succ n ih =>
    intro w2 w3 w4 w5
    rw [mX11_share_L35]
    refine bo_iload hx dX11_share_35 5 rfl ?_
    refine bo_aload_n hx dX11_share_37 rfl 0 rfl ?_
    refine gf_X11_115 hx dX11_share_38 ?_
    refine bo_icmp_ge hx 114 dX11_share_41 (by decide) ?_ ?_
    · refine bo_sub (L' := [(2, .int w2), (3, .int w3), (4, .int w4)]) [2, 3, 4] rfl ?_
      exact bo_arr (fun h => h)
    · refine bo_iload_n hx dX11_share_44 rfl 2 rfl ?_
      refine bo_aload_n hx dX11_share_45 rfl 0 rfl ?_
      refine gf_X11_34 hx dX11_share_46 ?_
      refine bo_bipush (v := 7) hx dX11_share_49 (by decide) ?_
      refine bo_iload hx dX11_share_51 5 rfl ?_
      refine bo_iadd hx dX11_share_53 ?_
      refine bo_iald hx bo_c_144 dX11_share_54 (fun v3 => ?_)
      refine bo_iadd hx dX11_share_55 ?_
      refine bo_istore_n (L' := [(2, .int (w2 + v3)), (0, .ref (bo_a x 135)), (1, .int f1), (3, .int w3), (4, .int w4), (5, .int w5)]) hx dX11_share_56 rfl (by decide) rfl ?_
      refine bo_iload_n hx dX11_share_57 rfl 3 rfl ?_
      refine bo_aload_n hx dX11_share_58 rfl 1 rfl ?_
      refine gf_X11_34 hx dX11_share_59 ?_
      refine bo_iconst (v := 0) hx dX11_share_62 (by decide) ?_
      refine bo_iload hx dX11_share_63 5 rfl ?_
      refine bo_iadd hx dX11_share_65 ?_
      refine bo_iald hx bo_c_144 dX11_share_66 (fun v4 => ?_)
      refine bo_iadd hx dX11_share_67 ?_
      refine bo_istore_n (L' := [(3, .int (w3 + v4)), (2, .int (w2 + v3)), (0, .ref (bo_a x 135)), (1, .int f1), (4, .int w4), (5, .int w5)]) hx dX11_share_68 rfl (by decide) rfl ?_
      refine bo_iload hx dX11_share_69 4 rfl ?_
      refine bo_aload_n hx dX11_share_71 rfl 2 rfl ?_
      refine gf_X11_34 hx dX11_share_72 ?_
      refine bo_iconst (v := 0) hx dX11_share_75 (by decide) ?_
      refine bo_iload hx dX11_share_76 5 rfl ?_
      refine bo_iadd hx dX11_share_78 ?_
      refine bo_iald hx bo_c_144 dX11_share_79 (fun v5 => ?_)
      refine bo_iconst (v := 1) hx dX11_share_80 (by decide) ?_
      refine bo_seq 105 (fun a => [(0, .ref (bo_a x 135)), (1, .int f1), (2, .int (w2 + v3)), (3, .int (w3 + v4)), (5, .int w5)]) (fun a => [.int a, .int w4]) (fun a => σ) ?_ (fun a6 => ?_)
      · refine bo_icmp_ne hx 104 dX11_share_81 (by decide) ?_ ?_
        · refine bo_iconst (v := 0) hx dX11_share_104 (by decide) ?_
          refine bo_sub (L' := [(0, .ref (bo_a x 135)), (1, .int f1), (2, .int (w2 + v3)), (3, .int (w3 + v4)), (5, .int w5)]) [2, 3, 1, 0, 5] rfl ?_
          exact bo_arr (fun h => h)
        · refine bo_iload hx dX11_share_84 5 rfl ?_
          refine bo_iload_n hx dX11_share_86 rfl 3 rfl ?_
          refine bo_icmp_eq hx 104 dX11_share_87 (by decide) ?_ ?_
          · refine bo_iconst (v := 0) hx dX11_share_104 (by decide) ?_
            refine bo_sub (L' := [(0, .ref (bo_a x 135)), (1, .int f1), (2, .int (w2 + v3)), (3, .int (w3 + v4)), (5, .int w5)]) [2, 3, 1, 0, 5] rfl ?_
            exact bo_arr (fun h => h)
          · refine bo_aload_n hx dX11_share_90 rfl 2 rfl ?_
            refine bo_iload hx dX11_share_91 5 rfl ?_
            refine bo_iload_n hx dX11_share_93 rfl 3 rfl ?_
            refine bo_goR (z := true) hx (fun rr hh => bo_runV (As := [.int w5, .int f1]) (S := [.int w4]) hx dX11_share_94 lk_X11_350 mi_X11_isAhead bo_o_135 rfl rfl (kX11_isAhead (bo_l x) (bo_g x) hx.inj σ w5 f1 rr hh) ⟨by decide, by decide⟩ rfl rfl (Nat.le_of_ble_eq_true rfl)) (fun v7 hv7 => ?_)
            refine bo_if_eq hx 104 dX11_share_97 (by decide) ?_ ?_
            · refine bo_iconst (v := 0) hx dX11_share_104 (by decide) ?_
              refine bo_sub (L' := [(0, .ref (bo_a x 135)), (1, .int f1), (2, .int (w2 + v3)), (3, .int (w3 + v4)), (5, .int w5)]) [2, 3, 1, 0, 5] rfl ?_
              exact bo_arr (fun h => h)
            · refine bo_iconst (v := 1) hx dX11_share_100 (by decide) ?_
              refine bo_goto hx 105 dX11_share_101 (by decide) ?_
              refine bo_sub (L' := [(0, .ref (bo_a x 135)), (1, .int f1), (2, .int (w2 + v3)), (3, .int (w3 + v4)), (5, .int w5)]) [2, 3, 1, 0, 5] rfl ?_
              exact bo_arr (fun h => h)
      · refine bo_iadd hx dX11_share_105 ?_
        refine bo_istore (L' := [(4, .int (w4 + a6)), (0, .ref (bo_a x 135)), (1, .int f1), (2, .int (w2 + v3)), (3, .int (w3 + v4)), (5, .int w5)]) hx dX11_share_106 (by decide) rfl ?_
        refine bo_iinc (L' := [(5, .int (w5 + 1)), (4, .int (w4 + a6)), (0, .ref (bo_a x 135)), (1, .int f1), (2, .int (w2 + v3)), (3, .int (w3 + v4))]) (w := (w5 + 1)) hx dX11_share_108 5 rfl rfl (by decide) rfl ?_
        refine bo_goto hx 35 dX11_share_111 (by decide) ?_
        refine bo_sub (L' := [(0, .ref (bo_a x 135)), (1, .int f1), (2, .int (w2 + v3)), (3, .int (w3 + v4)), (4, .int (w4 + a6)), (5, .int (w5 + 1))]) [2, 3, 4, 5, 1, 0] rfl ?_
        exact ih (w2 + v3) (w3 + v4) (w4 + a6) (w5 + 1)
theorem bX11_share (x : bo_X) (hx : bo_OK x cX11_share RX11 6 2 46) (σ : bo_M) (p1 : Int32) : bo_D x 0 [(0, .ref (bo_a x 135)), (1, .int p1)] [] σ (mX11_share σ p1) (bo_Ri x cX11_share σ false) := by
  unfold mX11_share
  refine bo_aload_n hx dX11_share_0 rfl 0 rfl ?_
  refine bo_iload_n hx dX11_share_1 rfl 1 rfl ?_
  refine bo_goR (z := true) hx (fun rr hh => bo_runV (As := [.int p1]) (S := []) hx dX11_share_2 lk_X11_258 mi_X11_isDrinker bo_o_135 rfl rfl (kX11_isDrinker (bo_l x) (bo_g x) hx.inj σ p1 rr hh) ⟨by decide, by decide⟩ rfl rfl (Nat.le_of_ble_eq_true rfl)) (fun v1 hv1 => ?_)
  refine bo_if_ne hx 12 dX11_share_5 (by decide) ?_ ?_
  · refine bo_aload_n hx dX11_share_12 rfl 0 rfl ?_
    refine gf_X11_34 hx dX11_share_13 ?_
    refine bo_iconst (v := 0) hx dX11_share_16 (by decide) ?_
    refine bo_iload_n hx dX11_share_17 rfl 1 rfl ?_
    refine bo_iadd hx dX11_share_18 ?_
    refine bo_iald hx bo_c_144 dX11_share_19 (fun v2 => ?_)
    refine bo_if_ne hx 25 dX11_share_20 (by decide) ?_ ?_
    · refine bo_iconst (v := 0) hx dX11_share_25 (by decide) ?_
      refine bo_istore_n (L' := [(2, .int 0), (0, .ref (bo_a x 135)), (1, .int p1)]) hx dX11_share_26 rfl (by decide) rfl ?_
      refine bo_iconst (v := 0) hx dX11_share_27 (by decide) ?_
      refine bo_istore_n (L' := [(3, .int 0), (2, .int 0), (0, .ref (bo_a x 135)), (1, .int p1)]) hx dX11_share_28 rfl (by decide) rfl ?_
      refine bo_iconst (v := 0) hx dX11_share_29 (by decide) ?_
      refine bo_istore (L' := [(4, .int 0), (3, .int 0), (2, .int 0), (0, .ref (bo_a x 135)), (1, .int p1)]) hx dX11_share_30 (by decide) rfl ?_
      refine bo_iconst (v := 0) hx dX11_share_32 (by decide) ?_
      refine bo_istore (L' := [(5, .int 0), (4, .int 0), (3, .int 0), (2, .int 0), (0, .ref (bo_a x 135)), (1, .int p1)]) hx dX11_share_33 (by decide) rfl ?_
      refine bo_sub (L' := [(0, .ref (bo_a x 135)), (1, .int p1), (2, .int 0), (3, .int 0), (4, .int 0), (5, .int 0)]) [4, 5, 3, 2, 1, 0] rfl ?_
      refine bo_seq 114 (fun a => [(2, .int a.1), (3, .int a.2.1), (4, .int a.2.2)]) (fun a => []) (fun a => σ) (lX11_share_L35 x hx σ p1 bo_fuel 0 0 0 0) (fun a8 => ?_)
      refine bo_iload_n hx dX11_share_114 rfl 0 rfl ?_
      refine bo_iload_n hx dX11_share_115 rfl 1 rfl ?_
      refine bo_idiv hx dX11_share_116 (fun v9 => ?_)
      refine bo_iload hx dX11_share_117 2 rfl ?_
      refine bo_iload_n hx dX11_share_119 rfl 0 rfl ?_
      refine bo_iload_n hx dX11_share_120 rfl 1 rfl ?_
      refine bo_irem hx dX11_share_121 (fun v10 => ?_)
      refine bo_seq 130 (fun a => []) (fun a => [.int a, .int v9]) (fun a => σ) ?_ (fun a11 => ?_)
      · refine bo_icmp_ge hx 129 dX11_share_122 (by decide) ?_ ?_
        · refine bo_iconst (v := 0) hx dX11_share_129 (by decide) ?_
          refine bo_sub (L' := []) [] rfl ?_
          exact bo_arr (fun h => h)
        · refine bo_iconst (v := 1) hx dX11_share_125 (by decide) ?_
          refine bo_goto hx 130 dX11_share_126 (by decide) ?_
          refine bo_sub (L' := []) [] rfl ?_
          exact bo_arr (fun h => h)
      · refine bo_iadd hx dX11_share_130 ?_
        exact bo_ret dX11_share_131 (fun h => by cases h)
    · refine bo_iconst (v := 0) hx dX11_share_23 (by decide) ?_
      exact bo_ret dX11_share_24 (fun h => by cases h)
  · refine bo_ldcw (v := (-1000000001)) hx dX11_share_8 wc_X11_261 ?_
    exact bo_ret dX11_share_11 (fun h => by cases h)
theorem kX11_share (l : Launch) (g : bo_G) (hi : bo_inj g) (σ : bo_M) (p1 : Int32) : bo_CR l g yX11_share cX11_share 6 (some .int) 2 46 [.ref (g.2.2 135), .int p1] σ false (mX11_share σ p1) :=
  bo_metR rfl (Or.inl ⟨rfl, rfl⟩) (by decide) rfl hi (Nat.le_of_ble_eq_true rfl) (fun x e1 e2 hx => by subst e1; subst e2; exact bX11_share x hx σ p1)
-- BellRopeModel.was
theorem dX11_was_0 : decode cX11_was 0 = .ok (.iload_n 1, 1) := by decide +kernel
theorem dX11_was_1 : decode cX11_was 1 = .ok (.i2l, 1) := by decide +kernel
theorem dX11_was_2 : decode cX11_was 2 = .ok (.lconst 0, 1) := by decide +kernel
theorem dX11_was_3 : decode cX11_was 3 = .ok (.ldc2_w 353, 3) := by decide +kernel
theorem dX11_was_6 : decode cX11_was 6 = .ok (.invokestatic 118, 3) := by decide +kernel
theorem dX11_was_24 : decode cX11_was 24 = .ok (.ldc 127, 2) := by decide +kernel
theorem dX11_was_26 : decode cX11_was 26 = .ok (.ireturn, 1) := by decide +kernel
theorem dX11_was_12 : decode cX11_was 12 = .ok (.iload_n 2, 1) := by decide +kernel
theorem dX11_was_13 : decode cX11_was 13 = .ok (.i2l, 1) := by decide +kernel
theorem dX11_was_14 : decode cX11_was 14 = .ok (.lconst 0, 1) := by decide +kernel
theorem dX11_was_15 : decode cX11_was 15 = .ok (.ldc2_w 315, 3) := by decide +kernel
theorem dX11_was_18 : decode cX11_was 18 = .ok (.invokestatic 118, 3) := by decide +kernel
theorem dX11_was_27 : decode cX11_was 27 = .ok (.aload_n 0, 1) := by decide +kernel
theorem dX11_was_28 : decode cX11_was 28 = .ok (.getfield 111, 3) := by decide +kernel
theorem dX11_was_38 : decode cX11_was 38 = .ok (.aload_n 0, 1) := by decide +kernel
theorem dX11_was_39 : decode cX11_was 39 = .ok (.getfield 226, 3) := by decide +kernel
theorem dX11_was_42 : decode cX11_was 42 = .ok (.bipush 6, 2) := by decide +kernel
theorem dX11_was_50 : decode cX11_was 50 = .ok (.aload_n 0, 1) := by decide +kernel
theorem dX11_was_51 : decode cX11_was 51 = .ok (.getfield 86, 3) := by decide +kernel
theorem dX11_was_54 : decode cX11_was 54 = .ok (.aload_n 0, 1) := by decide +kernel
theorem dX11_was_55 : decode cX11_was 55 = .ok (.getfield 226, 3) := by decide +kernel
theorem dX11_was_58 : decode cX11_was 58 = .ok (.iload_n 1, 1) := by decide +kernel
theorem dX11_was_59 : decode cX11_was 59 = .ok (.iastore, 1) := by decide +kernel
theorem dX11_was_60 : decode cX11_was 60 = .ok (.aload_n 0, 1) := by decide +kernel
theorem dX11_was_61 : decode cX11_was 61 = .ok (.getfield 89, 3) := by decide +kernel
theorem dX11_was_64 : decode cX11_was 64 = .ok (.aload_n 0, 1) := by decide +kernel
theorem dX11_was_65 : decode cX11_was 65 = .ok (.getfield 226, 3) := by decide +kernel
theorem dX11_was_68 : decode cX11_was 68 = .ok (.iload_n 2, 1) := by decide +kernel
theorem dX11_was_69 : decode cX11_was 69 = .ok (.iastore, 1) := by decide +kernel
theorem dX11_was_70 : decode cX11_was 70 = .ok (.aload_n 0, 1) := by decide +kernel
theorem dX11_was_71 : decode cX11_was 71 = .ok (.dup, 1) := by decide +kernel
theorem dX11_was_72 : decode cX11_was 72 = .ok (.getfield 226, 3) := by decide +kernel
theorem dX11_was_75 : decode cX11_was 75 = .ok (.iconst 1, 1) := by decide +kernel
theorem dX11_was_76 : decode cX11_was 76 = .ok (.iadd, 1) := by decide +kernel
theorem dX11_was_77 : decode cX11_was 77 = .ok (.putfield 226, 3) := by decide +kernel
theorem dX11_was_80 : decode cX11_was 80 = .ok (.aload_n 0, 1) := by decide +kernel
theorem dX11_was_81 : decode cX11_was 81 = .ok (.getfield 226, 3) := by decide +kernel
theorem dX11_was_84 : decode cX11_was 84 = .ok (.ireturn, 1) := by decide +kernel
theorem dX11_was_47 : decode cX11_was 47 = .ok (.ldc 131, 2) := by decide +kernel
theorem dX11_was_49 : decode cX11_was 49 = .ok (.ireturn, 1) := by decide +kernel
theorem dX11_was_44 : decode cX11_was 44 = .ok (.if_icmp .ne 6, 3) := by decide +kernel
theorem dX11_was_34 : decode cX11_was 34 = .ok (.ldc_w 277, 3) := by decide +kernel
theorem dX11_was_37 : decode cX11_was 37 = .ok (.ireturn, 1) := by decide +kernel
theorem dX11_was_31 : decode cX11_was 31 = .ok (.ifCond .ne 7, 3) := by decide +kernel
theorem dX11_was_21 : decode cX11_was 21 = .ok (.ifCond .ne 6, 3) := by decide +kernel
theorem dX11_was_9 : decode cX11_was 9 = .ok (.ifCond .eq 15, 3) := by decide +kernel
theorem bX11_was (x : bo_X) (hx : bo_OK x cX11_was RX11 3 1 25) (σ : bo_M) (p1 : Int32) (p2 : Int32) : bo_D x 0 [(0, .ref (bo_a x 135)), (1, .int p1), (2, .int p2)] [] σ (mX11_was σ p1 p2) (bo_Rw x cX11_was false) := by
  unfold mX11_was
  refine bo_iload_n hx dX11_was_0 rfl 1 rfl ?_
  refine bo_i2l hx dX11_was_1 ?_
  refine bo_lconst (v := 0) hx dX11_was_2 (by decide) ?_
  refine bo_ldc2 (v := 95) hx dX11_was_3 wl_X11_353 ?_
  refine bo_goR (z := true) hx (fun rr hh => bo_runS (As := [.long (Int32.toInt64 p1), .long 0, .long 95]) (S := []) hx dX11_was_6 lk_X11_118 ms_X11_in (kX11_in (bo_l x) (bo_g x) hx.inj σ (Int32.toInt64 p1) 0 95 rr hh) ⟨by decide, by decide⟩ rfl rfl (Nat.le_of_ble_eq_true rfl)) (fun v1 hv1 => ?_)
  refine bo_if_eq hx 24 dX11_was_9 (by decide) ?_ ?_
  · refine bo_ldc (v := (-1000000002)) hx dX11_was_24 wc_X11_127 ?_
    exact bo_retw dX11_was_26 (fun h => by cases h)
  · refine bo_iload_n hx dX11_was_12 rfl 2 rfl ?_
    refine bo_i2l hx dX11_was_13 ?_
    refine bo_lconst (v := 0) hx dX11_was_14 (by decide) ?_
    refine bo_ldc2 (v := 16) hx dX11_was_15 wl_X11_315 ?_
    refine bo_goR (z := true) hx (fun rr hh => bo_runS (As := [.long (Int32.toInt64 p2), .long 0, .long 16]) (S := []) hx dX11_was_18 lk_X11_118 ms_X11_in (kX11_in (bo_l x) (bo_g x) hx.inj σ (Int32.toInt64 p2) 0 16 rr hh) ⟨by decide, by decide⟩ rfl rfl (Nat.le_of_ble_eq_true rfl)) (fun v2 hv2 => ?_)
    refine bo_if_ne hx 27 dX11_was_21 (by decide) ?_ ?_
    · refine bo_aload_n hx dX11_was_27 rfl 0 rfl ?_
      refine gf_X11_111 hx dX11_was_28 ?_
      refine bo_if_ne hx 38 dX11_was_31 (by decide) ?_ ?_
      · refine bo_aload_n hx dX11_was_38 rfl 0 rfl ?_
        refine gf_X11_226 hx dX11_was_39 ?_
        refine bo_bipush (v := 6) hx dX11_was_42 (by decide) ?_
        refine bo_icmp_ne hx 50 dX11_was_44 (by decide) ?_ ?_
        · refine bo_aload_n hx dX11_was_50 rfl 0 rfl ?_
          refine gf_X11_86 hx dX11_was_51 ?_
          refine bo_aload_n hx dX11_was_54 rfl 0 rfl ?_
          refine gf_X11_226 hx dX11_was_55 ?_
          refine bo_iload_n hx dX11_was_58 rfl 1 rfl ?_
          refine bo_iast hx bo_c_160 dX11_was_59 (fun σ3 => ?_)
          refine bo_aload_n hx dX11_was_60 rfl 0 rfl ?_
          refine gf_X11_89 hx dX11_was_61 ?_
          refine bo_aload_n hx dX11_was_64 rfl 0 rfl ?_
          refine gf_X11_226 hx dX11_was_65 ?_
          refine bo_iload_n hx dX11_was_68 rfl 2 rfl ?_
          refine bo_iast hx bo_c_161 dX11_was_69 (fun σ4 => ?_)
          refine bo_aload_n hx dX11_was_70 rfl 0 rfl ?_
          refine bo_dup hx dX11_was_71 rfl ?_
          refine gf_X11_226 hx dX11_was_72 ?_
          refine bo_iconst (v := 1) hx dX11_was_75 (by decide) ?_
          refine bo_iadd hx dX11_was_76 ?_
          refine pf_X11_226 hx dX11_was_77 (fun σ5 => ?_)
          refine bo_aload_n hx dX11_was_80 rfl 0 rfl ?_
          refine gf_X11_226 hx dX11_was_81 ?_
          exact bo_retw dX11_was_84 (fun h => by cases h)
        · refine bo_ldc (v := (-1000000004)) hx dX11_was_47 wc_X11_131 ?_
          exact bo_retw dX11_was_49 (fun h => by cases h)
      · refine bo_ldcw (v := (-1000000003)) hx dX11_was_34 wc_X11_277 ?_
        exact bo_retw dX11_was_37 (fun h => by cases h)
    · refine bo_ldc (v := (-1000000002)) hx dX11_was_24 wc_X11_127 ?_
      exact bo_retw dX11_was_26 (fun h => by cases h)
theorem kX11_was (l : Launch) (g : bo_G) (hi : bo_inj g) (σ : bo_M) (p1 : Int32) (p2 : Int32) : bo_CW l g yX11_was cX11_was 3 (some .int) 1 25 [.ref (g.2.2 135), .int p1, .int p2] σ false (mX11_was σ p1 p2) :=
  bo_metW rfl (Or.inl ⟨rfl, rfl⟩) (by decide) rfl hi (Nat.le_of_ble_eq_true rfl) (fun x e1 e2 hx => by subst e1; subst e2; exact bX11_was x hx σ p1 p2)
-- BellRopeModel.heardBy
theorem dX11_heardBy_0 : decode cX11_heardBy 0 = .ok (.iconst 0, 1) := by decide +kernel
theorem dX11_heardBy_1 : decode cX11_heardBy 1 = .ok (.istore 4, 2) := by decide +kernel
theorem dX11_heardBy_3 : decode cX11_heardBy 3 = .ok (.iconst 0, 1) := by decide +kernel
theorem dX11_heardBy_4 : decode cX11_heardBy 4 = .ok (.istore 5, 2) := by decide +kernel
theorem dX11_heardBy_6 : decode cX11_heardBy 6 = .ok (.iload 5, 2) := by decide +kernel
theorem dX11_heardBy_8 : decode cX11_heardBy 8 = .ok (.aload_n 0, 1) := by decide +kernel
theorem dX11_heardBy_9 : decode cX11_heardBy 9 = .ok (.getfield 115, 3) := by decide +kernel
theorem dX11_heardBy_15 : decode cX11_heardBy 15 = .ok (.iload 4, 2) := by decide +kernel
theorem dX11_heardBy_17 : decode cX11_heardBy 17 = .ok (.iload_n 1, 1) := by decide +kernel
theorem dX11_heardBy_18 : decode cX11_heardBy 18 = .ok (.iload 5, 2) := by decide +kernel
theorem dX11_heardBy_20 : decode cX11_heardBy 20 = .ok (.invokestatic 235, 3) := by decide +kernel
theorem dX11_heardBy_40 : decode cX11_heardBy 40 = .ok (.iconst 0, 1) := by decide +kernel
theorem dX11_heardBy_26 : decode cX11_heardBy 26 = .ok (.aload_n 0, 1) := by decide +kernel
theorem dX11_heardBy_27 : decode cX11_heardBy 27 = .ok (.iload 5, 2) := by decide +kernel
theorem dX11_heardBy_29 : decode cX11_heardBy 29 = .ok (.iload_n 2, 1) := by decide +kernel
theorem dX11_heardBy_30 : decode cX11_heardBy 30 = .ok (.invokevirtual 243, 3) := by decide +kernel
theorem dX11_heardBy_36 : decode cX11_heardBy 36 = .ok (.iconst 1, 1) := by decide +kernel
theorem dX11_heardBy_37 : decode cX11_heardBy 37 = .ok (.goto 4, 3) := by decide +kernel
theorem dX11_heardBy_33 : decode cX11_heardBy 33 = .ok (.ifCond .eq 7, 3) := by decide +kernel
theorem dX11_heardBy_23 : decode cX11_heardBy 23 = .ok (.ifCond .eq 17, 3) := by decide +kernel
theorem dX11_heardBy_41 : decode cX11_heardBy 41 = .ok (.iadd, 1) := by decide +kernel
theorem dX11_heardBy_42 : decode cX11_heardBy 42 = .ok (.istore 4, 2) := by decide +kernel
theorem dX11_heardBy_44 : decode cX11_heardBy 44 = .ok (.iinc 5 1, 3) := by decide +kernel
theorem dX11_heardBy_47 : decode cX11_heardBy 47 = .ok (.goto (-41), 3) := by decide +kernel
theorem dX11_heardBy_12 : decode cX11_heardBy 12 = .ok (.if_icmp .ge 38, 3) := by decide +kernel
theorem dX11_heardBy_50 : decode cX11_heardBy 50 = .ok (.aload_n 0, 1) := by decide +kernel
theorem dX11_heardBy_51 : decode cX11_heardBy 51 = .ok (.iload 4, 2) := by decide +kernel
theorem dX11_heardBy_53 : decode cX11_heardBy 53 = .ok (.aload_n 0, 1) := by decide +kernel
theorem dX11_heardBy_54 : decode cX11_heardBy 54 = .ok (.iload_n 2, 1) := by decide +kernel
theorem dX11_heardBy_55 : decode cX11_heardBy 55 = .ok (.invokevirtual 249, 3) := by decide +kernel
theorem dX11_heardBy_65 : decode cX11_heardBy 65 = .ok (.iconst 0, 1) := by decide +kernel
theorem dX11_heardBy_61 : decode cX11_heardBy 61 = .ok (.iload_n 3, 1) := by decide +kernel
theorem dX11_heardBy_62 : decode cX11_heardBy 62 = .ok (.goto 4, 3) := by decide +kernel
theorem dX11_heardBy_58 : decode cX11_heardBy 58 = .ok (.ifCond .eq 7, 3) := by decide +kernel
theorem dX11_heardBy_66 : decode cX11_heardBy 66 = .ok (.invokevirtual 252, 3) := by decide +kernel
theorem dX11_heardBy_69 : decode cX11_heardBy 69 = .ok (.ireturn, 1) := by decide +kernel
theorem lX11_heardBy_L6 (x : bo_X) (hx : bo_OK x cX11_heardBy RX11 6 2 48) (σ : bo_M) (f1 : Int32) (f2 : Int32) (f3 : Int32) : ∀ (n : Nat) (w4 : Int32) (w5 : Int32), bo_D x 6 [(0, .ref (bo_a x 135)), (1, .int f1), (2, .int f2), (3, .int f3), (4, .int w4), (5, .int w5)] [] σ (mX11_heardBy_L6 σ f1 f2 f3 n w4 w5) (fun a => bo_N x 50 [(0, .ref (bo_a x 135)), (2, .int f2), (3, .int f3), (4, .int a)] [] σ) := by
  intro n
  induction n with
  | zero => intro w4 w5; exact bo_none
  | succ n ih =>
    intro w4 w5
    rw [mX11_heardBy_L6]
    refine bo_iload hx dX11_heardBy_6 5 rfl ?_
    refine bo_aload_n hx dX11_heardBy_8 rfl 0 rfl ?_
    refine gf_X11_115 hx dX11_heardBy_9 ?_
    refine bo_icmp_ge hx 50 dX11_heardBy_12 (by decide) ?_ ?_
    · refine bo_sub (L' := [(0, .ref (bo_a x 135)), (2, .int f2), (3, .int f3), (4, .int w4)]) [0, 2, 3, 4] rfl ?_
      exact bo_arr (fun h => h)
    · refine bo_iload hx dX11_heardBy_15 4 rfl ?_
      refine bo_iload_n hx dX11_heardBy_17 rfl 1 rfl ?_
      refine bo_iload hx dX11_heardBy_18 5 rfl ?_
      refine bo_goR (z := true) hx (fun rr hh => bo_runS (As := [.int f1, .int w5]) (S := [.int w4]) hx dX11_heardBy_20 lk_X11_235 ms_X11_has (kX11_has (bo_l x) (bo_g x) hx.inj σ f1 w5 rr hh) ⟨by decide, by decide⟩ rfl rfl (Nat.le_of_ble_eq_true rfl)) (fun v1 hv1 => ?_)
      refine bo_seq 41 (fun a => [(0, .ref (bo_a x 135)), (1, .int f1), (2, .int f2), (3, .int f3), (5, .int w5)]) (fun a => [.int a, .int w4]) (fun a => σ) ?_ (fun a2 => ?_)
      · refine bo_if_eq hx 40 dX11_heardBy_23 (by decide) ?_ ?_
        · refine bo_iconst (v := 0) hx dX11_heardBy_40 (by decide) ?_
          refine bo_sub (L' := [(0, .ref (bo_a x 135)), (1, .int f1), (2, .int f2), (3, .int f3), (5, .int w5)]) [0, 1, 2, 3, 5] rfl ?_
          exact bo_arr (fun h => h)
        · refine bo_aload_n hx dX11_heardBy_26 rfl 0 rfl ?_
          refine bo_iload hx dX11_heardBy_27 5 rfl ?_
          refine bo_iload_n hx dX11_heardBy_29 rfl 2 rfl ?_
          refine bo_goR (z := true) hx (fun rr hh => bo_runV (As := [.int w5, .int f2]) (S := [.int w4]) hx dX11_heardBy_30 lk_X11_243 mi_X11_isTurn bo_o_135 rfl rfl (kX11_isTurn (bo_l x) (bo_g x) hx.inj σ w5 f2 rr hh) ⟨by decide, by decide⟩ rfl rfl (Nat.le_of_ble_eq_true rfl)) (fun v3 hv3 => ?_)
          refine bo_if_eq hx 40 dX11_heardBy_33 (by decide) ?_ ?_
          · refine bo_iconst (v := 0) hx dX11_heardBy_40 (by decide) ?_
            refine bo_sub (L' := [(0, .ref (bo_a x 135)), (1, .int f1), (2, .int f2), (3, .int f3), (5, .int w5)]) [0, 1, 2, 3, 5] rfl ?_
            exact bo_arr (fun h => h)
          · refine bo_iconst (v := 1) hx dX11_heardBy_36 (by decide) ?_
            refine bo_goto hx 41 dX11_heardBy_37 (by decide) ?_
            refine bo_sub (L' := [(0, .ref (bo_a x 135)), (1, .int f1), (2, .int f2), (3, .int f3), (5, .int w5)]) [0, 1, 2, 3, 5] rfl ?_
            exact bo_arr (fun h => h)
      · refine bo_iadd hx dX11_heardBy_41 ?_
        refine bo_istore (L' := [(4, .int (w4 + a2)), (0, .ref (bo_a x 135)), (1, .int f1), (2, .int f2), (3, .int f3), (5, .int w5)]) hx dX11_heardBy_42 (by decide) rfl ?_
        refine bo_iinc (L' := [(5, .int (w5 + 1)), (4, .int (w4 + a2)), (0, .ref (bo_a x 135)), (1, .int f1), (2, .int f2), (3, .int f3)]) (w := (w5 + 1)) hx dX11_heardBy_44 5 rfl rfl (by decide) rfl ?_
        refine bo_goto hx 6 dX11_heardBy_47 (by decide) ?_
        refine bo_sub (L' := [(0, .ref (bo_a x 135)), (1, .int f1), (2, .int f2), (3, .int f3), (4, .int (w4 + a2)), (5, .int (w5 + 1))]) [2, 3, 4, 5, 1, 0] rfl ?_
        exact ih (w4 + a2) (w5 + 1)
theorem bX11_heardBy (x : bo_X) (hx : bo_OK x cX11_heardBy RX11 6 2 48) (σ : bo_M) (p1 : Int32) (p2 : Int32) (p3 : Int32) : bo_D x 0 [(0, .ref (bo_a x 135)), (1, .int p1), (2, .int p2), (3, .int p3)] [] σ (mX11_heardBy σ p1 p2 p3) (bo_Ri x cX11_heardBy σ false) := by
  unfold mX11_heardBy
  refine bo_iconst (v := 0) hx dX11_heardBy_0 (by decide) ?_
  refine bo_istore (L' := [(4, .int 0), (0, .ref (bo_a x 135)), (1, .int p1), (2, .int p2), (3, .int p3)]) hx dX11_heardBy_1 (by decide) rfl ?_
  refine bo_iconst (v := 0) hx dX11_heardBy_3 (by decide) ?_
  refine bo_istore (L' := [(5, .int 0), (4, .int 0), (0, .ref (bo_a x 135)), (1, .int p1), (2, .int p2), (3, .int p3)]) hx dX11_heardBy_4 (by decide) rfl ?_
  refine bo_sub (L' := [(0, .ref (bo_a x 135)), (1, .int p1), (2, .int p2), (3, .int p3), (4, .int 0), (5, .int 0)]) [2, 3, 4, 5, 1, 0] rfl ?_
  refine bo_seq 50 (fun a => [(0, .ref (bo_a x 135)), (2, .int p2), (3, .int p3), (4, .int a)]) (fun a => []) (fun a => σ) (lX11_heardBy_L6 x hx σ p1 p2 p3 bo_fuel 0 0) (fun a4 => ?_)
  refine bo_aload_n hx dX11_heardBy_50 rfl 0 rfl ?_
  refine bo_iload hx dX11_heardBy_51 3 rfl ?_
  refine bo_aload_n hx dX11_heardBy_53 rfl 0 rfl ?_
  refine bo_iload_n hx dX11_heardBy_54 rfl 1 rfl ?_
  refine bo_goR (z := true) hx (fun rr hh => bo_runV (As := [.int p2]) (S := [.int a4, .ref (bo_a x 135)]) hx dX11_heardBy_55 lk_X11_249 mi_X11_isBlanketed bo_o_135 rfl rfl (kX11_isBlanketed (bo_l x) (bo_g x) hx.inj σ p2 rr hh) ⟨by decide, by decide⟩ rfl rfl (Nat.le_of_ble_eq_true rfl)) (fun v5 hv5 => ?_)
  refine bo_seq 66 (fun a => []) (fun a => [.int a, .int a4, .ref (bo_a x 135)]) (fun a => σ) ?_ (fun a6 => ?_)
  · refine bo_if_eq hx 65 dX11_heardBy_58 (by decide) ?_ ?_
    · refine bo_iconst (v := 0) hx dX11_heardBy_65 (by decide) ?_
      refine bo_sub (L' := []) [] rfl ?_
      exact bo_arr (fun h => h)
    · refine bo_iload_n hx dX11_heardBy_61 rfl 2 rfl ?_
      refine bo_goto hx 66 dX11_heardBy_62 (by decide) ?_
      refine bo_sub (L' := []) [] rfl ?_
      exact bo_arr (fun h => h)
  · refine bo_goR (z := false) hx (fun rr hh => bo_runV (As := [.int a4, .int a6]) (S := []) hx dX11_heardBy_66 lk_X11_252 mi_X11_muffle bo_o_135 rfl rfl (kX11_muffle (bo_l x) (bo_g x) hx.inj σ a4 a6 rr hh) ⟨by decide, by decide⟩ rfl rfl (Nat.le_of_ble_eq_true rfl)) (fun v7 hv7 => ?_)
    exact bo_ret dX11_heardBy_69 (fun h => by cases h)
theorem kX11_heardBy (l : Launch) (g : bo_G) (hi : bo_inj g) (σ : bo_M) (p1 : Int32) (p2 : Int32) (p3 : Int32) : bo_CR l g yX11_heardBy cX11_heardBy 6 (some .int) 2 48 [.ref (g.2.2 135), .int p1, .int p2, .int p3] σ false (mX11_heardBy σ p1 p2 p3) :=
  bo_metR rfl (Or.inl ⟨rfl, rfl⟩) (by decide) rfl hi (Nat.le_of_ble_eq_true rfl) (fun x e1 e2 hx => by subst e1; subst e2; exact bX11_heardBy x hx σ p1 p2 p3)
-- BellRopeModel.couldBe
theorem dX11_couldBe_0 : decode cX11_couldBe 0 = .ok (.iconst 1, 1) := by decide +kernel
theorem dX11_couldBe_1 : decode cX11_couldBe 1 = .ok (.istore_n 3, 1) := by decide +kernel
theorem dX11_couldBe_2 : decode cX11_couldBe 2 = .ok (.iconst 0, 1) := by decide +kernel
theorem dX11_couldBe_3 : decode cX11_couldBe 3 = .ok (.istore 4, 2) := by decide +kernel
theorem dX11_couldBe_5 : decode cX11_couldBe 5 = .ok (.iload 4, 2) := by decide +kernel
theorem dX11_couldBe_7 : decode cX11_couldBe 7 = .ok (.aload_n 0, 1) := by decide +kernel
theorem dX11_couldBe_8 : decode cX11_couldBe 8 = .ok (.getfield 226, 3) := by decide +kernel
theorem dX11_couldBe_14 : decode cX11_couldBe 14 = .ok (.iload_n 3, 1) := by decide +kernel
theorem dX11_couldBe_45 : decode cX11_couldBe 45 = .ok (.iconst 0, 1) := by decide +kernel
theorem dX11_couldBe_18 : decode cX11_couldBe 18 = .ok (.aload_n 0, 1) := by decide +kernel
theorem dX11_couldBe_19 : decode cX11_couldBe 19 = .ok (.iload_n 1, 1) := by decide +kernel
theorem dX11_couldBe_20 : decode cX11_couldBe 20 = .ok (.aload_n 0, 1) := by decide +kernel
theorem dX11_couldBe_21 : decode cX11_couldBe 21 = .ok (.getfield 86, 3) := by decide +kernel
theorem dX11_couldBe_24 : decode cX11_couldBe 24 = .ok (.iload 4, 2) := by decide +kernel
theorem dX11_couldBe_26 : decode cX11_couldBe 26 = .ok (.iaload, 1) := by decide +kernel
theorem dX11_couldBe_27 : decode cX11_couldBe 27 = .ok (.iload_n 2, 1) := by decide +kernel
theorem dX11_couldBe_28 : decode cX11_couldBe 28 = .ok (.invokevirtual 355, 3) := by decide +kernel
theorem dX11_couldBe_31 : decode cX11_couldBe 31 = .ok (.aload_n 0, 1) := by decide +kernel
theorem dX11_couldBe_32 : decode cX11_couldBe 32 = .ok (.getfield 89, 3) := by decide +kernel
theorem dX11_couldBe_35 : decode cX11_couldBe 35 = .ok (.iload 4, 2) := by decide +kernel
theorem dX11_couldBe_37 : decode cX11_couldBe 37 = .ok (.iaload, 1) := by decide +kernel
theorem dX11_couldBe_41 : decode cX11_couldBe 41 = .ok (.iconst 1, 1) := by decide +kernel
theorem dX11_couldBe_42 : decode cX11_couldBe 42 = .ok (.goto 4, 3) := by decide +kernel
theorem dX11_couldBe_38 : decode cX11_couldBe 38 = .ok (.if_icmp .ne 7, 3) := by decide +kernel
theorem dX11_couldBe_15 : decode cX11_couldBe 15 = .ok (.ifCond .eq 30, 3) := by decide +kernel
theorem dX11_couldBe_46 : decode cX11_couldBe 46 = .ok (.istore_n 3, 1) := by decide +kernel
theorem dX11_couldBe_47 : decode cX11_couldBe 47 = .ok (.iinc 4 1, 3) := by decide +kernel
theorem dX11_couldBe_50 : decode cX11_couldBe 50 = .ok (.goto (-45), 3) := by decide +kernel
theorem dX11_couldBe_11 : decode cX11_couldBe 11 = .ok (.if_icmp .ge 42, 3) := by decide +kernel
theorem dX11_couldBe_53 : decode cX11_couldBe 53 = .ok (.iload_n 3, 1) := by decide +kernel
theorem dX11_couldBe_54 : decode cX11_couldBe 54 = .ok (.ireturn, 1) := by decide +kernel
theorem lX11_couldBe_L5 (x : bo_X) (hx : bo_OK x cX11_couldBe RX11 5 3 73) (σ : bo_M) (f1 : Int32) (f2 : Int32) : ∀ (n : Nat) (w3 : Int32) (w4 : Int32), bo_D x 5 [(0, .ref (bo_a x 135)), (1, .int f1), (2, .int f2), (3, .int w3), (4, .int w4)] [] σ (mX11_couldBe_L5 σ f1 f2 n w3 w4) (fun a => bo_N x 53 [(3, .int a)] [] σ) := by
  intro n
  induction n with
  | zero => intro w3 w4; exact bo_none
  | succ n ih =>
    intro w3 w4
    rw [mX11_couldBe_L5]
    refine bo_iload hx dX11_couldBe_5 4 rfl ?_
    refine bo_aload_n hx dX11_couldBe_7 rfl 0 rfl ?_
    refine gf_X11_226 hx dX11_couldBe_8 ?_
    refine bo_icmp_ge hx 53 dX11_couldBe_11 (by decide) ?_ ?_
    · refine bo_sub (L' := [(3, .int w3)]) [3] rfl ?_
      exact bo_arr (fun h => h)
    · refine bo_iload_n hx dX11_couldBe_14 rfl 3 rfl ?_
      refine bo_seq 46 (fun a => [(0, .ref (bo_a x 135)), (1, .int f1), (2, .int f2), (4, .int w4)]) (fun a => [.int a]) (fun a => σ) ?_ (fun a1 => ?_)
      · refine bo_if_eq hx 45 dX11_couldBe_15 (by decide) ?_ ?_
        · refine bo_iconst (v := 0) hx dX11_couldBe_45 (by decide) ?_
          refine bo_sub (L' := [(0, .ref (bo_a x 135)), (1, .int f1), (2, .int f2), (4, .int w4)]) [0, 1, 2, 4] rfl ?_
          exact bo_arr (fun h => h)
        · refine bo_aload_n hx dX11_couldBe_18 rfl 0 rfl ?_
          refine bo_iload_n hx dX11_couldBe_19 rfl 1 rfl ?_
          refine bo_aload_n hx dX11_couldBe_20 rfl 0 rfl ?_
          refine gf_X11_86 hx dX11_couldBe_21 ?_
          refine bo_iload hx dX11_couldBe_24 4 rfl ?_
          refine bo_iald hx bo_c_160 dX11_couldBe_26 (fun v2 => ?_)
          refine bo_iload_n hx dX11_couldBe_27 rfl 2 rfl ?_
          refine bo_goR (z := false) hx (fun rr hh => bo_runV (As := [.int f1, .int v2, .int f2]) (S := []) hx dX11_couldBe_28 lk_X11_355 mi_X11_heardBy bo_o_135 rfl rfl (kX11_heardBy (bo_l x) (bo_g x) hx.inj σ f1 v2 f2 rr hh) ⟨by decide, by decide⟩ rfl rfl (Nat.le_of_ble_eq_true rfl)) (fun v3 hv3 => ?_)
          refine bo_aload_n hx dX11_couldBe_31 rfl 0 rfl ?_
          refine gf_X11_89 hx dX11_couldBe_32 ?_
          refine bo_iload hx dX11_couldBe_35 4 rfl ?_
          refine bo_iald hx bo_c_161 dX11_couldBe_37 (fun v4 => ?_)
          refine bo_icmp_ne hx 45 dX11_couldBe_38 (by decide) ?_ ?_
          · refine bo_iconst (v := 0) hx dX11_couldBe_45 (by decide) ?_
            refine bo_sub (L' := [(0, .ref (bo_a x 135)), (1, .int f1), (2, .int f2), (4, .int w4)]) [0, 1, 2, 4] rfl ?_
            exact bo_arr (fun h => h)
          · refine bo_iconst (v := 1) hx dX11_couldBe_41 (by decide) ?_
            refine bo_goto hx 46 dX11_couldBe_42 (by decide) ?_
            refine bo_sub (L' := [(0, .ref (bo_a x 135)), (1, .int f1), (2, .int f2), (4, .int w4)]) [0, 1, 2, 4] rfl ?_
            exact bo_arr (fun h => h)
      · refine bo_istore_n (L' := [(3, .int a1), (0, .ref (bo_a x 135)), (1, .int f1), (2, .int f2), (4, .int w4)]) hx dX11_couldBe_46 rfl (by decide) rfl ?_
        refine bo_iinc (L' := [(4, .int (w4 + 1)), (3, .int a1), (0, .ref (bo_a x 135)), (1, .int f1), (2, .int f2)]) (w := (w4 + 1)) hx dX11_couldBe_47 4 rfl rfl (by decide) rfl ?_
        refine bo_goto hx 5 dX11_couldBe_50 (by decide) ?_
        refine bo_sub (L' := [(0, .ref (bo_a x 135)), (1, .int f1), (2, .int f2), (3, .int a1), (4, .int (w4 + 1))]) [2, 3, 4, 1, 0] rfl ?_
        exact ih a1 (w4 + 1)
theorem bX11_couldBe (x : bo_X) (hx : bo_OK x cX11_couldBe RX11 5 3 73) (σ : bo_M) (p1 : Int32) (p2 : Int32) : bo_D x 0 [(0, .ref (bo_a x 135)), (1, .int p1), (2, .int p2)] [] σ (mX11_couldBe σ p1 p2) (bo_Ri x cX11_couldBe σ true) := by
  unfold mX11_couldBe
  refine bo_iconst (v := 1) hx dX11_couldBe_0 (by decide) ?_
  refine bo_istore_n (L' := [(3, .int 1), (0, .ref (bo_a x 135)), (1, .int p1), (2, .int p2)]) hx dX11_couldBe_1 rfl (by decide) rfl ?_
  refine bo_iconst (v := 0) hx dX11_couldBe_2 (by decide) ?_
  refine bo_istore (L' := [(4, .int 0), (3, .int 1), (0, .ref (bo_a x 135)), (1, .int p1), (2, .int p2)]) hx dX11_couldBe_3 (by decide) rfl ?_
  refine bo_sub (L' := [(0, .ref (bo_a x 135)), (1, .int p1), (2, .int p2), (3, .int 1), (4, .int 0)]) [2, 3, 4, 1, 0] rfl ?_
  refine bo_seq 53 (fun a => [(3, .int a)]) (fun a => []) (fun a => σ) (lX11_couldBe_L5 x hx σ p1 p2 bo_fuel 1 0) (fun a5 => ?_)
  refine bo_iload_n hx dX11_couldBe_53 rfl 0 rfl ?_
  exact bo_retz dX11_couldBe_54
theorem kX11_couldBe (l : Launch) (g : bo_G) (hi : bo_inj g) (σ : bo_M) (p1 : Int32) (p2 : Int32) : bo_CR l g yX11_couldBe cX11_couldBe 5 (some .boolean) 3 73 [.ref (g.2.2 135), .int p1, .int p2] σ true (mX11_couldBe σ p1 p2) :=
  bo_metR rfl (Or.inr ⟨rfl, rfl⟩) (by decide) rfl hi (Nat.le_of_ble_eq_true rfl) (fun x e1 e2 hx => by subst e1; subst e2; exact bX11_couldBe x hx σ p1 p2)
